def jm_gn : Cond → Bool
  | .fieldLinkNest _ _ _ _ _ _ => true
  | .methodLinkNest _ _ _ _ => true
  | w => goodWord w
def jm_G : List Cond := lw_tbl.filter jm_gn
theorem jm_gt {w : Cond} (h : w ∈ tables_1) (g : jm_gn w = true) : w ∈ jm_G := List.mem_filter.mpr ⟨List.mem_append_right _ h, g⟩
theorem jm_g0 {w : Cond} (i : Nat) (h : (k2_sels lw_privs)[i]? = some w) (g : jm_gn w = true) : w ∈ jm_G := List.mem_filter.mpr ⟨List.mem_append_left _ (List.mem_of_getElem? h), g⟩
theorem jm_g1 {w : Cond} (i : Nat) (h : tables_1_1[i]? = some w) (g : jm_gn w = true) : w ∈ jm_G := jm_gt (List.mem_append_left _ (List.mem_of_getElem? h)) g
theorem jm_g2 {w : Cond} (i : Nat) (h : tables_1_2[i]? = some w) (g : jm_gn w = true) : w ∈ jm_G := jm_gt (List.mem_append_right _ (List.mem_append_left _ (List.mem_of_getElem? h))) g
theorem jm_g3 {w : Cond} (i : Nat) (h : tables_1_3[i]? = some w) (g : jm_gn w = true) : w ∈ jm_G := jm_gt (List.mem_append_right _ (List.mem_append_right _ (List.mem_append_left _ (List.mem_of_getElem? h)))) g
theorem jm_g4 {w : Cond} (i : Nat) (h : tables_1_4[i]? = some w) (g : jm_gn w = true) : w ∈ jm_G := jm_gt (List.mem_append_right _ (List.mem_append_right _ (List.mem_append_right _ (List.mem_append_left _ (List.mem_of_getElem? h))))) g
theorem jm_g5 {w : Cond} (i : Nat) (h : tables_1_5[i]? = some w) (g : jm_gn w = true) : w ∈ jm_G := jm_gt (List.mem_append_right _ (List.mem_append_right _ (List.mem_append_right _ (List.mem_append_right _ (List.mem_append_left _ (List.mem_of_getElem? h)))))) g
theorem jm_g6 {w : Cond} (i : Nat) (h : tables_1_6[i]? = some w) (g : jm_gn w = true) : w ∈ jm_G := jm_gt (List.mem_append_right _ (List.mem_append_right _ (List.mem_append_right _ (List.mem_append_right _ (List.mem_append_right _ (List.mem_append_left _ (List.mem_of_getElem? h))))))) g
theorem jm_g7 {w : Cond} (i : Nat) (h : tables_1_7[i]? = some w) (g : jm_gn w = true) : w ∈ jm_G := jm_gt (List.mem_append_right _ (List.mem_append_right _ (List.mem_append_right _ (List.mem_append_right _ (List.mem_append_right _ (List.mem_append_right _ ((List.mem_of_getElem? h)))))))) g
theorem jm_G_ok : ∀ w ∈ jm_G, jm_gd w := by
  intro w hw
  have h := (List.mem_filter.mp hw).2
  cases w <;> first | exact Or.inr (Or.inl ⟨_, _, _, _, _, _, rfl⟩) | exact Or.inr (Or.inr ⟨_, _, _, _, rfl⟩) | exact Or.inl (good_of_word h)
def jn_T0 : u_T := fun k => match k with
  | 0 => ("JobHouse", "tape", "LJobHouse$Text;", true)
  | 1 => ("JobHouse", "zones", "[LJobHouse$Zone;", true)
  | 2 => ("JobHouse", "crons", "[LJobHouse$Cron;", true)
  | 3 => ("JobHouse", "calendars", "[LJobHouse$Holidays;", true)
  | 4 => ("JobHouse", "noHolidays", "LJobHouse$Holidays;", true)
  | 5 => ("JobHouse", "fires", "LJobHouse$Fires;", true)
  | 6 => ("JobHouse", "spareZone", "LJobHouse$Zone;", false)
  | 7 => ("JobHouse", "spareCron", "LJobHouse$Cron;", false)
  | 8 => ("JobHouse", "clock", "J", false)
  | 9 => ("JobHouse", "jobs", "[LJobHouse$Job;", true)
  | 10 => ("JobHouse", "slotsUsed", "I", false)
  | 11 => ("JobHouse", "jobCount", "I", false)
  | 12 => ("JobHouse", "nextOrder", "I", false)
  | 13 => ("JobHouse", "running", "[I", true)
  | 14 => ("JobHouse", "runningCount", "I", false)
  | 15 => ("JobHouse", "workerCount", "I", false)
  | 16 => ("JobHouse", "closed", "Z", false)
  | _ => ("JobHouse", "log", "LJobHouse$StartLog;", true)
def jn_y0 : Nat → FieldType := fun k => match k with
  | 0 => .object "JobHouse$Text"
  | 1 => .array (.object "JobHouse$Zone")
  | 2 => .array (.object "JobHouse$Cron")
  | 3 => .array (.object "JobHouse$Holidays")
  | 4 => .object "JobHouse$Holidays"
  | 5 => .object "JobHouse$Fires"
  | 6 => .object "JobHouse$Zone"
  | 7 => .object "JobHouse$Cron"
  | 8 => .long
  | 9 => .array (.object "JobHouse$Job")
  | 10 => .int
  | 11 => .int
  | 12 => .int
  | 13 => .array .int
  | 14 => .int
  | 15 => .int
  | 16 => .boolean
  | _ => .object "JobHouse$StartLog"
theorem jn_n0 : ∀ a, a < 18 → ∀ b, b < 18 → a ≠ b → (jn_T0 a).2.1 ≠ (jn_T0 b).2.1 := by decide +kernel
theorem jn_o0 : ∀ k, k < 18 → parseFieldDescriptor (jn_T0 k).2.2.1 = some (jn_y0 k) := by decide +kernel
theorem jn_i0 : ∀ w ∈ u_ws "JobHouse" jn_T0 18, w ∈ jm_G := by
  intro w hw
  obtain ⟨k, hk, rfl⟩ := List.mem_map.mp hw
  have hk := List.mem_range.mp hk
  match k, hk with
  | 0, _ => exact jm_g2 42 rfl rfl
  | 1, _ => exact jm_g2 44 rfl rfl
  | 2, _ => exact jm_g2 46 rfl rfl
  | 3, _ => exact jm_g2 48 rfl rfl
  | 4, _ => exact jm_g2 50 rfl rfl
  | 5, _ => exact jm_g2 52 rfl rfl
  | 6, _ => exact jm_g2 54 rfl rfl
  | 7, _ => exact jm_g2 56 rfl rfl
  | 8, _ => exact jm_g2 58 rfl rfl
  | 9, _ => exact jm_g2 60 rfl rfl
  | 10, _ => exact jm_g2 62 rfl rfl
  | 11, _ => exact jm_g2 64 rfl rfl
  | 12, _ => exact jm_g2 66 rfl rfl
  | 13, _ => exact jm_g2 68 rfl rfl
  | 14, _ => exact jm_g2 70 rfl rfl
  | 15, _ => exact jm_g2 72 rfl rfl
  | 16, _ => exact jm_g2 74 rfl rfl
  | 17, _ => exact jm_g2 76 rfl rfl
  | k + 18, hk => exact absurd hk (by omega)
def jn_T1 : u_T := fun k => match k with
  | 0 => ("JobHouse$Text", "bytes", "[B", true)
  | 1 => ("JobHouse$Text", "length", "I", false)
  | 2 => ("JobHouse$Text", "at", "I", false)
  | _ => ("JobHouse$Text", "broken", "I", false)
def jn_y1 : Nat → FieldType := fun k => match k with
  | 0 => .array .byte
  | 1 => .int
  | 2 => .int
  | _ => .int
theorem jn_n1 : ∀ a, a < 4 → ∀ b, b < 4 → a ≠ b → (jn_T1 a).2.1 ≠ (jn_T1 b).2.1 := by decide +kernel
theorem jn_o1 : ∀ k, k < 4 → parseFieldDescriptor (jn_T1 k).2.2.1 = some (jn_y1 k) := by decide +kernel
theorem jn_i1 : ∀ w ∈ u_ws "JobHouse$Text" jn_T1 4, w ∈ jm_G := by
  intro w hw
  obtain ⟨k, hk, rfl⟩ := List.mem_map.mp hw
  have hk := List.mem_range.mp hk
  match k, hk with
  | 0, _ => exact jm_g1 49 rfl rfl
  | 1, _ => exact jm_g1 51 rfl rfl
  | 2, _ => exact jm_g1 53 rfl rfl
  | 3, _ => exact jm_g1 55 rfl rfl
  | k + 4, hk => exact absurd hk (by omega)
def jn_T2 : u_T := fun k => match k with
  | 0 => ("JobHouse$Zone", "base", "I", false)
  | 1 => ("JobHouse$Zone", "save", "I", false)
  | 2 => ("JobHouse$Zone", "beginning", "LJobHouse$YearRule;", true)
  | 3 => ("JobHouse$Zone", "ending", "LJobHouse$YearRule;", true)
  | 4 => ("JobHouse$Zone", "since", "J", false)
  | 5 => ("JobHouse$Zone", "until", "J", false)
  | _ => ("JobHouse$Zone", "offset", "I", false)
def jn_y2 : Nat → FieldType := fun k => match k with
  | 0 => .int
  | 1 => .int
  | 2 => .object "JobHouse$YearRule"
  | 3 => .object "JobHouse$YearRule"
  | 4 => .long
  | 5 => .long
  | _ => .int
theorem jn_n2 : ∀ a, a < 7 → ∀ b, b < 7 → a ≠ b → (jn_T2 a).2.1 ≠ (jn_T2 b).2.1 := by decide +kernel
theorem jn_o2 : ∀ k, k < 7 → parseFieldDescriptor (jn_T2 k).2.2.1 = some (jn_y2 k) := by decide +kernel
theorem jn_i2 : ∀ w ∈ u_ws "JobHouse$Zone" jn_T2 7, w ∈ jm_G := by
  intro w hw
  obtain ⟨k, hk, rfl⟩ := List.mem_map.mp hw
  have hk := List.mem_range.mp hk
  match k, hk with
  | 0, _ => exact jm_g1 146 rfl rfl
  | 1, _ => exact jm_g1 148 rfl rfl
  | 2, _ => exact jm_g1 150 rfl rfl
  | 3, _ => exact jm_g1 152 rfl rfl
  | 4, _ => exact jm_g1 154 rfl rfl
  | 5, _ => exact jm_g1 156 rfl rfl
  | 6, _ => exact jm_g1 158 rfl rfl
  | k + 7, hk => exact absurd hk (by omega)
def jn_T3 : u_T := fun k => match k with
  | 0 => ("JobHouse$YearRule", "month", "I", false)
  | 1 => ("JobHouse$YearRule", "week", "I", false)
  | 2 => ("JobHouse$YearRule", "weekday", "I", false)
  | _ => ("JobHouse$YearRule", "minutes", "I", false)
def jn_y3 : Nat → FieldType := fun k => match k with
  | 0 => .int
  | 1 => .int
  | 2 => .int
  | _ => .int
theorem jn_n3 : ∀ a, a < 4 → ∀ b, b < 4 → a ≠ b → (jn_T3 a).2.1 ≠ (jn_T3 b).2.1 := by decide +kernel
theorem jn_o3 : ∀ k, k < 4 → parseFieldDescriptor (jn_T3 k).2.2.1 = some (jn_y3 k) := by decide +kernel
theorem jn_i3 : ∀ w ∈ u_ws "JobHouse$YearRule" jn_T3 4, w ∈ jm_G := by
  intro w hw
  obtain ⟨k, hk, rfl⟩ := List.mem_map.mp hw
  have hk := List.mem_range.mp hk
  match k, hk with
  | 0, _ => exact jm_g1 124 rfl rfl
  | 1, _ => exact jm_g1 126 rfl rfl
  | 2, _ => exact jm_g1 128 rfl rfl
  | 3, _ => exact jm_g1 130 rfl rfl
  | k + 4, hk => exact absurd hk (by omega)
def jn_T4 : u_T := fun k => match k with
  | 0 => ("JobHouse$Cron", "sets", "[J", true)
  | 1 => ("JobHouse$Cron", "dayRule", "I", false)
  | 2 => ("JobHouse$Cron", "value", "I", false)
  | _ => ("JobHouse$Cron", "n", "I", false)
def jn_y4 : Nat → FieldType := fun k => match k with
  | 0 => .array .long
  | 1 => .int
  | 2 => .int
  | _ => .int
theorem jn_n4 : ∀ a, a < 4 → ∀ b, b < 4 → a ≠ b → (jn_T4 a).2.1 ≠ (jn_T4 b).2.1 := by decide +kernel
theorem jn_o4 : ∀ k, k < 4 → parseFieldDescriptor (jn_T4 k).2.2.1 = some (jn_y4 k) := by decide +kernel
theorem jn_i4 : ∀ w ∈ u_ws "JobHouse$Cron" jn_T4 4, w ∈ jm_G := by
  intro w hw
  obtain ⟨k, hk, rfl⟩ := List.mem_map.mp hw
  have hk := List.mem_range.mp hk
  match k, hk with
  | 0, _ => exact jm_g1 98 rfl rfl
  | 1, _ => exact jm_g1 100 rfl rfl
  | 2, _ => exact jm_g1 102 rfl rfl
  | 3, _ => exact jm_g1 104 rfl rfl
  | k + 4, hk => exact absurd hk (by omega)
def jn_T5 : u_T := fun k => match k with
  | 0 => ("JobHouse$Holidays", "days", "[I", true)
  | _ => ("JobHouse$Holidays", "size", "I", false)
def jn_y5 : Nat → FieldType := fun k => match k with
  | 0 => .array .int
  | _ => .int
theorem jn_n5 : ∀ a, a < 2 → ∀ b, b < 2 → a ≠ b → (jn_T5 a).2.1 ≠ (jn_T5 b).2.1 := by decide +kernel
theorem jn_o5 : ∀ k, k < 2 → parseFieldDescriptor (jn_T5 k).2.2.1 = some (jn_y5 k) := by decide +kernel
theorem jn_i5 : ∀ w ∈ u_ws "JobHouse$Holidays" jn_T5 2, w ∈ jm_G := by
  intro w hw
  obtain ⟨k, hk, rfl⟩ := List.mem_map.mp hw
  have hk := List.mem_range.mp hk
  match k, hk with
  | 0, _ => exact jm_g1 73 rfl rfl
  | 1, _ => exact jm_g1 75 rfl rfl
  | k + 2, hk => exact absurd hk (by omega)
def jn_T6 : u_T := fun k => match k with
  | 0 => ("JobHouse$Fires", "cron", "LJobHouse$Cron;", false)
  | 1 => ("JobHouse$Fires", "zone", "LJobHouse$Zone;", false)
  | _ => ("JobHouse$Fires", "holidays", "LJobHouse$Holidays;", false)
def jn_y6 : Nat → FieldType := fun k => match k with
  | 0 => .object "JobHouse$Cron"
  | 1 => .object "JobHouse$Zone"
  | _ => .object "JobHouse$Holidays"
theorem jn_n6 : ∀ a, a < 3 → ∀ b, b < 3 → a ≠ b → (jn_T6 a).2.1 ≠ (jn_T6 b).2.1 := by decide +kernel
theorem jn_o6 : ∀ k, k < 3 → parseFieldDescriptor (jn_T6 k).2.2.1 = some (jn_y6 k) := by decide +kernel
theorem jn_i6 : ∀ w ∈ u_ws "JobHouse$Fires" jn_T6 3, w ∈ jm_G := by
  intro w hw
  obtain ⟨k, hk, rfl⟩ := List.mem_map.mp hw
  have hk := List.mem_range.mp hk
  match k, hk with
  | 0, _ => exact jm_g1 169 rfl rfl
  | 1, _ => exact jm_g1 171 rfl rfl
  | 2, _ => exact jm_g1 173 rfl rfl
  | k + 3, hk => exact absurd hk (by omega)
def jn_T7 : u_T := fun k => match k with
  | 0 => ("JobHouse$Job", "state", "I", false)
  | 1 => ("JobHouse$Job", "kind", "I", false)
  | 2 => ("JobHouse$Job", "order", "I", false)
  | 3 => ("JobHouse$Job", "starts", "I", false)
  | 4 => ("JobHouse$Job", "nominal", "J", false)
  | 5 => ("JobHouse$Job", "endTime", "J", false)
  | 6 => ("JobHouse$Job", "period", "J", false)
  | 7 => ("JobHouse$Job", "duration", "J", false)
  | 8 => ("JobHouse$Job", "priority", "I", false)
  | 9 => ("JobHouse$Job", "policy", "I", false)
  | 10 => ("JobHouse$Job", "fails", "I", false)
  | 11 => ("JobHouse$Job", "cronNumber", "I", false)
  | 12 => ("JobHouse$Job", "zoneNumber", "I", false)
  | _ => ("JobHouse$Job", "calendarNumber", "I", false)
def jn_y7 : Nat → FieldType := fun k => match k with
  | 0 => .int
  | 1 => .int
  | 2 => .int
  | 3 => .int
  | 4 => .long
  | 5 => .long
  | 6 => .long
  | 7 => .long
  | 8 => .int
  | 9 => .int
  | 10 => .int
  | 11 => .int
  | 12 => .int
  | _ => .int
theorem jn_n7 : ∀ a, a < 14 → ∀ b, b < 14 → a ≠ b → (jn_T7 a).2.1 ≠ (jn_T7 b).2.1 := by decide +kernel
theorem jn_o7 : ∀ k, k < 14 → parseFieldDescriptor (jn_T7 k).2.2.1 = some (jn_y7 k) := by decide +kernel
theorem jn_i7 : ∀ w ∈ u_ws "JobHouse$Job" jn_T7 14, w ∈ jm_G := by
  intro w hw
  obtain ⟨k, hk, rfl⟩ := List.mem_map.mp hw
  have hk := List.mem_range.mp hk
  match k, hk with
  | 0, _ => exact jm_g1 235 rfl rfl
  | 1, _ => exact jm_g1 237 rfl rfl
  | 2, _ => exact jm_g1 239 rfl rfl
  | 3, _ => exact jm_g2 1 rfl rfl
  | 4, _ => exact jm_g2 3 rfl rfl
  | 5, _ => exact jm_g2 5 rfl rfl
  | 6, _ => exact jm_g2 7 rfl rfl
  | 7, _ => exact jm_g2 9 rfl rfl
  | 8, _ => exact jm_g2 11 rfl rfl
  | 9, _ => exact jm_g2 13 rfl rfl
  | 10, _ => exact jm_g2 15 rfl rfl
  | 11, _ => exact jm_g2 17 rfl rfl
  | 12, _ => exact jm_g2 19 rfl rfl
  | 13, _ => exact jm_g2 21 rfl rfl
  | k + 14, hk => exact absurd hk (by omega)
def jn_T8 : u_T := fun k => match k with
  | 0 => ("JobHouse$StartLog", "times", "[J", true)
  | 1 => ("JobHouse$StartLog", "slots", "[I", true)
  | 2 => ("JobHouse$StartLog", "nominals", "[J", true)
  | 3 => ("JobHouse$StartLog", "size", "I", false)
  | _ => ("JobHouse$StartLog", "total", "J", false)
def jn_y8 : Nat → FieldType := fun k => match k with
  | 0 => .array .long
  | 1 => .array .int
  | 2 => .array .long
  | 3 => .int
  | _ => .long
theorem jn_n8 : ∀ a, a < 5 → ∀ b, b < 5 → a ≠ b → (jn_T8 a).2.1 ≠ (jn_T8 b).2.1 := by decide +kernel
theorem jn_o8 : ∀ k, k < 5 → parseFieldDescriptor (jn_T8 k).2.2.1 = some (jn_y8 k) := by decide +kernel
theorem jn_i8 : ∀ w ∈ u_ws "JobHouse$StartLog" jn_T8 5, w ∈ jm_G := by
  intro w hw
  obtain ⟨k, hk, rfl⟩ := List.mem_map.mp hw
  have hk := List.mem_range.mp hk
  match k, hk with
  | 0, _ => exact jm_g1 196 rfl rfl
  | 1, _ => exact jm_g1 198 rfl rfl
  | 2, _ => exact jm_g1 200 rfl rfl
  | 3, _ => exact jm_g1 202 rfl rfl
  | 4, _ => exact jm_g1 204 rfl rfl
  | k + 5, hk => exact absurd hk (by omega)
def jn_T9 : u_T := fun k => match k with
  | 0 => ("JobHouseModel", "failed", "I", false)
  | 1 => ("JobHouseModel", "tape", "[B", true)
  | 2 => ("JobHouseModel", "taped", "I", false)
  | 3 => ("JobHouseModel", "place", "I", false)
  | 4 => ("JobHouseModel", "year", "I", false)
  | 5 => ("JobHouseModel", "month", "I", false)
  | 6 => ("JobHouseModel", "day", "I", false)
  | 7 => ("JobHouseModel", "at", "I", false)
  | 8 => ("JobHouseModel", "offsets", "[I", true)
  | 9 => ("JobHouseModel", "saves", "[I", true)
  | 10 => ("JobHouseModel", "events", "[[J", true)
  | 11 => ("JobHouseModel", "begins", "[[Z", true)
  | 12 => ("JobHouseModel", "eventCounts", "[I", true)
  | 13 => ("JobHouseModel", "rule", "[I", true)
  | 14 => ("JobHouseModel", "sets", "[[[Z", true)
  | 15 => ("JobHouseModel", "trial", "[[Z", true)
  | 16 => ("JobHouseModel", "told", "[Z", true)
  | 17 => ("JobHouseModel", "ways", "[[I", true)
  | 18 => ("JobHouseModel", "first", "[[I", true)
  | 19 => ("JobHouseModel", "second", "[[I", true)
  | 20 => ("JobHouseModel", "way", "I", false)
  | 21 => ("JobHouseModel", "one", "I", false)
  | 22 => ("JobHouseModel", "two", "I", false)
  | 23 => ("JobHouseModel", "months", "[Ljava/lang/String;", true)
  | 24 => ("JobHouseModel", "weekdays", "[Ljava/lang/String;", true)
  | 25 => ("JobHouseModel", "holidays", "[[Z", true)
  | 26 => ("JobHouseModel", "holidayCounts", "[I", true)
  | 27 => ("JobHouseModel", "states", "[I", true)
  | 28 => ("JobHouseModel", "kinds", "[I", true)
  | 29 => ("JobHouseModel", "nominals", "[J", true)
  | 30 => ("JobHouseModel", "ends", "[J", true)
  | 31 => ("JobHouseModel", "starts", "[J", true)
  | 32 => ("JobHouseModel", "orders", "[J", true)
  | 33 => ("JobHouseModel", "periods", "[J", true)
  | 34 => ("JobHouseModel", "durations", "[J", true)
  | 35 => ("JobHouseModel", "priorities", "[I", true)
  | 36 => ("JobHouseModel", "policies", "[I", true)
  | 37 => ("JobHouseModel", "fails", "[I", true)
  | 38 => ("JobHouseModel", "crons", "[I", true)
  | 39 => ("JobHouseModel", "zones", "[I", true)
  | 40 => ("JobHouseModel", "calendars", "[I", true)
  | 41 => ("JobHouseModel", "clock", "J", false)
  | 42 => ("JobHouseModel", "workers", "I", false)
  | 43 => ("JobHouseModel", "made", "J", false)
  | 44 => ("JobHouseModel", "allStarts", "J", false)
  | 45 => ("JobHouseModel", "closed", "Z", false)
  | 46 => ("JobHouseModel", "startTimes", "[J", true)
  | 47 => ("JobHouseModel", "startJobs", "[I", true)
  | 48 => ("JobHouseModel", "startNominals", "[J", true)
  | _ => ("JobHouseModel", "started", "I", false)
def jn_y9 : Nat → FieldType := fun k => match k with
  | 0 => .int
  | 1 => .array .byte
  | 2 => .int
  | 3 => .int
  | 4 => .int
  | 5 => .int
  | 6 => .int
  | 7 => .int
  | 8 => .array .int
  | 9 => .array .int
  | 10 => .array (.array .long)
  | 11 => .array (.array .boolean)
  | 12 => .array .int
  | 13 => .array .int
  | 14 => .array (.array (.array .boolean))
  | 15 => .array (.array .boolean)
  | 16 => .array .boolean
  | 17 => .array (.array .int)
  | 18 => .array (.array .int)
  | 19 => .array (.array .int)
  | 20 => .int
  | 21 => .int
  | 22 => .int
  | 23 => .array (.object "java/lang/String")
  | 24 => .array (.object "java/lang/String")
  | 25 => .array (.array .boolean)
  | 26 => .array .int
  | 27 => .array .int
  | 28 => .array .int
  | 29 => .array .long
  | 30 => .array .long
  | 31 => .array .long
  | 32 => .array .long
  | 33 => .array .long
  | 34 => .array .long
  | 35 => .array .int
  | 36 => .array .int
  | 37 => .array .int
  | 38 => .array .int
  | 39 => .array .int
  | 40 => .array .int
  | 41 => .long
  | 42 => .int
  | 43 => .long
  | 44 => .long
  | 45 => .boolean
  | 46 => .array .long
  | 47 => .array .int
  | 48 => .array .long
  | _ => .int
theorem jn_n9 : ∀ a, a < 50 → ∀ b, b < 50 → a ≠ b → (jn_T9 a).2.1 ≠ (jn_T9 b).2.1 := by decide +kernel
theorem jn_o9 : ∀ k, k < 50 → parseFieldDescriptor (jn_T9 k).2.2.1 = some (jn_y9 k) := by decide +kernel
theorem jn_i9 : ∀ w ∈ u_ws "JobHouseModel" jn_T9 50, w ∈ jm_G := by
  intro w hw
  obtain ⟨k, hk, rfl⟩ := List.mem_map.mp hw
  have hk := List.mem_range.mp hk
  match k, hk with
  | 0, _ => exact jm_g5 151 rfl rfl
  | 1, _ => exact jm_g5 153 rfl rfl
  | 2, _ => exact jm_g5 155 rfl rfl
  | 3, _ => exact jm_g5 157 rfl rfl
  | 4, _ => exact jm_g5 159 rfl rfl
  | 5, _ => exact jm_g5 161 rfl rfl
  | 6, _ => exact jm_g5 163 rfl rfl
  | 7, _ => exact jm_g5 165 rfl rfl
  | 8, _ => exact jm_g5 167 rfl rfl
  | 9, _ => exact jm_g5 169 rfl rfl
  | 10, _ => exact jm_g5 171 rfl rfl
  | 11, _ => exact jm_g5 173 rfl rfl
  | 12, _ => exact jm_g5 175 rfl rfl
  | 13, _ => exact jm_g5 177 rfl rfl
  | 14, _ => exact jm_g5 179 rfl rfl
  | 15, _ => exact jm_g5 181 rfl rfl
  | 16, _ => exact jm_g5 183 rfl rfl
  | 17, _ => exact jm_g5 185 rfl rfl
  | 18, _ => exact jm_g5 187 rfl rfl
  | 19, _ => exact jm_g5 189 rfl rfl
  | 20, _ => exact jm_g5 191 rfl rfl
  | 21, _ => exact jm_g5 193 rfl rfl
  | 22, _ => exact jm_g5 195 rfl rfl
  | 23, _ => exact jm_g5 197 rfl rfl
  | 24, _ => exact jm_g5 199 rfl rfl
  | 25, _ => exact jm_g5 201 rfl rfl
  | 26, _ => exact jm_g5 203 rfl rfl
  | 27, _ => exact jm_g5 205 rfl rfl
  | 28, _ => exact jm_g5 207 rfl rfl
  | 29, _ => exact jm_g5 209 rfl rfl
  | 30, _ => exact jm_g5 211 rfl rfl
  | 31, _ => exact jm_g5 213 rfl rfl
  | 32, _ => exact jm_g5 215 rfl rfl
  | 33, _ => exact jm_g5 217 rfl rfl
  | 34, _ => exact jm_g5 219 rfl rfl
  | 35, _ => exact jm_g5 221 rfl rfl
  | 36, _ => exact jm_g5 223 rfl rfl
  | 37, _ => exact jm_g5 225 rfl rfl
  | 38, _ => exact jm_g5 227 rfl rfl
  | 39, _ => exact jm_g5 229 rfl rfl
  | 40, _ => exact jm_g5 231 rfl rfl
  | 41, _ => exact jm_g5 233 rfl rfl
  | 42, _ => exact jm_g5 235 rfl rfl
  | 43, _ => exact jm_g5 237 rfl rfl
  | 44, _ => exact jm_g5 239 rfl rfl
  | 45, _ => exact jm_g6 1 rfl rfl
  | 46, _ => exact jm_g6 3 rfl rfl
  | 47, _ => exact jm_g6 5 rfl rfl
  | 48, _ => exact jm_g6 7 rfl rfl
  | 49, _ => exact jm_g6 9 rfl rfl
  | k + 50, hk => exact absurd hk (by omega)
def jn_E : u_T := fun _ => ("", "", "", false)
def jm_cl : List vw_C := [("JobHouse", jn_T0, 18), ("JobHouse$Text", jn_T1, 4), ("JobHouse$Zone", jn_T2, 7), ("JobHouse$YearRule", jn_T3, 4), ("JobHouse$Cron", jn_T4, 4), ("JobHouse$Holidays", jn_T5, 2), ("JobHouse$Fires", jn_T6, 3), ("JobHouse$Job", jn_T7, 14), ("JobHouse$StartLog", jn_T8, 5), ("JobHouseModel", jn_T9, 50), ("java/lang/IndexOutOfBoundsException", jn_E, 0), ("java/lang/IllegalArgumentException", jn_E, 0), ("java/lang/UnsupportedOperationException", jn_E, 0), ("java/lang/IllegalStateException", jn_E, 0), ("java/util/NoSuchElementException", jn_E, 0)]
def jm_ty (dA : Nat → ClassId) : List (ClassId × FieldType) := [(dA 0, .byte), (dA 1, .boolean), (dA 2, .int), (dA 3, .long), (dA 4, .object "JobHouse$Zone"), (dA 5, .object "JobHouse$Cron"), (dA 6, .object "JobHouse$Holidays"), (dA 7, .object "JobHouse$Job"), (dA 8, .object "java/lang/String"), (dA 9, .array .long), (dA 10, .array .boolean), (dA 11, .array (.array .boolean)), (dA 12, .array .int)]
