section JS
def jx_strs : List (Nat × String × Nat × String) := [(0, "JobHouse$CronReader", 93, "JANFEBMARAPRMAYJUNJULAUGSEPOCTNOVDEC"), (1, "JobHouse$CronReader", 99, "SUNMONTUEWEDTHUFRISAT"), (2, "JobHouseModel", 65, "JAN"), (3, "JobHouseModel", 67, "FEB"), (4, "JobHouseModel", 69, "MAR"), (5, "JobHouseModel", 71, "APR"), (6, "JobHouseModel", 73, "MAY"), (7, "JobHouseModel", 75, "JUN"), (8, "JobHouseModel", 77, "JUL"), (9, "JobHouseModel", 79, "AUG"), (10, "JobHouseModel", 81, "SEP"), (11, "JobHouseModel", 83, "OCT"), (12, "JobHouseModel", 85, "NOV"), (13, "JobHouseModel", 87, "DEC"), (14, "JobHouseModel", 93, "SUN"), (15, "JobHouseModel", 95, "MON"), (16, "JobHouseModel", 97, "TUE"), (17, "JobHouseModel", 99, "WED"), (18, "JobHouseModel", 101, "THU"), (19, "JobHouseModel", 103, "FRI"), (20, "JobHouseModel", 105, "SAT")]
def jx_R1 (sc aL aM : Nat) (adK : Nat → Nat) : List Nat := [sc, aL, aM, adK 0, adK 1, adK 2, adK 3, adK 4, adK 5, adK 6, adK 7, adK 8, adK 9, adK 10, adK 11, adK 12, adK 13, adK 14, adK 15, adK 16, adK 17, adK 18, adK 19, adK 20]
def jx_hw : List Cond := [.laysStatic "java/lang/Throwable" "UNASSIGNED_STACK" "[Ljava/lang/StackTraceElement;", .laysStatic "java/lang/Throwable" "SUPPRESSED_SENTINEL" "Ljava/util/List;", .isRef (.static "java/lang/Throwable" "UNASSIGNED_STACK" "[Ljava/lang/StackTraceElement;"), .isRef (.static "java/lang/Throwable" "SUPPRESSED_SENTINEL" "Ljava/util/List;"), .castable "java/lang/IndexOutOfBoundsException" "java/lang/IndexOutOfBoundsException", .castable "java/lang/IllegalArgumentException" "java/lang/IllegalArgumentException", .castable "java/lang/UnsupportedOperationException" "java/lang/UnsupportedOperationException", .castable "java/lang/IllegalStateException" "java/lang/IllegalStateException", .castable "java/util/NoSuchElementException" "java/util/NoSuchElementException", .declares ⟨"java/lang/RuntimeException", "<init>", "()V"⟩, .declares ⟨"java/lang/Exception", "<init>", "()V"⟩, .declares ⟨"java/lang/Throwable", "<init>", "()V"⟩]
/-- what the start says of constants and of the words that the tables do not keep -/
def jx_MF (S : State) (dA : Nat → ClassId) : Prop := (S.vm.findClass "[[I" = some (dA 12) ∧ jx_kd S (dA 12) (dA 2)) ∧ (S.vm.findClass "[[J" = some (dA 9) ∧ jx_kd S (dA 9) (dA 3)) ∧ (S.vm.findClass "[[Z" = some (dA 10) ∧ jx_kd S (dA 10) (dA 1)) ∧ (S.vm.findClass "[[[Z" = some (dA 11) ∧ jx_kd S (dA 11) (dA 10))
def jx_SF (S : State) (dA : Nat → ClassId) (aL aM : Nat) (adK : Nat → Nat) : Prop := va_Z "JobHouseModel" "LEAST" "[I" (.ref aL) (fun q => S.heap.size ≤ q) S S.heap ∧ va_Z "JobHouseModel" "MOSTS" "[I" (.ref aM) (fun q => S.heap.size ≤ q) S S.heap ∧ (∀ (i : Nat) (own : String) (idx : Nat) (tx : String), (i, own, idx, tx) ∈ jx_strs → vk_R own idx tx (adK i) S) ∧ (∀ w ∈ jx_hw, jm_hs S w) ∧ va_Nw (.native arraycopyName) S ∧ (∀ C ∈ ["JobHouse$Zone", "JobHouse$Cron", "JobHouse$Holidays", "JobHouse$Job", "java/lang/String"], va_AO C S) ∧ jx_MF S dA
variable {S : State} {dA : Nat → ClassId} {sc aL aM : Nat} {adK : Nat → Nat}
def jx_cl (i : Instr) : Bool := match i with
  | .ldc _ | .ldc_w _ | .ldc2_w _ | .getfield _ | .putfield _ | .getstatic _ | .new _ | .newarray _ | .anewarray _ | .invokestatic _ | .invokevirtual _ | .invokespecial _ | .multianewarray _ _ => true
  | _ => false
def jx_pl (i : Instr) (va : Value) : Bool := match i with
  | .iconst n => va == .int (Int32.ofInt n)
  | .bipush n => va == .int (Int8.ofInt n).toInt32
  | .sipush n => va == .int (Int16.ofInt n).toInt32
  | .lconst n => va == .long (Int64.ofNat n.val)
  | i => !jx_cl i
def jx_thn (i : Instr) (x : List Nat) : Bool := match i, x with
  | .new _, [ci] => decide (10 ≤ ci)
  | _, _ => false
theorem jx_pl_ok {R0 : List Nat} {df : List (List Value)} {P : List jx_Me} {cc : ByteArray} {own : String} {pc : Nat} {i : Instr} {x : List Nat} {va : Value} (h : jx_pl i va = true) : jx_si S dA R0 df own i x va ∧ jx_sc S P cc own pc i x := by
  cases i <;> first | exact ⟨trivial, trivial⟩ | (simp [jx_pl, jx_cl] at h; done) | (simp [jx_pl, jx_cl] at h; exact ⟨h, trivial⟩)
def jl_J_0 : List (Instr × List Nat × Value) := [(.invokespecial 1, [9003, 0], .null), (.new 7, [1], .null), (.invokespecial 9, [145, 0], .null), (.putfield 10, [0, 0, 4, 1], .null), (.anewarray 16, [4], .null), (.putfield 18, [0, 1, 4, 1], .null), (.anewarray 22, [5], .null), (.putfield 24, [0, 2, 4, 1], .null), (.anewarray 28, [6], .null), (.putfield 30, [0, 3, 4, 1], .null), (.new 28, [5], .null), (.invokespecial 34, [135, 1], .null), (.putfield 37, [0, 4, 4, 1], .null), (.new 41, [6], .null), (.invokespecial 43, [126, 0], .null), (.putfield 44, [0, 5, 4, 1], .null), (.new 16, [2], .null), (.invokespecial 48, [163, 0], .null), (.putfield 49, [0, 6, 4, 0], .null), (.new 22, [4], .null), (.invokespecial 53, [95, 0], .null), (.putfield 54, [0, 7, 4, 0], .null), (.anewarray 58, [7], .null), (.putfield 60, [0, 9, 4, 1], .null), (.newarray .int, [2], .null), (.putfield 64, [0, 13, 4, 1], .null), (.putfield 68, [0, 15, 0, 0], .null), (.new 72, [8], .null), (.invokespecial 74, [143, 0], .null), (.putfield 75, [0, 17, 4, 1], .null), (.getfield 18, [0, 1], .null), (.getfield 24, [0, 2], .null), (.getfield 30, [0, 3], .null), (.getfield 60, [0, 9], .null), (.new 58, [7], .null), (.invokespecial 79, [139, 0], .null), (.getfield 10, [0, 0], .null), (.getfield 80, [1, 1], .null), (.invokevirtual 86, [146, 1, 1], .null), (.invokestatic 89, [19, 3], .null), (.putfield 80, [1, 1, 0, 0], .null), (.ldc2_w 93, [], .long 7), (.invokevirtual 95, [147, 0, 1], .null), (.getfield 49, [0, 6], .null), (.invokevirtual 98, [164, 1, 2], .null), (.invokevirtual 102, [24, 0, 0], .null), (.ldc2_w 105, [], .long 15), (.getfield 54, [0, 7], .null), (.invokestatic 107, [111, 2], .null), (.ldc2_w 113, [], .long 3), (.ldc2_w 115, [], .long 120529), (.invokevirtual 117, [136, 1, 5], .null), (.getfield 121, [5, 1], .null), (.invokevirtual 124, [137, 2, 5], .null), (.invokevirtual 128, [138, 1, 5], .null), (.invokestatic 131, [20, 3], .null), (.ldc2_w 135, [], .long 10413791999999), (.invokevirtual 137, [25, 3, 0], .null), (.getfield 44, [0, 5], .null), (.invokevirtual 140, [127, 1, 6], .null)]
theorem js_J_0 (F : jx_SF S dA aL aM adK) (cc : ByteArray) (pc : Nat) : ∀ r ∈ jl_J_0, jx_si S dA (jx_R1 sc aL aM adK) jx_df "JobHouse" r.1 r.2.1 r.2.2 ∧ jx_sc S jx_P cc "JobHouse" pc r.1 r.2.1 := by
  intro r hr
  simp only [jl_J_0, List.mem_cons, List.not_mem_nil, or_false] at hr
  rcases hr with rfl | rfl | rfl | rfl | rfl | rfl | rfl | rfl | rfl | rfl | rfl | rfl | rfl | rfl | rfl | rfl | rfl | rfl | rfl | rfl | rfl | rfl | rfl | rfl | rfl | rfl | rfl | rfl | rfl | rfl | rfl | rfl | rfl | rfl | rfl | rfl | rfl | rfl | rfl | rfl | rfl | rfl | rfl | rfl | rfl | rfl | rfl | rfl | rfl | rfl | rfl | rfl | rfl | rfl | rfl | rfl | rfl | rfl | rfl | rfl
  · exact ⟨trivial, ⟨9003, 0, rfl, fun q => absurd q (by decide), fun _ => ⟨rfl, rfl, jm_g1 33 rfl rfl, jm_g1 34 rfl rfl, jm_g1 35 rfl rfl⟩⟩⟩
  · exact ⟨⟨1, rfl, fun fs hfs => by
      cases hfs
      exact ⟨_, jn_T1, jn_y1, rfl, jn_i1, jn_o1, by decide +kernel, jm_g1 36 rfl rfl, jm_g1 37 rfl rfl, jm_g1 2 rfl rfl⟩⟩, ⟨1, rfl, fun q => absurd q (by decide)⟩⟩
  · exact ⟨trivial, ⟨145, 0, rfl, fun _ => ⟨jp_T_init, rfl, ji_T_init, Or.inr ⟨_, jm_g1 38 rfl rfl⟩, jm_g1 39 rfl rfl, rfl, rfl, rfl⟩, fun q => absurd q (by decide)⟩⟩
  · exact ⟨⟨0, 0, 4, 1, .object "JobHouse$Text", rfl, by decide, Or.inr (Or.inr (Or.inr ⟨rfl, Or.inl ⟨_, rfl⟩⟩)), Or.inr ⟨rfl, ⟨jn_T0, 18, jn_y0, rfl, by decide, jn_i0, jn_o0, jn_n0, rfl, rfl, by decide +kernel, jm_g2 24 rfl rfl⟩⟩⟩, trivial⟩
  · exact ⟨⟨4, _, rfl, by decide, rfl, jm_g1 59 rfl rfl, F.2.2.2.2.2.1 _ (by decide)⟩, trivial⟩
  · exact ⟨⟨0, 1, 4, 1, .array (.object "JobHouse$Zone"), rfl, by decide, Or.inr (Or.inr (Or.inr ⟨rfl, Or.inr ⟨_, rfl⟩⟩)), Or.inr ⟨rfl, ⟨jn_T0, 18, jn_y0, rfl, by decide, jn_i0, jn_o0, jn_n0, rfl, rfl, by decide +kernel, jm_g2 25 rfl rfl⟩⟩⟩, trivial⟩
  · exact ⟨⟨5, _, rfl, by decide, rfl, jm_g1 61 rfl rfl, F.2.2.2.2.2.1 _ (by decide)⟩, trivial⟩
  · exact ⟨⟨0, 2, 4, 1, .array (.object "JobHouse$Cron"), rfl, by decide, Or.inr (Or.inr (Or.inr ⟨rfl, Or.inr ⟨_, rfl⟩⟩)), Or.inr ⟨rfl, ⟨jn_T0, 18, jn_y0, rfl, by decide, jn_i0, jn_o0, jn_n0, rfl, rfl, by decide +kernel, jm_g2 26 rfl rfl⟩⟩⟩, trivial⟩
  · exact ⟨⟨6, _, rfl, by decide, rfl, jm_g1 63 rfl rfl, F.2.2.2.2.2.1 _ (by decide)⟩, trivial⟩
  · exact ⟨⟨0, 3, 4, 1, .array (.object "JobHouse$Holidays"), rfl, by decide, Or.inr (Or.inr (Or.inr ⟨rfl, Or.inr ⟨_, rfl⟩⟩)), Or.inr ⟨rfl, ⟨jn_T0, 18, jn_y0, rfl, by decide, jn_i0, jn_o0, jn_n0, rfl, rfl, by decide +kernel, jm_g2 27 rfl rfl⟩⟩⟩, trivial⟩
  · exact ⟨⟨5, rfl, fun fs hfs => by
      cases hfs
      exact ⟨_, jn_T5, jn_y5, rfl, jn_i5, jn_o5, by decide +kernel, jm_g1 63 rfl rfl, jm_g1 65 rfl rfl, jm_g1 3 rfl rfl⟩⟩, ⟨5, rfl, fun q => absurd q (by decide)⟩⟩
  · exact ⟨trivial, ⟨135, 1, rfl, fun _ => ⟨jp_H_init, rfl, ji_H_init, Or.inl (jm_g1 66 rfl rfl), jm_g1 67 rfl rfl, rfl, rfl, rfl⟩, fun q => absurd q (by decide)⟩⟩
  · exact ⟨⟨0, 4, 4, 1, .object "JobHouse$Holidays", rfl, by decide, Or.inr (Or.inr (Or.inr ⟨rfl, Or.inl ⟨_, rfl⟩⟩)), Or.inr ⟨rfl, ⟨jn_T0, 18, jn_y0, rfl, by decide, jn_i0, jn_o0, jn_n0, rfl, rfl, by decide +kernel, jm_g2 28 rfl rfl⟩⟩⟩, trivial⟩
  · exact ⟨⟨6, rfl, fun fs hfs => by
      cases hfs
      exact ⟨_, jn_T6, jn_y6, rfl, jn_i6, jn_o6, by decide +kernel, jm_g1 79 rfl rfl, jm_g1 80 rfl rfl, jm_g1 4 rfl rfl⟩⟩, ⟨6, rfl, fun q => absurd q (by decide)⟩⟩
  · exact ⟨trivial, ⟨126, 0, rfl, fun _ => ⟨jp_F_init, rfl, ji_F_init, Or.inr ⟨_, jm_g1 81 rfl rfl⟩, jm_g1 82 rfl rfl, rfl, rfl, rfl⟩, fun q => absurd q (by decide)⟩⟩
  · exact ⟨⟨0, 5, 4, 1, .object "JobHouse$Fires", rfl, by decide, Or.inr (Or.inr (Or.inr ⟨rfl, Or.inl ⟨_, rfl⟩⟩)), Or.inr ⟨rfl, ⟨jn_T0, 18, jn_y0, rfl, by decide, jn_i0, jn_o0, jn_n0, rfl, rfl, by decide +kernel, jm_g2 29 rfl rfl⟩⟩⟩, trivial⟩
  · exact ⟨⟨2, rfl, fun fs hfs => by
      cases hfs
      exact ⟨_, jn_T2, jn_y2, rfl, jn_i2, jn_o2, by decide +kernel, jm_g1 59 rfl rfl, jm_g1 109 rfl rfl, jm_g1 6 rfl rfl⟩⟩, ⟨2, rfl, fun q => absurd q (by decide)⟩⟩
  · exact ⟨trivial, ⟨163, 0, rfl, fun _ => ⟨jp_Z_init, rfl, ji_Z_init, Or.inr ⟨_, jm_g1 176 rfl rfl⟩, jm_g1 111 rfl rfl, rfl, rfl, rfl⟩, fun q => absurd q (by decide)⟩⟩
  · exact ⟨⟨0, 6, 4, 0, .object "JobHouse$Zone", rfl, by decide, Or.inr (Or.inr (Or.inr ⟨rfl, Or.inl ⟨_, rfl⟩⟩)), Or.inl ⟨rfl, ⟨_, jn_T0, 18, jn_y0, rfl, by decide, jn_i0, jn_o0, jn_n0, rfl, rfl, by decide +kernel, Or.inl (jm_g2 30 rfl rfl)⟩⟩⟩, trivial⟩
  · exact ⟨⟨4, rfl, fun fs hfs => by
      cases hfs
      exact ⟨_, jn_T4, jn_y4, rfl, jn_i4, jn_o4, by decide +kernel, jm_g1 61 rfl rfl, jm_g1 86 rfl rfl, jm_g1 5 rfl rfl⟩⟩, ⟨4, rfl, fun q => absurd q (by decide)⟩⟩
  · exact ⟨trivial, ⟨95, 0, rfl, fun _ => ⟨jp_C_init, rfl, ji_C_init, Or.inr ⟨_, jm_g1 177 rfl rfl⟩, jm_g1 88 rfl rfl, rfl, rfl, rfl⟩, fun q => absurd q (by decide)⟩⟩
  · exact ⟨⟨0, 7, 4, 0, .object "JobHouse$Cron", rfl, by decide, Or.inr (Or.inr (Or.inr ⟨rfl, Or.inl ⟨_, rfl⟩⟩)), Or.inl ⟨rfl, ⟨_, jn_T0, 18, jn_y0, rfl, by decide, jn_i0, jn_o0, jn_n0, rfl, rfl, by decide +kernel, Or.inl (jm_g2 31 rfl rfl)⟩⟩⟩, trivial⟩
  · exact ⟨⟨7, _, rfl, by decide, rfl, jm_g1 178 rfl rfl, F.2.2.2.2.2.1 _ (by decide)⟩, trivial⟩
  · exact ⟨⟨0, 9, 4, 1, .array (.object "JobHouse$Job"), rfl, by decide, Or.inr (Or.inr (Or.inr ⟨rfl, Or.inr ⟨_, rfl⟩⟩)), Or.inr ⟨rfl, ⟨jn_T0, 18, jn_y0, rfl, by decide, jn_i0, jn_o0, jn_n0, rfl, rfl, by decide +kernel, jm_g2 33 rfl rfl⟩⟩⟩, trivial⟩
  · exact ⟨⟨2, _, rfl, by decide, rfl, rfl, jm_g1 78 rfl rfl⟩, trivial⟩
  · exact ⟨⟨0, 13, 4, 1, .array .int, rfl, by decide, Or.inr (Or.inr (Or.inr ⟨rfl, Or.inr ⟨_, rfl⟩⟩)), Or.inr ⟨rfl, ⟨jn_T0, 18, jn_y0, rfl, by decide, jn_i0, jn_o0, jn_n0, rfl, rfl, by decide +kernel, jm_g2 37 rfl rfl⟩⟩⟩, trivial⟩
  · exact ⟨⟨0, 15, 0, 0, .int, rfl, by decide, Or.inl ⟨rfl, rfl⟩, Or.inl ⟨rfl, ⟨_, jn_T0, 18, jn_y0, rfl, by decide, jn_i0, jn_o0, jn_n0, rfl, rfl, by decide +kernel, Or.inl (jm_g2 39 rfl rfl)⟩⟩⟩, trivial⟩
  · exact ⟨⟨8, rfl, fun fs hfs => by
      cases hfs
      exact ⟨_, jn_T8, jn_y8, rfl, jn_i8, jn_o8, by decide +kernel, jm_g1 180 rfl rfl, jm_g1 181 rfl rfl, jm_g1 8 rfl rfl⟩⟩, ⟨8, rfl, fun q => absurd q (by decide)⟩⟩
  · exact ⟨trivial, ⟨143, 0, rfl, fun _ => ⟨jp_L_init, rfl, ji_L_init, Or.inr ⟨_, jm_g1 182 rfl rfl⟩, jm_g1 183 rfl rfl, rfl, rfl, rfl⟩, fun q => absurd q (by decide)⟩⟩
  · exact ⟨⟨0, 17, 4, 1, .object "JobHouse$StartLog", rfl, by decide, Or.inr (Or.inr (Or.inr ⟨rfl, Or.inl ⟨_, rfl⟩⟩)), Or.inr ⟨rfl, ⟨jn_T0, 18, jn_y0, rfl, by decide, jn_i0, jn_o0, jn_n0, rfl, rfl, by decide +kernel, jm_g2 41 rfl rfl⟩⟩⟩, trivial⟩
  · exact ⟨⟨0, 1, .array (.object "JobHouse$Zone"), true, rfl, by decide, ⟨_, jn_T0, 18, jn_y0, rfl, by decide, jn_i0, jn_o0, jn_n0, rfl, rfl, by decide +kernel, Or.inl (jm_g2 25 rfl rfl)⟩⟩, trivial⟩
  · exact ⟨⟨0, 2, .array (.object "JobHouse$Cron"), true, rfl, by decide, ⟨_, jn_T0, 18, jn_y0, rfl, by decide, jn_i0, jn_o0, jn_n0, rfl, rfl, by decide +kernel, Or.inl (jm_g2 26 rfl rfl)⟩⟩, trivial⟩
  · exact ⟨⟨0, 3, .array (.object "JobHouse$Holidays"), true, rfl, by decide, ⟨_, jn_T0, 18, jn_y0, rfl, by decide, jn_i0, jn_o0, jn_n0, rfl, rfl, by decide +kernel, Or.inl (jm_g2 27 rfl rfl)⟩⟩, trivial⟩
  · exact ⟨⟨0, 9, .array (.object "JobHouse$Job"), true, rfl, by decide, ⟨_, jn_T0, 18, jn_y0, rfl, by decide, jn_i0, jn_o0, jn_n0, rfl, rfl, by decide +kernel, Or.inl (jm_g2 33 rfl rfl)⟩⟩, trivial⟩
  · exact ⟨⟨7, rfl, fun fs hfs => by
      cases hfs
      exact ⟨_, jn_T7, jn_y7, rfl, jn_i7, jn_o7, by decide +kernel, jm_g1 178 rfl rfl, jm_g1 207 rfl rfl, jm_g1 9 rfl rfl⟩⟩, ⟨7, rfl, fun q => absurd q (by decide)⟩⟩
  · exact ⟨trivial, ⟨139, 0, rfl, fun _ => ⟨jp_B_init, rfl, ji_B_init, Or.inr ⟨_, jm_g1 208 rfl rfl⟩, jm_g1 209 rfl rfl, rfl, rfl, rfl⟩, fun q => absurd q (by decide)⟩⟩
  · exact ⟨⟨0, 0, .object "JobHouse$Text", true, rfl, by decide, ⟨_, jn_T0, 18, jn_y0, rfl, by decide, jn_i0, jn_o0, jn_n0, rfl, rfl, by decide +kernel, Or.inl (jm_g2 24 rfl rfl)⟩⟩, trivial⟩
  · exact ⟨⟨1, 1, .int, false, rfl, by decide, ⟨_, jn_T1, 4, jn_y1, rfl, by decide, jn_i1, jn_o1, jn_n1, rfl, rfl, by decide +kernel, Or.inr ⟨_, jm_g1 43 rfl rfl⟩⟩⟩, trivial⟩
  · exact ⟨trivial, ⟨146, 1, 1, rfl, fun _ => ⟨by decide, jp_T_addWord, _, _, rfl, ji_T_addWord, Or.inl (jm_g2 152 rfl rfl), jm_g2 153 rfl rfl, jm_g2 154 rfl rfl, rfl⟩, fun q => absurd q (by decide)⟩⟩
  · exact ⟨trivial, ⟨19, 3, rfl, fun _ => ⟨jp_J_checkRange, rfl, ji_J_checkRange, Or.inl (jm_g2 164 rfl rfl), jm_g2 165 rfl rfl⟩, fun q => absurd q (by decide)⟩⟩
  · exact ⟨⟨1, 1, 0, 0, .int, rfl, by decide, Or.inl ⟨rfl, rfl⟩, Or.inl ⟨rfl, ⟨_, jn_T1, 4, jn_y1, rfl, by decide, jn_i1, jn_o1, jn_n1, rfl, rfl, by decide +kernel, Or.inr ⟨_, jm_g1 43 rfl rfl⟩⟩⟩⟩, trivial⟩
  · exact ⟨⟨_, rfl, jm_g2 190 rfl rfl⟩, trivial⟩
  · exact ⟨trivial, ⟨147, 0, 1, rfl, fun _ => ⟨by decide, jp_T_rewind, _, _, rfl, ji_T_rewind, Or.inl (jm_g2 191 rfl rfl), jm_g2 192 rfl rfl, jm_g2 193 rfl rfl, rfl⟩, fun q => absurd q (by decide)⟩⟩
  · exact ⟨⟨0, 6, .object "JobHouse$Zone", false, rfl, by decide, ⟨_, jn_T0, 18, jn_y0, rfl, by decide, jn_i0, jn_o0, jn_n0, rfl, rfl, by decide +kernel, Or.inl (jm_g2 30 rfl rfl)⟩⟩, trivial⟩
  · exact ⟨trivial, ⟨164, 1, 2, rfl, fun _ => ⟨by decide, jp_Z_readFrom, _, _, rfl, ji_Z_readFrom, Or.inl (jm_g2 195 rfl rfl), jm_g2 196 rfl rfl, jm_g2 197 rfl rfl, rfl⟩, fun q => absurd q (by decide)⟩⟩
  · exact ⟨trivial, ⟨24, 0, 0, rfl, fun _ => ⟨by decide, jp_J_checkNotBroken, _, _, rfl, ji_J_checkNotBroken, Or.inl (jm_g3 7 rfl rfl), jm_g3 9 rfl rfl, jm_g0 1 rfl rfl, rfl⟩, fun q => absurd q (by decide)⟩⟩
  · exact ⟨⟨_, rfl, jm_g3 33 rfl rfl⟩, trivial⟩
  · exact ⟨⟨0, 7, .object "JobHouse$Cron", false, rfl, by decide, ⟨_, jn_T0, 18, jn_y0, rfl, by decide, jn_i0, jn_o0, jn_n0, rfl, rfl, by decide +kernel, Or.inl (jm_g2 31 rfl rfl)⟩⟩, trivial⟩
  · exact ⟨trivial, ⟨111, 2, rfl, fun _ => ⟨jp_CR_readCron, rfl, ji_CR_readCron, Or.inl (jm_g3 34 rfl rfl), jm_g3 35 rfl rfl⟩, fun q => absurd q (by decide)⟩⟩
  · exact ⟨⟨_, rfl, jm_g3 147 rfl rfl⟩, trivial⟩
  · exact ⟨⟨_, rfl, jm_g3 148 rfl rfl⟩, trivial⟩
  · exact ⟨trivial, ⟨136, 1, 5, rfl, fun _ => ⟨by decide, jp_H_placeOf, _, _, rfl, ji_H_placeOf, Or.inl (jm_g3 149 rfl rfl), jm_g3 150 rfl rfl, jm_g3 151 rfl rfl, rfl⟩, fun q => absurd q (by decide)⟩⟩
  · exact ⟨⟨5, 1, .int, false, rfl, by decide, ⟨_, jn_T5, 2, jn_y5, rfl, by decide, jn_i5, jn_o5, jn_n5, rfl, rfl, by decide +kernel, Or.inr ⟨_, jm_g1 72 rfl rfl⟩⟩⟩, trivial⟩
  · exact ⟨trivial, ⟨137, 2, 5, rfl, fun _ => ⟨by decide, jp_H_insert, _, _, rfl, ji_H_insert, Or.inl (jm_g3 153 rfl rfl), jm_g3 154 rfl rfl, jm_g3 155 rfl rfl, rfl⟩, fun q => absurd q (by decide)⟩⟩
  · exact ⟨trivial, ⟨138, 1, 5, rfl, fun _ => ⟨by decide, jp_H_removeAt, _, _, rfl, ji_H_removeAt, Or.inl (jm_g3 160 rfl rfl), jm_g3 161 rfl rfl, jm_g3 162 rfl rfl, rfl⟩, fun q => absurd q (by decide)⟩⟩
  · exact ⟨trivial, ⟨20, 3, rfl, fun _ => ⟨jp_J_checkSearch, rfl, ji_J_checkSearch, Or.inl (jm_g3 171 rfl rfl), jm_g3 172 rfl rfl⟩, fun q => absurd q (by decide)⟩⟩
  · exact ⟨⟨_, rfl, jm_g3 175 rfl rfl⟩, trivial⟩
  · exact ⟨trivial, ⟨25, 3, 0, rfl, fun _ => ⟨by decide, jp_J_aimAt, _, _, rfl, ji_J_aimAt, Or.inl (jm_g3 176 rfl rfl), jm_g3 178 rfl rfl, jm_g0 2 rfl rfl, rfl⟩, fun q => absurd q (by decide)⟩⟩
  · exact ⟨⟨0, 5, .object "JobHouse$Fires", true, rfl, by decide, ⟨_, jn_T0, 18, jn_y0, rfl, by decide, jn_i0, jn_o0, jn_n0, rfl, rfl, by decide +kernel, Or.inl (jm_g2 29 rfl rfl)⟩⟩, trivial⟩
  · exact ⟨trivial, ⟨127, 1, 6, rfl, fun _ => ⟨by decide, jp_F_firstAfter, _, _, rfl, ji_F_firstAfter, Or.inl (jm_g3 180 rfl rfl), jm_g3 181 rfl rfl, jm_g3 182 rfl rfl, rfl⟩, fun q => absurd q (by decide)⟩⟩
def jl_J_1 : List (Instr × List Nat × Value) := [(.invokevirtual 144, [128, 1, 6], .null), (.ldc2_w 147, [], .long 1000), (.invokevirtual 149, [165, 1, 2], .null), (.ldc2_w 153, [], .long 86400), (.invokestatic 155, [189, 2], .null), (.invokestatic 161, [122, 1], .null), (.invokestatic 166, [123, 1], .null), (.invokestatic 169, [124, 2], .null), (.invokestatic 173, [120, 2], .null), (.invokestatic 176, [125, 1], .null), (.ldc2_w 179, [], .long 2), (.ldc2_w 181, [], .long 1099511627776), (.getfield 183, [0, 8], .null), (.invokestatic 187, [193, 2], .null), (.invokestatic 190, [21, 3], .null), (.invokevirtual 194, [23, 0, 0], .null), (.invokevirtual 197, [26, 0, 0], .null), (.invokevirtual 201, [27, 5, 0], .null), (.putfield 205, [7, 1, 0, 0], .null), (.putfield 208, [7, 6, 1, 0], .null), (.putfield 211, [7, 4, 1, 0], .null), (.putfield 217, [7, 11, 0, 0], .null), (.putfield 220, [7, 12, 0, 0], .null), (.putfield 223, [7, 13, 0, 0], .null), (.invokevirtual 226, [29, 1, 0], .null), (.getfield 230, [7, 0], .null), (.invokevirtual 233, [28, 1, 0], .null), (.putfield 230, [7, 0, 0, 0], .null), (.ldc2_w 237, [], .long 8), (.getfield 68, [0, 15], .null), (.invokevirtual 239, [22, 1, 0], .null), (.getfield 75, [0, 17], .null), (.putfield 243, [8, 3, 0, 0], .null), (.ldc 244, [], .int 100000), (.invokevirtual 245, [30, 0, 0], .null), (.getfield 64, [0, 13], .null), (.invokevirtual 248, [31, 1, 0], .null), (.invokevirtual 252, [32, 2, 0], .null), (.getfield 243, [8, 3], .null), (.getfield 256, [0, 14], .null), (.invokevirtual 259, [33, 0, 0], .null), (.getfield 211, [7, 4], .null), (.invokevirtual 262, [34, 1, 0], .null), (.invokevirtual 265, [35, 1, 0], .null), (.putfield 183, [0, 8, 1, 0], .null), (.putfield 269, [0, 16, 2, 0], .null), (.getfield 273, [0, 10], .null), (.getfield 205, [7, 1], .null), (.getfield 276, [0, 11], .null), (.ldc2_w 279, [], .long 4), (.getfield 281, [7, 3], .null), (.getfield 284, [7, 2], .null), (.ldc2_w 287, [], .long (-1)), (.getfield 289, [7, 5], .null), (.getfield 295, [8, 0], .null), (.getfield 299, [8, 1], .null), (.getfield 302, [8, 2], .null), (.ldc2_w 305, [], .long 5), (.getfield 307, [8, 4], .null), (.getfield 310, [1, 3], .null)]
theorem js_J_1 (F : jx_SF S dA aL aM adK) (cc : ByteArray) (pc : Nat) : ∀ r ∈ jl_J_1, jx_si S dA (jx_R1 sc aL aM adK) jx_df "JobHouse" r.1 r.2.1 r.2.2 ∧ jx_sc S jx_P cc "JobHouse" pc r.1 r.2.1 := by
  intro r hr
  simp only [jl_J_1, List.mem_cons, List.not_mem_nil, or_false] at hr
  rcases hr with rfl | rfl | rfl | rfl | rfl | rfl | rfl | rfl | rfl | rfl | rfl | rfl | rfl | rfl | rfl | rfl | rfl | rfl | rfl | rfl | rfl | rfl | rfl | rfl | rfl | rfl | rfl | rfl | rfl | rfl | rfl | rfl | rfl | rfl | rfl | rfl | rfl | rfl | rfl | rfl | rfl | rfl | rfl | rfl | rfl | rfl | rfl | rfl | rfl | rfl | rfl | rfl | rfl | rfl | rfl | rfl | rfl | rfl | rfl | rfl
  · exact ⟨trivial, ⟨128, 1, 6, rfl, fun _ => ⟨by decide, jp_F_latestUpTo, _, _, rfl, ji_F_latestUpTo, Or.inl (jm_g4 79 rfl rfl), jm_g4 80 rfl rfl, jm_g4 81 rfl rfl, rfl⟩, fun q => absurd q (by decide)⟩⟩
  · exact ⟨⟨_, rfl, jm_g4 114 rfl rfl⟩, trivial⟩
  · exact ⟨trivial, ⟨165, 1, 2, rfl, fun _ => ⟨by decide, jp_Z_offsetAt, _, _, rfl, ji_Z_offsetAt, Or.inl (jm_g4 115 rfl rfl), jm_g3 187 rfl rfl, jm_g3 188 rfl rfl, rfl⟩, fun q => absurd q (by decide)⟩⟩
  · exact ⟨⟨_, rfl, jm_g4 116 rfl rfl⟩, trivial⟩
  · exact ⟨trivial, ⟨189, 2, rfl, fun _ => ⟨jp_Math_floorMod2, rfl, ji_Math_floorMod2, Or.inl (jm_g4 117 rfl rfl), jm_g4 118 rfl rfl⟩, fun q => absurd q (by decide)⟩⟩
  · exact ⟨trivial, ⟨122, 1, rfl, fun _ => ⟨jp_D_dayOf, rfl, ji_D_dayOf, Or.inl (jm_g4 120 rfl rfl), jm_g3 196 rfl rfl⟩, fun q => absurd q (by decide)⟩⟩
  · exact ⟨trivial, ⟨123, 1, rfl, fun _ => ⟨jp_D_yearOf, rfl, ji_D_yearOf, Or.inl (jm_g4 121 rfl rfl), jm_g3 203 rfl rfl⟩, fun q => absurd q (by decide)⟩⟩
  · exact ⟨trivial, ⟨124, 2, rfl, fun _ => ⟨jp_D_monthOf, rfl, ji_D_monthOf, Or.inl (jm_g4 122 rfl rfl), jm_g4 18 rfl rfl⟩, fun q => absurd q (by decide)⟩⟩
  · exact ⟨trivial, ⟨120, 2, rfl, fun _ => ⟨jp_D_firstOfMonth, rfl, ji_D_firstOfMonth, Or.inl (jm_g4 123 rfl rfl), jm_g3 210 rfl rfl⟩, fun q => absurd q (by decide)⟩⟩
  · exact ⟨trivial, ⟨125, 1, rfl, fun _ => ⟨jp_D_weekdayOf, rfl, ji_D_weekdayOf, Or.inl (jm_g4 124 rfl rfl), jm_g3 224 rfl rfl⟩, fun q => absurd q (by decide)⟩⟩
  · exact ⟨⟨_, rfl, jm_g4 133 rfl rfl⟩, trivial⟩
  · exact ⟨⟨_, rfl, jm_g4 134 rfl rfl⟩, trivial⟩
  · exact ⟨⟨0, 8, .long, false, rfl, by decide, ⟨_, jn_T0, 18, jn_y0, rfl, by decide, jn_i0, jn_o0, jn_n0, rfl, rfl, by decide +kernel, Or.inl (jm_g2 32 rfl rfl)⟩⟩, trivial⟩
  · exact ⟨trivial, ⟨193, 2, rfl, fun _ => ⟨jp_Math_min2, rfl, ji_Math_min2, Or.inl (jm_g4 135 rfl rfl), jm_g4 4 rfl rfl⟩, fun q => absurd q (by decide)⟩⟩
  · exact ⟨trivial, ⟨21, 3, rfl, fun _ => ⟨jp_J_checkRun, rfl, ji_J_checkRun, Or.inl (jm_g4 136 rfl rfl), jm_g4 137 rfl rfl⟩, fun q => absurd q (by decide)⟩⟩
  · exact ⟨trivial, ⟨23, 0, 0, rfl, fun _ => ⟨by decide, jp_J_checkOpen, _, _, rfl, ji_J_checkOpen, Or.inl (jm_g4 140 rfl rfl), jm_g4 142 rfl rfl, jm_g0 11 rfl rfl, rfl⟩, fun q => absurd q (by decide)⟩⟩
  · exact ⟨trivial, ⟨26, 0, 0, rfl, fun _ => ⟨by decide, jp_J_freeSlot, _, _, rfl, ji_J_freeSlot, Or.inl (jm_g4 159 rfl rfl), jm_g4 161 rfl rfl, jm_g0 12 rfl rfl, rfl⟩, fun q => absurd q (by decide)⟩⟩
  · exact ⟨trivial, ⟨27, 5, 0, rfl, fun _ => ⟨by decide, jp_J_fill, _, _, rfl, ji_J_fill, Or.inl (jm_g4 163 rfl rfl), jm_g4 165 rfl rfl, jm_g0 13 rfl rfl, rfl⟩, fun q => absurd q (by decide)⟩⟩
  · exact ⟨⟨7, 1, 0, 0, .int, rfl, by decide, Or.inl ⟨rfl, rfl⟩, Or.inl ⟨rfl, ⟨_, jn_T7, 14, jn_y7, rfl, by decide, jn_i7, jn_o7, jn_n7, rfl, rfl, by decide +kernel, Or.inr ⟨_, jm_g1 215 rfl rfl⟩⟩⟩⟩, trivial⟩
  · exact ⟨⟨7, 6, 1, 0, .long, rfl, by decide, Or.inr (Or.inl ⟨rfl, rfl⟩), Or.inl ⟨rfl, ⟨_, jn_T7, 14, jn_y7, rfl, by decide, jn_i7, jn_o7, jn_n7, rfl, rfl, by decide +kernel, Or.inr ⟨_, jm_g1 224 rfl rfl⟩⟩⟩⟩, trivial⟩
  · exact ⟨⟨7, 4, 1, 0, .long, rfl, by decide, Or.inr (Or.inl ⟨rfl, rfl⟩), Or.inl ⟨rfl, ⟨_, jn_T7, 14, jn_y7, rfl, by decide, jn_i7, jn_o7, jn_n7, rfl, rfl, by decide +kernel, Or.inr ⟨_, jm_g1 221 rfl rfl⟩⟩⟩⟩, trivial⟩
  · exact ⟨⟨7, 11, 0, 0, .int, rfl, by decide, Or.inl ⟨rfl, rfl⟩, Or.inl ⟨rfl, ⟨_, jn_T7, 14, jn_y7, rfl, by decide, jn_i7, jn_o7, jn_n7, rfl, rfl, by decide +kernel, Or.inr ⟨_, jm_g1 232 rfl rfl⟩⟩⟩⟩, trivial⟩
  · exact ⟨⟨7, 12, 0, 0, .int, rfl, by decide, Or.inl ⟨rfl, rfl⟩, Or.inl ⟨rfl, ⟨_, jn_T7, 14, jn_y7, rfl, by decide, jn_i7, jn_o7, jn_n7, rfl, rfl, by decide +kernel, Or.inr ⟨_, jm_g1 233 rfl rfl⟩⟩⟩⟩, trivial⟩
  · exact ⟨⟨7, 13, 0, 0, .int, rfl, by decide, Or.inl ⟨rfl, rfl⟩, Or.inl ⟨rfl, ⟨_, jn_T7, 14, jn_y7, rfl, by decide, jn_i7, jn_o7, jn_n7, rfl, rfl, by decide +kernel, Or.inr ⟨_, jm_g1 234 rfl rfl⟩⟩⟩⟩, trivial⟩
  · exact ⟨trivial, ⟨29, 1, 0, rfl, fun _ => ⟨by decide, jp_J_jobAt, _, _, rfl, ji_J_jobAt, Or.inl (jm_g4 183 rfl rfl), jm_g4 185 rfl rfl, jm_g0 14 rfl rfl, rfl⟩, fun q => absurd q (by decide)⟩⟩
  · exact ⟨⟨7, 0, .int, false, rfl, by decide, ⟨_, jn_T7, 14, jn_y7, rfl, by decide, jn_i7, jn_o7, jn_n7, rfl, rfl, by decide +kernel, Or.inr ⟨_, jm_g1 213 rfl rfl⟩⟩⟩, trivial⟩
  · exact ⟨trivial, ⟨28, 1, 0, rfl, fun _ => ⟨by decide, jp_J_remove, _, _, rfl, ji_J_remove, Or.inl (jm_g4 202 rfl rfl), jm_g4 204 rfl rfl, jm_g0 15 rfl rfl, rfl⟩, fun q => absurd q (by decide)⟩⟩
  · exact ⟨⟨7, 0, 0, 0, .int, rfl, by decide, Or.inl ⟨rfl, rfl⟩, Or.inl ⟨rfl, ⟨_, jn_T7, 14, jn_y7, rfl, by decide, jn_i7, jn_o7, jn_n7, rfl, rfl, by decide +kernel, Or.inr ⟨_, jm_g1 213 rfl rfl⟩⟩⟩⟩, trivial⟩
  · exact ⟨⟨_, rfl, jm_g4 213 rfl rfl⟩, trivial⟩
  · exact ⟨⟨0, 15, .int, false, rfl, by decide, ⟨_, jn_T0, 18, jn_y0, rfl, by decide, jn_i0, jn_o0, jn_n0, rfl, rfl, by decide +kernel, Or.inl (jm_g2 39 rfl rfl)⟩⟩, trivial⟩
  · exact ⟨trivial, ⟨22, 1, 0, rfl, fun _ => ⟨by decide, jp_J_checkWay, _, _, rfl, ji_J_checkWay, Or.inl (jm_g4 221 rfl rfl), jm_g4 223 rfl rfl, jm_g0 16 rfl rfl, rfl⟩, fun q => absurd q (by decide)⟩⟩
  · exact ⟨⟨0, 17, .object "JobHouse$StartLog", true, rfl, by decide, ⟨_, jn_T0, 18, jn_y0, rfl, by decide, jn_i0, jn_o0, jn_n0, rfl, rfl, by decide +kernel, Or.inl (jm_g2 41 rfl rfl)⟩⟩, trivial⟩
  · exact ⟨⟨8, 3, 0, 0, .int, rfl, by decide, Or.inl ⟨rfl, rfl⟩, Or.inl ⟨rfl, ⟨_, jn_T8, 5, jn_y8, rfl, by decide, jn_i8, jn_o8, jn_n8, rfl, rfl, by decide +kernel, Or.inr ⟨_, jm_g1 193 rfl rfl⟩⟩⟩⟩, trivial⟩
  · exact ⟨Or.inl ⟨_, rfl, jm_g4 226 rfl rfl⟩, trivial⟩
  · exact ⟨trivial, ⟨30, 0, 0, rfl, fun _ => ⟨by decide, jp_J_firstEnded, _, _, rfl, ji_J_firstEnded, Or.inl (jm_g4 227 rfl rfl), jm_g4 229 rfl rfl, jm_g0 17 rfl rfl, rfl⟩, fun q => absurd q (by decide)⟩⟩
  · exact ⟨⟨0, 13, .array .int, true, rfl, by decide, ⟨_, jn_T0, 18, jn_y0, rfl, by decide, jn_i0, jn_o0, jn_n0, rfl, rfl, by decide +kernel, Or.inl (jm_g2 37 rfl rfl)⟩⟩, trivial⟩
  · exact ⟨trivial, ⟨31, 1, 0, rfl, fun _ => ⟨by decide, jp_J_nominalBehind, _, _, rfl, ji_J_nominalBehind, Or.inl (jm_g4 231 rfl rfl), jm_g4 233 rfl rfl, jm_g0 18 rfl rfl, rfl⟩, fun q => absurd q (by decide)⟩⟩
  · exact ⟨trivial, ⟨32, 2, 0, rfl, fun _ => ⟨by decide, jp_J_free, _, _, rfl, ji_J_free, Or.inl (jm_g5 4 rfl rfl), jm_g5 6 rfl rfl, jm_g0 19 rfl rfl, rfl⟩, fun q => absurd q (by decide)⟩⟩
  · exact ⟨⟨8, 3, .int, false, rfl, by decide, ⟨_, jn_T8, 5, jn_y8, rfl, by decide, jn_i8, jn_o8, jn_n8, rfl, rfl, by decide +kernel, Or.inr ⟨_, jm_g1 193 rfl rfl⟩⟩⟩, trivial⟩
  · exact ⟨⟨0, 14, .int, false, rfl, by decide, ⟨_, jn_T0, 18, jn_y0, rfl, by decide, jn_i0, jn_o0, jn_n0, rfl, rfl, by decide +kernel, Or.inl (jm_g2 38 rfl rfl)⟩⟩, trivial⟩
  · exact ⟨trivial, ⟨33, 0, 0, rfl, fun _ => ⟨by decide, jp_J_firstPending, _, _, rfl, ji_J_firstPending, Or.inl (jm_g5 8 rfl rfl), jm_g5 10 rfl rfl, jm_g0 20 rfl rfl, rfl⟩, fun q => absurd q (by decide)⟩⟩
  · exact ⟨⟨7, 4, .long, false, rfl, by decide, ⟨_, jn_T7, 14, jn_y7, rfl, by decide, jn_i7, jn_o7, jn_n7, rfl, rfl, by decide +kernel, Or.inr ⟨_, jm_g1 221 rfl rfl⟩⟩⟩, trivial⟩
  · exact ⟨trivial, ⟨34, 1, 0, rfl, fun _ => ⟨by decide, jp_J_begin, _, _, rfl, ji_J_begin, Or.inl (jm_g5 16 rfl rfl), jm_g5 18 rfl rfl, jm_g0 21 rfl rfl, rfl⟩, fun q => absurd q (by decide)⟩⟩
  · exact ⟨trivial, ⟨35, 1, 0, rfl, fun _ => ⟨by decide, jp_J_nextTime, _, _, rfl, ji_J_nextTime, Or.inl (jm_g5 24 rfl rfl), jm_g5 26 rfl rfl, jm_g0 22 rfl rfl, rfl⟩, fun q => absurd q (by decide)⟩⟩
  · exact ⟨⟨0, 8, 1, 0, .long, rfl, by decide, Or.inr (Or.inl ⟨rfl, rfl⟩), Or.inl ⟨rfl, ⟨_, jn_T0, 18, jn_y0, rfl, by decide, jn_i0, jn_o0, jn_n0, rfl, rfl, by decide +kernel, Or.inl (jm_g2 32 rfl rfl)⟩⟩⟩, trivial⟩
  · exact ⟨⟨0, 16, 2, 0, .boolean, rfl, by decide, Or.inr (Or.inr (Or.inl ⟨rfl, rfl⟩)), Or.inl ⟨rfl, ⟨_, jn_T0, 18, jn_y0, rfl, by decide, jn_i0, jn_o0, jn_n0, rfl, rfl, by decide +kernel, Or.inl (jm_g2 40 rfl rfl)⟩⟩⟩, trivial⟩
  · exact ⟨⟨0, 10, .int, false, rfl, by decide, ⟨_, jn_T0, 18, jn_y0, rfl, by decide, jn_i0, jn_o0, jn_n0, rfl, rfl, by decide +kernel, Or.inl (jm_g2 34 rfl rfl)⟩⟩, trivial⟩
  · exact ⟨⟨7, 1, .int, false, rfl, by decide, ⟨_, jn_T7, 14, jn_y7, rfl, by decide, jn_i7, jn_o7, jn_n7, rfl, rfl, by decide +kernel, Or.inr ⟨_, jm_g1 215 rfl rfl⟩⟩⟩, trivial⟩
  · exact ⟨⟨0, 11, .int, false, rfl, by decide, ⟨_, jn_T0, 18, jn_y0, rfl, by decide, jn_i0, jn_o0, jn_n0, rfl, rfl, by decide +kernel, Or.inl (jm_g2 35 rfl rfl)⟩⟩, trivial⟩
  · exact ⟨⟨_, rfl, jm_g5 49 rfl rfl⟩, trivial⟩
  · exact ⟨⟨7, 3, .int, false, rfl, by decide, ⟨_, jn_T7, 14, jn_y7, rfl, by decide, jn_i7, jn_o7, jn_n7, rfl, rfl, by decide +kernel, Or.inr ⟨_, jm_g1 219 rfl rfl⟩⟩⟩, trivial⟩
  · exact ⟨⟨7, 2, .int, false, rfl, by decide, ⟨_, jn_T7, 14, jn_y7, rfl, by decide, jn_i7, jn_o7, jn_n7, rfl, rfl, by decide +kernel, Or.inr ⟨_, jm_g1 217 rfl rfl⟩⟩⟩, trivial⟩
  · exact ⟨⟨_, rfl, jm_g3 174 rfl rfl⟩, trivial⟩
  · exact ⟨⟨7, 5, .long, false, rfl, by decide, ⟨_, jn_T7, 14, jn_y7, rfl, by decide, jn_i7, jn_o7, jn_n7, rfl, rfl, by decide +kernel, Or.inr ⟨_, jm_g1 222 rfl rfl⟩⟩⟩, trivial⟩
  · exact ⟨⟨8, 0, .array .long, true, rfl, by decide, ⟨_, jn_T8, 5, jn_y8, rfl, by decide, jn_i8, jn_o8, jn_n8, rfl, rfl, by decide +kernel, Or.inr ⟨_, jm_g1 187 rfl rfl⟩⟩⟩, trivial⟩
  · exact ⟨⟨8, 1, .array .int, true, rfl, by decide, ⟨_, jn_T8, 5, jn_y8, rfl, by decide, jn_i8, jn_o8, jn_n8, rfl, rfl, by decide +kernel, Or.inr ⟨_, jm_g1 189 rfl rfl⟩⟩⟩, trivial⟩
  · exact ⟨⟨8, 2, .array .long, true, rfl, by decide, ⟨_, jn_T8, 5, jn_y8, rfl, by decide, jn_i8, jn_o8, jn_n8, rfl, rfl, by decide +kernel, Or.inr ⟨_, jm_g1 191 rfl rfl⟩⟩⟩, trivial⟩
  · exact ⟨⟨_, rfl, jm_g5 64 rfl rfl⟩, trivial⟩
  · exact ⟨⟨8, 4, .long, false, rfl, by decide, ⟨_, jn_T8, 5, jn_y8, rfl, by decide, jn_i8, jn_o8, jn_n8, rfl, rfl, by decide +kernel, Or.inr ⟨_, jm_g1 195 rfl rfl⟩⟩⟩, trivial⟩
  · exact ⟨⟨1, 3, .int, false, rfl, by decide, ⟨_, jn_T1, 4, jn_y1, rfl, by decide, jn_i1, jn_o1, jn_n1, rfl, rfl, by decide +kernel, Or.inr ⟨_, jm_g1 48 rfl rfl⟩⟩⟩, trivial⟩
def jl_J_2 : List (Instr × List Nat × Value) := [(.ldc2_w 316, [], .long 1152921504606846976), (.ldc2_w 318, [], .long 8796093022208), (.getfield 269, [0, 16], .null), (.putfield 323, [6, 0, 4, 0], .null), (.putfield 326, [6, 1, 4, 0], .null), (.getfield 37, [0, 4], .null), (.putfield 329, [6, 2, 4, 0], .null), (.putfield 332, [7, 7, 1, 0], .null), (.putfield 335, [7, 8, 0, 0], .null), (.putfield 338, [7, 9, 0, 0], .null), (.putfield 341, [7, 10, 0, 0], .null), (.putfield 281, [7, 3, 0, 0], .null), (.getfield 344, [0, 12], .null), (.putfield 284, [7, 2, 0, 0], .null), (.putfield 344, [0, 12, 0, 0], .null), (.putfield 276, [0, 11, 0, 0], .null), (.invokestatic 347, [190, 2], .null), (.putfield 273, [0, 10, 0, 0], .null), (.invokevirtual 350, [141, 0, 7], .null), (.getfield 208, [7, 6], .null), (.invokevirtual 354, [142, 1, 7], .null), (.getfield 217, [7, 11], .null), (.getfield 220, [7, 12], .null), (.getfield 223, [7, 13], .null), (.getfield 338, [7, 9], .null), (.putfield 256, [0, 14, 0, 0], .null), (.invokevirtual 357, [140, 1, 7], .null), (.getfield 332, [7, 7], .null), (.putfield 289, [7, 5, 1, 0], .null), (.invokevirtual 361, [144, 3, 8], .null)]
theorem js_J_2 (F : jx_SF S dA aL aM adK) (cc : ByteArray) (pc : Nat) : ∀ r ∈ jl_J_2, jx_si S dA (jx_R1 sc aL aM adK) jx_df "JobHouse" r.1 r.2.1 r.2.2 ∧ jx_sc S jx_P cc "JobHouse" pc r.1 r.2.1 := by
  intro r hr
  simp only [jl_J_2, List.mem_cons, List.not_mem_nil, or_false] at hr
  rcases hr with rfl | rfl | rfl | rfl | rfl | rfl | rfl | rfl | rfl | rfl | rfl | rfl | rfl | rfl | rfl | rfl | rfl | rfl | rfl | rfl | rfl | rfl | rfl | rfl | rfl | rfl | rfl | rfl | rfl | rfl
  · exact ⟨⟨_, rfl, jm_g4 139 rfl rfl⟩, trivial⟩
  · exact ⟨⟨_, rfl, jm_g4 225 rfl rfl⟩, trivial⟩
  · exact ⟨⟨0, 16, .boolean, false, rfl, by decide, ⟨_, jn_T0, 18, jn_y0, rfl, by decide, jn_i0, jn_o0, jn_n0, rfl, rfl, by decide +kernel, Or.inl (jm_g2 40 rfl rfl)⟩⟩, trivial⟩
  · exact ⟨⟨6, 0, 4, 0, .object "JobHouse$Cron", rfl, by decide, Or.inr (Or.inr (Or.inr ⟨rfl, Or.inl ⟨_, rfl⟩⟩)), Or.inl ⟨rfl, ⟨_, jn_T6, 3, jn_y6, rfl, by decide, jn_i6, jn_o6, jn_n6, rfl, rfl, by decide +kernel, Or.inr ⟨_, jm_g1 164 rfl rfl⟩⟩⟩⟩, trivial⟩
  · exact ⟨⟨6, 1, 4, 0, .object "JobHouse$Zone", rfl, by decide, Or.inr (Or.inr (Or.inr ⟨rfl, Or.inl ⟨_, rfl⟩⟩)), Or.inl ⟨rfl, ⟨_, jn_T6, 3, jn_y6, rfl, by decide, jn_i6, jn_o6, jn_n6, rfl, rfl, by decide +kernel, Or.inr ⟨_, jm_g1 166 rfl rfl⟩⟩⟩⟩, trivial⟩
  · exact ⟨⟨0, 4, .object "JobHouse$Holidays", true, rfl, by decide, ⟨_, jn_T0, 18, jn_y0, rfl, by decide, jn_i0, jn_o0, jn_n0, rfl, rfl, by decide +kernel, Or.inl (jm_g2 28 rfl rfl)⟩⟩, trivial⟩
  · exact ⟨⟨6, 2, 4, 0, .object "JobHouse$Holidays", rfl, by decide, Or.inr (Or.inr (Or.inr ⟨rfl, Or.inl ⟨_, rfl⟩⟩)), Or.inl ⟨rfl, ⟨_, jn_T6, 3, jn_y6, rfl, by decide, jn_i6, jn_o6, jn_n6, rfl, rfl, by decide +kernel, Or.inr ⟨_, jm_g1 168 rfl rfl⟩⟩⟩⟩, trivial⟩
  · exact ⟨⟨7, 7, 1, 0, .long, rfl, by decide, Or.inr (Or.inl ⟨rfl, rfl⟩), Or.inl ⟨rfl, ⟨_, jn_T7, 14, jn_y7, rfl, by decide, jn_i7, jn_o7, jn_n7, rfl, rfl, by decide +kernel, Or.inr ⟨_, jm_g1 225 rfl rfl⟩⟩⟩⟩, trivial⟩
  · exact ⟨⟨7, 8, 0, 0, .int, rfl, by decide, Or.inl ⟨rfl, rfl⟩, Or.inl ⟨rfl, ⟨_, jn_T7, 14, jn_y7, rfl, by decide, jn_i7, jn_o7, jn_n7, rfl, rfl, by decide +kernel, Or.inr ⟨_, jm_g1 227 rfl rfl⟩⟩⟩⟩, trivial⟩
  · exact ⟨⟨7, 9, 0, 0, .int, rfl, by decide, Or.inl ⟨rfl, rfl⟩, Or.inl ⟨rfl, ⟨_, jn_T7, 14, jn_y7, rfl, by decide, jn_i7, jn_o7, jn_n7, rfl, rfl, by decide +kernel, Or.inr ⟨_, jm_g1 229 rfl rfl⟩⟩⟩⟩, trivial⟩
  · exact ⟨⟨7, 10, 0, 0, .int, rfl, by decide, Or.inl ⟨rfl, rfl⟩, Or.inl ⟨rfl, ⟨_, jn_T7, 14, jn_y7, rfl, by decide, jn_i7, jn_o7, jn_n7, rfl, rfl, by decide +kernel, Or.inr ⟨_, jm_g1 231 rfl rfl⟩⟩⟩⟩, trivial⟩
  · exact ⟨⟨7, 3, 0, 0, .int, rfl, by decide, Or.inl ⟨rfl, rfl⟩, Or.inl ⟨rfl, ⟨_, jn_T7, 14, jn_y7, rfl, by decide, jn_i7, jn_o7, jn_n7, rfl, rfl, by decide +kernel, Or.inr ⟨_, jm_g1 219 rfl rfl⟩⟩⟩⟩, trivial⟩
  · exact ⟨⟨0, 12, .int, false, rfl, by decide, ⟨_, jn_T0, 18, jn_y0, rfl, by decide, jn_i0, jn_o0, jn_n0, rfl, rfl, by decide +kernel, Or.inl (jm_g2 36 rfl rfl)⟩⟩, trivial⟩
  · exact ⟨⟨7, 2, 0, 0, .int, rfl, by decide, Or.inl ⟨rfl, rfl⟩, Or.inl ⟨rfl, ⟨_, jn_T7, 14, jn_y7, rfl, by decide, jn_i7, jn_o7, jn_n7, rfl, rfl, by decide +kernel, Or.inr ⟨_, jm_g1 217 rfl rfl⟩⟩⟩⟩, trivial⟩
  · exact ⟨⟨0, 12, 0, 0, .int, rfl, by decide, Or.inl ⟨rfl, rfl⟩, Or.inl ⟨rfl, ⟨_, jn_T0, 18, jn_y0, rfl, by decide, jn_i0, jn_o0, jn_n0, rfl, rfl, by decide +kernel, Or.inl (jm_g2 36 rfl rfl)⟩⟩⟩, trivial⟩
  · exact ⟨⟨0, 11, 0, 0, .int, rfl, by decide, Or.inl ⟨rfl, rfl⟩, Or.inl ⟨rfl, ⟨_, jn_T0, 18, jn_y0, rfl, by decide, jn_i0, jn_o0, jn_n0, rfl, rfl, by decide +kernel, Or.inl (jm_g2 35 rfl rfl)⟩⟩⟩, trivial⟩
  · exact ⟨trivial, ⟨190, 2, rfl, fun _ => ⟨jp_Math_max, rfl, ji_Math_max, Or.inl (jm_g4 167 rfl rfl), jm_g3 128 rfl rfl⟩, fun q => absurd q (by decide)⟩⟩
  · exact ⟨⟨0, 10, 0, 0, .int, rfl, by decide, Or.inl ⟨rfl, rfl⟩, Or.inl ⟨rfl, ⟨_, jn_T0, 18, jn_y0, rfl, by decide, jn_i0, jn_o0, jn_n0, rfl, rfl, by decide +kernel, Or.inl (jm_g2 34 rfl rfl)⟩⟩⟩, trivial⟩
  · exact ⟨trivial, ⟨141, 0, 7, rfl, fun _ => ⟨by decide, jp_B_isOver, _, _, rfl, ji_B_isOver, Or.inl (jm_g4 235 rfl rfl), jm_g4 236 rfl rfl, jm_g4 237 rfl rfl, rfl⟩, fun q => absurd q (by decide)⟩⟩
  · exact ⟨⟨7, 6, .long, false, rfl, by decide, ⟨_, jn_T7, 14, jn_y7, rfl, by decide, jn_i7, jn_o7, jn_n7, rfl, rfl, by decide +kernel, Or.inr ⟨_, jm_g1 224 rfl rfl⟩⟩⟩, trivial⟩
  · exact ⟨trivial, ⟨142, 1, 7, rfl, fun _ => ⟨by decide, jp_B_rateTimeBehind, _, _, rfl, ji_B_rateTimeBehind, Or.inl (jm_g4 239 rfl rfl), jm_g5 0 rfl rfl, jm_g5 1 rfl rfl, rfl⟩, fun q => absurd q (by decide)⟩⟩
  · exact ⟨⟨7, 11, .int, false, rfl, by decide, ⟨_, jn_T7, 14, jn_y7, rfl, by decide, jn_i7, jn_o7, jn_n7, rfl, rfl, by decide +kernel, Or.inr ⟨_, jm_g1 232 rfl rfl⟩⟩⟩, trivial⟩
  · exact ⟨⟨7, 12, .int, false, rfl, by decide, ⟨_, jn_T7, 14, jn_y7, rfl, by decide, jn_i7, jn_o7, jn_n7, rfl, rfl, by decide +kernel, Or.inr ⟨_, jm_g1 233 rfl rfl⟩⟩⟩, trivial⟩
  · exact ⟨⟨7, 13, .int, false, rfl, by decide, ⟨_, jn_T7, 14, jn_y7, rfl, by decide, jn_i7, jn_o7, jn_n7, rfl, rfl, by decide +kernel, Or.inr ⟨_, jm_g1 234 rfl rfl⟩⟩⟩, trivial⟩
  · exact ⟨⟨7, 9, .int, false, rfl, by decide, ⟨_, jn_T7, 14, jn_y7, rfl, by decide, jn_i7, jn_o7, jn_n7, rfl, rfl, by decide +kernel, Or.inr ⟨_, jm_g1 229 rfl rfl⟩⟩⟩, trivial⟩
  · exact ⟨⟨0, 14, 0, 0, .int, rfl, by decide, Or.inl ⟨rfl, rfl⟩, Or.inl ⟨rfl, ⟨_, jn_T0, 18, jn_y0, rfl, by decide, jn_i0, jn_o0, jn_n0, rfl, rfl, by decide +kernel, Or.inl (jm_g2 38 rfl rfl)⟩⟩⟩, trivial⟩
  · exact ⟨trivial, ⟨140, 1, 7, rfl, fun _ => ⟨by decide, jp_B_isAheadOf, _, _, rfl, ji_B_isAheadOf, Or.inl (jm_g5 12 rfl rfl), jm_g5 13 rfl rfl, jm_g5 14 rfl rfl, rfl⟩, fun q => absurd q (by decide)⟩⟩
  · exact ⟨⟨7, 7, .long, false, rfl, by decide, ⟨_, jn_T7, 14, jn_y7, rfl, by decide, jn_i7, jn_o7, jn_n7, rfl, rfl, by decide +kernel, Or.inr ⟨_, jm_g1 225 rfl rfl⟩⟩⟩, trivial⟩
  · exact ⟨⟨7, 5, 1, 0, .long, rfl, by decide, Or.inr (Or.inl ⟨rfl, rfl⟩), Or.inl ⟨rfl, ⟨_, jn_T7, 14, jn_y7, rfl, by decide, jn_i7, jn_o7, jn_n7, rfl, rfl, by decide +kernel, Or.inr ⟨_, jm_g1 222 rfl rfl⟩⟩⟩⟩, trivial⟩
  · exact ⟨trivial, ⟨144, 3, 8, rfl, fun _ => ⟨by decide, jp_L_add, _, _, rfl, ji_L_add, Or.inl (jm_g5 20 rfl rfl), jm_g5 21 rfl rfl, jm_g5 22 rfl rfl, rfl⟩, fun q => absurd q (by decide)⟩⟩
def jl_J : List (Instr × List Nat × Value) := jl_J_0 ++ jl_J_1 ++ jl_J_2
theorem js_J (F : jx_SF S dA aL aM adK) (cc : ByteArray) (pc : Nat) : ∀ r ∈ jl_J, jx_si S dA (jx_R1 sc aL aM adK) jx_df "JobHouse" r.1 r.2.1 r.2.2 ∧ jx_sc S jx_P cc "JobHouse" pc r.1 r.2.1 := by
  intro r hr
  simp only [jl_J, List.mem_append] at hr
  rcases hr with (h0 | h1) | h2
  · exact js_J_0 F cc pc r h0
  · exact js_J_1 F cc pc r h1
  · exact js_J_2 F cc pc r h2
def jl_M_0 : List (Instr × List Nat × Value) := [(.invokespecial 1, [9003, 0], .null), (.newarray .byte, [0], .null), (.putfield 7, [9, 1, 4, 1], .null), (.putfield 13, [9, 3, 0, 0], .null), (.newarray .int, [2], .null), (.putfield 17, [9, 8, 4, 1], .null), (.putfield 21, [9, 9, 4, 1], .null), (.multianewarray 24 2, [9, 3], .null), (.putfield 26, [9, 10, 4, 1], .null), (.multianewarray 29 2, [10, 1], .null), (.putfield 31, [9, 11, 4, 1], .null), (.putfield 34, [9, 12, 4, 1], .null), (.putfield 37, [9, 13, 4, 1], .null), (.multianewarray 40 3, [11, 10, 1], .null), (.putfield 42, [9, 14, 4, 1], .null), (.putfield 45, [9, 15, 4, 1], .null), (.newarray .boolean, [1], .null), (.putfield 48, [9, 16, 4, 1], .null), (.multianewarray 52 2, [12, 2], .null), (.putfield 54, [9, 17, 4, 1], .null), (.putfield 57, [9, 18, 4, 1], .null), (.putfield 60, [9, 19, 4, 1], .null), (.anewarray 63, [8], .null), (.ldc 65, [], .ref 5), (.ldc 67, [], .ref 6), (.ldc 69, [], .ref 7), (.ldc 71, [], .ref 8), (.ldc 73, [], .ref 9), (.ldc 75, [], .ref 10), (.ldc 77, [], .ref 11), (.ldc 79, [], .ref 12), (.ldc 81, [], .ref 13), (.ldc 83, [], .ref 14), (.ldc 85, [], .ref 15), (.ldc 87, [], .ref 16), (.putfield 89, [9, 23, 4, 1], .null), (.ldc 93, [], .ref 17), (.ldc 95, [], .ref 18), (.ldc 97, [], .ref 19), (.ldc 99, [], .ref 20), (.ldc 101, [], .ref 21), (.ldc 103, [], .ref 22), (.ldc 105, [], .ref 23), (.putfield 107, [9, 24, 4, 1], .null), (.ldc 110, [], .int 120530), (.putfield 111, [9, 25, 4, 1], .null), (.putfield 114, [9, 26, 4, 1], .null), (.putfield 117, [9, 27, 4, 1], .null), (.putfield 120, [9, 28, 4, 1], .null), (.newarray .long, [3], .null), (.putfield 123, [9, 29, 4, 1], .null), (.putfield 127, [9, 30, 4, 1], .null), (.putfield 130, [9, 31, 4, 1], .null), (.putfield 133, [9, 32, 4, 1], .null), (.putfield 136, [9, 33, 4, 1], .null), (.putfield 139, [9, 34, 4, 1], .null), (.putfield 142, [9, 35, 4, 1], .null), (.putfield 145, [9, 36, 4, 1], .null), (.putfield 148, [9, 37, 4, 1], .null), (.putfield 151, [9, 38, 4, 1], .null)]
theorem js_M_0 (F : jx_SF S dA aL aM adK) (cc : ByteArray) (pc : Nat) : ∀ r ∈ jl_M_0, jx_si S dA (jx_R1 sc aL aM adK) jx_df "JobHouseModel" r.1 r.2.1 r.2.2 ∧ jx_sc S jx_P cc "JobHouseModel" pc r.1 r.2.1 := by
  intro r hr
  simp only [jl_M_0, List.mem_cons, List.not_mem_nil, or_false] at hr
  rcases hr with rfl | rfl | rfl | rfl | rfl | rfl | rfl | rfl | rfl | rfl | rfl | rfl | rfl | rfl | rfl | rfl | rfl | rfl | rfl | rfl | rfl | rfl | rfl | rfl | rfl | rfl | rfl | rfl | rfl | rfl | rfl | rfl | rfl | rfl | rfl | rfl | rfl | rfl | rfl | rfl | rfl | rfl | rfl | rfl | rfl | rfl | rfl | rfl | rfl | rfl | rfl | rfl | rfl | rfl | rfl | rfl | rfl | rfl | rfl | rfl
  · exact ⟨trivial, ⟨9003, 0, rfl, fun q => absurd q (by decide), fun _ => ⟨rfl, rfl, jm_g5 70 rfl rfl, jm_g1 34 rfl rfl, jm_g1 35 rfl rfl⟩⟩⟩
  · exact ⟨⟨0, _, rfl, by decide, rfl, rfl, jm_g1 58 rfl rfl⟩, trivial⟩
  · exact ⟨⟨9, 1, 4, 1, .array .byte, rfl, by decide, Or.inr (Or.inr (Or.inr ⟨rfl, Or.inr ⟨_, rfl⟩⟩)), Or.inr ⟨rfl, ⟨jn_T9, 50, jn_y9, rfl, by decide, jn_i9, jn_o9, jn_n9, rfl, rfl, by decide +kernel, jm_g5 102 rfl rfl⟩⟩⟩, trivial⟩
  · exact ⟨⟨9, 3, 0, 0, .int, rfl, by decide, Or.inl ⟨rfl, rfl⟩, Or.inl ⟨rfl, ⟨_, jn_T9, 50, jn_y9, rfl, by decide, jn_i9, jn_o9, jn_n9, rfl, rfl, by decide +kernel, Or.inl (jm_g5 104 rfl rfl)⟩⟩⟩, trivial⟩
  · exact ⟨⟨2, _, rfl, by decide, rfl, rfl, jm_g1 78 rfl rfl⟩, trivial⟩
  · exact ⟨⟨9, 8, 4, 1, .array .int, rfl, by decide, Or.inr (Or.inr (Or.inr ⟨rfl, Or.inr ⟨_, rfl⟩⟩)), Or.inr ⟨rfl, ⟨jn_T9, 50, jn_y9, rfl, by decide, jn_i9, jn_o9, jn_n9, rfl, rfl, by decide +kernel, jm_g5 109 rfl rfl⟩⟩⟩, trivial⟩
  · exact ⟨⟨9, 9, 4, 1, .array .int, rfl, by decide, Or.inr (Or.inr (Or.inr ⟨rfl, Or.inr ⟨_, rfl⟩⟩)), Or.inr ⟨rfl, ⟨jn_T9, 50, jn_y9, rfl, by decide, jn_i9, jn_o9, jn_n9, rfl, rfl, by decide +kernel, jm_g5 110 rfl rfl⟩⟩⟩, trivial⟩
  · exact ⟨Or.inl ⟨9, 3, _, rfl, rfl, by decide, by decide, by decide, jm_g5 71 rfl rfl, F.2.2.2.2.2.2.2.1.1, F.2.2.2.2.2.2.2.1.2⟩, trivial⟩
  · exact ⟨⟨9, 10, 4, 1, .array (.array .long), rfl, by decide, Or.inr (Or.inr (Or.inr ⟨rfl, Or.inr ⟨_, rfl⟩⟩)), Or.inr ⟨rfl, ⟨jn_T9, 50, jn_y9, rfl, by decide, jn_i9, jn_o9, jn_n9, rfl, rfl, by decide +kernel, jm_g5 111 rfl rfl⟩⟩⟩, trivial⟩
  · exact ⟨Or.inl ⟨10, 1, _, rfl, rfl, by decide, by decide, by decide, jm_g5 73 rfl rfl, F.2.2.2.2.2.2.2.2.1.1, F.2.2.2.2.2.2.2.2.1.2⟩, trivial⟩
  · exact ⟨⟨9, 11, 4, 1, .array (.array .boolean), rfl, by decide, Or.inr (Or.inr (Or.inr ⟨rfl, Or.inr ⟨_, rfl⟩⟩)), Or.inr ⟨rfl, ⟨jn_T9, 50, jn_y9, rfl, by decide, jn_i9, jn_o9, jn_n9, rfl, rfl, by decide +kernel, jm_g5 112 rfl rfl⟩⟩⟩, trivial⟩
  · exact ⟨⟨9, 12, 4, 1, .array .int, rfl, by decide, Or.inr (Or.inr (Or.inr ⟨rfl, Or.inr ⟨_, rfl⟩⟩)), Or.inr ⟨rfl, ⟨jn_T9, 50, jn_y9, rfl, by decide, jn_i9, jn_o9, jn_n9, rfl, rfl, by decide +kernel, jm_g5 113 rfl rfl⟩⟩⟩, trivial⟩
  · exact ⟨⟨9, 13, 4, 1, .array .int, rfl, by decide, Or.inr (Or.inr (Or.inr ⟨rfl, Or.inr ⟨_, rfl⟩⟩)), Or.inr ⟨rfl, ⟨jn_T9, 50, jn_y9, rfl, by decide, jn_i9, jn_o9, jn_n9, rfl, rfl, by decide +kernel, jm_g5 114 rfl rfl⟩⟩⟩, trivial⟩
  · exact ⟨Or.inr ⟨11, 10, 1, _, rfl, rfl, by decide, by decide, by decide, by decide, by decide, jm_g5 75 rfl rfl, F.2.2.2.2.2.2.2.2.2.1, F.2.2.2.2.2.2.2.2.2.2, F.2.2.2.2.2.2.2.2.1.2⟩, trivial⟩
  · exact ⟨⟨9, 14, 4, 1, .array (.array (.array .boolean)), rfl, by decide, Or.inr (Or.inr (Or.inr ⟨rfl, Or.inr ⟨_, rfl⟩⟩)), Or.inr ⟨rfl, ⟨jn_T9, 50, jn_y9, rfl, by decide, jn_i9, jn_o9, jn_n9, rfl, rfl, by decide +kernel, jm_g5 115 rfl rfl⟩⟩⟩, trivial⟩
  · exact ⟨⟨9, 15, 4, 1, .array (.array .boolean), rfl, by decide, Or.inr (Or.inr (Or.inr ⟨rfl, Or.inr ⟨_, rfl⟩⟩)), Or.inr ⟨rfl, ⟨jn_T9, 50, jn_y9, rfl, by decide, jn_i9, jn_o9, jn_n9, rfl, rfl, by decide +kernel, jm_g5 116 rfl rfl⟩⟩⟩, trivial⟩
  · exact ⟨⟨1, _, rfl, by decide, rfl, rfl, jm_g6 12 rfl rfl⟩, trivial⟩
  · exact ⟨⟨9, 16, 4, 1, .array .boolean, rfl, by decide, Or.inr (Or.inr (Or.inr ⟨rfl, Or.inr ⟨_, rfl⟩⟩)), Or.inr ⟨rfl, ⟨jn_T9, 50, jn_y9, rfl, by decide, jn_i9, jn_o9, jn_n9, rfl, rfl, by decide +kernel, jm_g5 117 rfl rfl⟩⟩⟩, trivial⟩
  · exact ⟨Or.inl ⟨12, 2, _, rfl, rfl, by decide, by decide, by decide, jm_g5 77 rfl rfl, F.2.2.2.2.2.2.1.1, F.2.2.2.2.2.2.1.2⟩, trivial⟩
  · exact ⟨⟨9, 17, 4, 1, .array (.array .int), rfl, by decide, Or.inr (Or.inr (Or.inr ⟨rfl, Or.inr ⟨_, rfl⟩⟩)), Or.inr ⟨rfl, ⟨jn_T9, 50, jn_y9, rfl, by decide, jn_i9, jn_o9, jn_n9, rfl, rfl, by decide +kernel, jm_g5 118 rfl rfl⟩⟩⟩, trivial⟩
  · exact ⟨⟨9, 18, 4, 1, .array (.array .int), rfl, by decide, Or.inr (Or.inr (Or.inr ⟨rfl, Or.inr ⟨_, rfl⟩⟩)), Or.inr ⟨rfl, ⟨jn_T9, 50, jn_y9, rfl, by decide, jn_i9, jn_o9, jn_n9, rfl, rfl, by decide +kernel, jm_g5 119 rfl rfl⟩⟩⟩, trivial⟩
  · exact ⟨⟨9, 19, 4, 1, .array (.array .int), rfl, by decide, Or.inr (Or.inr (Or.inr ⟨rfl, Or.inr ⟨_, rfl⟩⟩)), Or.inr ⟨rfl, ⟨jn_T9, 50, jn_y9, rfl, by decide, jn_i9, jn_o9, jn_n9, rfl, rfl, by decide +kernel, jm_g5 120 rfl rfl⟩⟩⟩, trivial⟩
  · exact ⟨⟨8, _, rfl, by decide, rfl, jm_g5 79 rfl rfl, F.2.2.2.2.2.1 _ (by decide)⟩, trivial⟩
  · exact ⟨Or.inr ⟨5, adK 2, "JAN", rfl, rfl, F.2.2.1 2 _ _ _ (by decide +kernel)⟩, trivial⟩
  · exact ⟨Or.inr ⟨6, adK 3, "FEB", rfl, rfl, F.2.2.1 3 _ _ _ (by decide +kernel)⟩, trivial⟩
  · exact ⟨Or.inr ⟨7, adK 4, "MAR", rfl, rfl, F.2.2.1 4 _ _ _ (by decide +kernel)⟩, trivial⟩
  · exact ⟨Or.inr ⟨8, adK 5, "APR", rfl, rfl, F.2.2.1 5 _ _ _ (by decide +kernel)⟩, trivial⟩
  · exact ⟨Or.inr ⟨9, adK 6, "MAY", rfl, rfl, F.2.2.1 6 _ _ _ (by decide +kernel)⟩, trivial⟩
  · exact ⟨Or.inr ⟨10, adK 7, "JUN", rfl, rfl, F.2.2.1 7 _ _ _ (by decide +kernel)⟩, trivial⟩
  · exact ⟨Or.inr ⟨11, adK 8, "JUL", rfl, rfl, F.2.2.1 8 _ _ _ (by decide +kernel)⟩, trivial⟩
  · exact ⟨Or.inr ⟨12, adK 9, "AUG", rfl, rfl, F.2.2.1 9 _ _ _ (by decide +kernel)⟩, trivial⟩
  · exact ⟨Or.inr ⟨13, adK 10, "SEP", rfl, rfl, F.2.2.1 10 _ _ _ (by decide +kernel)⟩, trivial⟩
  · exact ⟨Or.inr ⟨14, adK 11, "OCT", rfl, rfl, F.2.2.1 11 _ _ _ (by decide +kernel)⟩, trivial⟩
  · exact ⟨Or.inr ⟨15, adK 12, "NOV", rfl, rfl, F.2.2.1 12 _ _ _ (by decide +kernel)⟩, trivial⟩
  · exact ⟨Or.inr ⟨16, adK 13, "DEC", rfl, rfl, F.2.2.1 13 _ _ _ (by decide +kernel)⟩, trivial⟩
  · exact ⟨⟨9, 23, 4, 1, .array (.object "java/lang/String"), rfl, by decide, Or.inr (Or.inr (Or.inr ⟨rfl, Or.inr ⟨_, rfl⟩⟩)), Or.inr ⟨rfl, ⟨jn_T9, 50, jn_y9, rfl, by decide, jn_i9, jn_o9, jn_n9, rfl, rfl, by decide +kernel, jm_g5 124 rfl rfl⟩⟩⟩, trivial⟩
  · exact ⟨Or.inr ⟨17, adK 14, "SUN", rfl, rfl, F.2.2.1 14 _ _ _ (by decide +kernel)⟩, trivial⟩
  · exact ⟨Or.inr ⟨18, adK 15, "MON", rfl, rfl, F.2.2.1 15 _ _ _ (by decide +kernel)⟩, trivial⟩
  · exact ⟨Or.inr ⟨19, adK 16, "TUE", rfl, rfl, F.2.2.1 16 _ _ _ (by decide +kernel)⟩, trivial⟩
  · exact ⟨Or.inr ⟨20, adK 17, "WED", rfl, rfl, F.2.2.1 17 _ _ _ (by decide +kernel)⟩, trivial⟩
  · exact ⟨Or.inr ⟨21, adK 18, "THU", rfl, rfl, F.2.2.1 18 _ _ _ (by decide +kernel)⟩, trivial⟩
  · exact ⟨Or.inr ⟨22, adK 19, "FRI", rfl, rfl, F.2.2.1 19 _ _ _ (by decide +kernel)⟩, trivial⟩
  · exact ⟨Or.inr ⟨23, adK 20, "SAT", rfl, rfl, F.2.2.1 20 _ _ _ (by decide +kernel)⟩, trivial⟩
  · exact ⟨⟨9, 24, 4, 1, .array (.object "java/lang/String"), rfl, by decide, Or.inr (Or.inr (Or.inr ⟨rfl, Or.inr ⟨_, rfl⟩⟩)), Or.inr ⟨rfl, ⟨jn_T9, 50, jn_y9, rfl, by decide, jn_i9, jn_o9, jn_n9, rfl, rfl, by decide +kernel, jm_g5 125 rfl rfl⟩⟩⟩, trivial⟩
  · exact ⟨Or.inl ⟨_, rfl, jm_g5 100 rfl rfl⟩, trivial⟩
  · exact ⟨⟨9, 25, 4, 1, .array (.array .boolean), rfl, by decide, Or.inr (Or.inr (Or.inr ⟨rfl, Or.inr ⟨_, rfl⟩⟩)), Or.inr ⟨rfl, ⟨jn_T9, 50, jn_y9, rfl, by decide, jn_i9, jn_o9, jn_n9, rfl, rfl, by decide +kernel, jm_g5 126 rfl rfl⟩⟩⟩, trivial⟩
  · exact ⟨⟨9, 26, 4, 1, .array .int, rfl, by decide, Or.inr (Or.inr (Or.inr ⟨rfl, Or.inr ⟨_, rfl⟩⟩)), Or.inr ⟨rfl, ⟨jn_T9, 50, jn_y9, rfl, by decide, jn_i9, jn_o9, jn_n9, rfl, rfl, by decide +kernel, jm_g5 127 rfl rfl⟩⟩⟩, trivial⟩
  · exact ⟨⟨9, 27, 4, 1, .array .int, rfl, by decide, Or.inr (Or.inr (Or.inr ⟨rfl, Or.inr ⟨_, rfl⟩⟩)), Or.inr ⟨rfl, ⟨jn_T9, 50, jn_y9, rfl, by decide, jn_i9, jn_o9, jn_n9, rfl, rfl, by decide +kernel, jm_g5 128 rfl rfl⟩⟩⟩, trivial⟩
  · exact ⟨⟨9, 28, 4, 1, .array .int, rfl, by decide, Or.inr (Or.inr (Or.inr ⟨rfl, Or.inr ⟨_, rfl⟩⟩)), Or.inr ⟨rfl, ⟨jn_T9, 50, jn_y9, rfl, by decide, jn_i9, jn_o9, jn_n9, rfl, rfl, by decide +kernel, jm_g5 129 rfl rfl⟩⟩⟩, trivial⟩
  · exact ⟨⟨3, _, rfl, by decide, rfl, rfl, jm_g1 107 rfl rfl⟩, trivial⟩
  · exact ⟨⟨9, 29, 4, 1, .array .long, rfl, by decide, Or.inr (Or.inr (Or.inr ⟨rfl, Or.inr ⟨_, rfl⟩⟩)), Or.inr ⟨rfl, ⟨jn_T9, 50, jn_y9, rfl, by decide, jn_i9, jn_o9, jn_n9, rfl, rfl, by decide +kernel, jm_g5 130 rfl rfl⟩⟩⟩, trivial⟩
  · exact ⟨⟨9, 30, 4, 1, .array .long, rfl, by decide, Or.inr (Or.inr (Or.inr ⟨rfl, Or.inr ⟨_, rfl⟩⟩)), Or.inr ⟨rfl, ⟨jn_T9, 50, jn_y9, rfl, by decide, jn_i9, jn_o9, jn_n9, rfl, rfl, by decide +kernel, jm_g5 131 rfl rfl⟩⟩⟩, trivial⟩
  · exact ⟨⟨9, 31, 4, 1, .array .long, rfl, by decide, Or.inr (Or.inr (Or.inr ⟨rfl, Or.inr ⟨_, rfl⟩⟩)), Or.inr ⟨rfl, ⟨jn_T9, 50, jn_y9, rfl, by decide, jn_i9, jn_o9, jn_n9, rfl, rfl, by decide +kernel, jm_g5 132 rfl rfl⟩⟩⟩, trivial⟩
  · exact ⟨⟨9, 32, 4, 1, .array .long, rfl, by decide, Or.inr (Or.inr (Or.inr ⟨rfl, Or.inr ⟨_, rfl⟩⟩)), Or.inr ⟨rfl, ⟨jn_T9, 50, jn_y9, rfl, by decide, jn_i9, jn_o9, jn_n9, rfl, rfl, by decide +kernel, jm_g5 133 rfl rfl⟩⟩⟩, trivial⟩
  · exact ⟨⟨9, 33, 4, 1, .array .long, rfl, by decide, Or.inr (Or.inr (Or.inr ⟨rfl, Or.inr ⟨_, rfl⟩⟩)), Or.inr ⟨rfl, ⟨jn_T9, 50, jn_y9, rfl, by decide, jn_i9, jn_o9, jn_n9, rfl, rfl, by decide +kernel, jm_g5 134 rfl rfl⟩⟩⟩, trivial⟩
  · exact ⟨⟨9, 34, 4, 1, .array .long, rfl, by decide, Or.inr (Or.inr (Or.inr ⟨rfl, Or.inr ⟨_, rfl⟩⟩)), Or.inr ⟨rfl, ⟨jn_T9, 50, jn_y9, rfl, by decide, jn_i9, jn_o9, jn_n9, rfl, rfl, by decide +kernel, jm_g5 135 rfl rfl⟩⟩⟩, trivial⟩
  · exact ⟨⟨9, 35, 4, 1, .array .int, rfl, by decide, Or.inr (Or.inr (Or.inr ⟨rfl, Or.inr ⟨_, rfl⟩⟩)), Or.inr ⟨rfl, ⟨jn_T9, 50, jn_y9, rfl, by decide, jn_i9, jn_o9, jn_n9, rfl, rfl, by decide +kernel, jm_g5 136 rfl rfl⟩⟩⟩, trivial⟩
  · exact ⟨⟨9, 36, 4, 1, .array .int, rfl, by decide, Or.inr (Or.inr (Or.inr ⟨rfl, Or.inr ⟨_, rfl⟩⟩)), Or.inr ⟨rfl, ⟨jn_T9, 50, jn_y9, rfl, by decide, jn_i9, jn_o9, jn_n9, rfl, rfl, by decide +kernel, jm_g5 137 rfl rfl⟩⟩⟩, trivial⟩
  · exact ⟨⟨9, 37, 4, 1, .array .int, rfl, by decide, Or.inr (Or.inr (Or.inr ⟨rfl, Or.inr ⟨_, rfl⟩⟩)), Or.inr ⟨rfl, ⟨jn_T9, 50, jn_y9, rfl, by decide, jn_i9, jn_o9, jn_n9, rfl, rfl, by decide +kernel, jm_g5 138 rfl rfl⟩⟩⟩, trivial⟩
  · exact ⟨⟨9, 38, 4, 1, .array .int, rfl, by decide, Or.inr (Or.inr (Or.inr ⟨rfl, Or.inr ⟨_, rfl⟩⟩)), Or.inr ⟨rfl, ⟨jn_T9, 50, jn_y9, rfl, by decide, jn_i9, jn_o9, jn_n9, rfl, rfl, by decide +kernel, jm_g5 139 rfl rfl⟩⟩⟩, trivial⟩
def jl_M_1 : List (Instr × List Nat × Value) := [(.putfield 154, [9, 39, 4, 1], .null), (.putfield 157, [9, 40, 4, 1], .null), (.putfield 160, [9, 42, 0, 0], .null), (.putfield 163, [9, 46, 4, 1], .null), (.putfield 166, [9, 47, 4, 1], .null), (.putfield 169, [9, 48, 4, 1], .null), (.getfield 34, [9, 12], .null), (.getfield 172, [9, 0], .null), (.putfield 172, [9, 0, 0, 0], .null), (.invokestatic 175, [39, 1], .null), (.invokestatic 179, [40, 2], .null), (.invokestatic 183, [186, 2], .null), (.putfield 188, [9, 4, 0, 0], .null), (.getfield 188, [9, 4], .null), (.invokestatic 191, [41, 2], .null), (.putfield 194, [9, 5, 0, 0], .null), (.getfield 194, [9, 5], .null), (.putfield 197, [9, 6, 0, 0], .null), (.invokestatic 200, [188, 2], .null), (.getfield 206, [9, 7], .null), (.getfield 209, [9, 2], .null), (.getfield 7, [9, 1], .null), (.invokevirtual 212, [45, 0, 9], .null), (.invokevirtual 216, [44, 1, 9], .null), (.putfield 206, [9, 7, 0, 0], .null), (.invokestatic 220, [46, 1], .null), (.ldc 223, [], .int 100000), (.invokestatic 224, [192, 2], .null), (.invokevirtual 227, [47, 1, 9], .null), (.getfield 37, [9, 13], .null), (.invokevirtual 230, [49, 2, 9], .null), (.invokestatic 233, [43, 1], .null), (.getfield 26, [9, 10], .null), (.getfield 31, [9, 11], .null), (.invokevirtual 237, [54, 1, 9], .null), (.putfield 209, [9, 2, 0, 0], .null), (.invokevirtual 240, [48, 0, 9], .null), (.invokevirtual 243, [50, 1, 9], .null), (.getfield 17, [9, 8], .null), (.getfield 21, [9, 9], .null), (.invokevirtual 245, [51, 2, 9], .null), (.ldc2_w 248, [], .long 86400000), (.ldc2_w 250, [], .long 60000), (.invokevirtual 252, [52, 3, 9], .null), (.invokestatic 256, [57, 1], .null), (.getfield 89, [9, 23], .null), (.getfield 107, [9, 24], .null), (.invokevirtual 259, [9001, 1, 300], .null), (.getstatic 263, [], .ref 1), (.getstatic 266, [], .ref 2), (.getfield 45, [9, 15], .null), (.invokevirtual 269, [58, 1, 9], .null), (.invokevirtual 272, [60, 2, 9], .null), (.putfield 276, [9, 20, 0, 0], .null), (.putfield 279, [9, 21, 0, 0], .null), (.putfield 282, [9, 22, 0, 0], .null), (.invokevirtual 285, [59, 1, 9], .null), (.invokevirtual 288, [61, 1, 9], .null), (.getfield 276, [9, 20], .null), (.getfield 279, [9, 21], .null)]
theorem js_M_1 (F : jx_SF S dA aL aM adK) (cc : ByteArray) (pc : Nat) : ∀ r ∈ jl_M_1, jx_si S dA (jx_R1 sc aL aM adK) jx_df "JobHouseModel" r.1 r.2.1 r.2.2 ∧ jx_sc S jx_P cc "JobHouseModel" pc r.1 r.2.1 := by
  intro r hr
  simp only [jl_M_1, List.mem_cons, List.not_mem_nil, or_false] at hr
  rcases hr with rfl | rfl | rfl | rfl | rfl | rfl | rfl | rfl | rfl | rfl | rfl | rfl | rfl | rfl | rfl | rfl | rfl | rfl | rfl | rfl | rfl | rfl | rfl | rfl | rfl | rfl | rfl | rfl | rfl | rfl | rfl | rfl | rfl | rfl | rfl | rfl | rfl | rfl | rfl | rfl | rfl | rfl | rfl | rfl | rfl | rfl | rfl | rfl | rfl | rfl | rfl | rfl | rfl | rfl | rfl | rfl | rfl | rfl | rfl | rfl
  · exact ⟨⟨9, 39, 4, 1, .array .int, rfl, by decide, Or.inr (Or.inr (Or.inr ⟨rfl, Or.inr ⟨_, rfl⟩⟩)), Or.inr ⟨rfl, ⟨jn_T9, 50, jn_y9, rfl, by decide, jn_i9, jn_o9, jn_n9, rfl, rfl, by decide +kernel, jm_g5 140 rfl rfl⟩⟩⟩, trivial⟩
  · exact ⟨⟨9, 40, 4, 1, .array .int, rfl, by decide, Or.inr (Or.inr (Or.inr ⟨rfl, Or.inr ⟨_, rfl⟩⟩)), Or.inr ⟨rfl, ⟨jn_T9, 50, jn_y9, rfl, by decide, jn_i9, jn_o9, jn_n9, rfl, rfl, by decide +kernel, jm_g5 141 rfl rfl⟩⟩⟩, trivial⟩
  · exact ⟨⟨9, 42, 0, 0, .int, rfl, by decide, Or.inl ⟨rfl, rfl⟩, Or.inl ⟨rfl, ⟨_, jn_T9, 50, jn_y9, rfl, by decide, jn_i9, jn_o9, jn_n9, rfl, rfl, by decide +kernel, Or.inl (jm_g5 143 rfl rfl)⟩⟩⟩, trivial⟩
  · exact ⟨⟨9, 46, 4, 1, .array .long, rfl, by decide, Or.inr (Or.inr (Or.inr ⟨rfl, Or.inr ⟨_, rfl⟩⟩)), Or.inr ⟨rfl, ⟨jn_T9, 50, jn_y9, rfl, by decide, jn_i9, jn_o9, jn_n9, rfl, rfl, by decide +kernel, jm_g5 147 rfl rfl⟩⟩⟩, trivial⟩
  · exact ⟨⟨9, 47, 4, 1, .array .int, rfl, by decide, Or.inr (Or.inr (Or.inr ⟨rfl, Or.inr ⟨_, rfl⟩⟩)), Or.inr ⟨rfl, ⟨jn_T9, 50, jn_y9, rfl, by decide, jn_i9, jn_o9, jn_n9, rfl, rfl, by decide +kernel, jm_g5 148 rfl rfl⟩⟩⟩, trivial⟩
  · exact ⟨⟨9, 48, 4, 1, .array .long, rfl, by decide, Or.inr (Or.inr (Or.inr ⟨rfl, Or.inr ⟨_, rfl⟩⟩)), Or.inr ⟨rfl, ⟨jn_T9, 50, jn_y9, rfl, by decide, jn_i9, jn_o9, jn_n9, rfl, rfl, by decide +kernel, jm_g5 149 rfl rfl⟩⟩⟩, trivial⟩
  · exact ⟨⟨9, 12, .array .int, true, rfl, by decide, ⟨_, jn_T9, 50, jn_y9, rfl, by decide, jn_i9, jn_o9, jn_n9, rfl, rfl, by decide +kernel, Or.inl (jm_g5 113 rfl rfl)⟩⟩, trivial⟩
  · exact ⟨⟨9, 0, .int, false, rfl, by decide, ⟨_, jn_T9, 50, jn_y9, rfl, by decide, jn_i9, jn_o9, jn_n9, rfl, rfl, by decide +kernel, Or.inl (jm_g5 101 rfl rfl)⟩⟩, trivial⟩
  · exact ⟨⟨9, 0, 0, 0, .int, rfl, by decide, Or.inl ⟨rfl, rfl⟩, Or.inl ⟨rfl, ⟨_, jn_T9, 50, jn_y9, rfl, by decide, jn_i9, jn_o9, jn_n9, rfl, rfl, by decide +kernel, Or.inl (jm_g5 101 rfl rfl)⟩⟩⟩, trivial⟩
  · exact ⟨trivial, ⟨39, 1, rfl, fun _ => ⟨jp_M_leap, rfl, ji_M_leap, Or.inl (jm_g6 66 rfl rfl), jm_g6 67 rfl rfl⟩, fun q => absurd q (by decide)⟩⟩
  · exact ⟨trivial, ⟨40, 2, rfl, fun _ => ⟨jp_M_length, rfl, ji_M_length, Or.inl (jm_g6 63 rfl rfl), jm_g6 64 rfl rfl⟩, fun q => absurd q (by decide)⟩⟩
  · exact ⟨trivial, ⟨186, 2, rfl, fun _ => ⟨jp_Math_floorDiv, rfl, ji_Math_floorDiv, Or.inl (jm_g6 155 rfl rfl), jm_g3 207 rfl rfl⟩, fun q => absurd q (by decide)⟩⟩
  · exact ⟨⟨9, 4, 0, 0, .int, rfl, by decide, Or.inl ⟨rfl, rfl⟩, Or.inl ⟨rfl, ⟨_, jn_T9, 50, jn_y9, rfl, by decide, jn_i9, jn_o9, jn_n9, rfl, rfl, by decide +kernel, Or.inl (jm_g5 105 rfl rfl)⟩⟩⟩, trivial⟩
  · exact ⟨⟨9, 4, .int, false, rfl, by decide, ⟨_, jn_T9, 50, jn_y9, rfl, by decide, jn_i9, jn_o9, jn_n9, rfl, rfl, by decide +kernel, Or.inl (jm_g5 105 rfl rfl)⟩⟩, trivial⟩
  · exact ⟨trivial, ⟨41, 2, rfl, fun _ => ⟨jp_M_number, rfl, ji_M_number, Or.inl (jm_g6 60 rfl rfl), jm_g6 61 rfl rfl⟩, fun q => absurd q (by decide)⟩⟩
  · exact ⟨⟨9, 5, 0, 0, .int, rfl, by decide, Or.inl ⟨rfl, rfl⟩, Or.inl ⟨rfl, ⟨_, jn_T9, 50, jn_y9, rfl, by decide, jn_i9, jn_o9, jn_n9, rfl, rfl, by decide +kernel, Or.inl (jm_g5 106 rfl rfl)⟩⟩⟩, trivial⟩
  · exact ⟨⟨9, 5, .int, false, rfl, by decide, ⟨_, jn_T9, 50, jn_y9, rfl, by decide, jn_i9, jn_o9, jn_n9, rfl, rfl, by decide +kernel, Or.inl (jm_g5 106 rfl rfl)⟩⟩, trivial⟩
  · exact ⟨⟨9, 6, 0, 0, .int, rfl, by decide, Or.inl ⟨rfl, rfl⟩, Or.inl ⟨rfl, ⟨_, jn_T9, 50, jn_y9, rfl, by decide, jn_i9, jn_o9, jn_n9, rfl, rfl, by decide +kernel, Or.inl (jm_g5 107 rfl rfl)⟩⟩⟩, trivial⟩
  · exact ⟨trivial, ⟨188, 2, rfl, fun _ => ⟨jp_Math_floorMod, rfl, ji_Math_floorMod, Or.inl (jm_g6 72 rfl rfl), jm_g3 227 rfl rfl⟩, fun q => absurd q (by decide)⟩⟩
  · exact ⟨⟨9, 7, .int, false, rfl, by decide, ⟨_, jn_T9, 50, jn_y9, rfl, by decide, jn_i9, jn_o9, jn_n9, rfl, rfl, by decide +kernel, Or.inl (jm_g5 108 rfl rfl)⟩⟩, trivial⟩
  · exact ⟨⟨9, 2, .int, false, rfl, by decide, ⟨_, jn_T9, 50, jn_y9, rfl, by decide, jn_i9, jn_o9, jn_n9, rfl, rfl, by decide +kernel, Or.inl (jm_g5 103 rfl rfl)⟩⟩, trivial⟩
  · exact ⟨⟨9, 1, .array .byte, true, rfl, by decide, ⟨_, jn_T9, 50, jn_y9, rfl, by decide, jn_i9, jn_o9, jn_n9, rfl, rfl, by decide +kernel, Or.inl (jm_g5 102 rfl rfl)⟩⟩, trivial⟩
  · exact ⟨trivial, ⟨45, 0, 9, rfl, fun _ => ⟨by decide, jp_M_peek, _, _, rfl, ji_M_peek, Or.inl (jm_g6 26 rfl rfl), jm_g6 28 rfl rfl, jm_g0 24 rfl rfl, rfl⟩, fun q => absurd q (by decide)⟩⟩
  · exact ⟨trivial, ⟨44, 1, 9, rfl, fun _ => ⟨by decide, jp_M_bad, _, _, rfl, ji_M_bad, Or.inl (jm_g6 30 rfl rfl), jm_g6 32 rfl rfl, jm_g0 25 rfl rfl, rfl⟩, fun q => absurd q (by decide)⟩⟩
  · exact ⟨⟨9, 7, 0, 0, .int, rfl, by decide, Or.inl ⟨rfl, rfl⟩, Or.inl ⟨rfl, ⟨_, jn_T9, 50, jn_y9, rfl, by decide, jn_i9, jn_o9, jn_n9, rfl, rfl, by decide +kernel, Or.inl (jm_g5 108 rfl rfl)⟩⟩⟩, trivial⟩
  · exact ⟨trivial, ⟨46, 1, rfl, fun _ => ⟨jp_M_digit, rfl, ji_M_digit, Or.inl (jm_g6 39 rfl rfl), jm_g6 40 rfl rfl⟩, fun q => absurd q (by decide)⟩⟩
  · exact ⟨Or.inl ⟨_, rfl, jm_g6 42 rfl rfl⟩, trivial⟩
  · exact ⟨trivial, ⟨192, 2, rfl, fun _ => ⟨jp_Math_min, rfl, ji_Math_min, Or.inl (jm_g6 43 rfl rfl), jm_g2 225 rfl rfl⟩, fun q => absurd q (by decide)⟩⟩
  · exact ⟨trivial, ⟨47, 1, 9, rfl, fun _ => ⟨by decide, jp_M_expect, _, _, rfl, ji_M_expect, Or.inl (jm_g6 52 rfl rfl), jm_g6 54 rfl rfl, jm_g0 29 rfl rfl, rfl⟩, fun q => absurd q (by decide)⟩⟩
  · exact ⟨⟨9, 13, .array .int, true, rfl, by decide, ⟨_, jn_T9, 50, jn_y9, rfl, by decide, jn_i9, jn_o9, jn_n9, rfl, rfl, by decide +kernel, Or.inl (jm_g5 114 rfl rfl)⟩⟩, trivial⟩
  · exact ⟨trivial, ⟨49, 2, 9, rfl, fun _ => ⟨by decide, jp_M_ranged, _, _, rfl, ji_M_ranged, Or.inl (jm_g6 35 rfl rfl), jm_g6 37 rfl rfl, jm_g0 26 rfl rfl, rfl⟩, fun q => absurd q (by decide)⟩⟩
  · exact ⟨trivial, ⟨43, 1, rfl, fun _ => ⟨jp_M_weekday, rfl, ji_M_weekday, Or.inl (jm_g6 69 rfl rfl), jm_g6 70 rfl rfl⟩, fun q => absurd q (by decide)⟩⟩
  · exact ⟨⟨9, 10, .array (.array .long), true, rfl, by decide, ⟨_, jn_T9, 50, jn_y9, rfl, by decide, jn_i9, jn_o9, jn_n9, rfl, rfl, by decide +kernel, Or.inl (jm_g5 111 rfl rfl)⟩⟩, trivial⟩
  · exact ⟨⟨9, 11, .array (.array .boolean), true, rfl, by decide, ⟨_, jn_T9, 50, jn_y9, rfl, by decide, jn_i9, jn_o9, jn_n9, rfl, rfl, by decide +kernel, Or.inl (jm_g5 112 rfl rfl)⟩⟩, trivial⟩
  · exact ⟨trivial, ⟨54, 1, 9, rfl, fun _ => ⟨by decide, jp_M_readZone, _, _, rfl, ji_M_readZone, Or.inl (jm_g6 22 rfl rfl), jm_g6 24 rfl rfl, jm_g0 23 rfl rfl, rfl⟩, fun q => absurd q (by decide)⟩⟩
  · exact ⟨⟨9, 2, 0, 0, .int, rfl, by decide, Or.inl ⟨rfl, rfl⟩, Or.inl ⟨rfl, ⟨_, jn_T9, 50, jn_y9, rfl, by decide, jn_i9, jn_o9, jn_n9, rfl, rfl, by decide +kernel, Or.inl (jm_g5 103 rfl rfl)⟩⟩⟩, trivial⟩
  · exact ⟨trivial, ⟨48, 0, 9, rfl, fun _ => ⟨by decide, jp_M_blanks, _, _, rfl, ji_M_blanks, Or.inl (jm_g6 44 rfl rfl), jm_g6 46 rfl rfl, jm_g0 27 rfl rfl, rfl⟩, fun q => absurd q (by decide)⟩⟩
  · exact ⟨trivial, ⟨50, 1, 9, rfl, fun _ => ⟨by decide, jp_M_rule, _, _, rfl, ji_M_rule, Or.inl (jm_g6 48 rfl rfl), jm_g6 50 rfl rfl, jm_g0 28 rfl rfl, rfl⟩, fun q => absurd q (by decide)⟩⟩
  · exact ⟨⟨9, 8, .array .int, true, rfl, by decide, ⟨_, jn_T9, 50, jn_y9, rfl, by decide, jn_i9, jn_o9, jn_n9, rfl, rfl, by decide +kernel, Or.inl (jm_g5 109 rfl rfl)⟩⟩, trivial⟩
  · exact ⟨⟨9, 9, .array .int, true, rfl, by decide, ⟨_, jn_T9, 50, jn_y9, rfl, by decide, jn_i9, jn_o9, jn_n9, rfl, rfl, by decide +kernel, Or.inl (jm_g5 110 rfl rfl)⟩⟩, trivial⟩
  · exact ⟨trivial, ⟨51, 2, 9, rfl, fun _ => ⟨by decide, jp_M_ruleDay, _, _, rfl, ji_M_ruleDay, Or.inl (jm_g6 56 rfl rfl), jm_g6 58 rfl rfl, jm_g0 30 rfl rfl, rfl⟩, fun q => absurd q (by decide)⟩⟩
  · exact ⟨⟨_, rfl, jm_g6 73 rfl rfl⟩, trivial⟩
  · exact ⟨⟨_, rfl, jm_g6 74 rfl rfl⟩, trivial⟩
  · exact ⟨trivial, ⟨52, 3, 9, rfl, fun _ => ⟨by decide, jp_M_event, _, _, rfl, ji_M_event, Or.inl (jm_g6 75 rfl rfl), jm_g6 77 rfl rfl, jm_g0 31 rfl rfl, rfl⟩, fun q => absurd q (by decide)⟩⟩
  · exact ⟨trivial, ⟨57, 1, rfl, fun _ => ⟨jp_M_letter, rfl, ji_M_letter, Or.inl (jm_g6 103 rfl rfl), jm_g6 104 rfl rfl⟩, fun q => absurd q (by decide)⟩⟩
  · exact ⟨⟨9, 23, .array (.object "java/lang/String"), true, rfl, by decide, ⟨_, jn_T9, 50, jn_y9, rfl, by decide, jn_i9, jn_o9, jn_n9, rfl, rfl, by decide +kernel, Or.inl (jm_g5 124 rfl rfl)⟩⟩, trivial⟩
  · exact ⟨⟨9, 24, .array (.object "java/lang/String"), true, rfl, by decide, ⟨_, jn_T9, 50, jn_y9, rfl, by decide, jn_i9, jn_o9, jn_n9, rfl, rfl, by decide +kernel, Or.inl (jm_g5 125 rfl rfl)⟩⟩, trivial⟩
  · exact ⟨trivial, ⟨9001, 1, 300, rfl, fun q => absurd q (by decide), fun _ => ⟨rfl, Or.inr ⟨rfl, rfl, jm_g6 106 rfl rfl⟩⟩⟩⟩
  · exact ⟨⟨1, aL, _, _, _, rfl, rfl, F.1, jm_g6 95 rfl rfl⟩, trivial⟩
  · exact ⟨⟨2, aM, _, _, _, rfl, rfl, F.2.1, jm_g6 97 rfl rfl⟩, trivial⟩
  · exact ⟨⟨9, 15, .array (.array .boolean), true, rfl, by decide, ⟨_, jn_T9, 50, jn_y9, rfl, by decide, jn_i9, jn_o9, jn_n9, rfl, rfl, by decide +kernel, Or.inl (jm_g5 116 rfl rfl)⟩⟩, trivial⟩
  · exact ⟨trivial, ⟨58, 1, 9, rfl, fun _ => ⟨by decide, jp_M_value, _, _, rfl, ji_M_value, Or.inl (jm_g6 99 rfl rfl), jm_g6 101 rfl rfl, jm_g0 35 rfl rfl, rfl⟩, fun q => absurd q (by decide)⟩⟩
  · exact ⟨trivial, ⟨60, 2, 9, rfl, fun _ => ⟨by decide, jp_M_special, _, _, rfl, ji_M_special, Or.inl (jm_g6 107 rfl rfl), jm_g6 109 rfl rfl, jm_g0 36 rfl rfl, rfl⟩, fun q => absurd q (by decide)⟩⟩
  · exact ⟨⟨9, 20, 0, 0, .int, rfl, by decide, Or.inl ⟨rfl, rfl⟩, Or.inl ⟨rfl, ⟨_, jn_T9, 50, jn_y9, rfl, by decide, jn_i9, jn_o9, jn_n9, rfl, rfl, by decide +kernel, Or.inl (jm_g5 121 rfl rfl)⟩⟩⟩, trivial⟩
  · exact ⟨⟨9, 21, 0, 0, .int, rfl, by decide, Or.inl ⟨rfl, rfl⟩, Or.inl ⟨rfl, ⟨_, jn_T9, 50, jn_y9, rfl, by decide, jn_i9, jn_o9, jn_n9, rfl, rfl, by decide +kernel, Or.inl (jm_g5 122 rfl rfl)⟩⟩⟩, trivial⟩
  · exact ⟨⟨9, 22, 0, 0, .int, rfl, by decide, Or.inl ⟨rfl, rfl⟩, Or.inl ⟨rfl, ⟨_, jn_T9, 50, jn_y9, rfl, by decide, jn_i9, jn_o9, jn_n9, rfl, rfl, by decide +kernel, Or.inl (jm_g5 123 rfl rfl)⟩⟩⟩, trivial⟩
  · exact ⟨trivial, ⟨59, 1, 9, rfl, fun _ => ⟨by decide, jp_M_items, _, _, rfl, ji_M_items, Or.inl (jm_g6 91 rfl rfl), jm_g6 93 rfl rfl, jm_g0 34 rfl rfl, rfl⟩, fun q => absurd q (by decide)⟩⟩
  · exact ⟨trivial, ⟨61, 1, 9, rfl, fun _ => ⟨by decide, jp_M_field, _, _, rfl, ji_M_field, Or.inl (jm_g6 87 rfl rfl), jm_g6 89 rfl rfl, jm_g0 33 rfl rfl, rfl⟩, fun q => absurd q (by decide)⟩⟩
  · exact ⟨⟨9, 20, .int, false, rfl, by decide, ⟨_, jn_T9, 50, jn_y9, rfl, by decide, jn_i9, jn_o9, jn_n9, rfl, rfl, by decide +kernel, Or.inl (jm_g5 121 rfl rfl)⟩⟩, trivial⟩
  · exact ⟨⟨9, 21, .int, false, rfl, by decide, ⟨_, jn_T9, 50, jn_y9, rfl, by decide, jn_i9, jn_o9, jn_n9, rfl, rfl, by decide +kernel, Or.inl (jm_g5 122 rfl rfl)⟩⟩, trivial⟩
def jl_M_2 : List (Instr × List Nat × Value) := [(.getfield 282, [9, 22], .null), (.getfield 42, [9, 14], .null), (.getfield 54, [9, 17], .null), (.getfield 57, [9, 18], .null), (.getfield 60, [9, 19], .null), (.getfield 48, [9, 16], .null), (.invokevirtual 291, [62, 1, 9], .null), (.ldc_w 294, [], .int 120529), (.invokevirtual 295, [38, 1, 9], .null), (.getfield 111, [9, 25], .null), (.getfield 114, [9, 26], .null), (.invokevirtual 298, [42, 1, 9], .null), (.getfield 197, [9, 6], .null), (.invokevirtual 301, [65, 1, 9], .null), (.ldc2_w 303, [], .long (-1)), (.invokevirtual 305, [55, 2, 9], .null), (.ldc2_w 309, [], .long 1000), (.invokestatic 311, [187, 2], .null), (.ldc2_w 314, [], .long 10413791999), (.ldc2_w 316, [], .long 60), (.invokevirtual 318, [56, 2, 9], .null), (.ldc2_w 321, [], .long 86400), (.invokevirtual 323, [66, 3, 9], .null), (.invokestatic 327, [189, 2], .null), (.invokevirtual 329, [67, 2, 9], .null), (.invokestatic 332, [191, 2], .null), (.ldc2_w 335, [], .long 999), (.invokevirtual 337, [68, 2, 9], .null), (.invokestatic 340, [193, 2], .null), (.ldc2_w 342, [], .long 10413791999999), (.invokevirtual 344, [71, 4, 9], .null), (.invokevirtual 348, [69, 4, 9], .null), (.invokevirtual 352, [70, 4, 9], .null), (.getfield 117, [9, 27], .null), (.getfield 120, [9, 28], .null), (.getfield 123, [9, 29], .null), (.getfield 136, [9, 33], .null), (.getfield 139, [9, 34], .null), (.getfield 142, [9, 35], .null), (.getfield 145, [9, 36], .null), (.getfield 148, [9, 37], .null), (.getfield 130, [9, 31], .null), (.getfield 133, [9, 32], .null), (.getfield 355, [9, 43], .null), (.putfield 355, [9, 43, 1, 0], .null), (.ldc2_w 359, [], .long 1099511627776), (.getfield 361, [9, 41], .null), (.getfield 364, [9, 45], .null), (.invokevirtual 368, [75, 7, 9], .null), (.getfield 151, [9, 38], .null), (.getfield 154, [9, 39], .null), (.getfield 157, [9, 40], .null), (.invokevirtual 372, [78, 1, 9], .null), (.getfield 160, [9, 42], .null), (.invokevirtual 375, [82, 1, 9], .null), (.getfield 127, [9, 30], .null), (.invokevirtual 379, [83, 1, 9], .null), (.invokevirtual 382, [81, 0, 9], .null), (.invokevirtual 385, [84, 0, 9], .null), (.getfield 163, [9, 46], .null)]
theorem js_M_2 (F : jx_SF S dA aL aM adK) (cc : ByteArray) (pc : Nat) : ∀ r ∈ jl_M_2, jx_si S dA (jx_R1 sc aL aM adK) jx_df "JobHouseModel" r.1 r.2.1 r.2.2 ∧ jx_sc S jx_P cc "JobHouseModel" pc r.1 r.2.1 := by
  intro r hr
  simp only [jl_M_2, List.mem_cons, List.not_mem_nil, or_false] at hr
  rcases hr with rfl | rfl | rfl | rfl | rfl | rfl | rfl | rfl | rfl | rfl | rfl | rfl | rfl | rfl | rfl | rfl | rfl | rfl | rfl | rfl | rfl | rfl | rfl | rfl | rfl | rfl | rfl | rfl | rfl | rfl | rfl | rfl | rfl | rfl | rfl | rfl | rfl | rfl | rfl | rfl | rfl | rfl | rfl | rfl | rfl | rfl | rfl | rfl | rfl | rfl | rfl | rfl | rfl | rfl | rfl | rfl | rfl | rfl | rfl | rfl
  · exact ⟨⟨9, 22, .int, false, rfl, by decide, ⟨_, jn_T9, 50, jn_y9, rfl, by decide, jn_i9, jn_o9, jn_n9, rfl, rfl, by decide +kernel, Or.inl (jm_g5 123 rfl rfl)⟩⟩, trivial⟩
  · exact ⟨⟨9, 14, .array (.array (.array .boolean)), true, rfl, by decide, ⟨_, jn_T9, 50, jn_y9, rfl, by decide, jn_i9, jn_o9, jn_n9, rfl, rfl, by decide +kernel, Or.inl (jm_g5 115 rfl rfl)⟩⟩, trivial⟩
  · exact ⟨⟨9, 17, .array (.array .int), true, rfl, by decide, ⟨_, jn_T9, 50, jn_y9, rfl, by decide, jn_i9, jn_o9, jn_n9, rfl, rfl, by decide +kernel, Or.inl (jm_g5 118 rfl rfl)⟩⟩, trivial⟩
  · exact ⟨⟨9, 18, .array (.array .int), true, rfl, by decide, ⟨_, jn_T9, 50, jn_y9, rfl, by decide, jn_i9, jn_o9, jn_n9, rfl, rfl, by decide +kernel, Or.inl (jm_g5 119 rfl rfl)⟩⟩, trivial⟩
  · exact ⟨⟨9, 19, .array (.array .int), true, rfl, by decide, ⟨_, jn_T9, 50, jn_y9, rfl, by decide, jn_i9, jn_o9, jn_n9, rfl, rfl, by decide +kernel, Or.inl (jm_g5 120 rfl rfl)⟩⟩, trivial⟩
  · exact ⟨⟨9, 16, .array .boolean, true, rfl, by decide, ⟨_, jn_T9, 50, jn_y9, rfl, by decide, jn_i9, jn_o9, jn_n9, rfl, rfl, by decide +kernel, Or.inl (jm_g5 117 rfl rfl)⟩⟩, trivial⟩
  · exact ⟨trivial, ⟨62, 1, 9, rfl, fun _ => ⟨by decide, jp_M_readCron, _, _, rfl, ji_M_readCron, Or.inl (jm_g6 83 rfl rfl), jm_g6 85 rfl rfl, jm_g0 32 rfl rfl, rfl⟩, fun q => absurd q (by decide)⟩⟩
  · exact ⟨⟨_, rfl, jm_g6 115 rfl rfl⟩, trivial⟩
  · exact ⟨trivial, ⟨38, 1, 9, rfl, fun _ => ⟨by decide, jp_M_fail, _, _, rfl, ji_M_fail, Or.inl (jm_g6 116 rfl rfl), jm_g6 118 rfl rfl, jm_g0 37 rfl rfl, rfl⟩, fun q => absurd q (by decide)⟩⟩
  · exact ⟨⟨9, 25, .array (.array .boolean), true, rfl, by decide, ⟨_, jn_T9, 50, jn_y9, rfl, by decide, jn_i9, jn_o9, jn_n9, rfl, rfl, by decide +kernel, Or.inl (jm_g5 126 rfl rfl)⟩⟩, trivial⟩
  · exact ⟨⟨9, 26, .array .int, true, rfl, by decide, ⟨_, jn_T9, 50, jn_y9, rfl, by decide, jn_i9, jn_o9, jn_n9, rfl, rfl, by decide +kernel, Or.inl (jm_g5 127 rfl rfl)⟩⟩, trivial⟩
  · exact ⟨trivial, ⟨42, 1, 9, rfl, fun _ => ⟨by decide, jp_M_date, _, _, rfl, ji_M_date, Or.inl (jm_g6 151 rfl rfl), jm_g6 153 rfl rfl, jm_g0 43 rfl rfl, rfl⟩, fun q => absurd q (by decide)⟩⟩
  · exact ⟨⟨9, 6, .int, false, rfl, by decide, ⟨_, jn_T9, 50, jn_y9, rfl, by decide, jn_i9, jn_o9, jn_n9, rfl, rfl, by decide +kernel, Or.inl (jm_g5 107 rfl rfl)⟩⟩, trivial⟩
  · exact ⟨trivial, ⟨65, 1, 9, rfl, fun _ => ⟨by decide, jp_M_special2, _, _, rfl, ji_M_special2, Or.inl (jm_g6 156 rfl rfl), jm_g6 158 rfl rfl, jm_g0 44 rfl rfl, rfl⟩, fun q => absurd q (by decide)⟩⟩
  · exact ⟨⟨_, rfl, jm_g6 133 rfl rfl⟩, trivial⟩
  · exact ⟨trivial, ⟨55, 2, 9, rfl, fun _ => ⟨by decide, jp_M_passed, _, _, rfl, ji_M_passed, Or.inl (jm_g6 134 rfl rfl), jm_g6 136 rfl rfl, jm_g0 40 rfl rfl, rfl⟩, fun q => absurd q (by decide)⟩⟩
  · exact ⟨⟨_, rfl, jm_g6 138 rfl rfl⟩, trivial⟩
  · exact ⟨trivial, ⟨187, 2, rfl, fun _ => ⟨jp_Math_floorDiv2, rfl, ji_Math_floorDiv2, Or.inl (jm_g6 139 rfl rfl), jm_g3 200 rfl rfl⟩, fun q => absurd q (by decide)⟩⟩
  · exact ⟨⟨_, rfl, jm_g6 140 rfl rfl⟩, trivial⟩
  · exact ⟨⟨_, rfl, jm_g6 141 rfl rfl⟩, trivial⟩
  · exact ⟨trivial, ⟨56, 2, 9, rfl, fun _ => ⟨by decide, jp_M_minutes, _, _, rfl, ji_M_minutes, Or.inl (jm_g6 142 rfl rfl), jm_g6 144 rfl rfl, jm_g0 41 rfl rfl, rfl⟩, fun q => absurd q (by decide)⟩⟩
  · exact ⟨⟨_, rfl, jm_g6 146 rfl rfl⟩, trivial⟩
  · exact ⟨trivial, ⟨66, 3, 9, rfl, fun _ => ⟨by decide, jp_M_dayFits, _, _, rfl, ji_M_dayFits, Or.inl (jm_g6 147 rfl rfl), jm_g6 149 rfl rfl, jm_g0 42 rfl rfl, rfl⟩, fun q => absurd q (by decide)⟩⟩
  · exact ⟨trivial, ⟨189, 2, rfl, fun _ => ⟨jp_Math_floorMod2, rfl, ji_Math_floorMod2, Or.inl (jm_g6 160 rfl rfl), jm_g4 118 rfl rfl⟩, fun q => absurd q (by decide)⟩⟩
  · exact ⟨trivial, ⟨67, 2, 9, rfl, fun _ => ⟨by decide, jp_M_secondFrom, _, _, rfl, ji_M_secondFrom, Or.inl (jm_g6 161 rfl rfl), jm_g6 163 rfl rfl, jm_g0 45 rfl rfl, rfl⟩, fun q => absurd q (by decide)⟩⟩
  · exact ⟨trivial, ⟨191, 2, rfl, fun _ => ⟨jp_Math_max2, rfl, ji_Math_max2, Or.inl (jm_g6 165 rfl rfl), jm_g4 1 rfl rfl⟩, fun q => absurd q (by decide)⟩⟩
  · exact ⟨⟨_, rfl, jm_g6 174 rfl rfl⟩, trivial⟩
  · exact ⟨trivial, ⟨68, 2, 9, rfl, fun _ => ⟨by decide, jp_M_secondTo, _, _, rfl, ji_M_secondTo, Or.inl (jm_g6 175 rfl rfl), jm_g6 177 rfl rfl, jm_g0 47 rfl rfl, rfl⟩, fun q => absurd q (by decide)⟩⟩
  · exact ⟨trivial, ⟨193, 2, rfl, fun _ => ⟨jp_Math_min2, rfl, ji_Math_min2, Or.inl (jm_g6 179 rfl rfl), jm_g4 4 rfl rfl⟩, fun q => absurd q (by decide)⟩⟩
  · exact ⟨⟨_, rfl, jm_g6 128 rfl rfl⟩, trivial⟩
  · exact ⟨trivial, ⟨71, 4, 9, rfl, fun _ => ⟨by decide, jp_M_badFire, _, _, rfl, ji_M_badFire, Or.inl (jm_g6 124 rfl rfl), jm_g6 126 rfl rfl, jm_g0 38 rfl rfl, rfl⟩, fun q => absurd q (by decide)⟩⟩
  · exact ⟨trivial, ⟨69, 4, 9, rfl, fun _ => ⟨by decide, jp_M_nextFire, _, _, rfl, ji_M_nextFire, Or.inl (jm_g6 129 rfl rfl), jm_g6 131 rfl rfl, jm_g0 39 rfl rfl, rfl⟩, fun q => absurd q (by decide)⟩⟩
  · exact ⟨trivial, ⟨70, 4, 9, rfl, fun _ => ⟨by decide, jp_M_lastFire, _, _, rfl, ji_M_lastFire, Or.inl (jm_g6 170 rfl rfl), jm_g6 172 rfl rfl, jm_g0 46 rfl rfl, rfl⟩, fun q => absurd q (by decide)⟩⟩
  · exact ⟨⟨9, 27, .array .int, true, rfl, by decide, ⟨_, jn_T9, 50, jn_y9, rfl, by decide, jn_i9, jn_o9, jn_n9, rfl, rfl, by decide +kernel, Or.inl (jm_g5 128 rfl rfl)⟩⟩, trivial⟩
  · exact ⟨⟨9, 28, .array .int, true, rfl, by decide, ⟨_, jn_T9, 50, jn_y9, rfl, by decide, jn_i9, jn_o9, jn_n9, rfl, rfl, by decide +kernel, Or.inl (jm_g5 129 rfl rfl)⟩⟩, trivial⟩
  · exact ⟨⟨9, 29, .array .long, true, rfl, by decide, ⟨_, jn_T9, 50, jn_y9, rfl, by decide, jn_i9, jn_o9, jn_n9, rfl, rfl, by decide +kernel, Or.inl (jm_g5 130 rfl rfl)⟩⟩, trivial⟩
  · exact ⟨⟨9, 33, .array .long, true, rfl, by decide, ⟨_, jn_T9, 50, jn_y9, rfl, by decide, jn_i9, jn_o9, jn_n9, rfl, rfl, by decide +kernel, Or.inl (jm_g5 134 rfl rfl)⟩⟩, trivial⟩
  · exact ⟨⟨9, 34, .array .long, true, rfl, by decide, ⟨_, jn_T9, 50, jn_y9, rfl, by decide, jn_i9, jn_o9, jn_n9, rfl, rfl, by decide +kernel, Or.inl (jm_g5 135 rfl rfl)⟩⟩, trivial⟩
  · exact ⟨⟨9, 35, .array .int, true, rfl, by decide, ⟨_, jn_T9, 50, jn_y9, rfl, by decide, jn_i9, jn_o9, jn_n9, rfl, rfl, by decide +kernel, Or.inl (jm_g5 136 rfl rfl)⟩⟩, trivial⟩
  · exact ⟨⟨9, 36, .array .int, true, rfl, by decide, ⟨_, jn_T9, 50, jn_y9, rfl, by decide, jn_i9, jn_o9, jn_n9, rfl, rfl, by decide +kernel, Or.inl (jm_g5 137 rfl rfl)⟩⟩, trivial⟩
  · exact ⟨⟨9, 37, .array .int, true, rfl, by decide, ⟨_, jn_T9, 50, jn_y9, rfl, by decide, jn_i9, jn_o9, jn_n9, rfl, rfl, by decide +kernel, Or.inl (jm_g5 138 rfl rfl)⟩⟩, trivial⟩
  · exact ⟨⟨9, 31, .array .long, true, rfl, by decide, ⟨_, jn_T9, 50, jn_y9, rfl, by decide, jn_i9, jn_o9, jn_n9, rfl, rfl, by decide +kernel, Or.inl (jm_g5 132 rfl rfl)⟩⟩, trivial⟩
  · exact ⟨⟨9, 32, .array .long, true, rfl, by decide, ⟨_, jn_T9, 50, jn_y9, rfl, by decide, jn_i9, jn_o9, jn_n9, rfl, rfl, by decide +kernel, Or.inl (jm_g5 133 rfl rfl)⟩⟩, trivial⟩
  · exact ⟨⟨9, 43, .long, false, rfl, by decide, ⟨_, jn_T9, 50, jn_y9, rfl, by decide, jn_i9, jn_o9, jn_n9, rfl, rfl, by decide +kernel, Or.inl (jm_g5 144 rfl rfl)⟩⟩, trivial⟩
  · exact ⟨⟨9, 43, 1, 0, .long, rfl, by decide, Or.inr (Or.inl ⟨rfl, rfl⟩), Or.inl ⟨rfl, ⟨_, jn_T9, 50, jn_y9, rfl, by decide, jn_i9, jn_o9, jn_n9, rfl, rfl, by decide +kernel, Or.inl (jm_g5 144 rfl rfl)⟩⟩⟩, trivial⟩
  · exact ⟨⟨_, rfl, jm_g6 188 rfl rfl⟩, trivial⟩
  · exact ⟨⟨9, 41, .long, false, rfl, by decide, ⟨_, jn_T9, 50, jn_y9, rfl, by decide, jn_i9, jn_o9, jn_n9, rfl, rfl, by decide +kernel, Or.inl (jm_g5 142 rfl rfl)⟩⟩, trivial⟩
  · exact ⟨⟨9, 45, .boolean, false, rfl, by decide, ⟨_, jn_T9, 50, jn_y9, rfl, by decide, jn_i9, jn_o9, jn_n9, rfl, rfl, by decide +kernel, Or.inl (jm_g5 146 rfl rfl)⟩⟩, trivial⟩
  · exact ⟨trivial, ⟨75, 7, 9, rfl, fun _ => ⟨by decide, jp_M_enter, _, _, rfl, ji_M_enter, Or.inl (jm_g6 189 rfl rfl), jm_g6 191 rfl rfl, jm_g0 48 rfl rfl, rfl⟩, fun q => absurd q (by decide)⟩⟩
  · exact ⟨⟨9, 38, .array .int, true, rfl, by decide, ⟨_, jn_T9, 50, jn_y9, rfl, by decide, jn_i9, jn_o9, jn_n9, rfl, rfl, by decide +kernel, Or.inl (jm_g5 139 rfl rfl)⟩⟩, trivial⟩
  · exact ⟨⟨9, 39, .array .int, true, rfl, by decide, ⟨_, jn_T9, 50, jn_y9, rfl, by decide, jn_i9, jn_o9, jn_n9, rfl, rfl, by decide +kernel, Or.inl (jm_g5 140 rfl rfl)⟩⟩, trivial⟩
  · exact ⟨⟨9, 40, .array .int, true, rfl, by decide, ⟨_, jn_T9, 50, jn_y9, rfl, by decide, jn_i9, jn_o9, jn_n9, rfl, rfl, by decide +kernel, Or.inl (jm_g5 141 rfl rfl)⟩⟩, trivial⟩
  · exact ⟨trivial, ⟨78, 1, 9, rfl, fun _ => ⟨by decide, jp_M_none, _, _, rfl, ji_M_none, Or.inl (jm_g6 201 rfl rfl), jm_g6 203 rfl rfl, jm_g0 49 rfl rfl, rfl⟩, fun q => absurd q (by decide)⟩⟩
  · exact ⟨⟨9, 42, .int, false, rfl, by decide, ⟨_, jn_T9, 50, jn_y9, rfl, by decide, jn_i9, jn_o9, jn_n9, rfl, rfl, by decide +kernel, Or.inl (jm_g5 143 rfl rfl)⟩⟩, trivial⟩
  · exact ⟨trivial, ⟨82, 1, 9, rfl, fun _ => ⟨by decide, jp_M_following, _, _, rfl, ji_M_following, Or.inl (jm_g6 222 rfl rfl), jm_g6 224 rfl rfl, jm_g0 52 rfl rfl, rfl⟩, fun q => absurd q (by decide)⟩⟩
  · exact ⟨⟨9, 30, .array .long, true, rfl, by decide, ⟨_, jn_T9, 50, jn_y9, rfl, by decide, jn_i9, jn_o9, jn_n9, rfl, rfl, by decide +kernel, Or.inl (jm_g5 131 rfl rfl)⟩⟩, trivial⟩
  · exact ⟨trivial, ⟨83, 1, 9, rfl, fun _ => ⟨by decide, jp_M_free, _, _, rfl, ji_M_free, Or.inl (jm_g6 218 rfl rfl), jm_g6 220 rfl rfl, jm_g0 51 rfl rfl, rfl⟩, fun q => absurd q (by decide)⟩⟩
  · exact ⟨trivial, ⟨81, 0, 9, rfl, fun _ => ⟨by decide, jp_M_running, _, _, rfl, ji_M_running, Or.inl (jm_g6 226 rfl rfl), jm_g6 228 rfl rfl, jm_g0 53 rfl rfl, rfl⟩, fun q => absurd q (by decide)⟩⟩
  · exact ⟨trivial, ⟨84, 0, 9, rfl, fun _ => ⟨by decide, jp_M_first, _, _, rfl, ji_M_first, Or.inl (jm_g6 230 rfl rfl), jm_g6 232 rfl rfl, jm_g0 54 rfl rfl, rfl⟩, fun q => absurd q (by decide)⟩⟩
  · exact ⟨⟨9, 46, .array .long, true, rfl, by decide, ⟨_, jn_T9, 50, jn_y9, rfl, by decide, jn_i9, jn_o9, jn_n9, rfl, rfl, by decide +kernel, Or.inl (jm_g5 147 rfl rfl)⟩⟩, trivial⟩
def jl_M_3 : List (Instr × List Nat × Value) := [(.getfield 387, [9, 49], .null), (.getfield 166, [9, 47], .null), (.getfield 169, [9, 48], .null), (.putfield 387, [9, 49, 0, 0], .null), (.getfield 390, [9, 44], .null), (.putfield 390, [9, 44, 1, 0], .null), (.ldc2_w 393, [], .long 8796093022208), (.invokevirtual 395, [85, 0, 9], .null), (.putfield 361, [9, 41, 1, 0], .null), (.putfield 364, [9, 45, 2, 0], .null), (.invokevirtual 399, [88, 0, 9], .null), (.getfield 13, [9, 3], .null)]
theorem js_M_3 (F : jx_SF S dA aL aM adK) (cc : ByteArray) (pc : Nat) : ∀ r ∈ jl_M_3, jx_si S dA (jx_R1 sc aL aM adK) jx_df "JobHouseModel" r.1 r.2.1 r.2.2 ∧ jx_sc S jx_P cc "JobHouseModel" pc r.1 r.2.1 := by
  intro r hr
  simp only [jl_M_3, List.mem_cons, List.not_mem_nil, or_false] at hr
  rcases hr with rfl | rfl | rfl | rfl | rfl | rfl | rfl | rfl | rfl | rfl | rfl | rfl
  · exact ⟨⟨9, 49, .int, false, rfl, by decide, ⟨_, jn_T9, 50, jn_y9, rfl, by decide, jn_i9, jn_o9, jn_n9, rfl, rfl, by decide +kernel, Or.inl (jm_g5 150 rfl rfl)⟩⟩, trivial⟩
  · exact ⟨⟨9, 47, .array .int, true, rfl, by decide, ⟨_, jn_T9, 50, jn_y9, rfl, by decide, jn_i9, jn_o9, jn_n9, rfl, rfl, by decide +kernel, Or.inl (jm_g5 148 rfl rfl)⟩⟩, trivial⟩
  · exact ⟨⟨9, 48, .array .long, true, rfl, by decide, ⟨_, jn_T9, 50, jn_y9, rfl, by decide, jn_i9, jn_o9, jn_n9, rfl, rfl, by decide +kernel, Or.inl (jm_g5 149 rfl rfl)⟩⟩, trivial⟩
  · exact ⟨⟨9, 49, 0, 0, .int, rfl, by decide, Or.inl ⟨rfl, rfl⟩, Or.inl ⟨rfl, ⟨_, jn_T9, 50, jn_y9, rfl, by decide, jn_i9, jn_o9, jn_n9, rfl, rfl, by decide +kernel, Or.inl (jm_g5 150 rfl rfl)⟩⟩⟩, trivial⟩
  · exact ⟨⟨9, 44, .long, false, rfl, by decide, ⟨_, jn_T9, 50, jn_y9, rfl, by decide, jn_i9, jn_o9, jn_n9, rfl, rfl, by decide +kernel, Or.inl (jm_g5 145 rfl rfl)⟩⟩, trivial⟩
  · exact ⟨⟨9, 44, 1, 0, .long, rfl, by decide, Or.inr (Or.inl ⟨rfl, rfl⟩), Or.inl ⟨rfl, ⟨_, jn_T9, 50, jn_y9, rfl, by decide, jn_i9, jn_o9, jn_n9, rfl, rfl, by decide +kernel, Or.inl (jm_g5 145 rfl rfl)⟩⟩⟩, trivial⟩
  · exact ⟨⟨_, rfl, jm_g6 213 rfl rfl⟩, trivial⟩
  · exact ⟨trivial, ⟨85, 0, 9, rfl, fun _ => ⟨by decide, jp_M_work, _, _, rfl, ji_M_work, Or.inl (jm_g6 214 rfl rfl), jm_g6 216 rfl rfl, jm_g0 50 rfl rfl, rfl⟩, fun q => absurd q (by decide)⟩⟩
  · exact ⟨⟨9, 41, 1, 0, .long, rfl, by decide, Or.inr (Or.inl ⟨rfl, rfl⟩), Or.inl ⟨rfl, ⟨_, jn_T9, 50, jn_y9, rfl, by decide, jn_i9, jn_o9, jn_n9, rfl, rfl, by decide +kernel, Or.inl (jm_g5 142 rfl rfl)⟩⟩⟩, trivial⟩
  · exact ⟨⟨9, 45, 2, 0, .boolean, rfl, by decide, Or.inr (Or.inr (Or.inl ⟨rfl, rfl⟩)), Or.inl ⟨rfl, ⟨_, jn_T9, 50, jn_y9, rfl, by decide, jn_i9, jn_o9, jn_n9, rfl, rfl, by decide +kernel, Or.inl (jm_g5 146 rfl rfl)⟩⟩⟩, trivial⟩
  · exact ⟨trivial, ⟨88, 0, 9, rfl, fun _ => ⟨by decide, jp_M_there, _, _, rfl, ji_M_there, Or.inl (jm_g7 2 rfl rfl), jm_g7 4 rfl rfl, jm_g0 55 rfl rfl, rfl⟩, fun q => absurd q (by decide)⟩⟩
  · exact ⟨⟨9, 3, .int, false, rfl, by decide, ⟨_, jn_T9, 50, jn_y9, rfl, by decide, jn_i9, jn_o9, jn_n9, rfl, rfl, by decide +kernel, Or.inl (jm_g5 104 rfl rfl)⟩⟩, trivial⟩
def jl_M : List (Instr × List Nat × Value) := jl_M_0 ++ jl_M_1 ++ jl_M_2 ++ jl_M_3
theorem js_M (F : jx_SF S dA aL aM adK) (cc : ByteArray) (pc : Nat) : ∀ r ∈ jl_M, jx_si S dA (jx_R1 sc aL aM adK) jx_df "JobHouseModel" r.1 r.2.1 r.2.2 ∧ jx_sc S jx_P cc "JobHouseModel" pc r.1 r.2.1 := by
  intro r hr
  simp only [jl_M, List.mem_append] at hr
  rcases hr with ((h0 | h1) | h2) | h3
  · exact js_M_0 F cc pc r h0
  · exact js_M_1 F cc pc r h1
  · exact js_M_2 F cc pc r h2
  · exact js_M_3 F cc pc r h3
def jl_C_0 : List (Instr × List Nat × Value) := [(.invokespecial 3, [9003, 0], .null), (.newarray .long, [3], .null), (.putfield 11, [4, 0, 4, 1], .null), (.getfield 11, [4, 0], .null), (.putfield 15, [4, 1, 0, 0], .null), (.getfield 15, [4, 1], .null), (.invokestatic 19, [106, 1], .null), (.invokevirtual 23, [103, 1, 4], .null), (.getfield 26, [4, 3], .null), (.invokestatic 29, [105, 2], .null), (.invokestatic 33, [104, 3], .null), (.getfield 37, [4, 2], .null), (.invokestatic 40, [188, 2], .null), (.ldc2_w 46, [], .long 254), (.invokestatic 48, [109, 2], .null), (.invokestatic 52, [110, 2], .null), (.invokestatic 55, [185, 1], .null)]
theorem js_C_0 (F : jx_SF S dA aL aM adK) (cc : ByteArray) (pc : Nat) : ∀ r ∈ jl_C_0, jx_si S dA (jx_R1 sc aL aM adK) jx_df "JobHouse$Cron" r.1 r.2.1 r.2.2 ∧ jx_sc S jx_P cc "JobHouse$Cron" pc r.1 r.2.1 := by
  intro r hr
  simp only [jl_C_0, List.mem_cons, List.not_mem_nil, or_false] at hr
  rcases hr with rfl | rfl | rfl | rfl | rfl | rfl | rfl | rfl | rfl | rfl | rfl | rfl | rfl | rfl | rfl | rfl | rfl
  · exact ⟨trivial, ⟨9003, 0, rfl, fun q => absurd q (by decide), fun _ => ⟨rfl, rfl, jm_g1 90 rfl rfl, jm_g1 34 rfl rfl, jm_g1 35 rfl rfl⟩⟩⟩
  · exact ⟨⟨3, _, rfl, by decide, rfl, rfl, jm_g1 107 rfl rfl⟩, trivial⟩
  · exact ⟨⟨4, 0, 4, 1, .array .long, rfl, by decide, Or.inr (Or.inr (Or.inr ⟨rfl, Or.inr ⟨_, rfl⟩⟩)), Or.inr ⟨rfl, ⟨jn_T4, 4, jn_y4, rfl, by decide, jn_i4, jn_o4, jn_n4, rfl, rfl, by decide +kernel, jm_g1 91 rfl rfl⟩⟩⟩, trivial⟩
  · exact ⟨⟨4, 0, .array .long, true, rfl, by decide, ⟨_, jn_T4, 4, jn_y4, rfl, by decide, jn_i4, jn_o4, jn_n4, rfl, rfl, by decide +kernel, Or.inl (jm_g1 91 rfl rfl)⟩⟩, trivial⟩
  · exact ⟨⟨4, 1, 0, 0, .int, rfl, by decide, Or.inl ⟨rfl, rfl⟩, Or.inl ⟨rfl, ⟨_, jn_T4, 4, jn_y4, rfl, by decide, jn_i4, jn_o4, jn_n4, rfl, rfl, by decide +kernel, Or.inl (jm_g1 93 rfl rfl)⟩⟩⟩, trivial⟩
  · exact ⟨⟨4, 1, .int, false, rfl, by decide, ⟨_, jn_T4, 4, jn_y4, rfl, by decide, jn_i4, jn_o4, jn_n4, rfl, rfl, by decide +kernel, Or.inl (jm_g1 93 rfl rfl)⟩⟩, trivial⟩
  · exact ⟨trivial, ⟨106, 1, rfl, fun _ => ⟨jp_C_bitsUpTo, rfl, ji_C_bitsUpTo, Or.inl (jm_g4 39 rfl rfl), jm_g4 40 rfl rfl⟩, fun q => absurd q (by decide)⟩⟩
  · exact ⟨trivial, ⟨103, 1, 4, rfl, fun _ => ⟨by decide, jp_C_weekdaysFrom, _, _, rfl, ji_C_weekdaysFrom, Or.inl (jm_g4 42 rfl rfl), jm_g4 44 rfl rfl, jm_g0 7 rfl rfl, rfl⟩, fun q => absurd q (by decide)⟩⟩
  · exact ⟨⟨4, 3, .int, false, rfl, by decide, ⟨_, jn_T4, 4, jn_y4, rfl, by decide, jn_i4, jn_o4, jn_n4, rfl, rfl, by decide +kernel, Or.inl (jm_g1 97 rfl rfl)⟩⟩, trivial⟩
  · exact ⟨trivial, ⟨105, 2, rfl, fun _ => ⟨jp_C_bitOf, rfl, ji_C_bitOf, Or.inl (jm_g4 47 rfl rfl), jm_g4 48 rfl rfl⟩, fun q => absurd q (by decide)⟩⟩
  · exact ⟨trivial, ⟨104, 3, rfl, fun _ => ⟨jp_C_workdayNearest, rfl, ji_C_workdayNearest, Or.inl (jm_g4 50 rfl rfl), jm_g4 51 rfl rfl⟩, fun q => absurd q (by decide)⟩⟩
  · exact ⟨⟨4, 2, .int, false, rfl, by decide, ⟨_, jn_T4, 4, jn_y4, rfl, by decide, jn_i4, jn_o4, jn_n4, rfl, rfl, by decide +kernel, Or.inl (jm_g1 94 rfl rfl)⟩⟩, trivial⟩
  · exact ⟨trivial, ⟨188, 2, rfl, fun _ => ⟨jp_Math_floorMod, rfl, ji_Math_floorMod, Or.inl (jm_g4 53 rfl rfl), jm_g3 227 rfl rfl⟩, fun q => absurd q (by decide)⟩⟩
  · exact ⟨⟨_, rfl, jm_g4 46 rfl rfl⟩, trivial⟩
  · exact ⟨trivial, ⟨109, 2, rfl, fun _ => ⟨jp_C_lowestBit, rfl, ji_C_lowestBit, Or.inl (jm_g4 69 rfl rfl), jm_g4 55 rfl rfl⟩, fun q => absurd q (by decide)⟩⟩
  · exact ⟨trivial, ⟨110, 2, rfl, fun _ => ⟨jp_C_highestBit, rfl, ji_C_highestBit, Or.inl (jm_g4 104 rfl rfl), jm_g4 98 rfl rfl⟩, fun q => absurd q (by decide)⟩⟩
  · exact ⟨trivial, ⟨185, 1, rfl, fun _ => ⟨jp_Long_bitCount, rfl, ji_Long_bitCount, Or.inl (jm_g4 57 rfl rfl), jm_g4 58 rfl rfl⟩, fun q => absurd q (by decide)⟩⟩
def jl_C : List (Instr × List Nat × Value) := jl_C_0
theorem js_C (F : jx_SF S dA aL aM adK) (cc : ByteArray) (pc : Nat) : ∀ r ∈ jl_C, jx_si S dA (jx_R1 sc aL aM adK) jx_df "JobHouse$Cron" r.1 r.2.1 r.2.2 ∧ jx_sc S jx_P cc "JobHouse$Cron" pc r.1 r.2.1 := by
  intro r hr
  exact js_C_0 F cc pc r hr
def jl_CR_0 : List (Instr × List Nat × Value) := [(.invokevirtual 9, [98, 0, 4], .null), (.invokestatic 14, [114, 3], .null), (.invokevirtual 20, [153, 0, 1], .null), (.invokestatic 25, [112, 2], .null), (.invokestatic 29, [113, 2], .null), (.invokevirtual 32, [149, 0, 1], .null), (.invokestatic 36, [119, 5], .null), (.invokevirtual 40, [154, 0, 1], .null), (.invokevirtual 43, [151, 1, 1], .null), (.putfield 47, [4, 1, 0, 0], .null), (.invokevirtual 51, [155, 2, 1], .null), (.putfield 55, [4, 3, 0, 0], .null), (.getfield 47, [4, 1], .null), (.invokevirtual 58, [152, 1, 1], .null), (.invokevirtual 62, [99, 2, 4], .null), (.invokestatic 66, [115, 4], .null), (.invokestatic 70, [96, 1], .null), (.invokestatic 74, [97, 1], .null), (.invokestatic 77, [116, 2], .null), (.invokestatic 81, [118, 4], .null), (.invokevirtual 85, [150, 0, 1], .null), (.invokestatic 89, [117, 3], .null), (.ldc 93, [], .ref 3), (.invokevirtual 95, [156, 1, 1], .null), (.ldc 99, [], .ref 4), (.getfield 101, [1, 2], .null), (.invokevirtual 104, [148, 1, 1], .null), (.putfield 107, [4, 2, 0, 0], .null), (.invokestatic 110, [190, 2], .null)]
theorem js_CR_0 (F : jx_SF S dA aL aM adK) (cc : ByteArray) (pc : Nat) : ∀ r ∈ jl_CR_0, jx_si S dA (jx_R1 sc aL aM adK) jx_df "JobHouse$CronReader" r.1 r.2.1 r.2.2 ∧ jx_sc S jx_P cc "JobHouse$CronReader" pc r.1 r.2.1 := by
  intro r hr
  simp only [jl_CR_0, List.mem_cons, List.not_mem_nil, or_false] at hr
  rcases hr with rfl | rfl | rfl | rfl | rfl | rfl | rfl | rfl | rfl | rfl | rfl | rfl | rfl | rfl | rfl | rfl | rfl | rfl | rfl | rfl | rfl | rfl | rfl | rfl | rfl | rfl | rfl | rfl | rfl
  · exact ⟨trivial, ⟨98, 0, 4, rfl, fun _ => ⟨by decide, jp_C_clear, _, _, rfl, ji_C_clear, Or.inl (jm_g3 37 rfl rfl), jm_g3 38 rfl rfl, jm_g3 39 rfl rfl, rfl⟩, fun q => absurd q (by decide)⟩⟩
  · exact ⟨trivial, ⟨114, 3, rfl, fun _ => ⟨jp_CR_readItems, rfl, ji_CR_readItems, Or.inl (jm_g3 41 rfl rfl), jm_g3 42 rfl rfl⟩, fun q => absurd q (by decide)⟩⟩
  · exact ⟨trivial, ⟨153, 0, 1, rfl, fun _ => ⟨by decide, jp_T_requireBlanks, _, _, rfl, ji_T_requireBlanks, Or.inl (jm_g3 130 rfl rfl), jm_g2 232 rfl rfl, jm_g2 233 rfl rfl, rfl⟩, fun q => absurd q (by decide)⟩⟩
  · exact ⟨trivial, ⟨112, 2, rfl, fun _ => ⟨jp_CR_takeDayRule, rfl, ji_CR_takeDayRule, Or.inl (jm_g3 131 rfl rfl), jm_g3 132 rfl rfl⟩, fun q => absurd q (by decide)⟩⟩
  · exact ⟨trivial, ⟨113, 2, rfl, fun _ => ⟨jp_CR_takeWeekdayRule, rfl, ji_CR_takeWeekdayRule, Or.inl (jm_g3 134 rfl rfl), jm_g3 135 rfl rfl⟩, fun q => absurd q (by decide)⟩⟩
  · exact ⟨trivial, ⟨149, 0, 1, rfl, fun _ => ⟨by decide, jp_T_isDone, _, _, rfl, ji_T_isDone, Or.inl (jm_g3 138 rfl rfl), jm_g2 228 rfl rfl, jm_g2 229 rfl rfl, rfl⟩, fun q => absurd q (by decide)⟩⟩
  · exact ⟨trivial, ⟨119, 5, rfl, fun _ => ⟨jp_CR_addSome, rfl, ji_CR_addSome, Or.inl (jm_g3 120 rfl rfl), jm_g3 121 rfl rfl⟩, fun q => absurd q (by decide)⟩⟩
  · exact ⟨trivial, ⟨154, 0, 1, rfl, fun _ => ⟨by decide, jp_T_requireEnd, _, _, rfl, ji_T_requireEnd, Or.inl (jm_g3 139 rfl rfl), jm_g3 3 rfl rfl, jm_g3 4 rfl rfl, rfl⟩, fun q => absurd q (by decide)⟩⟩
  · exact ⟨trivial, ⟨151, 1, 1, rfl, fun _ => ⟨by decide, jp_T_take, _, _, rfl, ji_T_take, Or.inl (jm_g3 53 rfl rfl), jm_g2 200 rfl rfl, jm_g2 201 rfl rfl, rfl⟩, fun q => absurd q (by decide)⟩⟩
  · exact ⟨⟨4, 1, 0, 0, .int, rfl, by decide, Or.inl ⟨rfl, rfl⟩, Or.inl ⟨rfl, ⟨_, jn_T4, 4, jn_y4, rfl, by decide, jn_i4, jn_o4, jn_n4, rfl, rfl, by decide +kernel, Or.inr ⟨_, jm_g1 92 rfl rfl⟩⟩⟩⟩, trivial⟩
  · exact ⟨trivial, ⟨155, 2, 1, rfl, fun _ => ⟨by decide, jp_T_number, _, _, rfl, ji_T_number, Or.inl (jm_g3 111 rfl rfl), jm_g2 217 rfl rfl, jm_g2 218 rfl rfl, rfl⟩, fun q => absurd q (by decide)⟩⟩
  · exact ⟨⟨4, 3, 0, 0, .int, rfl, by decide, Or.inl ⟨rfl, rfl⟩, Or.inl ⟨rfl, ⟨_, jn_T4, 4, jn_y4, rfl, by decide, jn_i4, jn_o4, jn_n4, rfl, rfl, by decide +kernel, Or.inr ⟨_, jm_g1 96 rfl rfl⟩⟩⟩⟩, trivial⟩
  · exact ⟨⟨4, 1, .int, false, rfl, by decide, ⟨_, jn_T4, 4, jn_y4, rfl, by decide, jn_i4, jn_o4, jn_n4, rfl, rfl, by decide +kernel, Or.inr ⟨_, jm_g1 92 rfl rfl⟩⟩⟩, trivial⟩
  · exact ⟨trivial, ⟨152, 1, 1, rfl, fun _ => ⟨by decide, jp_T_require, _, _, rfl, ji_T_require, Or.inl (jm_g3 137 rfl rfl), jm_g2 208 rfl rfl, jm_g2 209 rfl rfl, rfl⟩, fun q => absurd q (by decide)⟩⟩
  · exact ⟨trivial, ⟨99, 2, 4, rfl, fun _ => ⟨by decide, jp_C_add, _, _, rfl, ji_C_add, Or.inl (jm_g3 123 rfl rfl), jm_g3 124 rfl rfl, jm_g3 125 rfl rfl, rfl⟩, fun q => absurd q (by decide)⟩⟩
  · exact ⟨trivial, ⟨115, 4, rfl, fun _ => ⟨jp_CR_readItem, rfl, ji_CR_readItem, Or.inl (jm_g3 44 rfl rfl), jm_g3 45 rfl rfl⟩, fun q => absurd q (by decide)⟩⟩
  · exact ⟨trivial, ⟨96, 1, rfl, fun _ => ⟨jp_C_lowest, rfl, ji_C_lowest, Or.inl (jm_g3 47 rfl rfl), jm_g3 48 rfl rfl⟩, fun q => absurd q (by decide)⟩⟩
  · exact ⟨trivial, ⟨97, 1, rfl, fun _ => ⟨jp_C_highest, rfl, ji_C_highest, Or.inl (jm_g3 50 rfl rfl), jm_g3 51 rfl rfl⟩, fun q => absurd q (by decide)⟩⟩
  · exact ⟨trivial, ⟨116, 2, rfl, fun _ => ⟨jp_CR_readValue, rfl, ji_CR_readValue, Or.inl (jm_g3 54 rfl rfl), jm_g3 55 rfl rfl⟩, fun q => absurd q (by decide)⟩⟩
  · exact ⟨trivial, ⟨118, 4, rfl, fun _ => ⟨jp_CR_takeSign, rfl, ji_CR_takeSign, Or.inl (jm_g3 112 rfl rfl), jm_g3 113 rfl rfl⟩, fun q => absurd q (by decide)⟩⟩
  · exact ⟨trivial, ⟨150, 0, 1, rfl, fun _ => ⟨by decide, jp_T_peek, _, _, rfl, ji_T_peek, Or.inl (jm_g3 115 rfl rfl), jm_g2 204 rfl rfl, jm_g2 205 rfl rfl, rfl⟩, fun q => absurd q (by decide)⟩⟩
  · exact ⟨trivial, ⟨117, 3, rfl, fun _ => ⟨jp_CR_readUpper, rfl, ji_CR_readUpper, Or.inl (jm_g3 116 rfl rfl), jm_g3 117 rfl rfl⟩, fun q => absurd q (by decide)⟩⟩
  · exact ⟨Or.inr ⟨3, adK 0, "JANFEBMARAPRMAYJUNJULAUGSEPOCTNOVDEC", rfl, rfl, F.2.2.1 0 _ _ _ (by decide +kernel)⟩, trivial⟩
  · exact ⟨trivial, ⟨156, 1, 1, rfl, fun _ => ⟨by decide, jp_T_takeName, _, _, rfl, ji_T_takeName, Or.inl (jm_g3 58 rfl rfl), jm_g3 59 rfl rfl, jm_g3 60 rfl rfl, rfl⟩, fun q => absurd q (by decide)⟩⟩
  · exact ⟨Or.inr ⟨4, adK 1, "SUNMONTUEWEDTHUFRISAT", rfl, rfl, F.2.2.1 1 _ _ _ (by decide +kernel)⟩, trivial⟩
  · exact ⟨⟨1, 2, .int, false, rfl, by decide, ⟨_, jn_T1, 4, jn_y1, rfl, by decide, jn_i1, jn_o1, jn_n1, rfl, rfl, by decide +kernel, Or.inr ⟨_, jm_g1 46 rfl rfl⟩⟩⟩, trivial⟩
  · exact ⟨trivial, ⟨148, 1, 1, rfl, fun _ => ⟨by decide, jp_T_breakAt, _, _, rfl, ji_T_breakAt, Or.inl (jm_g3 119 rfl rfl), jm_g2 213 rfl rfl, jm_g2 214 rfl rfl, rfl⟩, fun q => absurd q (by decide)⟩⟩
  · exact ⟨⟨4, 2, 0, 0, .int, rfl, by decide, Or.inl ⟨rfl, rfl⟩, Or.inl ⟨rfl, ⟨_, jn_T4, 4, jn_y4, rfl, by decide, jn_i4, jn_o4, jn_n4, rfl, rfl, by decide +kernel, Or.inr ⟨_, jm_g1 95 rfl rfl⟩⟩⟩⟩, trivial⟩
  · exact ⟨trivial, ⟨190, 2, rfl, fun _ => ⟨jp_Math_max, rfl, ji_Math_max, Or.inl (jm_g3 127 rfl rfl), jm_g3 128 rfl rfl⟩, fun q => absurd q (by decide)⟩⟩
def jl_CR : List (Instr × List Nat × Value) := jl_CR_0
theorem js_CR (F : jx_SF S dA aL aM adK) (cc : ByteArray) (pc : Nat) : ∀ r ∈ jl_CR, jx_si S dA (jx_R1 sc aL aM adK) jx_df "JobHouse$CronReader" r.1 r.2.1 r.2.2 ∧ jx_sc S jx_P cc "JobHouse$CronReader" pc r.1 r.2.1 := by
  intro r hr
  exact js_CR_0 F cc pc r hr
def jl_D_0 : List (Instr × List Nat × Value) := [(.ldc 9, [], .int 719468), (.ldc2_w 10, [], .long 86400), (.invokestatic 12, [187, 2], .null), (.ldc 18, [], .int 146097), (.invokestatic 19, [186, 2], .null), (.invokestatic 22, [120, 2], .null)]
theorem js_D_0 (F : jx_SF S dA aL aM adK) (cc : ByteArray) (pc : Nat) : ∀ r ∈ jl_D_0, jx_si S dA (jx_R1 sc aL aM adK) jx_df "JobHouse$Dates" r.1 r.2.1 r.2.2 ∧ jx_sc S jx_P cc "JobHouse$Dates" pc r.1 r.2.1 := by
  intro r hr
  simp only [jl_D_0, List.mem_cons, List.not_mem_nil, or_false] at hr
  rcases hr with rfl | rfl | rfl | rfl | rfl | rfl
  · exact ⟨Or.inl ⟨_, rfl, jm_g3 212 rfl rfl⟩, trivial⟩
  · exact ⟨⟨_, rfl, jm_g3 198 rfl rfl⟩, trivial⟩
  · exact ⟨trivial, ⟨187, 2, rfl, fun _ => ⟨jp_Math_floorDiv2, rfl, ji_Math_floorDiv2, Or.inl (jm_g3 199 rfl rfl), jm_g3 200 rfl rfl⟩, fun q => absurd q (by decide)⟩⟩
  · exact ⟨Or.inl ⟨_, rfl, jm_g3 205 rfl rfl⟩, trivial⟩
  · exact ⟨trivial, ⟨186, 2, rfl, fun _ => ⟨jp_Math_floorDiv, rfl, ji_Math_floorDiv, Or.inl (jm_g3 206 rfl rfl), jm_g3 207 rfl rfl⟩, fun q => absurd q (by decide)⟩⟩
  · exact ⟨trivial, ⟨120, 2, rfl, fun _ => ⟨jp_D_firstOfMonth, rfl, ji_D_firstOfMonth, Or.inl (jm_g3 209 rfl rfl), jm_g3 210 rfl rfl⟩, fun q => absurd q (by decide)⟩⟩
def jl_D : List (Instr × List Nat × Value) := jl_D_0
theorem js_D (F : jx_SF S dA aL aM adK) (cc : ByteArray) (pc : Nat) : ∀ r ∈ jl_D, jx_si S dA (jx_R1 sc aL aM adK) jx_df "JobHouse$Dates" r.1 r.2.1 r.2.2 ∧ jx_sc S jx_P cc "JobHouse$Dates" pc r.1 r.2.1 := by
  intro r hr
  exact js_D_0 F cc pc r hr
def jl_F_0 : List (Instr × List Nat × Value) := [(.invokespecial 3, [9003, 0], .null), (.new 9, [4], .null), (.invokespecial 11, [95, 0], .null), (.putfield 12, [6, 0, 4, 0], .null), (.new 18, [2], .null), (.invokespecial 20, [163, 0], .null), (.putfield 21, [6, 1, 4, 0], .null), (.new 25, [5], .null), (.invokespecial 27, [135, 1], .null), (.putfield 30, [6, 2, 4, 0], .null), (.ldc2_w 34, [], .long 1000), (.ldc2_w 36, [], .long 10413791999), (.getfield 21, [6, 1], .null), (.invokevirtual 38, [165, 1, 2], .null), (.invokevirtual 42, [129, 1, 6], .null), (.getfield 46, [2, 6], .null), (.getfield 50, [2, 5], .null), (.ldc2_w 54, [], .long (-1)), (.getfield 56, [2, 0], .null), (.getfield 59, [2, 1], .null), (.invokestatic 62, [191, 2], .null), (.invokevirtual 68, [130, 1, 6], .null), (.getfield 71, [2, 4], .null), (.invokestatic 74, [193, 2], .null), (.invokestatic 77, [122, 1], .null), (.invokevirtual 82, [131, 1, 6], .null), (.getfield 12, [6, 0], .null), (.ldc2_w 86, [], .long 86400), (.invokevirtual 88, [107, 1, 4], .null), (.invokevirtual 91, [132, 1, 6], .null), (.invokevirtual 94, [108, 1, 4], .null), (.ldc 97, [], .int 86399), (.invokestatic 98, [190, 2], .null), (.invokestatic 101, [123, 1], .null), (.invokestatic 104, [124, 2], .null), (.invokestatic 107, [120, 2], .null), (.invokevirtual 110, [101, 1, 4], .null), (.invokevirtual 114, [100, 1, 4], .null), (.invokevirtual 117, [133, 3, 6], .null), (.ldc 121, [], .int 120529), (.invokestatic 122, [192, 2], .null), (.invokevirtual 124, [134, 3, 6], .null), (.invokestatic 127, [121, 2], .null), (.invokestatic 130, [125, 1], .null), (.invokevirtual 133, [102, 2, 4], .null), (.invokestatic 137, [109, 2], .null), (.getfield 30, [6, 2], .null), (.invokevirtual 141, [136, 1, 5], .null), (.invokestatic 144, [110, 2], .null)]
theorem js_F_0 (F : jx_SF S dA aL aM adK) (cc : ByteArray) (pc : Nat) : ∀ r ∈ jl_F_0, jx_si S dA (jx_R1 sc aL aM adK) jx_df "JobHouse$Fires" r.1 r.2.1 r.2.2 ∧ jx_sc S jx_P cc "JobHouse$Fires" pc r.1 r.2.1 := by
  intro r hr
  simp only [jl_F_0, List.mem_cons, List.not_mem_nil, or_false] at hr
  rcases hr with rfl | rfl | rfl | rfl | rfl | rfl | rfl | rfl | rfl | rfl | rfl | rfl | rfl | rfl | rfl | rfl | rfl | rfl | rfl | rfl | rfl | rfl | rfl | rfl | rfl | rfl | rfl | rfl | rfl | rfl | rfl | rfl | rfl | rfl | rfl | rfl | rfl | rfl | rfl | rfl | rfl | rfl | rfl | rfl | rfl | rfl | rfl | rfl | rfl
  · exact ⟨trivial, ⟨9003, 0, rfl, fun q => absurd q (by decide), fun _ => ⟨rfl, rfl, jm_g1 84 rfl rfl, jm_g1 34 rfl rfl, jm_g1 35 rfl rfl⟩⟩⟩
  · exact ⟨⟨4, rfl, fun fs hfs => by
      cases hfs
      exact ⟨_, jn_T4, jn_y4, rfl, jn_i4, jn_o4, by decide +kernel, jm_g1 85 rfl rfl, jm_g1 86 rfl rfl, jm_g1 5 rfl rfl⟩⟩, ⟨4, rfl, fun q => absurd q (by decide)⟩⟩
  · exact ⟨trivial, ⟨95, 0, rfl, fun _ => ⟨jp_C_init, rfl, ji_C_init, Or.inr ⟨_, jm_g1 87 rfl rfl⟩, jm_g1 88 rfl rfl, rfl, rfl, rfl⟩, fun q => absurd q (by decide)⟩⟩
  · exact ⟨⟨6, 0, 4, 0, .object "JobHouse$Cron", rfl, by decide, Or.inr (Or.inr (Or.inr ⟨rfl, Or.inl ⟨_, rfl⟩⟩)), Or.inl ⟨rfl, ⟨_, jn_T6, 3, jn_y6, rfl, by decide, jn_i6, jn_o6, jn_n6, rfl, rfl, by decide +kernel, Or.inl (jm_g1 163 rfl rfl)⟩⟩⟩, trivial⟩
  · exact ⟨⟨2, rfl, fun fs hfs => by
      cases hfs
      exact ⟨_, jn_T2, jn_y2, rfl, jn_i2, jn_o2, by decide +kernel, jm_g1 108 rfl rfl, jm_g1 109 rfl rfl, jm_g1 6 rfl rfl⟩⟩, ⟨2, rfl, fun q => absurd q (by decide)⟩⟩
  · exact ⟨trivial, ⟨163, 0, rfl, fun _ => ⟨jp_Z_init, rfl, ji_Z_init, Or.inr ⟨_, jm_g1 110 rfl rfl⟩, jm_g1 111 rfl rfl, rfl, rfl, rfl⟩, fun q => absurd q (by decide)⟩⟩
  · exact ⟨⟨6, 1, 4, 0, .object "JobHouse$Zone", rfl, by decide, Or.inr (Or.inr (Or.inr ⟨rfl, Or.inl ⟨_, rfl⟩⟩)), Or.inl ⟨rfl, ⟨_, jn_T6, 3, jn_y6, rfl, by decide, jn_i6, jn_o6, jn_n6, rfl, rfl, by decide +kernel, Or.inl (jm_g1 165 rfl rfl)⟩⟩⟩, trivial⟩
  · exact ⟨⟨5, rfl, fun fs hfs => by
      cases hfs
      exact ⟨_, jn_T5, jn_y5, rfl, jn_i5, jn_o5, by decide +kernel, jm_g1 161 rfl rfl, jm_g1 65 rfl rfl, jm_g1 3 rfl rfl⟩⟩, ⟨5, rfl, fun q => absurd q (by decide)⟩⟩
  · exact ⟨trivial, ⟨135, 1, rfl, fun _ => ⟨jp_H_init, rfl, ji_H_init, Or.inl (jm_g1 162 rfl rfl), jm_g1 67 rfl rfl, rfl, rfl, rfl⟩, fun q => absurd q (by decide)⟩⟩
  · exact ⟨⟨6, 2, 4, 0, .object "JobHouse$Holidays", rfl, by decide, Or.inr (Or.inr (Or.inr ⟨rfl, Or.inl ⟨_, rfl⟩⟩)), Or.inl ⟨rfl, ⟨_, jn_T6, 3, jn_y6, rfl, by decide, jn_i6, jn_o6, jn_n6, rfl, rfl, by decide +kernel, Or.inl (jm_g1 167 rfl rfl)⟩⟩⟩, trivial⟩
  · exact ⟨⟨_, rfl, jm_g3 184 rfl rfl⟩, trivial⟩
  · exact ⟨⟨_, rfl, jm_g3 185 rfl rfl⟩, trivial⟩
  · exact ⟨⟨6, 1, .object "JobHouse$Zone", false, rfl, by decide, ⟨_, jn_T6, 3, jn_y6, rfl, by decide, jn_i6, jn_o6, jn_n6, rfl, rfl, by decide +kernel, Or.inl (jm_g1 165 rfl rfl)⟩⟩, trivial⟩
  · exact ⟨trivial, ⟨165, 1, 2, rfl, fun _ => ⟨by decide, jp_Z_offsetAt, _, _, rfl, ji_Z_offsetAt, Or.inl (jm_g3 186 rfl rfl), jm_g3 187 rfl rfl, jm_g3 188 rfl rfl, rfl⟩, fun q => absurd q (by decide)⟩⟩
  · exact ⟨trivial, ⟨129, 1, 6, rfl, fun _ => ⟨by decide, jp_F_localFrom, _, _, rfl, ji_F_localFrom, Or.inl (jm_g4 6 rfl rfl), jm_g4 8 rfl rfl, jm_g0 4 rfl rfl, rfl⟩, fun q => absurd q (by decide)⟩⟩
  · exact ⟨⟨2, 6, .int, false, rfl, by decide, ⟨_, jn_T2, 7, jn_y2, rfl, by decide, jn_i2, jn_o2, jn_n2, rfl, rfl, by decide +kernel, Or.inr ⟨_, jm_g1 144 rfl rfl⟩⟩⟩, trivial⟩
  · exact ⟨⟨2, 5, .long, false, rfl, by decide, ⟨_, jn_T2, 7, jn_y2, rfl, by decide, jn_i2, jn_o2, jn_n2, rfl, rfl, by decide +kernel, Or.inr ⟨_, jm_g1 143 rfl rfl⟩⟩⟩, trivial⟩
  · exact ⟨⟨_, rfl, jm_g4 70 rfl rfl⟩, trivial⟩
  · exact ⟨⟨2, 0, .int, false, rfl, by decide, ⟨_, jn_T2, 7, jn_y2, rfl, by decide, jn_i2, jn_o2, jn_n2, rfl, rfl, by decide +kernel, Or.inr ⟨_, jm_g1 135 rfl rfl⟩⟩⟩, trivial⟩
  · exact ⟨⟨2, 1, .int, false, rfl, by decide, ⟨_, jn_T2, 7, jn_y2, rfl, by decide, jn_i2, jn_o2, jn_n2, rfl, rfl, by decide +kernel, Or.inr ⟨_, jm_g1 137 rfl rfl⟩⟩⟩, trivial⟩
  · exact ⟨trivial, ⟨191, 2, rfl, fun _ => ⟨jp_Math_max2, rfl, ji_Math_max2, Or.inl (jm_g4 71 rfl rfl), jm_g4 1 rfl rfl⟩, fun q => absurd q (by decide)⟩⟩
  · exact ⟨trivial, ⟨130, 1, 6, rfl, fun _ => ⟨by decide, jp_F_localUpTo, _, _, rfl, ji_F_localUpTo, Or.inl (jm_g4 83 rfl rfl), jm_g4 85 rfl rfl, jm_g0 8 rfl rfl, rfl⟩, fun q => absurd q (by decide)⟩⟩
  · exact ⟨⟨2, 4, .long, false, rfl, by decide, ⟨_, jn_T2, 7, jn_y2, rfl, by decide, jn_i2, jn_o2, jn_n2, rfl, rfl, by decide +kernel, Or.inr ⟨_, jm_g1 141 rfl rfl⟩⟩⟩, trivial⟩
  · exact ⟨trivial, ⟨193, 2, rfl, fun _ => ⟨jp_Math_min2, rfl, ji_Math_min2, Or.inl (jm_g4 106 rfl rfl), jm_g4 4 rfl rfl⟩, fun q => absurd q (by decide)⟩⟩
  · exact ⟨trivial, ⟨122, 1, rfl, fun _ => ⟨jp_D_dayOf, rfl, ji_D_dayOf, Or.inl (jm_g4 10 rfl rfl), jm_g3 196 rfl rfl⟩, fun q => absurd q (by decide)⟩⟩
  · exact ⟨trivial, ⟨131, 1, 6, rfl, fun _ => ⟨by decide, jp_F_dayFrom, _, _, rfl, ji_F_dayFrom, Or.inl (jm_g4 11 rfl rfl), jm_g4 13 rfl rfl, jm_g0 5 rfl rfl, rfl⟩, fun q => absurd q (by decide)⟩⟩
  · exact ⟨⟨6, 0, .object "JobHouse$Cron", false, rfl, by decide, ⟨_, jn_T6, 3, jn_y6, rfl, by decide, jn_i6, jn_o6, jn_n6, rfl, rfl, by decide +kernel, Or.inl (jm_g1 163 rfl rfl)⟩⟩, trivial⟩
  · exact ⟨⟨_, rfl, jm_g4 64 rfl rfl⟩, trivial⟩
  · exact ⟨trivial, ⟨107, 1, 4, rfl, fun _ => ⟨by decide, jp_C_timeFrom, _, _, rfl, ji_C_timeFrom, Or.inl (jm_g4 65 rfl rfl), jm_g4 66 rfl rfl, jm_g4 67 rfl rfl, rfl⟩, fun q => absurd q (by decide)⟩⟩
  · exact ⟨trivial, ⟨132, 1, 6, rfl, fun _ => ⟨by decide, jp_F_dayUpTo, _, _, rfl, ji_F_dayUpTo, Or.inl (jm_g4 87 rfl rfl), jm_g4 89 rfl rfl, jm_g0 9 rfl rfl, rfl⟩, fun q => absurd q (by decide)⟩⟩
  · exact ⟨trivial, ⟨108, 1, 4, rfl, fun _ => ⟨by decide, jp_C_timeUpTo, _, _, rfl, ji_C_timeUpTo, Or.inl (jm_g4 100 rfl rfl), jm_g4 101 rfl rfl, jm_g4 102 rfl rfl, rfl⟩, fun q => absurd q (by decide)⟩⟩
  · exact ⟨Or.inl ⟨_, rfl, jm_g4 105 rfl rfl⟩, trivial⟩
  · exact ⟨trivial, ⟨190, 2, rfl, fun _ => ⟨jp_Math_max, rfl, ji_Math_max, Or.inl (jm_g4 15 rfl rfl), jm_g3 128 rfl rfl⟩, fun q => absurd q (by decide)⟩⟩
  · exact ⟨trivial, ⟨123, 1, rfl, fun _ => ⟨jp_D_yearOf, rfl, ji_D_yearOf, Or.inl (jm_g4 16 rfl rfl), jm_g3 203 rfl rfl⟩, fun q => absurd q (by decide)⟩⟩
  · exact ⟨trivial, ⟨124, 2, rfl, fun _ => ⟨jp_D_monthOf, rfl, ji_D_monthOf, Or.inl (jm_g4 17 rfl rfl), jm_g4 18 rfl rfl⟩, fun q => absurd q (by decide)⟩⟩
  · exact ⟨trivial, ⟨120, 2, rfl, fun _ => ⟨jp_D_firstOfMonth, rfl, ji_D_firstOfMonth, Or.inl (jm_g4 20 rfl rfl), jm_g3 210 rfl rfl⟩, fun q => absurd q (by decide)⟩⟩
  · exact ⟨trivial, ⟨101, 1, 4, rfl, fun _ => ⟨by decide, jp_C_hasYear, _, _, rfl, ji_C_hasYear, Or.inl (jm_g4 21 rfl rfl), jm_g4 22 rfl rfl, jm_g4 23 rfl rfl, rfl⟩, fun q => absurd q (by decide)⟩⟩
  · exact ⟨trivial, ⟨100, 1, 4, rfl, fun _ => ⟨by decide, jp_C_hasMonth, _, _, rfl, ji_C_hasMonth, Or.inl (jm_g4 25 rfl rfl), jm_g4 26 rfl rfl, jm_g4 27 rfl rfl, rfl⟩, fun q => absurd q (by decide)⟩⟩
  · exact ⟨trivial, ⟨133, 3, 6, rfl, fun _ => ⟨by decide, jp_F_dateFrom, _, _, rfl, ji_F_dateFrom, Or.inl (jm_g4 29 rfl rfl), jm_g4 31 rfl rfl, jm_g0 6 rfl rfl, rfl⟩, fun q => absurd q (by decide)⟩⟩
  · exact ⟨Or.inl ⟨_, rfl, jm_g4 91 rfl rfl⟩, trivial⟩
  · exact ⟨trivial, ⟨192, 2, rfl, fun _ => ⟨jp_Math_min, rfl, ji_Math_min, Or.inl (jm_g4 92 rfl rfl), jm_g2 225 rfl rfl⟩, fun q => absurd q (by decide)⟩⟩
  · exact ⟨trivial, ⟨134, 3, 6, rfl, fun _ => ⟨by decide, jp_F_dateUpTo, _, _, rfl, ji_F_dateUpTo, Or.inl (jm_g4 93 rfl rfl), jm_g4 95 rfl rfl, jm_g0 10 rfl rfl, rfl⟩, fun q => absurd q (by decide)⟩⟩
  · exact ⟨trivial, ⟨121, 2, rfl, fun _ => ⟨jp_D_monthLength, rfl, ji_D_monthLength, Or.inl (jm_g4 33 rfl rfl), jm_g3 230 rfl rfl⟩, fun q => absurd q (by decide)⟩⟩
  · exact ⟨trivial, ⟨125, 1, rfl, fun _ => ⟨jp_D_weekdayOf, rfl, ji_D_weekdayOf, Or.inl (jm_g4 34 rfl rfl), jm_g3 224 rfl rfl⟩, fun q => absurd q (by decide)⟩⟩
  · exact ⟨trivial, ⟨102, 2, 4, rfl, fun _ => ⟨by decide, jp_C_daysOf, _, _, rfl, ji_C_daysOf, Or.inl (jm_g4 35 rfl rfl), jm_g4 36 rfl rfl, jm_g4 37 rfl rfl, rfl⟩, fun q => absurd q (by decide)⟩⟩
  · exact ⟨trivial, ⟨109, 2, rfl, fun _ => ⟨jp_C_lowestBit, rfl, ji_C_lowestBit, Or.inl (jm_g4 54 rfl rfl), jm_g4 55 rfl rfl⟩, fun q => absurd q (by decide)⟩⟩
  · exact ⟨⟨6, 2, .object "JobHouse$Holidays", false, rfl, by decide, ⟨_, jn_T6, 3, jn_y6, rfl, by decide, jn_i6, jn_o6, jn_n6, rfl, rfl, by decide +kernel, Or.inl (jm_g1 167 rfl rfl)⟩⟩, trivial⟩
  · exact ⟨trivial, ⟨136, 1, 5, rfl, fun _ => ⟨by decide, jp_H_placeOf, _, _, rfl, ji_H_placeOf, Or.inl (jm_g4 63 rfl rfl), jm_g3 150 rfl rfl, jm_g3 151 rfl rfl, rfl⟩, fun q => absurd q (by decide)⟩⟩
  · exact ⟨trivial, ⟨110, 2, rfl, fun _ => ⟨jp_C_highestBit, rfl, ji_C_highestBit, Or.inl (jm_g4 97 rfl rfl), jm_g4 98 rfl rfl⟩, fun q => absurd q (by decide)⟩⟩
def jl_F : List (Instr × List Nat × Value) := jl_F_0
theorem js_F (F : jx_SF S dA aL aM adK) (cc : ByteArray) (pc : Nat) : ∀ r ∈ jl_F, jx_si S dA (jx_R1 sc aL aM adK) jx_df "JobHouse$Fires" r.1 r.2.1 r.2.2 ∧ jx_sc S jx_P cc "JobHouse$Fires" pc r.1 r.2.1 := by
  intro r hr
  exact js_F_0 F cc pc r hr
def jl_H_0 : List (Instr × List Nat × Value) := [(.invokespecial 1, [9003, 0], .null), (.newarray .int, [2], .null), (.putfield 7, [5, 0, 4, 1], .null), (.getfield 13, [5, 1], .null), (.getfield 7, [5, 0], .null), (.invokestatic 17, [9002, 5], .null), (.putfield 13, [5, 1, 0, 0], .null)]
theorem js_H_0 (F : jx_SF S dA aL aM adK) (cc : ByteArray) (pc : Nat) : ∀ r ∈ jl_H_0, jx_si S dA (jx_R1 sc aL aM adK) jx_df "JobHouse$Holidays" r.1 r.2.1 r.2.2 ∧ jx_sc S jx_P cc "JobHouse$Holidays" pc r.1 r.2.1 := by
  intro r hr
  simp only [jl_H_0, List.mem_cons, List.not_mem_nil, or_false] at hr
  rcases hr with rfl | rfl | rfl | rfl | rfl | rfl | rfl
  · exact ⟨trivial, ⟨9003, 0, rfl, fun q => absurd q (by decide), fun _ => ⟨rfl, rfl, jm_g1 69 rfl rfl, jm_g1 34 rfl rfl, jm_g1 35 rfl rfl⟩⟩⟩
  · exact ⟨⟨2, _, rfl, by decide, rfl, rfl, jm_g1 78 rfl rfl⟩, trivial⟩
  · exact ⟨⟨5, 0, 4, 1, .array .int, rfl, by decide, Or.inr (Or.inr (Or.inr ⟨rfl, Or.inr ⟨_, rfl⟩⟩)), Or.inr ⟨rfl, ⟨jn_T5, 2, jn_y5, rfl, by decide, jn_i5, jn_o5, jn_n5, rfl, rfl, by decide +kernel, jm_g1 70 rfl rfl⟩⟩⟩, trivial⟩
  · exact ⟨⟨5, 1, .int, false, rfl, by decide, ⟨_, jn_T5, 2, jn_y5, rfl, by decide, jn_i5, jn_o5, jn_n5, rfl, rfl, by decide +kernel, Or.inl (jm_g1 71 rfl rfl)⟩⟩, trivial⟩
  · exact ⟨⟨5, 0, .array .int, true, rfl, by decide, ⟨_, jn_T5, 2, jn_y5, rfl, by decide, jn_i5, jn_o5, jn_n5, rfl, rfl, by decide +kernel, Or.inl (jm_g1 70 rfl rfl)⟩⟩, trivial⟩
  · exact ⟨trivial, ⟨9002, 5, rfl, fun q => absurd q (by decide), fun _ => ⟨rfl, rfl, jm_g3 157 rfl rfl, jm_g3 158 rfl rfl, jm_g1 23 rfl rfl, F.2.2.2.2.1⟩⟩⟩
  · exact ⟨⟨5, 1, 0, 0, .int, rfl, by decide, Or.inl ⟨rfl, rfl⟩, Or.inl ⟨rfl, ⟨_, jn_T5, 2, jn_y5, rfl, by decide, jn_i5, jn_o5, jn_n5, rfl, rfl, by decide +kernel, Or.inl (jm_g1 71 rfl rfl)⟩⟩⟩, trivial⟩
def jl_H : List (Instr × List Nat × Value) := jl_H_0
theorem js_H (F : jx_SF S dA aL aM adK) (cc : ByteArray) (pc : Nat) : ∀ r ∈ jl_H, jx_si S dA (jx_R1 sc aL aM adK) jx_df "JobHouse$Holidays" r.1 r.2.1 r.2.2 ∧ jx_sc S jx_P cc "JobHouse$Holidays" pc r.1 r.2.1 := by
  intro r hr
  exact js_H_0 F cc pc r hr
def jl_B_0 : List (Instr × List Nat × Value) := [(.invokespecial 3, [9003, 0], .null), (.getfield 9, [7, 4], .null), (.getfield 15, [7, 8], .null), (.getfield 19, [7, 2], .null), (.getfield 22, [7, 0], .null), (.getfield 25, [7, 1], .null), (.getfield 28, [7, 3], .null), (.getfield 31, [7, 10], .null), (.getfield 34, [7, 6], .null), (.ldc2_w 37, [], .long (-1)), (.getfield 39, [7, 9], .null)]
theorem js_B_0 (F : jx_SF S dA aL aM adK) (cc : ByteArray) (pc : Nat) : ∀ r ∈ jl_B_0, jx_si S dA (jx_R1 sc aL aM adK) jx_df "JobHouse$Job" r.1 r.2.1 r.2.2 ∧ jx_sc S jx_P cc "JobHouse$Job" pc r.1 r.2.1 := by
  intro r hr
  simp only [jl_B_0, List.mem_cons, List.not_mem_nil, or_false] at hr
  rcases hr with rfl | rfl | rfl | rfl | rfl | rfl | rfl | rfl | rfl | rfl | rfl
  · exact ⟨trivial, ⟨9003, 0, rfl, fun q => absurd q (by decide), fun _ => ⟨rfl, rfl, jm_g1 211 rfl rfl, jm_g1 34 rfl rfl, jm_g1 35 rfl rfl⟩⟩⟩
  · exact ⟨⟨7, 4, .long, false, rfl, by decide, ⟨_, jn_T7, 14, jn_y7, rfl, by decide, jn_i7, jn_o7, jn_n7, rfl, rfl, by decide +kernel, Or.inl (jm_g1 220 rfl rfl)⟩⟩, trivial⟩
  · exact ⟨⟨7, 8, .int, false, rfl, by decide, ⟨_, jn_T7, 14, jn_y7, rfl, by decide, jn_i7, jn_o7, jn_n7, rfl, rfl, by decide +kernel, Or.inl (jm_g1 226 rfl rfl)⟩⟩, trivial⟩
  · exact ⟨⟨7, 2, .int, false, rfl, by decide, ⟨_, jn_T7, 14, jn_y7, rfl, by decide, jn_i7, jn_o7, jn_n7, rfl, rfl, by decide +kernel, Or.inl (jm_g1 216 rfl rfl)⟩⟩, trivial⟩
  · exact ⟨⟨7, 0, .int, false, rfl, by decide, ⟨_, jn_T7, 14, jn_y7, rfl, by decide, jn_i7, jn_o7, jn_n7, rfl, rfl, by decide +kernel, Or.inl (jm_g1 212 rfl rfl)⟩⟩, trivial⟩
  · exact ⟨⟨7, 1, .int, false, rfl, by decide, ⟨_, jn_T7, 14, jn_y7, rfl, by decide, jn_i7, jn_o7, jn_n7, rfl, rfl, by decide +kernel, Or.inl (jm_g1 214 rfl rfl)⟩⟩, trivial⟩
  · exact ⟨⟨7, 3, .int, false, rfl, by decide, ⟨_, jn_T7, 14, jn_y7, rfl, by decide, jn_i7, jn_o7, jn_n7, rfl, rfl, by decide +kernel, Or.inl (jm_g1 218 rfl rfl)⟩⟩, trivial⟩
  · exact ⟨⟨7, 10, .int, false, rfl, by decide, ⟨_, jn_T7, 14, jn_y7, rfl, by decide, jn_i7, jn_o7, jn_n7, rfl, rfl, by decide +kernel, Or.inl (jm_g1 230 rfl rfl)⟩⟩, trivial⟩
  · exact ⟨⟨7, 6, .long, false, rfl, by decide, ⟨_, jn_T7, 14, jn_y7, rfl, by decide, jn_i7, jn_o7, jn_n7, rfl, rfl, by decide +kernel, Or.inl (jm_g1 223 rfl rfl)⟩⟩, trivial⟩
  · exact ⟨⟨_, rfl, jm_g5 3 rfl rfl⟩, trivial⟩
  · exact ⟨⟨7, 9, .int, false, rfl, by decide, ⟨_, jn_T7, 14, jn_y7, rfl, by decide, jn_i7, jn_o7, jn_n7, rfl, rfl, by decide +kernel, Or.inl (jm_g1 228 rfl rfl)⟩⟩, trivial⟩
def jl_B : List (Instr × List Nat × Value) := jl_B_0
theorem js_B (F : jx_SF S dA aL aM adK) (cc : ByteArray) (pc : Nat) : ∀ r ∈ jl_B, jx_si S dA (jx_R1 sc aL aM adK) jx_df "JobHouse$Job" r.1 r.2.1 r.2.2 ∧ jx_sc S jx_P cc "JobHouse$Job" pc r.1 r.2.1 := by
  intro r hr
  exact js_B_0 F cc pc r hr
def jl_L_0 : List (Instr × List Nat × Value) := [(.invokespecial 3, [9003, 0], .null), (.newarray .long, [3], .null), (.putfield 9, [8, 0, 4, 1], .null), (.newarray .int, [2], .null), (.putfield 15, [8, 1, 4, 1], .null), (.putfield 19, [8, 2, 4, 1], .null), (.getfield 22, [8, 3], .null), (.getfield 9, [8, 0], .null), (.getfield 15, [8, 1], .null), (.getfield 19, [8, 2], .null), (.putfield 22, [8, 3, 0, 0], .null), (.getfield 26, [8, 4], .null), (.putfield 26, [8, 4, 1, 0], .null)]
theorem js_L_0 (F : jx_SF S dA aL aM adK) (cc : ByteArray) (pc : Nat) : ∀ r ∈ jl_L_0, jx_si S dA (jx_R1 sc aL aM adK) jx_df "JobHouse$StartLog" r.1 r.2.1 r.2.2 ∧ jx_sc S jx_P cc "JobHouse$StartLog" pc r.1 r.2.1 := by
  intro r hr
  simp only [jl_L_0, List.mem_cons, List.not_mem_nil, or_false] at hr
  rcases hr with rfl | rfl | rfl | rfl | rfl | rfl | rfl | rfl | rfl | rfl | rfl | rfl | rfl
  · exact ⟨trivial, ⟨9003, 0, rfl, fun q => absurd q (by decide), fun _ => ⟨rfl, rfl, jm_g1 185 rfl rfl, jm_g1 34 rfl rfl, jm_g1 35 rfl rfl⟩⟩⟩
  · exact ⟨⟨3, _, rfl, by decide, rfl, rfl, jm_g1 107 rfl rfl⟩, trivial⟩
  · exact ⟨⟨8, 0, 4, 1, .array .long, rfl, by decide, Or.inr (Or.inr (Or.inr ⟨rfl, Or.inr ⟨_, rfl⟩⟩)), Or.inr ⟨rfl, ⟨jn_T8, 5, jn_y8, rfl, by decide, jn_i8, jn_o8, jn_n8, rfl, rfl, by decide +kernel, jm_g1 186 rfl rfl⟩⟩⟩, trivial⟩
  · exact ⟨⟨2, _, rfl, by decide, rfl, rfl, jm_g1 78 rfl rfl⟩, trivial⟩
  · exact ⟨⟨8, 1, 4, 1, .array .int, rfl, by decide, Or.inr (Or.inr (Or.inr ⟨rfl, Or.inr ⟨_, rfl⟩⟩)), Or.inr ⟨rfl, ⟨jn_T8, 5, jn_y8, rfl, by decide, jn_i8, jn_o8, jn_n8, rfl, rfl, by decide +kernel, jm_g1 188 rfl rfl⟩⟩⟩, trivial⟩
  · exact ⟨⟨8, 2, 4, 1, .array .long, rfl, by decide, Or.inr (Or.inr (Or.inr ⟨rfl, Or.inr ⟨_, rfl⟩⟩)), Or.inr ⟨rfl, ⟨jn_T8, 5, jn_y8, rfl, by decide, jn_i8, jn_o8, jn_n8, rfl, rfl, by decide +kernel, jm_g1 190 rfl rfl⟩⟩⟩, trivial⟩
  · exact ⟨⟨8, 3, .int, false, rfl, by decide, ⟨_, jn_T8, 5, jn_y8, rfl, by decide, jn_i8, jn_o8, jn_n8, rfl, rfl, by decide +kernel, Or.inl (jm_g1 192 rfl rfl)⟩⟩, trivial⟩
  · exact ⟨⟨8, 0, .array .long, true, rfl, by decide, ⟨_, jn_T8, 5, jn_y8, rfl, by decide, jn_i8, jn_o8, jn_n8, rfl, rfl, by decide +kernel, Or.inl (jm_g1 186 rfl rfl)⟩⟩, trivial⟩
  · exact ⟨⟨8, 1, .array .int, true, rfl, by decide, ⟨_, jn_T8, 5, jn_y8, rfl, by decide, jn_i8, jn_o8, jn_n8, rfl, rfl, by decide +kernel, Or.inl (jm_g1 188 rfl rfl)⟩⟩, trivial⟩
  · exact ⟨⟨8, 2, .array .long, true, rfl, by decide, ⟨_, jn_T8, 5, jn_y8, rfl, by decide, jn_i8, jn_o8, jn_n8, rfl, rfl, by decide +kernel, Or.inl (jm_g1 190 rfl rfl)⟩⟩, trivial⟩
  · exact ⟨⟨8, 3, 0, 0, .int, rfl, by decide, Or.inl ⟨rfl, rfl⟩, Or.inl ⟨rfl, ⟨_, jn_T8, 5, jn_y8, rfl, by decide, jn_i8, jn_o8, jn_n8, rfl, rfl, by decide +kernel, Or.inl (jm_g1 192 rfl rfl)⟩⟩⟩, trivial⟩
  · exact ⟨⟨8, 4, .long, false, rfl, by decide, ⟨_, jn_T8, 5, jn_y8, rfl, by decide, jn_i8, jn_o8, jn_n8, rfl, rfl, by decide +kernel, Or.inl (jm_g1 194 rfl rfl)⟩⟩, trivial⟩
  · exact ⟨⟨8, 4, 1, 0, .long, rfl, by decide, Or.inr (Or.inl ⟨rfl, rfl⟩), Or.inl ⟨rfl, ⟨_, jn_T8, 5, jn_y8, rfl, by decide, jn_i8, jn_o8, jn_n8, rfl, rfl, by decide +kernel, Or.inl (jm_g1 194 rfl rfl)⟩⟩⟩, trivial⟩
def jl_L : List (Instr × List Nat × Value) := jl_L_0
theorem js_L (F : jx_SF S dA aL aM adK) (cc : ByteArray) (pc : Nat) : ∀ r ∈ jl_L, jx_si S dA (jx_R1 sc aL aM adK) jx_df "JobHouse$StartLog" r.1 r.2.1 r.2.2 ∧ jx_sc S jx_P cc "JobHouse$StartLog" pc r.1 r.2.1 := by
  intro r hr
  exact js_L_0 F cc pc r hr
def jl_T_0 : List (Instr × List Nat × Value) := [(.invokespecial 3, [9003, 0], .null), (.newarray .byte, [0], .null), (.putfield 9, [1, 0, 4, 1], .null), (.putfield 15, [1, 3, 0, 0], .null), (.getfield 19, [1, 1], .null), (.getfield 9, [1, 0], .null), (.putfield 19, [1, 1, 0, 0], .null), (.putfield 22, [1, 2, 0, 0], .null), (.getfield 15, [1, 3], .null), (.invokevirtual 25, [150, 0, 1], .null), (.getfield 22, [1, 2], .null), (.invokevirtual 29, [151, 1, 1], .null), (.invokevirtual 33, [148, 1, 1], .null), (.invokevirtual 37, [152, 1, 1], .null), (.invokevirtual 40, [149, 0, 1], .null), (.invokestatic 44, [157, 1], .null), (.ldc 47, [], .int 1000000), (.invokestatic 48, [192, 2], .null), (.invokevirtual 54, [9000, 0, 300], .null), (.invokevirtual 58, [9001, 1, 300], .null)]
theorem js_T_0 (F : jx_SF S dA aL aM adK) (cc : ByteArray) (pc : Nat) : ∀ r ∈ jl_T_0, jx_si S dA (jx_R1 sc aL aM adK) jx_df "JobHouse$Text" r.1 r.2.1 r.2.2 ∧ jx_sc S jx_P cc "JobHouse$Text" pc r.1 r.2.1 := by
  intro r hr
  simp only [jl_T_0, List.mem_cons, List.not_mem_nil, or_false] at hr
  rcases hr with rfl | rfl | rfl | rfl | rfl | rfl | rfl | rfl | rfl | rfl | rfl | rfl | rfl | rfl | rfl | rfl | rfl | rfl | rfl | rfl
  · exact ⟨trivial, ⟨9003, 0, rfl, fun q => absurd q (by decide), fun _ => ⟨rfl, rfl, jm_g1 41 rfl rfl, jm_g1 34 rfl rfl, jm_g1 35 rfl rfl⟩⟩⟩
  · exact ⟨⟨0, _, rfl, by decide, rfl, rfl, jm_g1 58 rfl rfl⟩, trivial⟩
  · exact ⟨⟨1, 0, 4, 1, .array .byte, rfl, by decide, Or.inr (Or.inr (Or.inr ⟨rfl, Or.inr ⟨_, rfl⟩⟩)), Or.inr ⟨rfl, ⟨jn_T1, 4, jn_y1, rfl, by decide, jn_i1, jn_o1, jn_n1, rfl, rfl, by decide +kernel, jm_g1 42 rfl rfl⟩⟩⟩, trivial⟩
  · exact ⟨⟨1, 3, 0, 0, .int, rfl, by decide, Or.inl ⟨rfl, rfl⟩, Or.inl ⟨rfl, ⟨_, jn_T1, 4, jn_y1, rfl, by decide, jn_i1, jn_o1, jn_n1, rfl, rfl, by decide +kernel, Or.inl (jm_g1 47 rfl rfl)⟩⟩⟩, trivial⟩
  · exact ⟨⟨1, 1, .int, false, rfl, by decide, ⟨_, jn_T1, 4, jn_y1, rfl, by decide, jn_i1, jn_o1, jn_n1, rfl, rfl, by decide +kernel, Or.inl (jm_g1 44 rfl rfl)⟩⟩, trivial⟩
  · exact ⟨⟨1, 0, .array .byte, true, rfl, by decide, ⟨_, jn_T1, 4, jn_y1, rfl, by decide, jn_i1, jn_o1, jn_n1, rfl, rfl, by decide +kernel, Or.inl (jm_g1 42 rfl rfl)⟩⟩, trivial⟩
  · exact ⟨⟨1, 1, 0, 0, .int, rfl, by decide, Or.inl ⟨rfl, rfl⟩, Or.inl ⟨rfl, ⟨_, jn_T1, 4, jn_y1, rfl, by decide, jn_i1, jn_o1, jn_n1, rfl, rfl, by decide +kernel, Or.inl (jm_g1 44 rfl rfl)⟩⟩⟩, trivial⟩
  · exact ⟨⟨1, 2, 0, 0, .int, rfl, by decide, Or.inl ⟨rfl, rfl⟩, Or.inl ⟨rfl, ⟨_, jn_T1, 4, jn_y1, rfl, by decide, jn_i1, jn_o1, jn_n1, rfl, rfl, by decide +kernel, Or.inl (jm_g1 45 rfl rfl)⟩⟩⟩, trivial⟩
  · exact ⟨⟨1, 3, .int, false, rfl, by decide, ⟨_, jn_T1, 4, jn_y1, rfl, by decide, jn_i1, jn_o1, jn_n1, rfl, rfl, by decide +kernel, Or.inl (jm_g1 47 rfl rfl)⟩⟩, trivial⟩
  · exact ⟨trivial, ⟨150, 0, 1, rfl, fun _ => ⟨by decide, jp_T_peek, _, _, rfl, ji_T_peek, Or.inl (jm_g2 203 rfl rfl), jm_g2 204 rfl rfl, jm_g2 205 rfl rfl, rfl⟩, fun q => absurd q (by decide)⟩⟩
  · exact ⟨⟨1, 2, .int, false, rfl, by decide, ⟨_, jn_T1, 4, jn_y1, rfl, by decide, jn_i1, jn_o1, jn_n1, rfl, rfl, by decide +kernel, Or.inl (jm_g1 45 rfl rfl)⟩⟩, trivial⟩
  · exact ⟨trivial, ⟨151, 1, 1, rfl, fun _ => ⟨by decide, jp_T_take, _, _, rfl, ji_T_take, Or.inl (jm_g2 211 rfl rfl), jm_g2 200 rfl rfl, jm_g2 201 rfl rfl, rfl⟩, fun q => absurd q (by decide)⟩⟩
  · exact ⟨trivial, ⟨148, 1, 1, rfl, fun _ => ⟨by decide, jp_T_breakAt, _, _, rfl, ji_T_breakAt, Or.inl (jm_g2 212 rfl rfl), jm_g2 213 rfl rfl, jm_g2 214 rfl rfl, rfl⟩, fun q => absurd q (by decide)⟩⟩
  · exact ⟨trivial, ⟨152, 1, 1, rfl, fun _ => ⟨by decide, jp_T_require, _, _, rfl, ji_T_require, Or.inl (jm_g2 235 rfl rfl), jm_g2 208 rfl rfl, jm_g2 209 rfl rfl, rfl⟩, fun q => absurd q (by decide)⟩⟩
  · exact ⟨trivial, ⟨149, 0, 1, rfl, fun _ => ⟨by decide, jp_T_isDone, _, _, rfl, ji_T_isDone, Or.inl (jm_g3 6 rfl rfl), jm_g2 228 rfl rfl, jm_g2 229 rfl rfl, rfl⟩, fun q => absurd q (by decide)⟩⟩
  · exact ⟨trivial, ⟨157, 1, rfl, fun _ => ⟨jp_T_isDigit, rfl, ji_T_isDigit, Or.inl (jm_g2 220 rfl rfl), jm_g2 221 rfl rfl⟩, fun q => absurd q (by decide)⟩⟩
  · exact ⟨Or.inl ⟨_, rfl, jm_g2 223 rfl rfl⟩, trivial⟩
  · exact ⟨trivial, ⟨192, 2, rfl, fun _ => ⟨jp_Math_min, rfl, ji_Math_min, Or.inl (jm_g2 224 rfl rfl), jm_g2 225 rfl rfl⟩, fun q => absurd q (by decide)⟩⟩
  · exact ⟨trivial, ⟨9000, 0, 300, rfl, fun q => absurd q (by decide), fun _ => ⟨rfl, Or.inl ⟨rfl, rfl, jm_g3 62 rfl rfl⟩⟩⟩⟩
  · exact ⟨trivial, ⟨9001, 1, 300, rfl, fun q => absurd q (by decide), fun _ => ⟨rfl, Or.inr ⟨rfl, rfl, jm_g3 72 rfl rfl⟩⟩⟩⟩
def jl_T : List (Instr × List Nat × Value) := jl_T_0
theorem js_T (F : jx_SF S dA aL aM adK) (cc : ByteArray) (pc : Nat) : ∀ r ∈ jl_T, jx_si S dA (jx_R1 sc aL aM adK) jx_df "JobHouse$Text" r.1 r.2.1 r.2.2 ∧ jx_sc S jx_P cc "JobHouse$Text" pc r.1 r.2.1 := by
  intro r hr
  exact js_T_0 F cc pc r hr
def jl_Y_0 : List (Instr × List Nat × Value) := [(.invokespecial 3, [9003, 0], .null), (.invokevirtual 9, [152, 1, 1], .null), (.invokevirtual 15, [155, 2, 1], .null), (.putfield 19, [3, 0, 0, 0], .null), (.putfield 25, [3, 1, 0, 0], .null), (.putfield 28, [3, 2, 0, 0], .null), (.putfield 31, [3, 3, 0, 0], .null), (.getfield 19, [3, 0], .null), (.invokestatic 34, [120, 2], .null), (.getfield 28, [3, 2], .null), (.invokestatic 39, [125, 1], .null), (.invokestatic 43, [188, 2], .null), (.getfield 25, [3, 1], .null), (.invokestatic 48, [121, 2], .null), (.ldc2_w 51, [], .long 86400), (.getfield 31, [3, 3], .null), (.invokestatic 53, [192, 2], .null), (.invokevirtual 56, [160, 1, 3], .null), (.ldc2_w 60, [], .long (-1152921504606846976)), (.invokestatic 62, [190, 2], .null), (.ldc2_w 65, [], .long 1152921504606846976)]
theorem js_Y_0 (F : jx_SF S dA aL aM adK) (cc : ByteArray) (pc : Nat) : ∀ r ∈ jl_Y_0, jx_si S dA (jx_R1 sc aL aM adK) jx_df "JobHouse$YearRule" r.1 r.2.1 r.2.2 ∧ jx_sc S jx_P cc "JobHouse$YearRule" pc r.1 r.2.1 := by
  intro r hr
  simp only [jl_Y_0, List.mem_cons, List.not_mem_nil, or_false] at hr
  rcases hr with rfl | rfl | rfl | rfl | rfl | rfl | rfl | rfl | rfl | rfl | rfl | rfl | rfl | rfl | rfl | rfl | rfl | rfl | rfl | rfl | rfl
  · exact ⟨trivial, ⟨9003, 0, rfl, fun q => absurd q (by decide), fun _ => ⟨rfl, rfl, jm_g1 119 rfl rfl, jm_g1 34 rfl rfl, jm_g1 35 rfl rfl⟩⟩⟩
  · exact ⟨trivial, ⟨152, 1, 1, rfl, fun _ => ⟨by decide, jp_T_require, _, _, rfl, ji_T_require, Or.inl (jm_g3 0 rfl rfl), jm_g2 208 rfl rfl, jm_g2 209 rfl rfl, rfl⟩, fun q => absurd q (by decide)⟩⟩
  · exact ⟨trivial, ⟨155, 2, 1, rfl, fun _ => ⟨by decide, jp_T_number, _, _, rfl, ji_T_number, Or.inl (jm_g3 1 rfl rfl), jm_g2 217 rfl rfl, jm_g2 218 rfl rfl, rfl⟩, fun q => absurd q (by decide)⟩⟩
  · exact ⟨⟨3, 0, 0, 0, .int, rfl, by decide, Or.inl ⟨rfl, rfl⟩, Or.inl ⟨rfl, ⟨_, jn_T3, 4, jn_y3, rfl, by decide, jn_i3, jn_o3, jn_n3, rfl, rfl, by decide +kernel, Or.inl (jm_g1 120 rfl rfl)⟩⟩⟩, trivial⟩
  · exact ⟨⟨3, 1, 0, 0, .int, rfl, by decide, Or.inl ⟨rfl, rfl⟩, Or.inl ⟨rfl, ⟨_, jn_T3, 4, jn_y3, rfl, by decide, jn_i3, jn_o3, jn_n3, rfl, rfl, by decide +kernel, Or.inl (jm_g1 121 rfl rfl)⟩⟩⟩, trivial⟩
  · exact ⟨⟨3, 2, 0, 0, .int, rfl, by decide, Or.inl ⟨rfl, rfl⟩, Or.inl ⟨rfl, ⟨_, jn_T3, 4, jn_y3, rfl, by decide, jn_i3, jn_o3, jn_n3, rfl, rfl, by decide +kernel, Or.inl (jm_g1 122 rfl rfl)⟩⟩⟩, trivial⟩
  · exact ⟨⟨3, 3, 0, 0, .int, rfl, by decide, Or.inl ⟨rfl, rfl⟩, Or.inl ⟨rfl, ⟨_, jn_T3, 4, jn_y3, rfl, by decide, jn_i3, jn_o3, jn_n3, rfl, rfl, by decide +kernel, Or.inl (jm_g1 123 rfl rfl)⟩⟩⟩, trivial⟩
  · exact ⟨⟨3, 0, .int, false, rfl, by decide, ⟨_, jn_T3, 4, jn_y3, rfl, by decide, jn_i3, jn_o3, jn_n3, rfl, rfl, by decide +kernel, Or.inl (jm_g1 120 rfl rfl)⟩⟩, trivial⟩
  · exact ⟨trivial, ⟨120, 2, rfl, fun _ => ⟨jp_D_firstOfMonth, rfl, ji_D_firstOfMonth, Or.inl (jm_g3 222 rfl rfl), jm_g3 210 rfl rfl⟩, fun q => absurd q (by decide)⟩⟩
  · exact ⟨⟨3, 2, .int, false, rfl, by decide, ⟨_, jn_T3, 4, jn_y3, rfl, by decide, jn_i3, jn_o3, jn_n3, rfl, rfl, by decide +kernel, Or.inl (jm_g1 122 rfl rfl)⟩⟩, trivial⟩
  · exact ⟨trivial, ⟨125, 1, rfl, fun _ => ⟨jp_D_weekdayOf, rfl, ji_D_weekdayOf, Or.inl (jm_g3 223 rfl rfl), jm_g3 224 rfl rfl⟩, fun q => absurd q (by decide)⟩⟩
  · exact ⟨trivial, ⟨188, 2, rfl, fun _ => ⟨jp_Math_floorMod, rfl, ji_Math_floorMod, Or.inl (jm_g3 226 rfl rfl), jm_g3 227 rfl rfl⟩, fun q => absurd q (by decide)⟩⟩
  · exact ⟨⟨3, 1, .int, false, rfl, by decide, ⟨_, jn_T3, 4, jn_y3, rfl, by decide, jn_i3, jn_o3, jn_n3, rfl, rfl, by decide +kernel, Or.inl (jm_g1 121 rfl rfl)⟩⟩, trivial⟩
  · exact ⟨trivial, ⟨121, 2, rfl, fun _ => ⟨jp_D_monthLength, rfl, ji_D_monthLength, Or.inl (jm_g3 229 rfl rfl), jm_g3 230 rfl rfl⟩, fun q => absurd q (by decide)⟩⟩
  · exact ⟨⟨_, rfl, jm_g3 232 rfl rfl⟩, trivial⟩
  · exact ⟨⟨3, 3, .int, false, rfl, by decide, ⟨_, jn_T3, 4, jn_y3, rfl, by decide, jn_i3, jn_o3, jn_n3, rfl, rfl, by decide +kernel, Or.inl (jm_g1 123 rfl rfl)⟩⟩, trivial⟩
  · exact ⟨trivial, ⟨192, 2, rfl, fun _ => ⟨jp_Math_min, rfl, ji_Math_min, Or.inl (jm_g3 217 rfl rfl), jm_g2 225 rfl rfl⟩, fun q => absurd q (by decide)⟩⟩
  · exact ⟨trivial, ⟨160, 1, 3, rfl, fun _ => ⟨by decide, jp_Y_secondIn, _, _, rfl, ji_Y_secondIn, Or.inl (jm_g3 218 rfl rfl), jm_g3 219 rfl rfl, jm_g3 220 rfl rfl, rfl⟩, fun q => absurd q (by decide)⟩⟩
  · exact ⟨⟨_, rfl, jm_g3 233 rfl rfl⟩, trivial⟩
  · exact ⟨trivial, ⟨190, 2, rfl, fun _ => ⟨jp_Math_max, rfl, ji_Math_max, Or.inl (jm_g3 238 rfl rfl), jm_g3 128 rfl rfl⟩, fun q => absurd q (by decide)⟩⟩
  · exact ⟨⟨_, rfl, jm_g3 239 rfl rfl⟩, trivial⟩
def jl_Y : List (Instr × List Nat × Value) := jl_Y_0
theorem js_Y (F : jx_SF S dA aL aM adK) (cc : ByteArray) (pc : Nat) : ∀ r ∈ jl_Y, jx_si S dA (jx_R1 sc aL aM adK) jx_df "JobHouse$YearRule" r.1 r.2.1 r.2.2 ∧ jx_sc S jx_P cc "JobHouse$YearRule" pc r.1 r.2.1 := by
  intro r hr
  exact js_Y_0 F cc pc r hr
def jl_Z_0 : List (Instr × List Nat × Value) := [(.invokespecial 3, [9003, 0], .null), (.new 9, [3], .null), (.invokespecial 11, [158, 0], .null), (.putfield 12, [2, 2, 4, 1], .null), (.putfield 18, [2, 3, 4, 1], .null), (.ldc2_w 21, [], .long (-1152921504606846976)), (.putfield 23, [2, 5, 1, 0], .null), (.putfield 27, [2, 1, 0, 0], .null), (.invokevirtual 31, [151, 1, 1], .null), (.invokevirtual 37, [152, 1, 1], .null), (.invokevirtual 41, [155, 2, 1], .null), (.putfield 45, [2, 0, 0, 0], .null), (.invokevirtual 48, [149, 0, 1], .null), (.invokevirtual 52, [153, 0, 1], .null), (.getfield 12, [2, 2], .null), (.invokevirtual 55, [159, 1, 3], .null), (.getfield 18, [2, 3], .null), (.invokevirtual 59, [154, 0, 1], .null), (.getfield 62, [2, 4], .null), (.getfield 23, [2, 5], .null), (.invokevirtual 65, [166, 1, 2], .null), (.getfield 69, [2, 6], .null), (.getfield 27, [2, 1], .null), (.putfield 62, [2, 4, 1, 0], .null), (.ldc2_w 72, [], .long 1152921504606846976), (.getfield 45, [2, 0], .null), (.putfield 69, [2, 6, 0, 0], .null), (.invokestatic 74, [122, 1], .null), (.invokestatic 80, [123, 1], .null), (.invokevirtual 84, [161, 3, 3], .null), (.invokevirtual 88, [162, 3, 3], .null), (.invokestatic 91, [191, 2], .null), (.invokestatic 97, [193, 2], .null)]
theorem js_Z_0 (F : jx_SF S dA aL aM adK) (cc : ByteArray) (pc : Nat) : ∀ r ∈ jl_Z_0, jx_si S dA (jx_R1 sc aL aM adK) jx_df "JobHouse$Zone" r.1 r.2.1 r.2.2 ∧ jx_sc S jx_P cc "JobHouse$Zone" pc r.1 r.2.1 := by
  intro r hr
  simp only [jl_Z_0, List.mem_cons, List.not_mem_nil, or_false] at hr
  rcases hr with rfl | rfl | rfl | rfl | rfl | rfl | rfl | rfl | rfl | rfl | rfl | rfl | rfl | rfl | rfl | rfl | rfl | rfl | rfl | rfl | rfl | rfl | rfl | rfl | rfl | rfl | rfl | rfl | rfl | rfl | rfl | rfl | rfl
  · exact ⟨trivial, ⟨9003, 0, rfl, fun q => absurd q (by decide), fun _ => ⟨rfl, rfl, jm_g1 113 rfl rfl, jm_g1 34 rfl rfl, jm_g1 35 rfl rfl⟩⟩⟩
  · exact ⟨⟨3, rfl, fun fs hfs => by
      cases hfs
      exact ⟨_, jn_T3, jn_y3, rfl, jn_i3, jn_o3, by decide +kernel, jm_g1 114 rfl rfl, jm_g1 115 rfl rfl, jm_g1 7 rfl rfl⟩⟩, ⟨3, rfl, fun q => absurd q (by decide)⟩⟩
  · exact ⟨trivial, ⟨158, 0, rfl, fun _ => ⟨jp_Y_init, rfl, ji_Y_init, Or.inr ⟨_, jm_g1 116 rfl rfl⟩, jm_g1 117 rfl rfl, rfl, rfl, rfl⟩, fun q => absurd q (by decide)⟩⟩
  · exact ⟨⟨2, 2, 4, 1, .object "JobHouse$YearRule", rfl, by decide, Or.inr (Or.inr (Or.inr ⟨rfl, Or.inl ⟨_, rfl⟩⟩)), Or.inr ⟨rfl, ⟨jn_T2, 7, jn_y2, rfl, by decide, jn_i2, jn_o2, jn_n2, rfl, rfl, by decide +kernel, jm_g1 138 rfl rfl⟩⟩⟩, trivial⟩
  · exact ⟨⟨2, 3, 4, 1, .object "JobHouse$YearRule", rfl, by decide, Or.inr (Or.inr (Or.inr ⟨rfl, Or.inl ⟨_, rfl⟩⟩)), Or.inr ⟨rfl, ⟨jn_T2, 7, jn_y2, rfl, by decide, jn_i2, jn_o2, jn_n2, rfl, rfl, by decide +kernel, jm_g1 139 rfl rfl⟩⟩⟩, trivial⟩
  · exact ⟨⟨_, rfl, jm_g1 133 rfl rfl⟩, trivial⟩
  · exact ⟨⟨2, 5, 1, 0, .long, rfl, by decide, Or.inr (Or.inl ⟨rfl, rfl⟩), Or.inl ⟨rfl, ⟨_, jn_T2, 7, jn_y2, rfl, by decide, jn_i2, jn_o2, jn_n2, rfl, rfl, by decide +kernel, Or.inl (jm_g1 142 rfl rfl)⟩⟩⟩, trivial⟩
  · exact ⟨⟨2, 1, 0, 0, .int, rfl, by decide, Or.inl ⟨rfl, rfl⟩, Or.inl ⟨rfl, ⟨_, jn_T2, 7, jn_y2, rfl, by decide, jn_i2, jn_o2, jn_n2, rfl, rfl, by decide +kernel, Or.inl (jm_g1 136 rfl rfl)⟩⟩⟩, trivial⟩
  · exact ⟨trivial, ⟨151, 1, 1, rfl, fun _ => ⟨by decide, jp_T_take, _, _, rfl, ji_T_take, Or.inl (jm_g2 199 rfl rfl), jm_g2 200 rfl rfl, jm_g2 201 rfl rfl, rfl⟩, fun q => absurd q (by decide)⟩⟩
  · exact ⟨trivial, ⟨152, 1, 1, rfl, fun _ => ⟨by decide, jp_T_require, _, _, rfl, ji_T_require, Or.inl (jm_g2 207 rfl rfl), jm_g2 208 rfl rfl, jm_g2 209 rfl rfl, rfl⟩, fun q => absurd q (by decide)⟩⟩
  · exact ⟨trivial, ⟨155, 2, 1, rfl, fun _ => ⟨by decide, jp_T_number, _, _, rfl, ji_T_number, Or.inl (jm_g2 216 rfl rfl), jm_g2 217 rfl rfl, jm_g2 218 rfl rfl, rfl⟩, fun q => absurd q (by decide)⟩⟩
  · exact ⟨⟨2, 0, 0, 0, .int, rfl, by decide, Or.inl ⟨rfl, rfl⟩, Or.inl ⟨rfl, ⟨_, jn_T2, 7, jn_y2, rfl, by decide, jn_i2, jn_o2, jn_n2, rfl, rfl, by decide +kernel, Or.inl (jm_g1 134 rfl rfl)⟩⟩⟩, trivial⟩
  · exact ⟨trivial, ⟨149, 0, 1, rfl, fun _ => ⟨by decide, jp_T_isDone, _, _, rfl, ji_T_isDone, Or.inl (jm_g2 227 rfl rfl), jm_g2 228 rfl rfl, jm_g2 229 rfl rfl, rfl⟩, fun q => absurd q (by decide)⟩⟩
  · exact ⟨trivial, ⟨153, 0, 1, rfl, fun _ => ⟨by decide, jp_T_requireBlanks, _, _, rfl, ji_T_requireBlanks, Or.inl (jm_g2 231 rfl rfl), jm_g2 232 rfl rfl, jm_g2 233 rfl rfl, rfl⟩, fun q => absurd q (by decide)⟩⟩
  · exact ⟨⟨2, 2, .object "JobHouse$YearRule", true, rfl, by decide, ⟨_, jn_T2, 7, jn_y2, rfl, by decide, jn_i2, jn_o2, jn_n2, rfl, rfl, by decide +kernel, Or.inl (jm_g1 138 rfl rfl)⟩⟩, trivial⟩
  · exact ⟨trivial, ⟨159, 1, 3, rfl, fun _ => ⟨by decide, jp_Y_readFrom, _, _, rfl, ji_Y_readFrom, Or.inl (jm_g2 236 rfl rfl), jm_g2 237 rfl rfl, jm_g2 238 rfl rfl, rfl⟩, fun q => absurd q (by decide)⟩⟩
  · exact ⟨⟨2, 3, .object "JobHouse$YearRule", true, rfl, by decide, ⟨_, jn_T2, 7, jn_y2, rfl, by decide, jn_i2, jn_o2, jn_n2, rfl, rfl, by decide +kernel, Or.inl (jm_g1 139 rfl rfl)⟩⟩, trivial⟩
  · exact ⟨trivial, ⟨154, 0, 1, rfl, fun _ => ⟨by decide, jp_T_requireEnd, _, _, rfl, ji_T_requireEnd, Or.inl (jm_g3 2 rfl rfl), jm_g3 3 rfl rfl, jm_g3 4 rfl rfl, rfl⟩, fun q => absurd q (by decide)⟩⟩
  · exact ⟨⟨2, 4, .long, false, rfl, by decide, ⟨_, jn_T2, 7, jn_y2, rfl, by decide, jn_i2, jn_o2, jn_n2, rfl, rfl, by decide +kernel, Or.inl (jm_g1 140 rfl rfl)⟩⟩, trivial⟩
  · exact ⟨⟨2, 5, .long, false, rfl, by decide, ⟨_, jn_T2, 7, jn_y2, rfl, by decide, jn_i2, jn_o2, jn_n2, rfl, rfl, by decide +kernel, Or.inl (jm_g1 142 rfl rfl)⟩⟩, trivial⟩
  · exact ⟨trivial, ⟨166, 1, 2, rfl, fun _ => ⟨by decide, jp_Z_findStretch, _, _, rfl, ji_Z_findStretch, Or.inl (jm_g3 190 rfl rfl), jm_g3 192 rfl rfl, jm_g0 3 rfl rfl, rfl⟩, fun q => absurd q (by decide)⟩⟩
  · exact ⟨⟨2, 6, .int, false, rfl, by decide, ⟨_, jn_T2, 7, jn_y2, rfl, by decide, jn_i2, jn_o2, jn_n2, rfl, rfl, by decide +kernel, Or.inl (jm_g1 145 rfl rfl)⟩⟩, trivial⟩
  · exact ⟨⟨2, 1, .int, false, rfl, by decide, ⟨_, jn_T2, 7, jn_y2, rfl, by decide, jn_i2, jn_o2, jn_n2, rfl, rfl, by decide +kernel, Or.inl (jm_g1 136 rfl rfl)⟩⟩, trivial⟩
  · exact ⟨⟨2, 4, 1, 0, .long, rfl, by decide, Or.inr (Or.inl ⟨rfl, rfl⟩), Or.inl ⟨rfl, ⟨_, jn_T2, 7, jn_y2, rfl, by decide, jn_i2, jn_o2, jn_n2, rfl, rfl, by decide +kernel, Or.inl (jm_g1 140 rfl rfl)⟩⟩⟩, trivial⟩
  · exact ⟨⟨_, rfl, jm_g3 194 rfl rfl⟩, trivial⟩
  · exact ⟨⟨2, 0, .int, false, rfl, by decide, ⟨_, jn_T2, 7, jn_y2, rfl, by decide, jn_i2, jn_o2, jn_n2, rfl, rfl, by decide +kernel, Or.inl (jm_g1 134 rfl rfl)⟩⟩, trivial⟩
  · exact ⟨⟨2, 6, 0, 0, .int, rfl, by decide, Or.inl ⟨rfl, rfl⟩, Or.inl ⟨rfl, ⟨_, jn_T2, 7, jn_y2, rfl, by decide, jn_i2, jn_o2, jn_n2, rfl, rfl, by decide +kernel, Or.inl (jm_g1 145 rfl rfl)⟩⟩⟩, trivial⟩
  · exact ⟨trivial, ⟨122, 1, rfl, fun _ => ⟨jp_D_dayOf, rfl, ji_D_dayOf, Or.inl (jm_g3 195 rfl rfl), jm_g3 196 rfl rfl⟩, fun q => absurd q (by decide)⟩⟩
  · exact ⟨trivial, ⟨123, 1, rfl, fun _ => ⟨jp_D_yearOf, rfl, ji_D_yearOf, Or.inl (jm_g3 202 rfl rfl), jm_g3 203 rfl rfl⟩, fun q => absurd q (by decide)⟩⟩
  · exact ⟨trivial, ⟨161, 3, 3, rfl, fun _ => ⟨by decide, jp_Y_latestUpTo, _, _, rfl, ji_Y_latestUpTo, Or.inl (jm_g3 213 rfl rfl), jm_g3 214 rfl rfl, jm_g3 215 rfl rfl, rfl⟩, fun q => absurd q (by decide)⟩⟩
  · exact ⟨trivial, ⟨162, 3, 3, rfl, fun _ => ⟨by decide, jp_Y_firstBehind, _, _, rfl, ji_Y_firstBehind, Or.inl (jm_g3 234 rfl rfl), jm_g3 235 rfl rfl, jm_g3 236 rfl rfl, rfl⟩, fun q => absurd q (by decide)⟩⟩
  · exact ⟨trivial, ⟨191, 2, rfl, fun _ => ⟨jp_Math_max2, rfl, ji_Math_max2, Or.inl (jm_g4 0 rfl rfl), jm_g4 1 rfl rfl⟩, fun q => absurd q (by decide)⟩⟩
  · exact ⟨trivial, ⟨193, 2, rfl, fun _ => ⟨jp_Math_min2, rfl, ji_Math_min2, Or.inl (jm_g4 3 rfl rfl), jm_g4 4 rfl rfl⟩, fun q => absurd q (by decide)⟩⟩
def jl_Z : List (Instr × List Nat × Value) := jl_Z_0
theorem js_Z (F : jx_SF S dA aL aM adK) (cc : ByteArray) (pc : Nat) : ∀ r ∈ jl_Z, jx_si S dA (jx_R1 sc aL aM adK) jx_df "JobHouse$Zone" r.1 r.2.1 r.2.2 ∧ jx_sc S jx_P cc "JobHouse$Zone" pc r.1 r.2.1 := by
  intro r hr
  exact js_Z_0 F cc pc r hr
def jl_W_0 : List (Instr × List Nat × Value) := [(.invokevirtual 7, [1, 5, 0], .null), (.invokevirtual 15, [2, 1, 0], .null), (.invokevirtual 21, [3, 1, 0], .null), (.invokevirtual 27, [4, 1, 0], .null), (.invokevirtual 30, [5, 3, 0], .null), (.invokevirtual 34, [6, 4, 0], .null), (.invokevirtual 38, [7, 4, 0], .null), (.invokevirtual 41, [8, 3, 0], .null), (.invokevirtual 45, [9, 7, 0], .null), (.invokevirtual 51, [10, 7, 0], .null), (.invokevirtual 55, [11, 1, 0], .null), (.invokevirtual 60, [12, 1, 0], .null), (.invokevirtual 63, [13, 1, 0], .null), (.invokevirtual 67, [14, 1, 0], .null), (.invokevirtual 71, [15, 2, 0], .null), (.invokevirtual 75, [16, 2, 0], .null), (.invokevirtual 79, [17, 2, 0], .null), (.invokevirtual 82, [18, 1, 0], .null), (.new 8, [0], .null), (.invokespecial 86, [0, 0], .null), (.new 87, [9], .null), (.invokespecial 89, [36, 0], .null), (.newarray .long, [3], .null), (.invokestatic 90, [167, 7], .null), (.invokevirtual 95, [92, 5, 9], .null), (.invokevirtual 96, [37, 0, 9], .null), (.invokestatic 100, [168, 3], .null), (.invokevirtual 103, [93, 1, 9], .null), (.invokestatic 104, [169, 2], .null), (.invokevirtual 107, [53, 1, 9], .null), (.invokestatic 108, [170, 2], .null), (.invokevirtual 110, [63, 1, 9], .null), (.invokestatic 111, [171, 5], .null), (.invokevirtual 114, [64, 3, 9], .null), (.ldc2_w 115, [], .long 4294967295), (.invokestatic 117, [172, 6], .null), (.invokevirtual 120, [72, 4, 9], .null), (.invokestatic 121, [173, 6], .null), (.invokevirtual 123, [73, 4, 9], .null), (.invokestatic 124, [174, 5], .null), (.invokevirtual 127, [74, 3, 9], .null), (.invokestatic 128, [175, 9], .null), (.invokevirtual 131, [76, 7, 9], .null), (.invokestatic 132, [176, 9], .null), (.invokevirtual 135, [77, 7, 9], .null), (.invokestatic 136, [177, 3], .null), (.invokevirtual 138, [79, 1, 9], .null), (.invokestatic 139, [178, 3], .null), (.invokevirtual 141, [80, 1, 9], .null), (.invokestatic 142, [179, 3], .null), (.invokevirtual 145, [86, 1, 9], .null), (.invokestatic 146, [180, 2], .null), (.invokevirtual 149, [87, 1, 9], .null), (.invokestatic 150, [181, 4], .null), (.invokevirtual 153, [89, 2, 9], .null), (.invokestatic 154, [182, 4], .null), (.invokevirtual 157, [90, 2, 9], .null), (.invokestatic 158, [183, 4], .null), (.invokevirtual 160, [91, 2, 9], .null), (.invokestatic 161, [184, 3], .null)]
theorem js_W_0 (F : jx_SF S dA aL aM adK) (cc : ByteArray) (pc : Nat) : ∀ r ∈ jl_W_0, jx_si S dA (jx_R1 sc aL aM adK) jx_df "JobHouseLaw" r.1 r.2.1 r.2.2 ∧ jx_sc S jx_P cc "JobHouseLaw" pc r.1 r.2.1 := by
  intro r hr
  simp only [jl_W_0, List.mem_cons, List.not_mem_nil, or_false] at hr
  rcases hr with rfl | rfl | rfl | rfl | rfl | rfl | rfl | rfl | rfl | rfl | rfl | rfl | rfl | rfl | rfl | rfl | rfl | rfl | rfl | rfl | rfl | rfl | rfl | rfl | rfl | rfl | rfl | rfl | rfl | rfl | rfl | rfl | rfl | rfl | rfl | rfl | rfl | rfl | rfl | rfl | rfl | rfl | rfl | rfl | rfl | rfl | rfl | rfl | rfl | rfl | rfl | rfl | rfl | rfl | rfl | rfl | rfl | rfl | rfl | rfl
  · exact ⟨trivial, ⟨1, 5, 0, rfl, fun _ => ⟨by decide, jp_J_feed, _, _, rfl, ji_J_feed, Or.inl (jm_g2 83 rfl rfl), jm_g2 84 rfl rfl, jm_g2 85 rfl rfl, rfl⟩, fun q => absurd q (by decide)⟩⟩
  · exact ⟨trivial, ⟨2, 1, 0, rfl, fun _ => ⟨by decide, jp_J_end, _, _, rfl, ji_J_end, Or.inl (jm_g2 160 rfl rfl), jm_g2 161 rfl rfl, jm_g2 162 rfl rfl, rfl⟩, fun q => absurd q (by decide)⟩⟩
  · exact ⟨trivial, ⟨3, 1, 0, rfl, fun _ => ⟨by decide, jp_J_zone, _, _, rfl, ji_J_zone, Or.inl (jm_g2 186 rfl rfl), jm_g2 187 rfl rfl, jm_g2 188 rfl rfl, rfl⟩, fun q => absurd q (by decide)⟩⟩
  · exact ⟨trivial, ⟨4, 1, 0, rfl, fun _ => ⟨by decide, jp_J_cron, _, _, rfl, ji_J_cron, Or.inl (jm_g3 29 rfl rfl), jm_g3 30 rfl rfl, jm_g3 31 rfl rfl, rfl⟩, fun q => absurd q (by decide)⟩⟩
  · exact ⟨trivial, ⟨5, 3, 0, rfl, fun _ => ⟨by decide, jp_J_holiday, _, _, rfl, ji_J_holiday, Or.inl (jm_g3 143 rfl rfl), jm_g3 144 rfl rfl, jm_g3 145 rfl rfl, rfl⟩, fun q => absurd q (by decide)⟩⟩
  · exact ⟨trivial, ⟨6, 4, 0, rfl, fun _ => ⟨by decide, jp_J_next, _, _, rfl, ji_J_next, Or.inl (jm_g3 167 rfl rfl), jm_g3 168 rfl rfl, jm_g3 169 rfl rfl, rfl⟩, fun q => absurd q (by decide)⟩⟩
  · exact ⟨trivial, ⟨7, 4, 0, rfl, fun _ => ⟨by decide, jp_J_last, _, _, rfl, ji_J_last, Or.inl (jm_g4 75 rfl rfl), jm_g4 76 rfl rfl, jm_g4 77 rfl rfl, rfl⟩, fun q => absurd q (by decide)⟩⟩
  · exact ⟨trivial, ⟨8, 3, 0, rfl, fun _ => ⟨by decide, jp_J_local, _, _, rfl, ji_J_local, Or.inl (jm_g4 110 rfl rfl), jm_g4 111 rfl rfl, jm_g4 112 rfl rfl, rfl⟩, fun q => absurd q (by decide)⟩⟩
  · exact ⟨trivial, ⟨9, 7, 0, rfl, fun _ => ⟨by decide, jp_J_make, _, _, rfl, ji_J_make, Or.inl (jm_g4 129 rfl rfl), jm_g4 130 rfl rfl, jm_g4 131 rfl rfl, rfl⟩, fun q => absurd q (by decide)⟩⟩
  · exact ⟨trivial, ⟨10, 7, 0, rfl, fun _ => ⟨by decide, jp_J_makeCron, _, _, rfl, ji_J_makeCron, Or.inl (jm_g4 171 rfl rfl), jm_g4 172 rfl rfl, jm_g4 173 rfl rfl, rfl⟩, fun q => absurd q (by decide)⟩⟩
  · exact ⟨trivial, ⟨11, 1, 0, rfl, fun _ => ⟨by decide, jp_J_cancel, _, _, rfl, ji_J_cancel, Or.inl (jm_g4 179 rfl rfl), jm_g4 180 rfl rfl, jm_g4 181 rfl rfl, rfl⟩, fun q => absurd q (by decide)⟩⟩
  · exact ⟨trivial, ⟨12, 1, 0, rfl, fun _ => ⟨by decide, jp_J_workers, _, _, rfl, ji_J_workers, Or.inl (jm_g4 209 rfl rfl), jm_g4 210 rfl rfl, jm_g4 211 rfl rfl, rfl⟩, fun q => absurd q (by decide)⟩⟩
  · exact ⟨trivial, ⟨13, 1, 0, rfl, fun _ => ⟨by decide, jp_J_advance, _, _, rfl, ji_J_advance, Or.inl (jm_g4 217 rfl rfl), jm_g4 218 rfl rfl, jm_g4 219 rfl rfl, rfl⟩, fun q => absurd q (by decide)⟩⟩
  · exact ⟨trivial, ⟨14, 1, 0, rfl, fun _ => ⟨by decide, jp_J_stall, _, _, rfl, ji_J_stall, Or.inl (jm_g5 31 rfl rfl), jm_g5 32 rfl rfl, jm_g5 33 rfl rfl, rfl⟩, fun q => absurd q (by decide)⟩⟩
  · exact ⟨trivial, ⟨15, 2, 0, rfl, fun _ => ⟨by decide, jp_J_close, _, _, rfl, ji_J_close, Or.inl (jm_g5 38 rfl rfl), jm_g5 39 rfl rfl, jm_g5 40 rfl rfl, rfl⟩, fun q => absurd q (by decide)⟩⟩
  · exact ⟨trivial, ⟨16, 2, 0, rfl, fun _ => ⟨by decide, jp_J_job, _, _, rfl, ji_J_job, Or.inl (jm_g5 45 rfl rfl), jm_g5 46 rfl rfl, jm_g5 47 rfl rfl, rfl⟩, fun q => absurd q (by decide)⟩⟩
  · exact ⟨trivial, ⟨17, 2, 0, rfl, fun _ => ⟨by decide, jp_J_start, _, _, rfl, ji_J_start, Or.inl (jm_g5 53 rfl rfl), jm_g5 54 rfl rfl, jm_g5 55 rfl rfl, rfl⟩, fun q => absurd q (by decide)⟩⟩
  · exact ⟨trivial, ⟨18, 1, 0, rfl, fun _ => ⟨by decide, jp_J_count, _, _, rfl, ji_J_count, Or.inl (jm_g5 60 rfl rfl), jm_g5 61 rfl rfl, jm_g5 62 rfl rfl, rfl⟩, fun q => absurd q (by decide)⟩⟩
  · exact ⟨⟨0, rfl, fun fs hfs => by
      cases hfs
      exact ⟨_, jn_T0, jn_y0, rfl, jn_i0, jn_o0, by decide +kernel, jm_g1 28 rfl rfl, jm_g1 29 rfl rfl, jm_g1 1 rfl rfl⟩⟩, ⟨0, rfl, fun q => absurd q (by decide)⟩⟩
  · exact ⟨trivial, ⟨0, 0, rfl, fun _ => ⟨jp_J_init, rfl, ji_J_init, Or.inl (jm_g1 30 rfl rfl), jm_g1 31 rfl rfl, rfl, rfl, rfl⟩, fun q => absurd q (by decide)⟩⟩
  · exact ⟨⟨9, rfl, fun fs hfs => by
      cases hfs
      exact ⟨_, jn_T9, jn_y9, rfl, jn_i9, jn_o9, by decide +kernel, jm_g5 65 rfl rfl, jm_g5 66 rfl rfl, jm_g1 10 rfl rfl⟩⟩, ⟨9, rfl, fun q => absurd q (by decide)⟩⟩
  · exact ⟨trivial, ⟨36, 0, rfl, fun _ => ⟨jp_M_init, rfl, ji_M_init, Or.inl (jm_g5 67 rfl rfl), jm_g5 68 rfl rfl, rfl, rfl, rfl⟩, fun q => absurd q (by decide)⟩⟩
  · exact ⟨⟨3, _, rfl, by decide, rfl, rfl, jm_g1 107 rfl rfl⟩, trivial⟩
  · exact ⟨trivial, ⟨167, 7, rfl, fun _ => ⟨jp_W_feed, rfl, ji_W_feed, Or.inl (jm_g2 79 rfl rfl), jm_g2 80 rfl rfl⟩, fun q => absurd q (by decide)⟩⟩
  · exact ⟨trivial, ⟨92, 5, 9, rfl, fun _ => ⟨by decide, jp_M_feed, _, _, rfl, ji_M_feed, Or.inl (jm_g7 14 rfl rfl), jm_g7 15 rfl rfl, jm_g7 16 rfl rfl, rfl⟩, fun q => absurd q (by decide)⟩⟩
  · exact ⟨trivial, ⟨37, 0, 9, rfl, fun _ => ⟨by decide, jp_M_thrown, _, _, rfl, ji_M_thrown, Or.inl (jm_g6 13 rfl rfl), jm_g6 14 rfl rfl, jm_g6 15 rfl rfl, rfl⟩, fun q => absurd q (by decide)⟩⟩
  · exact ⟨trivial, ⟨168, 3, rfl, fun _ => ⟨jp_W_end, rfl, ji_W_end, Or.inl (jm_g2 156 rfl rfl), jm_g2 157 rfl rfl⟩, fun q => absurd q (by decide)⟩⟩
  · exact ⟨trivial, ⟨93, 1, 9, rfl, fun _ => ⟨by decide, jp_M_end, _, _, rfl, ji_M_end, Or.inl (jm_g7 18 rfl rfl), jm_g7 19 rfl rfl, jm_g7 20 rfl rfl, rfl⟩, fun q => absurd q (by decide)⟩⟩
  · exact ⟨trivial, ⟨169, 2, rfl, fun _ => ⟨jp_W_zone, rfl, ji_W_zone, Or.inl (jm_g2 182 rfl rfl), jm_g2 183 rfl rfl⟩, fun q => absurd q (by decide)⟩⟩
  · exact ⟨trivial, ⟨53, 1, 9, rfl, fun _ => ⟨by decide, jp_M_zone, _, _, rfl, ji_M_zone, Or.inl (jm_g6 17 rfl rfl), jm_g6 18 rfl rfl, jm_g6 19 rfl rfl, rfl⟩, fun q => absurd q (by decide)⟩⟩
  · exact ⟨trivial, ⟨170, 2, rfl, fun _ => ⟨jp_W_cron, rfl, ji_W_cron, Or.inl (jm_g3 26 rfl rfl), jm_g3 27 rfl rfl⟩, fun q => absurd q (by decide)⟩⟩
  · exact ⟨trivial, ⟨63, 1, 9, rfl, fun _ => ⟨by decide, jp_M_cron, _, _, rfl, ji_M_cron, Or.inl (jm_g6 79 rfl rfl), jm_g6 80 rfl rfl, jm_g6 81 rfl rfl, rfl⟩, fun q => absurd q (by decide)⟩⟩
  · exact ⟨trivial, ⟨171, 5, rfl, fun _ => ⟨jp_W_holiday, rfl, ji_W_holiday, Or.inl (jm_g3 140 rfl rfl), jm_g3 141 rfl rfl⟩, fun q => absurd q (by decide)⟩⟩
  · exact ⟨trivial, ⟨64, 3, 9, rfl, fun _ => ⟨by decide, jp_M_holiday, _, _, rfl, ji_M_holiday, Or.inl (jm_g6 111 rfl rfl), jm_g6 112 rfl rfl, jm_g6 113 rfl rfl, rfl⟩, fun q => absurd q (by decide)⟩⟩
  · exact ⟨⟨_, rfl, jm_g7 26 rfl rfl⟩, trivial⟩
  · exact ⟨trivial, ⟨172, 6, rfl, fun _ => ⟨jp_W_next, rfl, ji_W_next, Or.inl (jm_g3 164 rfl rfl), jm_g3 165 rfl rfl⟩, fun q => absurd q (by decide)⟩⟩
  · exact ⟨trivial, ⟨72, 4, 9, rfl, fun _ => ⟨by decide, jp_M_next, _, _, rfl, ji_M_next, Or.inl (jm_g6 120 rfl rfl), jm_g6 121 rfl rfl, jm_g6 122 rfl rfl, rfl⟩, fun q => absurd q (by decide)⟩⟩
  · exact ⟨trivial, ⟨173, 6, rfl, fun _ => ⟨jp_W_last, rfl, ji_W_last, Or.inl (jm_g4 72 rfl rfl), jm_g4 73 rfl rfl⟩, fun q => absurd q (by decide)⟩⟩
  · exact ⟨trivial, ⟨73, 4, 9, rfl, fun _ => ⟨by decide, jp_M_last, _, _, rfl, ji_M_last, Or.inl (jm_g6 166 rfl rfl), jm_g6 167 rfl rfl, jm_g6 168 rfl rfl, rfl⟩, fun q => absurd q (by decide)⟩⟩
  · exact ⟨trivial, ⟨174, 5, rfl, fun _ => ⟨jp_W_local, rfl, ji_W_local, Or.inl (jm_g4 107 rfl rfl), jm_g4 108 rfl rfl⟩, fun q => absurd q (by decide)⟩⟩
  · exact ⟨trivial, ⟨74, 3, 9, rfl, fun _ => ⟨by decide, jp_M_local, _, _, rfl, ji_M_local, Or.inl (jm_g6 180 rfl rfl), jm_g6 181 rfl rfl, jm_g6 182 rfl rfl, rfl⟩, fun q => absurd q (by decide)⟩⟩
  · exact ⟨trivial, ⟨175, 9, rfl, fun _ => ⟨jp_W_make, rfl, ji_W_make, Or.inl (jm_g4 125 rfl rfl), jm_g4 126 rfl rfl⟩, fun q => absurd q (by decide)⟩⟩
  · exact ⟨trivial, ⟨76, 7, 9, rfl, fun _ => ⟨by decide, jp_M_make, _, _, rfl, ji_M_make, Or.inl (jm_g6 184 rfl rfl), jm_g6 185 rfl rfl, jm_g6 186 rfl rfl, rfl⟩, fun q => absurd q (by decide)⟩⟩
  · exact ⟨trivial, ⟨176, 9, rfl, fun _ => ⟨jp_W_makeCron, rfl, ji_W_makeCron, Or.inl (jm_g4 168 rfl rfl), jm_g4 169 rfl rfl⟩, fun q => absurd q (by decide)⟩⟩
  · exact ⟨trivial, ⟨77, 7, 9, rfl, fun _ => ⟨by decide, jp_M_makeCron, _, _, rfl, ji_M_makeCron, Or.inl (jm_g6 193 rfl rfl), jm_g6 194 rfl rfl, jm_g6 195 rfl rfl, rfl⟩, fun q => absurd q (by decide)⟩⟩
  · exact ⟨trivial, ⟨177, 3, rfl, fun _ => ⟨jp_W_cancel, rfl, ji_W_cancel, Or.inl (jm_g4 175 rfl rfl), jm_g4 176 rfl rfl⟩, fun q => absurd q (by decide)⟩⟩
  · exact ⟨trivial, ⟨79, 1, 9, rfl, fun _ => ⟨by decide, jp_M_cancel, _, _, rfl, ji_M_cancel, Or.inl (jm_g6 197 rfl rfl), jm_g6 198 rfl rfl, jm_g6 199 rfl rfl, rfl⟩, fun q => absurd q (by decide)⟩⟩
  · exact ⟨trivial, ⟨178, 3, rfl, fun _ => ⟨jp_W_workers, rfl, ji_W_workers, Or.inl (jm_g4 206 rfl rfl), jm_g4 207 rfl rfl⟩, fun q => absurd q (by decide)⟩⟩
  · exact ⟨trivial, ⟨80, 1, 9, rfl, fun _ => ⟨by decide, jp_M_workers, _, _, rfl, ji_M_workers, Or.inl (jm_g6 205 rfl rfl), jm_g6 206 rfl rfl, jm_g6 207 rfl rfl, rfl⟩, fun q => absurd q (by decide)⟩⟩
  · exact ⟨trivial, ⟨179, 3, rfl, fun _ => ⟨jp_W_advance, rfl, ji_W_advance, Or.inl (jm_g4 214 rfl rfl), jm_g4 215 rfl rfl⟩, fun q => absurd q (by decide)⟩⟩
  · exact ⟨trivial, ⟨86, 1, 9, rfl, fun _ => ⟨by decide, jp_M_advance, _, _, rfl, ji_M_advance, Or.inl (jm_g6 209 rfl rfl), jm_g6 210 rfl rfl, jm_g6 211 rfl rfl, rfl⟩, fun q => absurd q (by decide)⟩⟩
  · exact ⟨trivial, ⟨180, 2, rfl, fun _ => ⟨jp_W_stall, rfl, ji_W_stall, Or.inl (jm_g5 28 rfl rfl), jm_g5 29 rfl rfl⟩, fun q => absurd q (by decide)⟩⟩
  · exact ⟨trivial, ⟨87, 1, 9, rfl, fun _ => ⟨by decide, jp_M_stall, _, _, rfl, ji_M_stall, Or.inl (jm_g6 234 rfl rfl), jm_g6 235 rfl rfl, jm_g6 236 rfl rfl, rfl⟩, fun q => absurd q (by decide)⟩⟩
  · exact ⟨trivial, ⟨181, 4, rfl, fun _ => ⟨jp_W_close, rfl, ji_W_close, Or.inl (jm_g5 35 rfl rfl), jm_g5 36 rfl rfl⟩, fun q => absurd q (by decide)⟩⟩
  · exact ⟨trivial, ⟨89, 2, 9, rfl, fun _ => ⟨by decide, jp_M_close, _, _, rfl, ji_M_close, Or.inl (jm_g6 238 rfl rfl), jm_g6 239 rfl rfl, jm_g7 0 rfl rfl, rfl⟩, fun q => absurd q (by decide)⟩⟩
  · exact ⟨trivial, ⟨182, 4, rfl, fun _ => ⟨jp_W_job, rfl, ji_W_job, Or.inl (jm_g5 42 rfl rfl), jm_g5 43 rfl rfl⟩, fun q => absurd q (by decide)⟩⟩
  · exact ⟨trivial, ⟨90, 2, 9, rfl, fun _ => ⟨by decide, jp_M_job, _, _, rfl, ji_M_job, Or.inl (jm_g7 6 rfl rfl), jm_g7 7 rfl rfl, jm_g7 8 rfl rfl, rfl⟩, fun q => absurd q (by decide)⟩⟩
  · exact ⟨trivial, ⟨183, 4, rfl, fun _ => ⟨jp_W_start, rfl, ji_W_start, Or.inl (jm_g5 50 rfl rfl), jm_g5 51 rfl rfl⟩, fun q => absurd q (by decide)⟩⟩
  · exact ⟨trivial, ⟨91, 2, 9, rfl, fun _ => ⟨by decide, jp_M_start, _, _, rfl, ji_M_start, Or.inl (jm_g7 10 rfl rfl), jm_g7 11 rfl rfl, jm_g7 12 rfl rfl, rfl⟩, fun q => absurd q (by decide)⟩⟩
  · exact ⟨trivial, ⟨184, 3, rfl, fun _ => ⟨jp_W_count, rfl, ji_W_count, Or.inl (jm_g5 57 rfl rfl), jm_g5 58 rfl rfl⟩, fun q => absurd q (by decide)⟩⟩
def jl_W_1 : List (Instr × List Nat × Value) := [(.invokevirtual 163, [94, 1, 9], .null)]
theorem js_W_1 (F : jx_SF S dA aL aM adK) (cc : ByteArray) (pc : Nat) : ∀ r ∈ jl_W_1, jx_si S dA (jx_R1 sc aL aM adK) jx_df "JobHouseLaw" r.1 r.2.1 r.2.2 ∧ jx_sc S jx_P cc "JobHouseLaw" pc r.1 r.2.1 := by
  intro r hr
  simp only [jl_W_1, List.mem_cons, List.not_mem_nil, or_false] at hr
  rcases hr with rfl
  · exact ⟨trivial, ⟨94, 1, 9, rfl, fun _ => ⟨by decide, jp_M_count, _, _, rfl, ji_M_count, Or.inl (jm_g7 22 rfl rfl), jm_g7 23 rfl rfl, jm_g7 24 rfl rfl, rfl⟩, fun q => absurd q (by decide)⟩⟩
def jl_W : List (Instr × List Nat × Value) := jl_W_0 ++ jl_W_1
theorem js_W (F : jx_SF S dA aL aM adK) (cc : ByteArray) (pc : Nat) : ∀ r ∈ jl_W, jx_si S dA (jx_R1 sc aL aM adK) jx_df "JobHouseLaw" r.1 r.2.1 r.2.2 ∧ jx_sc S jx_P cc "JobHouseLaw" pc r.1 r.2.1 := by
  intro r hr
  simp only [jl_W, List.mem_append] at hr
  rcases hr with h0 | h1
  · exact js_W_0 F cc pc r h0
  · exact js_W_1 F cc pc r h1
def jl_Long_0 : List (Instr × List Nat × Value) := [(.ldc2_w 314, [], .long 6148914691236517205), (.ldc2_w 316, [], .long 3689348814741910323), (.ldc2_w 318, [], .long 1085102592571150095)]
theorem js_Long_0 (F : jx_SF S dA aL aM adK) (cc : ByteArray) (pc : Nat) : ∀ r ∈ jl_Long_0, jx_si S dA (jx_R1 sc aL aM adK) jx_df "java/lang/Long" r.1 r.2.1 r.2.2 ∧ jx_sc S jx_P cc "java/lang/Long" pc r.1 r.2.1 := by
  intro r hr
  simp only [jl_Long_0, List.mem_cons, List.not_mem_nil, or_false] at hr
  rcases hr with rfl | rfl | rfl
  · exact ⟨⟨_, rfl, jm_g4 60 rfl rfl⟩, trivial⟩
  · exact ⟨⟨_, rfl, jm_g4 61 rfl rfl⟩, trivial⟩
  · exact ⟨⟨_, rfl, jm_g4 62 rfl rfl⟩, trivial⟩
def jl_Long : List (Instr × List Nat × Value) := jl_Long_0
theorem js_Long (F : jx_SF S dA aL aM adK) (cc : ByteArray) (pc : Nat) : ∀ r ∈ jl_Long, jx_si S dA (jx_R1 sc aL aM adK) jx_df "java/lang/Long" r.1 r.2.1 r.2.2 ∧ jx_sc S jx_P cc "java/lang/Long" pc r.1 r.2.1 := by
  intro r hr
  exact js_Long_0 F cc pc r hr
end JS
