section JO
variable {S : State} {dA : Nat → ClassId} {sc aL aM : Nat} {adK : Nat → Nat}
theorem jo_J_init (F : jx_SF S dA aL aM adK) : jx_mok S dA (jx_R1 sc aL aM adK) jx_df jx_P jp_J_init := jx_mk (sites := jl_J) (by decide +kernel) (⟨fun q hq => (by cases hq), fun q hq => (by cases hq)⟩) (by decide +kernel) (by decide +kernel) (fun pc => js_J F _ pc) (jx_noth (by decide +kernel))
theorem jo_J_feed (F : jx_SF S dA aL aM adK) : jx_mok S dA (jx_R1 sc aL aM adK) jx_df jx_P jp_J_feed := jx_mk (sites := jl_J) (by decide +kernel) (⟨fun q hq => (by cases hq), fun q hq => (by cases hq)⟩) (by decide +kernel) (by decide +kernel) (fun pc => js_J F _ pc) (fun q hq ht => by
    have hq2 : q ∈ jp_J_feed.2.2.2.2.2.filter (fun q => jx_thn q.2.1 q.2.2.2.1) := List.mem_filter.mpr ⟨hq, ht⟩
    have e : jp_J_feed.2.2.2.2.2.filter (fun q => jx_thn q.2.1 q.2.2.2.1) = [(16, .new 83, 3, [10], .null)] := by decide +kernel
    rw [e] at hq2
    simp only [List.mem_cons, List.not_mem_nil, or_false] at hq2
    rcases hq2 with rfl
    · exact ⟨⟨10, rfl, fun fs hfs => (by cases hfs)⟩, 10, rfl, fun _ => ⟨_, _, 85, rfl, by decide +kernel, by decide +kernel, by decide +kernel, by decide +kernel, jm_g2 87 rfl rfl, jm_g2 88 rfl rfl, jm_g1 14 rfl rfl, jx_atom F jt_J_85⟩⟩)
theorem jo_J_end (F : jx_SF S dA aL aM adK) : jx_mok S dA (jx_R1 sc aL aM adK) jx_df jx_P jp_J_end := jx_mk (sites := jl_J) (by decide +kernel) (⟨fun q hq => (by cases hq), fun q hq => (by cases hq)⟩) (by decide +kernel) (by decide +kernel) (fun pc => js_J F _ pc) (jx_noth (by decide +kernel))
theorem jo_J_zone (F : jx_SF S dA aL aM adK) : jx_mok S dA (jx_R1 sc aL aM adK) jx_df jx_P jp_J_zone := jx_mk (sites := jl_J) (by decide +kernel) (⟨fun q hq => (by cases hq), fun q hq => (by cases hq)⟩) (by decide +kernel) (by decide +kernel) (fun pc => js_J F _ pc) (jx_noth (by decide +kernel))
theorem jo_J_cron (F : jx_SF S dA aL aM adK) : jx_mok S dA (jx_R1 sc aL aM adK) jx_df jx_P jp_J_cron := jx_mk (sites := jl_J) (by decide +kernel) (⟨fun q hq => (by cases hq), fun q hq => (by cases hq)⟩) (by decide +kernel) (by decide +kernel) (fun pc => js_J F _ pc) (jx_noth (by decide +kernel))
theorem jo_J_holiday (F : jx_SF S dA aL aM adK) : jx_mok S dA (jx_R1 sc aL aM adK) jx_df jx_P jp_J_holiday := jx_mk (sites := jl_J) (by decide +kernel) (⟨fun q hq => (by cases hq), fun q hq => (by cases hq)⟩) (by decide +kernel) (by decide +kernel) (fun pc => js_J F _ pc) (fun q hq ht => by
    have hq2 : q ∈ jp_J_holiday.2.2.2.2.2.filter (fun q => jx_thn q.2.1 q.2.2.2.1) := List.mem_filter.mpr ⟨hq, ht⟩
    have e : jp_J_holiday.2.2.2.2.2.filter (fun q => jx_thn q.2.1 q.2.2.2.1) = [(54, .new 83, 3, [10], .null)] := by decide +kernel
    rw [e] at hq2
    simp only [List.mem_cons, List.not_mem_nil, or_false] at hq2
    rcases hq2 with rfl
    · exact ⟨⟨10, rfl, fun fs hfs => (by cases hfs)⟩, 10, rfl, fun _ => ⟨_, _, 85, rfl, by decide +kernel, by decide +kernel, by decide +kernel, by decide +kernel, jm_g2 87 rfl rfl, jm_g2 88 rfl rfl, jm_g1 14 rfl rfl, jx_atom F jt_J_85⟩⟩)
theorem jo_J_next (F : jx_SF S dA aL aM adK) : jx_mok S dA (jx_R1 sc aL aM adK) jx_df jx_P jp_J_next := jx_mk (sites := jl_J) (by decide +kernel) (⟨fun q hq => (by cases hq), fun q hq => (by cases hq)⟩) (by decide +kernel) (by decide +kernel) (fun pc => js_J F _ pc) (jx_noth (by decide +kernel))
theorem jo_J_last (F : jx_SF S dA aL aM adK) : jx_mok S dA (jx_R1 sc aL aM adK) jx_df jx_P jp_J_last := jx_mk (sites := jl_J) (by decide +kernel) (⟨fun q hq => (by cases hq), fun q hq => (by cases hq)⟩) (by decide +kernel) (by decide +kernel) (fun pc => js_J F _ pc) (jx_noth (by decide +kernel))
theorem jo_J_local (F : jx_SF S dA aL aM adK) : jx_mok S dA (jx_R1 sc aL aM adK) jx_df jx_P jp_J_local := jx_mk (sites := jl_J) (by decide +kernel) (⟨fun q hq => (by cases hq), fun q hq => (by cases hq)⟩) (by decide +kernel) (by decide +kernel) (fun pc => js_J F _ pc) (jx_noth (by decide +kernel))
theorem jo_J_make (F : jx_SF S dA aL aM adK) : jx_mok S dA (jx_R1 sc aL aM adK) jx_df jx_P jp_J_make := jx_mk (sites := jl_J) (by decide +kernel) (⟨fun q hq => (by cases hq), fun q hq => (by cases hq)⟩) (by decide +kernel) (by decide +kernel) (fun pc => js_J F _ pc) (jx_noth (by decide +kernel))
theorem jo_J_makeCron (F : jx_SF S dA aL aM adK) : jx_mok S dA (jx_R1 sc aL aM adK) jx_df jx_P jp_J_makeCron := jx_mk (sites := jl_J) (by decide +kernel) (⟨fun q hq => (by cases hq), fun q hq => (by cases hq)⟩) (by decide +kernel) (by decide +kernel) (fun pc => js_J F _ pc) (fun q hq ht => by
    have hq2 : q ∈ jp_J_makeCron.2.2.2.2.2.filter (fun q => jx_thn q.2.1 q.2.2.2.1) := List.mem_filter.mpr ⟨hq, ht⟩
    have e : jp_J_makeCron.2.2.2.2.2.filter (fun q => jx_thn q.2.1 q.2.2.2.1) = [(46, .new 214, 3, [12], .null)] := by decide +kernel
    rw [e] at hq2
    simp only [List.mem_cons, List.not_mem_nil, or_false] at hq2
    rcases hq2 with rfl
    · exact ⟨⟨12, rfl, fun fs hfs => (by cases hfs)⟩, 12, rfl, fun _ => ⟨_, _, 216, rfl, by decide +kernel, by decide +kernel, by decide +kernel, by decide +kernel, jm_g3 11 rfl rfl, jm_g3 12 rfl rfl, jm_g1 17 rfl rfl, jx_atom F jt_J_216⟩⟩)
theorem jo_J_cancel (F : jx_SF S dA aL aM adK) : jx_mok S dA (jx_R1 sc aL aM adK) jx_df jx_P jp_J_cancel := jx_mk (sites := jl_J) (by decide +kernel) (⟨fun q hq => (by cases hq), fun q hq => (by cases hq)⟩) (by decide +kernel) (by decide +kernel) (fun pc => js_J F _ pc) (jx_noth (by decide +kernel))
theorem jo_J_workers (F : jx_SF S dA aL aM adK) : jx_mok S dA (jx_R1 sc aL aM adK) jx_df jx_P jp_J_workers := jx_mk (sites := jl_J) (by decide +kernel) (⟨fun q hq => (by cases hq), fun q hq => (by cases hq)⟩) (by decide +kernel) (by decide +kernel) (fun pc => js_J F _ pc) (jx_noth (by decide +kernel))
theorem jo_J_advance (F : jx_SF S dA aL aM adK) : jx_mok S dA (jx_R1 sc aL aM adK) jx_df jx_P jp_J_advance := jx_mk (sites := jl_J) (by decide +kernel) (⟨fun q hq => (by cases hq), fun q hq => (by cases hq)⟩) (by decide +kernel) (by decide +kernel) (fun pc => js_J F _ pc) (jx_noth (by decide +kernel))
theorem jo_J_stall (F : jx_SF S dA aL aM adK) : jx_mok S dA (jx_R1 sc aL aM adK) jx_df jx_P jp_J_stall := jx_mk (sites := jl_J) (by decide +kernel) (⟨fun q hq => (by cases hq), fun q hq => (by cases hq)⟩) (by decide +kernel) (by decide +kernel) (fun pc => js_J F _ pc) (jx_noth (by decide +kernel))
theorem jo_J_close (F : jx_SF S dA aL aM adK) : jx_mok S dA (jx_R1 sc aL aM adK) jx_df jx_P jp_J_close := jx_mk (sites := jl_J) (by decide +kernel) (⟨fun q hq => (by cases hq), fun q hq => (by cases hq)⟩) (by decide +kernel) (by decide +kernel) (fun pc => js_J F _ pc) (jx_noth (by decide +kernel))
theorem jo_J_job (F : jx_SF S dA aL aM adK) : jx_mok S dA (jx_R1 sc aL aM adK) jx_df jx_P jp_J_job := jx_mk (sites := jl_J) (by decide +kernel) (⟨fun q hq => (by cases hq), fun q hq => (by cases hq)⟩) (by decide +kernel) (by decide +kernel) (fun pc => js_J F _ pc) (jx_noth (by decide +kernel))
theorem jo_J_start (F : jx_SF S dA aL aM adK) : jx_mok S dA (jx_R1 sc aL aM adK) jx_df jx_P jp_J_start := jx_mk (sites := jl_J) (by decide +kernel) (⟨fun q hq => (by cases hq), fun q hq => (by cases hq)⟩) (by decide +kernel) (by decide +kernel) (fun pc => js_J F _ pc) (fun q hq ht => by
    have hq2 : q ∈ jp_J_start.2.2.2.2.2.filter (fun q => jx_thn q.2.1 q.2.2.2.1) := List.mem_filter.mpr ⟨hq, ht⟩
    have e : jp_J_start.2.2.2.2.2.filter (fun q => jx_thn q.2.1 q.2.2.2.1) = [(24, .new 292, 3, [14], .null)] := by decide +kernel
    rw [e] at hq2
    simp only [List.mem_cons, List.not_mem_nil, or_false] at hq2
    rcases hq2 with rfl
    · exact ⟨⟨14, rfl, fun fs hfs => (by cases hfs)⟩, 14, rfl, fun _ => ⟨_, _, 294, rfl, by decide +kernel, by decide +kernel, by decide +kernel, by decide +kernel, jm_g4 187 rfl rfl, jm_g4 188 rfl rfl, jm_g1 27 rfl rfl, jx_atom F jt_J_294⟩⟩)
theorem jo_J_count (F : jx_SF S dA aL aM adK) : jx_mok S dA (jx_R1 sc aL aM adK) jx_df jx_P jp_J_count := jx_mk (sites := jl_J) (by decide +kernel) (⟨fun q hq => (by cases hq), fun q hq => (by cases hq)⟩) (by decide +kernel) (by decide +kernel) (fun pc => js_J F _ pc) (jx_noth (by decide +kernel))
theorem jo_J_checkRange (F : jx_SF S dA aL aM adK) : jx_mok S dA (jx_R1 sc aL aM adK) jx_df jx_P jp_J_checkRange := jx_mk (sites := jl_J) (by decide +kernel) (⟨fun q hq => (by cases hq), fun q hq => (by cases hq)⟩) (by decide +kernel) (by decide +kernel) (fun pc => js_J F _ pc) (fun q hq ht => by
    have hq2 : q ∈ jp_J_checkRange.2.2.2.2.2.filter (fun q => jx_thn q.2.1 q.2.2.2.1) := List.mem_filter.mpr ⟨hq, ht⟩
    have e : jp_J_checkRange.2.2.2.2.2.filter (fun q => jx_thn q.2.1 q.2.2.2.1) = [(13, .new 313, 3, [11], .null)] := by decide +kernel
    rw [e] at hq2
    simp only [List.mem_cons, List.not_mem_nil, or_false] at hq2
    rcases hq2 with rfl
    · exact ⟨⟨11, rfl, fun fs hfs => (by cases hfs)⟩, 11, rfl, fun _ => ⟨_, _, 315, rfl, by decide +kernel, by decide +kernel, by decide +kernel, by decide +kernel, jm_g2 167 rfl rfl, jm_g2 168 rfl rfl, jm_g1 15 rfl rfl, jx_atom F jt_J_315⟩⟩)
theorem jo_J_checkSearch (F : jx_SF S dA aL aM adK) : jx_mok S dA (jx_R1 sc aL aM adK) jx_df jx_P jp_J_checkSearch := jx_mk (sites := jl_J) (by decide +kernel) (⟨fun q hq => (by cases hq), fun q hq => (by cases hq)⟩) (by decide +kernel) (by decide +kernel) (fun pc => js_J F _ pc) (jx_noth (by decide +kernel))
theorem jo_J_checkRun (F : jx_SF S dA aL aM adK) : jx_mok S dA (jx_R1 sc aL aM adK) jx_df jx_P jp_J_checkRun := jx_mk (sites := jl_J) (by decide +kernel) (⟨fun q hq => (by cases hq), fun q hq => (by cases hq)⟩) (by decide +kernel) (by decide +kernel) (fun pc => js_J F _ pc) (jx_noth (by decide +kernel))
theorem jo_J_checkWay (F : jx_SF S dA aL aM adK) : jx_mok S dA (jx_R1 sc aL aM adK) jx_df jx_P jp_J_checkWay := jx_mk (sites := jl_J) (by decide +kernel) (⟨fun q hq => (by cases hq), fun q hq => (by cases hq)⟩) (by decide +kernel) (by decide +kernel) (fun pc => js_J F _ pc) (jx_noth (by decide +kernel))
theorem jo_J_checkOpen (F : jx_SF S dA aL aM adK) : jx_mok S dA (jx_R1 sc aL aM adK) jx_df jx_P jp_J_checkOpen := jx_mk (sites := jl_J) (by decide +kernel) (⟨fun q hq => (by cases hq), fun q hq => (by cases hq)⟩) (by decide +kernel) (by decide +kernel) (fun pc => js_J F _ pc) (fun q hq ht => by
    have hq2 : q ∈ jp_J_checkOpen.2.2.2.2.2.filter (fun q => jx_thn q.2.1 q.2.2.2.1) := List.mem_filter.mpr ⟨hq, ht⟩
    have e : jp_J_checkOpen.2.2.2.2.2.filter (fun q => jx_thn q.2.1 q.2.2.2.1) = [(7, .new 320, 3, [13], .null)] := by decide +kernel
    rw [e] at hq2
    simp only [List.mem_cons, List.not_mem_nil, or_false] at hq2
    rcases hq2 with rfl
    · exact ⟨⟨13, rfl, fun fs hfs => (by cases hfs)⟩, 13, rfl, fun _ => ⟨_, _, 322, rfl, by decide +kernel, by decide +kernel, by decide +kernel, by decide +kernel, jm_g4 144 rfl rfl, jm_g4 145 rfl rfl, jm_g1 26 rfl rfl, jx_atom F jt_J_322⟩⟩)
theorem jo_J_checkNotBroken (F : jx_SF S dA aL aM adK) : jx_mok S dA (jx_R1 sc aL aM adK) jx_df jx_P jp_J_checkNotBroken := jx_mk (sites := jl_J) (by decide +kernel) (⟨fun q hq => (by cases hq), fun q hq => (by cases hq)⟩) (by decide +kernel) (by decide +kernel) (fun pc => js_J F _ pc) (fun q hq ht => by
    have hq2 : q ∈ jp_J_checkNotBroken.2.2.2.2.2.filter (fun q => jx_thn q.2.1 q.2.2.2.1) := List.mem_filter.mpr ⟨hq, ht⟩
    have e : jp_J_checkNotBroken.2.2.2.2.2.filter (fun q => jx_thn q.2.1 q.2.2.2.1) = [(11, .new 214, 3, [12], .null)] := by decide +kernel
    rw [e] at hq2
    simp only [List.mem_cons, List.not_mem_nil, or_false] at hq2
    rcases hq2 with rfl
    · exact ⟨⟨12, rfl, fun fs hfs => (by cases hfs)⟩, 12, rfl, fun _ => ⟨_, _, 216, rfl, by decide +kernel, by decide +kernel, by decide +kernel, by decide +kernel, jm_g3 11 rfl rfl, jm_g3 12 rfl rfl, jm_g1 17 rfl rfl, jx_atom F jt_J_216⟩⟩)
theorem jo_J_aimAt (F : jx_SF S dA aL aM adK) : jx_mok S dA (jx_R1 sc aL aM adK) jx_df jx_P jp_J_aimAt := jx_mk (sites := jl_J) (by decide +kernel) (⟨fun q hq => (by cases hq), fun q hq => (by cases hq)⟩) (by decide +kernel) (by decide +kernel) (fun pc => js_J F _ pc) (jx_noth (by decide +kernel))
theorem jo_J_freeSlot (F : jx_SF S dA aL aM adK) : jx_mok S dA (jx_R1 sc aL aM adK) jx_df jx_P jp_J_freeSlot := jx_mk (sites := jl_J) (by decide +kernel) (⟨fun q hq => (by cases hq), fun q hq => (by cases hq)⟩) (by decide +kernel) (by decide +kernel) (fun pc => js_J F _ pc) (fun q hq ht => by
    have hq2 : q ∈ jp_J_freeSlot.2.2.2.2.2.filter (fun q => jx_thn q.2.1 q.2.2.2.1) := List.mem_filter.mpr ⟨hq, ht⟩
    have e : jp_J_freeSlot.2.2.2.2.2.filter (fun q => jx_thn q.2.1 q.2.2.2.1) = [(28, .new 83, 3, [10], .null)] := by decide +kernel
    rw [e] at hq2
    simp only [List.mem_cons, List.not_mem_nil, or_false] at hq2
    rcases hq2 with rfl
    · exact ⟨⟨10, rfl, fun fs hfs => (by cases hfs)⟩, 10, rfl, fun _ => ⟨_, _, 85, rfl, by decide +kernel, by decide +kernel, by decide +kernel, by decide +kernel, jm_g2 87 rfl rfl, jm_g2 88 rfl rfl, jm_g1 14 rfl rfl, jx_atom F jt_J_85⟩⟩)
theorem jo_J_fill (F : jx_SF S dA aL aM adK) : jx_mok S dA (jx_R1 sc aL aM adK) jx_df jx_P jp_J_fill := jx_mk (sites := jl_J) (by decide +kernel) (⟨fun q hq => (by cases hq), fun q hq => (by cases hq)⟩) (by decide +kernel) (by decide +kernel) (fun pc => js_J F _ pc) (jx_noth (by decide +kernel))
theorem jo_J_remove (F : jx_SF S dA aL aM adK) : jx_mok S dA (jx_R1 sc aL aM adK) jx_df jx_P jp_J_remove := jx_mk (sites := jl_J) (by decide +kernel) (⟨fun q hq => (by cases hq), fun q hq => (by cases hq)⟩) (by decide +kernel) (by decide +kernel) (fun pc => js_J F _ pc) (jx_noth (by decide +kernel))
theorem jo_J_jobAt (F : jx_SF S dA aL aM adK) : jx_mok S dA (jx_R1 sc aL aM adK) jx_df jx_P jp_J_jobAt := jx_mk (sites := jl_J) (by decide +kernel) (⟨fun q hq => (by cases hq), fun q hq => (by cases hq)⟩) (by decide +kernel) (by decide +kernel) (fun pc => js_J F _ pc) (fun q hq ht => by
    have hq2 : q ∈ jp_J_jobAt.2.2.2.2.2.filter (fun q => jx_thn q.2.1 q.2.2.2.1) := List.mem_filter.mpr ⟨hq, ht⟩
    have e : jp_J_jobAt.2.2.2.2.2.filter (fun q => jx_thn q.2.1 q.2.2.2.1) = [(22, .new 292, 3, [14], .null)] := by decide +kernel
    rw [e] at hq2
    simp only [List.mem_cons, List.not_mem_nil, or_false] at hq2
    rcases hq2 with rfl
    · exact ⟨⟨14, rfl, fun fs hfs => (by cases hfs)⟩, 14, rfl, fun _ => ⟨_, _, 294, rfl, by decide +kernel, by decide +kernel, by decide +kernel, by decide +kernel, jm_g4 187 rfl rfl, jm_g4 188 rfl rfl, jm_g1 27 rfl rfl, jx_atom F jt_J_294⟩⟩)
theorem jo_J_firstEnded (F : jx_SF S dA aL aM adK) : jx_mok S dA (jx_R1 sc aL aM adK) jx_df jx_P jp_J_firstEnded := jx_mk (sites := jl_J) (by decide +kernel) (⟨fun q hq => (by cases hq), fun q hq => (by cases hq)⟩) (by decide +kernel) (by decide +kernel) (fun pc => js_J F _ pc) (jx_noth (by decide +kernel))
theorem jo_J_nominalBehind (F : jx_SF S dA aL aM adK) : jx_mok S dA (jx_R1 sc aL aM adK) jx_df jx_P jp_J_nominalBehind := jx_mk (sites := jl_J) (by decide +kernel) (⟨fun q hq => (by cases hq), fun q hq => (by cases hq)⟩) (by decide +kernel) (by decide +kernel) (fun pc => js_J F _ pc) (jx_noth (by decide +kernel))
theorem jo_J_free (F : jx_SF S dA aL aM adK) : jx_mok S dA (jx_R1 sc aL aM adK) jx_df jx_P jp_J_free := jx_mk (sites := jl_J) (by decide +kernel) (⟨fun q hq => (by cases hq), fun q hq => (by cases hq)⟩) (by decide +kernel) (by decide +kernel) (fun pc => js_J F _ pc) (jx_noth (by decide +kernel))
theorem jo_J_firstPending (F : jx_SF S dA aL aM adK) : jx_mok S dA (jx_R1 sc aL aM adK) jx_df jx_P jp_J_firstPending := jx_mk (sites := jl_J) (by decide +kernel) (⟨fun q hq => (by cases hq), fun q hq => (by cases hq)⟩) (by decide +kernel) (by decide +kernel) (fun pc => js_J F _ pc) (jx_noth (by decide +kernel))
theorem jo_J_begin (F : jx_SF S dA aL aM adK) : jx_mok S dA (jx_R1 sc aL aM adK) jx_df jx_P jp_J_begin := jx_mk (sites := jl_J) (by decide +kernel) (⟨fun q hq => (by cases hq), fun q hq => (by cases hq)⟩) (by decide +kernel) (by decide +kernel) (fun pc => js_J F _ pc) (jx_noth (by decide +kernel))
theorem jo_J_nextTime (F : jx_SF S dA aL aM adK) : jx_mok S dA (jx_R1 sc aL aM adK) jx_df jx_P jp_J_nextTime := jx_mk (sites := jl_J) (by decide +kernel) (⟨fun q hq => (by cases hq), fun q hq => (by cases hq)⟩) (by decide +kernel) (by decide +kernel) (fun pc => js_J F _ pc) (jx_noth (by decide +kernel))
theorem jo_M_init (F : jx_SF S dA aL aM adK) : jx_mok S dA (jx_R1 sc aL aM adK) jx_df jx_P jp_M_init := jx_mk (sites := jl_M) (by decide +kernel) (⟨fun q hq => (by cases hq), fun q hq => (by cases hq)⟩) (by decide +kernel) (by decide +kernel) (fun pc => js_M F _ pc) (jx_noth (by decide +kernel))
theorem jo_M_thrown (F : jx_SF S dA aL aM adK) : jx_mok S dA (jx_R1 sc aL aM adK) jx_df jx_P jp_M_thrown := jx_mk (sites := jl_M) (by decide +kernel) (⟨fun q hq => (by cases hq), fun q hq => (by cases hq)⟩) (by decide +kernel) (by decide +kernel) (fun pc => js_M F _ pc) (jx_noth (by decide +kernel))
theorem jo_M_fail (F : jx_SF S dA aL aM adK) : jx_mok S dA (jx_R1 sc aL aM adK) jx_df jx_P jp_M_fail := jx_mk (sites := jl_M) (by decide +kernel) (⟨fun q hq => (by cases hq), fun q hq => (by cases hq)⟩) (by decide +kernel) (by decide +kernel) (fun pc => js_M F _ pc) (jx_noth (by decide +kernel))
theorem jo_M_leap (F : jx_SF S dA aL aM adK) : jx_mok S dA (jx_R1 sc aL aM adK) jx_df jx_P jp_M_leap := jx_mk (sites := jl_M) (by decide +kernel) (⟨fun q hq => (by cases hq), fun q hq => (by cases hq)⟩) (by decide +kernel) (by decide +kernel) (fun pc => js_M F _ pc) (jx_noth (by decide +kernel))
theorem jo_M_length (F : jx_SF S dA aL aM adK) : jx_mok S dA (jx_R1 sc aL aM adK) jx_df jx_P jp_M_length := jx_mk (sites := jl_M) (by decide +kernel) (⟨fun q hq => (by cases hq), fun q hq => (by cases hq)⟩) (by decide +kernel) (by decide +kernel) (fun pc => js_M F _ pc) (jx_noth (by decide +kernel))
theorem jo_M_number (F : jx_SF S dA aL aM adK) : jx_mok S dA (jx_R1 sc aL aM adK) jx_df jx_P jp_M_number := jx_mk (sites := jl_M) (by decide +kernel) (⟨fun q hq => (by cases hq), fun q hq => (by cases hq)⟩) (by decide +kernel) (by decide +kernel) (fun pc => js_M F _ pc) (jx_noth (by decide +kernel))
theorem jo_M_date (F : jx_SF S dA aL aM adK) : jx_mok S dA (jx_R1 sc aL aM adK) jx_df jx_P jp_M_date := jx_mk (sites := jl_M) (by decide +kernel) (⟨fun q hq => (by cases hq), fun q hq => (by cases hq)⟩) (by decide +kernel) (by decide +kernel) (fun pc => js_M F _ pc) (jx_noth (by decide +kernel))
theorem jo_M_weekday (F : jx_SF S dA aL aM adK) : jx_mok S dA (jx_R1 sc aL aM adK) jx_df jx_P jp_M_weekday := jx_mk (sites := jl_M) (by decide +kernel) (⟨fun q hq => (by cases hq), fun q hq => (by cases hq)⟩) (by decide +kernel) (by decide +kernel) (fun pc => js_M F _ pc) (jx_noth (by decide +kernel))
theorem jo_M_bad (F : jx_SF S dA aL aM adK) : jx_mok S dA (jx_R1 sc aL aM adK) jx_df jx_P jp_M_bad := jx_mk (sites := jl_M) (by decide +kernel) (⟨fun q hq => (by cases hq), fun q hq => (by cases hq)⟩) (by decide +kernel) (by decide +kernel) (fun pc => js_M F _ pc) (fun q hq ht => by
    have hq2 : q ∈ jp_M_bad.2.2.2.2.2.filter (fun q => jx_thn q.2.1 q.2.2.2.1) := List.mem_filter.mpr ⟨hq, ht⟩
    have e : jp_M_bad.2.2.2.2.2.filter (fun q => jx_thn q.2.1 q.2.2.2.1) = [(5, .new 203, 3, [12], .null)] := by decide +kernel
    rw [e] at hq2
    simp only [List.mem_cons, List.not_mem_nil, or_false] at hq2
    rcases hq2 with rfl
    · exact ⟨⟨12, rfl, fun fs hfs => (by cases hfs)⟩, 12, rfl, fun _ => ⟨_, _, 205, rfl, by decide +kernel, by decide +kernel, by decide +kernel, by decide +kernel, jm_g6 21 rfl rfl, jm_g3 12 rfl rfl, jm_g1 17 rfl rfl, jx_atom F jt_M_205⟩⟩)
theorem jo_M_peek (F : jx_SF S dA aL aM adK) : jx_mok S dA (jx_R1 sc aL aM adK) jx_df jx_P jp_M_peek := jx_mk (sites := jl_M) (by decide +kernel) (⟨fun q hq => (by cases hq), fun q hq => (by cases hq)⟩) (by decide +kernel) (by decide +kernel) (fun pc => js_M F _ pc) (jx_noth (by decide +kernel))
theorem jo_M_digit (F : jx_SF S dA aL aM adK) : jx_mok S dA (jx_R1 sc aL aM adK) jx_df jx_P jp_M_digit := jx_mk (sites := jl_M) (by decide +kernel) (⟨fun q hq => (by cases hq), fun q hq => (by cases hq)⟩) (by decide +kernel) (by decide +kernel) (fun pc => js_M F _ pc) (jx_noth (by decide +kernel))
theorem jo_M_expect (F : jx_SF S dA aL aM adK) : jx_mok S dA (jx_R1 sc aL aM adK) jx_df jx_P jp_M_expect := jx_mk (sites := jl_M) (by decide +kernel) (⟨fun q hq => (by cases hq), fun q hq => (by cases hq)⟩) (by decide +kernel) (by decide +kernel) (fun pc => js_M F _ pc) (jx_noth (by decide +kernel))
theorem jo_M_blanks (F : jx_SF S dA aL aM adK) : jx_mok S dA (jx_R1 sc aL aM adK) jx_df jx_P jp_M_blanks := jx_mk (sites := jl_M) (by decide +kernel) (⟨fun q hq => (by cases hq), fun q hq => (by cases hq)⟩) (by decide +kernel) (by decide +kernel) (fun pc => js_M F _ pc) (jx_noth (by decide +kernel))
theorem jo_M_ranged (F : jx_SF S dA aL aM adK) : jx_mok S dA (jx_R1 sc aL aM adK) jx_df jx_P jp_M_ranged := jx_mk (sites := jl_M) (by decide +kernel) (⟨fun q hq => (by cases hq), fun q hq => (by cases hq)⟩) (by decide +kernel) (by decide +kernel) (fun pc => js_M F _ pc) (jx_noth (by decide +kernel))
end JO
