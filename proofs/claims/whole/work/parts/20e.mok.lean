section JO
variable {S : State} {dA : Nat → ClassId} {sc aL aM : Nat} {adK : Nat → Nat}
theorem jo_T_peek (F : jx_SF S dA aL aM adK) : jx_mok S dA (jx_R1 sc aL aM adK) jx_df jx_P jp_T_peek := jx_mk (sites := jl_T) (by decide +kernel) (⟨fun q hq => (by cases hq), fun q hq => (by cases hq)⟩) (by decide +kernel) (by decide +kernel) (fun pc => js_T F _ pc) (jx_noth (by decide +kernel))
theorem jo_T_take (F : jx_SF S dA aL aM adK) : jx_mok S dA (jx_R1 sc aL aM adK) jx_df jx_P jp_T_take := jx_mk (sites := jl_T) (by decide +kernel) (⟨fun q hq => (by cases hq), fun q hq => (by cases hq)⟩) (by decide +kernel) (by decide +kernel) (fun pc => js_T F _ pc) (jx_noth (by decide +kernel))
theorem jo_T_require (F : jx_SF S dA aL aM adK) : jx_mok S dA (jx_R1 sc aL aM adK) jx_df jx_P jp_T_require := jx_mk (sites := jl_T) (by decide +kernel) (⟨fun q hq => (by cases hq), fun q hq => (by cases hq)⟩) (by decide +kernel) (by decide +kernel) (fun pc => js_T F _ pc) (jx_noth (by decide +kernel))
theorem jo_T_requireBlanks (F : jx_SF S dA aL aM adK) : jx_mok S dA (jx_R1 sc aL aM adK) jx_df jx_P jp_T_requireBlanks := jx_mk (sites := jl_T) (by decide +kernel) (⟨fun q hq => (by cases hq), fun q hq => (by cases hq)⟩) (by decide +kernel) (by decide +kernel) (fun pc => js_T F _ pc) (jx_noth (by decide +kernel))
theorem jo_T_requireEnd (F : jx_SF S dA aL aM adK) : jx_mok S dA (jx_R1 sc aL aM adK) jx_df jx_P jp_T_requireEnd := jx_mk (sites := jl_T) (by decide +kernel) (⟨fun q hq => (by cases hq), fun q hq => (by cases hq)⟩) (by decide +kernel) (by decide +kernel) (fun pc => js_T F _ pc) (jx_noth (by decide +kernel))
theorem jo_T_number (F : jx_SF S dA aL aM adK) : jx_mok S dA (jx_R1 sc aL aM adK) jx_df jx_P jp_T_number := jx_mk (sites := jl_T) (by decide +kernel) (⟨fun q hq => (by cases hq), fun q hq => (by cases hq)⟩) (by decide +kernel) (by decide +kernel) (fun pc => js_T F _ pc) (jx_noth (by decide +kernel))
theorem jo_T_takeName (F : jx_SF S dA aL aM adK) : jx_mok S dA (jx_R1 sc aL aM adK) jx_df jx_P jp_T_takeName := jx_mk (sites := jl_T) (by decide +kernel) (⟨fun q hq => (by cases hq), fun q hq => (by cases hq)⟩) (by decide +kernel) (by decide +kernel) (fun pc => js_T F _ pc) (jx_noth (by decide +kernel))
theorem jo_T_isDigit (F : jx_SF S dA aL aM adK) : jx_mok S dA (jx_R1 sc aL aM adK) jx_df jx_P jp_T_isDigit := jx_mk (sites := jl_T) (by decide +kernel) (⟨fun q hq => (by cases hq), fun q hq => (by cases hq)⟩) (by decide +kernel) (by decide +kernel) (fun pc => js_T F _ pc) (jx_noth (by decide +kernel))
theorem jo_Y_init (F : jx_SF S dA aL aM adK) : jx_mok S dA (jx_R1 sc aL aM adK) jx_df jx_P jp_Y_init := jx_mk (sites := jl_Y) (by decide +kernel) (⟨fun q hq => (by cases hq), fun q hq => (by cases hq)⟩) (by decide +kernel) (by decide +kernel) (fun pc => js_Y F _ pc) (jx_noth (by decide +kernel))
theorem jo_Y_readFrom (F : jx_SF S dA aL aM adK) : jx_mok S dA (jx_R1 sc aL aM adK) jx_df jx_P jp_Y_readFrom := jx_mk (sites := jl_Y) (by decide +kernel) (⟨fun q hq => (by cases hq), fun q hq => (by cases hq)⟩) (by decide +kernel) (by decide +kernel) (fun pc => js_Y F _ pc) (jx_noth (by decide +kernel))
theorem jo_Y_secondIn (F : jx_SF S dA aL aM adK) : jx_mok S dA (jx_R1 sc aL aM adK) jx_df jx_P jp_Y_secondIn := jx_mk (sites := jl_Y) (by decide +kernel) (⟨fun q hq => (by cases hq), fun q hq => (by cases hq)⟩) (by decide +kernel) (by decide +kernel) (fun pc => js_Y F _ pc) (jx_noth (by decide +kernel))
theorem jo_Y_latestUpTo (F : jx_SF S dA aL aM adK) : jx_mok S dA (jx_R1 sc aL aM adK) jx_df jx_P jp_Y_latestUpTo := jx_mk (sites := jl_Y) (by decide +kernel) (⟨fun q hq => (by cases hq), fun q hq => (by cases hq)⟩) (by decide +kernel) (by decide +kernel) (fun pc => js_Y F _ pc) (jx_noth (by decide +kernel))
theorem jo_Y_firstBehind (F : jx_SF S dA aL aM adK) : jx_mok S dA (jx_R1 sc aL aM adK) jx_df jx_P jp_Y_firstBehind := jx_mk (sites := jl_Y) (by decide +kernel) (⟨fun q hq => (by cases hq), fun q hq => (by cases hq)⟩) (by decide +kernel) (by decide +kernel) (fun pc => js_Y F _ pc) (jx_noth (by decide +kernel))
theorem jo_Z_init (F : jx_SF S dA aL aM adK) : jx_mok S dA (jx_R1 sc aL aM adK) jx_df jx_P jp_Z_init := jx_mk (sites := jl_Z) (by decide +kernel) (⟨fun q hq => (by cases hq), fun q hq => (by cases hq)⟩) (by decide +kernel) (by decide +kernel) (fun pc => js_Z F _ pc) (jx_noth (by decide +kernel))
theorem jo_Z_readFrom (F : jx_SF S dA aL aM adK) : jx_mok S dA (jx_R1 sc aL aM adK) jx_df jx_P jp_Z_readFrom := jx_mk (sites := jl_Z) (by decide +kernel) (⟨fun q hq => (by cases hq), fun q hq => (by cases hq)⟩) (by decide +kernel) (by decide +kernel) (fun pc => js_Z F _ pc) (jx_noth (by decide +kernel))
theorem jo_Z_offsetAt (F : jx_SF S dA aL aM adK) : jx_mok S dA (jx_R1 sc aL aM adK) jx_df jx_P jp_Z_offsetAt := jx_mk (sites := jl_Z) (by decide +kernel) (⟨fun q hq => (by cases hq), fun q hq => (by cases hq)⟩) (by decide +kernel) (by decide +kernel) (fun pc => js_Z F _ pc) (jx_noth (by decide +kernel))
theorem jo_Z_findStretch (F : jx_SF S dA aL aM adK) : jx_mok S dA (jx_R1 sc aL aM adK) jx_df jx_P jp_Z_findStretch := jx_mk (sites := jl_Z) (by decide +kernel) (⟨fun q hq => (by cases hq), fun q hq => (by cases hq)⟩) (by decide +kernel) (by decide +kernel) (fun pc => js_Z F _ pc) (jx_noth (by decide +kernel))
theorem jo_W_feed (F : jx_SF S dA aL aM adK) : jx_mok S dA (jx_R1 sc aL aM adK) jx_df jx_P jp_W_feed := jx_mk (sites := jl_W) (by decide +kernel) (⟨fun q hq => by
    simp only [jp_W_feed, List.mem_cons, List.not_mem_nil, or_false] at hq
    rcases hq with rfl
    · exact ⟨by decide, by decide, _, _, rfl, jm_g2 82 rfl rfl⟩, by decide +kernel⟩) (by decide +kernel) (by decide +kernel) (fun pc => js_W F _ pc) (jx_noth (by decide +kernel))
theorem jo_W_end (F : jx_SF S dA aL aM adK) : jx_mok S dA (jx_R1 sc aL aM adK) jx_df jx_P jp_W_end := jx_mk (sites := jl_W) (by decide +kernel) (⟨fun q hq => by
    simp only [jp_W_end, List.mem_cons, List.not_mem_nil, or_false] at hq
    rcases hq with rfl
    · exact ⟨by decide, by decide, _, _, rfl, jm_g2 159 rfl rfl⟩, by decide +kernel⟩) (by decide +kernel) (by decide +kernel) (fun pc => js_W F _ pc) (jx_noth (by decide +kernel))
theorem jo_W_zone (F : jx_SF S dA aL aM adK) : jx_mok S dA (jx_R1 sc aL aM adK) jx_df jx_P jp_W_zone := jx_mk (sites := jl_W) (by decide +kernel) (⟨fun q hq => by
    simp only [jp_W_zone, List.mem_cons, List.not_mem_nil, or_false] at hq
    rcases hq with rfl | rfl
    · exact ⟨by decide, by decide, _, _, rfl, jm_g2 159 rfl rfl⟩
    · exact ⟨by decide, by decide, _, _, rfl, jm_g2 185 rfl rfl⟩, by decide +kernel⟩) (by decide +kernel) (by decide +kernel) (fun pc => js_W F _ pc) (jx_noth (by decide +kernel))
theorem jo_W_cron (F : jx_SF S dA aL aM adK) : jx_mok S dA (jx_R1 sc aL aM adK) jx_df jx_P jp_W_cron := jx_mk (sites := jl_W) (by decide +kernel) (⟨fun q hq => by
    simp only [jp_W_cron, List.mem_cons, List.not_mem_nil, or_false] at hq
    rcases hq with rfl | rfl
    · exact ⟨by decide, by decide, _, _, rfl, jm_g2 159 rfl rfl⟩
    · exact ⟨by decide, by decide, _, _, rfl, jm_g2 185 rfl rfl⟩, by decide +kernel⟩) (by decide +kernel) (by decide +kernel) (fun pc => js_W F _ pc) (jx_noth (by decide +kernel))
theorem jo_W_holiday (F : jx_SF S dA aL aM adK) : jx_mok S dA (jx_R1 sc aL aM adK) jx_df jx_P jp_W_holiday := jx_mk (sites := jl_W) (by decide +kernel) (⟨fun q hq => by
    simp only [jp_W_holiday, List.mem_cons, List.not_mem_nil, or_false] at hq
    rcases hq with rfl | rfl
    · exact ⟨by decide, by decide, _, _, rfl, jm_g2 159 rfl rfl⟩
    · exact ⟨by decide, by decide, _, _, rfl, jm_g2 82 rfl rfl⟩, by decide +kernel⟩) (by decide +kernel) (by decide +kernel) (fun pc => js_W F _ pc) (jx_noth (by decide +kernel))
theorem jo_W_next (F : jx_SF S dA aL aM adK) : jx_mok S dA (jx_R1 sc aL aM adK) jx_df jx_P jp_W_next := jx_mk (sites := jl_W) (by decide +kernel) (⟨fun q hq => by
    simp only [jp_W_next, List.mem_cons, List.not_mem_nil, or_false] at hq
    rcases hq with rfl
    · exact ⟨by decide, by decide, _, _, rfl, jm_g2 159 rfl rfl⟩, by decide +kernel⟩) (by decide +kernel) (by decide +kernel) (fun pc => js_W F _ pc) (jx_noth (by decide +kernel))
theorem jo_W_last (F : jx_SF S dA aL aM adK) : jx_mok S dA (jx_R1 sc aL aM adK) jx_df jx_P jp_W_last := jx_mk (sites := jl_W) (by decide +kernel) (⟨fun q hq => by
    simp only [jp_W_last, List.mem_cons, List.not_mem_nil, or_false] at hq
    rcases hq with rfl
    · exact ⟨by decide, by decide, _, _, rfl, jm_g2 159 rfl rfl⟩, by decide +kernel⟩) (by decide +kernel) (by decide +kernel) (fun pc => js_W F _ pc) (jx_noth (by decide +kernel))
theorem jo_W_local (F : jx_SF S dA aL aM adK) : jx_mok S dA (jx_R1 sc aL aM adK) jx_df jx_P jp_W_local := jx_mk (sites := jl_W) (by decide +kernel) (⟨fun q hq => by
    simp only [jp_W_local, List.mem_cons, List.not_mem_nil, or_false] at hq
    rcases hq with rfl
    · exact ⟨by decide, by decide, _, _, rfl, jm_g2 159 rfl rfl⟩, by decide +kernel⟩) (by decide +kernel) (by decide +kernel) (fun pc => js_W F _ pc) (jx_noth (by decide +kernel))
theorem jo_W_make (F : jx_SF S dA aL aM adK) : jx_mok S dA (jx_R1 sc aL aM adK) jx_df jx_P jp_W_make := jx_mk (sites := jl_W) (by decide +kernel) (⟨fun q hq => by
    simp only [jp_W_make, List.mem_cons, List.not_mem_nil, or_false] at hq
    rcases hq with rfl | rfl | rfl
    · exact ⟨by decide, by decide, _, _, rfl, jm_g2 159 rfl rfl⟩
    · exact ⟨by decide, by decide, _, _, rfl, jm_g4 128 rfl rfl⟩
    · exact ⟨by decide, by decide, _, _, rfl, jm_g2 82 rfl rfl⟩, by decide +kernel⟩) (by decide +kernel) (by decide +kernel) (fun pc => js_W F _ pc) (jx_noth (by decide +kernel))
theorem jo_W_makeCron (F : jx_SF S dA aL aM adK) : jx_mok S dA (jx_R1 sc aL aM adK) jx_df jx_P jp_W_makeCron := jx_mk (sites := jl_W) (by decide +kernel) (⟨fun q hq => by
    simp only [jp_W_makeCron, List.mem_cons, List.not_mem_nil, or_false] at hq
    rcases hq with rfl | rfl | rfl | rfl
    · exact ⟨by decide, by decide, _, _, rfl, jm_g2 159 rfl rfl⟩
    · exact ⟨by decide, by decide, _, _, rfl, jm_g4 128 rfl rfl⟩
    · exact ⟨by decide, by decide, _, _, rfl, jm_g2 185 rfl rfl⟩
    · exact ⟨by decide, by decide, _, _, rfl, jm_g2 82 rfl rfl⟩, by decide +kernel⟩) (by decide +kernel) (by decide +kernel) (fun pc => js_W F _ pc) (jx_noth (by decide +kernel))
theorem jo_W_cancel (F : jx_SF S dA aL aM adK) : jx_mok S dA (jx_R1 sc aL aM adK) jx_df jx_P jp_W_cancel := jx_mk (sites := jl_W) (by decide +kernel) (⟨fun q hq => by
    simp only [jp_W_cancel, List.mem_cons, List.not_mem_nil, or_false] at hq
    rcases hq with rfl
    · exact ⟨by decide, by decide, _, _, rfl, jm_g4 178 rfl rfl⟩, by decide +kernel⟩) (by decide +kernel) (by decide +kernel) (fun pc => js_W F _ pc) (jx_noth (by decide +kernel))
theorem jo_W_workers (F : jx_SF S dA aL aM adK) : jx_mok S dA (jx_R1 sc aL aM adK) jx_df jx_P jp_W_workers := jx_mk (sites := jl_W) (by decide +kernel) (⟨fun q hq => by
    simp only [jp_W_workers, List.mem_cons, List.not_mem_nil, or_false] at hq
    rcases hq with rfl
    · exact ⟨by decide, by decide, _, _, rfl, jm_g2 159 rfl rfl⟩, by decide +kernel⟩) (by decide +kernel) (by decide +kernel) (fun pc => js_W F _ pc) (jx_noth (by decide +kernel))
theorem jo_W_advance (F : jx_SF S dA aL aM adK) : jx_mok S dA (jx_R1 sc aL aM adK) jx_df jx_P jp_W_advance := jx_mk (sites := jl_W) (by decide +kernel) (⟨fun q hq => by
    simp only [jp_W_advance, List.mem_cons, List.not_mem_nil, or_false] at hq
    rcases hq with rfl
    · exact ⟨by decide, by decide, _, _, rfl, jm_g2 159 rfl rfl⟩, by decide +kernel⟩) (by decide +kernel) (by decide +kernel) (fun pc => js_W F _ pc) (jx_noth (by decide +kernel))
theorem jo_W_stall (F : jx_SF S dA aL aM adK) : jx_mok S dA (jx_R1 sc aL aM adK) jx_df jx_P jp_W_stall := jx_mk (sites := jl_W) (by decide +kernel) (⟨fun q hq => by
    simp only [jp_W_stall, List.mem_cons, List.not_mem_nil, or_false] at hq
    rcases hq with rfl
    · exact ⟨by decide, by decide, _, _, rfl, jm_g2 159 rfl rfl⟩, by decide +kernel⟩) (by decide +kernel) (by decide +kernel) (fun pc => js_W F _ pc) (jx_noth (by decide +kernel))
theorem jo_W_close (F : jx_SF S dA aL aM adK) : jx_mok S dA (jx_R1 sc aL aM adK) jx_df jx_P jp_W_close := jx_mk (sites := jl_W) (by decide +kernel) (⟨fun q hq => by
    simp only [jp_W_close, List.mem_cons, List.not_mem_nil, or_false] at hq
    rcases hq with rfl
    · exact ⟨by decide, by decide, _, _, rfl, jm_g4 128 rfl rfl⟩, by decide +kernel⟩) (by decide +kernel) (by decide +kernel) (fun pc => js_W F _ pc) (jx_noth (by decide +kernel))
theorem jo_W_job (F : jx_SF S dA aL aM adK) : jx_mok S dA (jx_R1 sc aL aM adK) jx_df jx_P jp_W_job := jx_mk (sites := jl_W) (by decide +kernel) (⟨fun q hq => by
    simp only [jp_W_job, List.mem_cons, List.not_mem_nil, or_false] at hq
    rcases hq with rfl | rfl
    · exact ⟨by decide, by decide, _, _, rfl, jm_g2 159 rfl rfl⟩
    · exact ⟨by decide, by decide, _, _, rfl, jm_g4 178 rfl rfl⟩, by decide +kernel⟩) (by decide +kernel) (by decide +kernel) (fun pc => js_W F _ pc) (jx_noth (by decide +kernel))
theorem jo_W_start (F : jx_SF S dA aL aM adK) : jx_mok S dA (jx_R1 sc aL aM adK) jx_df jx_P jp_W_start := jx_mk (sites := jl_W) (by decide +kernel) (⟨fun q hq => by
    simp only [jp_W_start, List.mem_cons, List.not_mem_nil, or_false] at hq
    rcases hq with rfl | rfl
    · exact ⟨by decide, by decide, _, _, rfl, jm_g2 159 rfl rfl⟩
    · exact ⟨by decide, by decide, _, _, rfl, jm_g4 178 rfl rfl⟩, by decide +kernel⟩) (by decide +kernel) (by decide +kernel) (fun pc => js_W F _ pc) (jx_noth (by decide +kernel))
theorem jo_W_count (F : jx_SF S dA aL aM adK) : jx_mok S dA (jx_R1 sc aL aM adK) jx_df jx_P jp_W_count := jx_mk (sites := jl_W) (by decide +kernel) (⟨fun q hq => by
    simp only [jp_W_count, List.mem_cons, List.not_mem_nil, or_false] at hq
    rcases hq with rfl
    · exact ⟨by decide, by decide, _, _, rfl, jm_g2 159 rfl rfl⟩, by decide +kernel⟩) (by decide +kernel) (by decide +kernel) (fun pc => js_W F _ pc) (jx_noth (by decide +kernel))
theorem jo_Long_bitCount (F : jx_SF S dA aL aM adK) : jx_mok S dA (jx_R1 sc aL aM adK) jx_df jx_P jp_Long_bitCount := jx_mk (sites := jl_Long) (by decide +kernel) (⟨fun q hq => (by cases hq), fun q hq => (by cases hq)⟩) (by decide +kernel) (by decide +kernel) (fun pc => js_Long F _ pc) (jx_noth (by decide +kernel))
theorem jo_Math_floorDiv (F : jx_SF S dA aL aM adK) : jx_mok S dA (jx_R1 sc aL aM adK) jx_df jx_P jp_Math_floorDiv := jx_mk (sites := []) (by decide +kernel) (⟨fun q hq => (by cases hq), fun q hq => (by cases hq)⟩) (by decide +kernel) (by decide +kernel) (fun pc r hr => (by cases hr)) (jx_noth (by decide +kernel))
theorem jo_Math_floorDiv2 (F : jx_SF S dA aL aM adK) : jx_mok S dA (jx_R1 sc aL aM adK) jx_df jx_P jp_Math_floorDiv2 := jx_mk (sites := []) (by decide +kernel) (⟨fun q hq => (by cases hq), fun q hq => (by cases hq)⟩) (by decide +kernel) (by decide +kernel) (fun pc r hr => (by cases hr)) (jx_noth (by decide +kernel))
theorem jo_Math_floorMod (F : jx_SF S dA aL aM adK) : jx_mok S dA (jx_R1 sc aL aM adK) jx_df jx_P jp_Math_floorMod := jx_mk (sites := []) (by decide +kernel) (⟨fun q hq => (by cases hq), fun q hq => (by cases hq)⟩) (by decide +kernel) (by decide +kernel) (fun pc r hr => (by cases hr)) (jx_noth (by decide +kernel))
theorem jo_Math_floorMod2 (F : jx_SF S dA aL aM adK) : jx_mok S dA (jx_R1 sc aL aM adK) jx_df jx_P jp_Math_floorMod2 := jx_mk (sites := []) (by decide +kernel) (⟨fun q hq => (by cases hq), fun q hq => (by cases hq)⟩) (by decide +kernel) (by decide +kernel) (fun pc r hr => (by cases hr)) (jx_noth (by decide +kernel))
theorem jo_Math_max (F : jx_SF S dA aL aM adK) : jx_mok S dA (jx_R1 sc aL aM adK) jx_df jx_P jp_Math_max := jx_mk (sites := []) (by decide +kernel) (⟨fun q hq => (by cases hq), fun q hq => (by cases hq)⟩) (by decide +kernel) (by decide +kernel) (fun pc r hr => (by cases hr)) (jx_noth (by decide +kernel))
theorem jo_Math_max2 (F : jx_SF S dA aL aM adK) : jx_mok S dA (jx_R1 sc aL aM adK) jx_df jx_P jp_Math_max2 := jx_mk (sites := []) (by decide +kernel) (⟨fun q hq => (by cases hq), fun q hq => (by cases hq)⟩) (by decide +kernel) (by decide +kernel) (fun pc r hr => (by cases hr)) (jx_noth (by decide +kernel))
theorem jo_Math_min (F : jx_SF S dA aL aM adK) : jx_mok S dA (jx_R1 sc aL aM adK) jx_df jx_P jp_Math_min := jx_mk (sites := []) (by decide +kernel) (⟨fun q hq => (by cases hq), fun q hq => (by cases hq)⟩) (by decide +kernel) (by decide +kernel) (fun pc r hr => (by cases hr)) (jx_noth (by decide +kernel))
theorem jo_Math_min2 (F : jx_SF S dA aL aM adK) : jx_mok S dA (jx_R1 sc aL aM adK) jx_df jx_P jp_Math_min2 := jx_mk (sites := []) (by decide +kernel) (⟨fun q hq => (by cases hq), fun q hq => (by cases hq)⟩) (by decide +kernel) (by decide +kernel) (fun pc r hr => (by cases hr)) (jx_noth (by decide +kernel))
end JO
