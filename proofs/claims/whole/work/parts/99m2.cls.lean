section JU_3
variable {S T U C C' : jS} {A A' : Nat → Nat → Int} {b j i k n x y : Nat} {p0 : Int32} {p1 : Int64}
theorem cS_f (h3 : cS C A) (hi : i < cN A 1 100) (hj : j < 100) (hc : (C.1 46 i).toInt = j) (h2 : 2 ≤ A j 0) (e46 : ∀ i', C'.1 46 i' = if i' = i then C.1 46 (cN A 1 100 - 1) else C.1 46 i') (e10 : C'.1 24 10 = C.1 24 10) (e14 : (C'.1 24 14).toInt = ((cN A 1 100 - 1 : Nat) : Int)) (e11 : (C'.1 24 11).toInt = cN A' 0 100) (ea : ∀ j', j' ≠ j → A' j' 0 = A j' 0) (ej : A' j 0 ≤ 1) : cS C' A' := by
  obtain ⟨⟨s1, s2, s3⟩, s4, s5, s6, s7, s8, s9⟩ := h3
  have c1 : cN A' 1 100 = cN A 1 100 - 1 := by
    have := cN_u (A := A) (A' := A') (k := 1) 100 j hj (fun i hi hn => by rw [ea i hn])
    rw [if_neg (by omega), if_pos ej] at this
    omega
  generalize hN : cN A 1 100 = N at *
  unfold cS
  rw [c1, e10, e14, e11]
  simp only [e46]
  refine ⟨⟨s1, s2, fun j' hj' q => ?_⟩, by trivial, by trivial, by omega, fun i' hi' => ?_, fun j' hj' q => ?_, fun a a' ha ha' q => ?_⟩
  · by_cases e : j' = j
    · subst e
      have := s3 j' hj' q
      omega
    · rw [ea j' e]; exact s3 j' hj' q
  · by_cases e : i' = i
    · rw [if_pos e]
      obtain ⟨j', q1, q2, q3⟩ := s7 (N - 1) (by omega)
      refine ⟨j', q1, q2, ?_⟩
      rw [ea j' (fun w => ?_)]
      · exact q3
      · rw [w] at q2
        have := s9 (N - 1) i (by omega) hi (eqI.mpr (by rw [q2, hc]))
        omega
    · rw [if_neg e]
      obtain ⟨j', q1, q2, q3⟩ := s7 i' (by omega)
      refine ⟨j', q1, q2, ?_⟩
      rw [ea j' (fun w => ?_)]
      · exact q3
      · rw [w] at q2
        have := s9 i' i (by omega) hi (eqI.mpr (by rw [q2, hc]))
        omega
  · have e : j' ≠ j := fun w => by rw [w] at q; omega
    rw [ea j' e] at q
    obtain ⟨i', q1, q2⟩ := s8 j' hj' q
    by_cases w : i' = N - 1
    · refine ⟨i, ?_, by rw [if_pos rfl, ← w]; exact q2⟩
      have : i ≠ i' := fun v => by rw [← v, hc] at q2; omega
      omega
    · refine ⟨i', by omega, ?_⟩
      rw [if_neg (fun v => by rw [v, hc] at q2; omega)]
      exact q2
  · by_cases e : a = i
    · by_cases e' : a' = i
      · omega
      · rw [if_pos e, if_neg e'] at q
        have := s9 (N - 1) a' (by omega) (by omega) q
        omega
    · by_cases e' : a' = i
      · rw [if_neg e, if_pos e'] at q
        have := s9 a (N - 1) (by omega) (by omega) q
        omega
      · rw [if_neg e, if_neg e'] at q
        exact s9 a a' (by omega) (by omega) q
/-- the class frees a job -/
theorem fJ_fre (h : cA C A) (i0 : p0.toInt = i) (hi : i < cN A 1 100) (hc : (C.1 46 i).toInt = j) (hj : j < 100) (h2 : 2 ≤ A j 0) : ∃ C', F_J_free p0 p1 C = some C' ∧ cA C' (aFre A j p1.toInt) ∧ f0 C C' := by
  obtain ⟨h1, hp, h3⟩ := h
  have h3' := h3
  obtain ⟨-, s4, s5, s6, -⟩ := h3'
  obtain ⟨w, hw, ew⟩ : ∃ w, C.1 24 14 - 1 = w ∧ w.toInt = ((cN A 1 100 - 1 : Nat) : Int) := ⟨_, rfl, by rw [suJ s5 (b := 1) rfl (by omega) (by omega)]; omega⟩
  obtain ⟨v, hv, ev⟩ : ∃ v, C.1 24 11 - 1 = v ∧ v.toInt = (cN A 0 100 : Int) - 1 := ⟨_, rfl, by
    have := cN_b (A := A) (k := 0) 100
    rw [suJ s4 (b := 1) rfl (by omega) (by omega)]⟩
  have q46 : (w_i C 24 14 w).1 46 (cN A 1 100 - 1) = C.1 46 (cN A 1 100 - 1) := by rw [w_ir, if_neg (by omega)]
  have q14 : (w_i C 24 14 w).1 24 14 = w := by rw [w_ir, if_pos ⟨rfl, rfl⟩]
  have core : F_J_free p0 p1 C = if p1 < 0 then J_J_free_52 (115 + j) (w_i (w_i C 24 14 w) 46 i (C.1 46 (cN A 1 100 - 1))) else if p1 ≤ 10413791999999 then some (w_i (w_l (w_i (w_i C 24 14 w) 46 i (C.1 46 (cN A 1 100 - 1))) (115 + j) 4 p1) (115 + j) 0 1) else J_J_free_52 (115 + j) (w_i (w_i C 24 14 w) 46 i (C.1 46 (cN A 1 100 - 1))) := by
    unfold F_J_free
    rw [j_qi (by omega) (by omega), clN i0, j_qi (by omega) (by omega), clN hc]
    simp only [jl_, hw]
    rw [q14, j_qi (by omega) (by omega), j_qi (by omega) (by omega), clN ew, q46]
  have r11 : (w_i (w_i (w_i C 24 14 w) 46 i (C.1 46 (cN A 1 100 - 1))) (115 + j) 0 0).1 24 11 = C.1 24 11 := by
    rw [w_ir, if_neg (by omega), w_ir, if_neg (by omega), w_ir, if_neg (by omega)]
  have rem : J_J_free_52 (115 + j) (w_i (w_i C 24 14 w) 46 i (C.1 46 (cN A 1 100 - 1))) = some (w_i (w_i (w_i (w_i C 24 14 w) 46 i (C.1 46 (cN A 1 100 - 1))) (115 + j) 0 0) 24 11 v) := by
    unfold J_J_free_52 F_J_remove
    simp only [jl_, r11, hv, ob_]
  have ae : ∀ j', j' ≠ j → aFre A j p1.toInt j' 0 = A j' 0 := fun j' hn => aFre_n hn 0
  have p4 : ∀ j', j' < 100 → aFre A j p1.toInt j' 1 = A j' 1 ∧ aFre A j p1.toInt j' 6 = A j' 6 := by
    intro j' _
    by_cases e : j' = j
    · subst e
      rcases aFre_j (A := A) (j := j') (r := p1.toInt) with ⟨-, -, -, -, q⟩ | ⟨-, -, q⟩
      · exact ⟨q 1 (by omega) (by omega), q 6 (by omega) (by omega)⟩
      · exact ⟨q 1 (by omega), q 6 (by omega)⟩
    · exact ⟨aFre_n e 1, aFre_n e 6⟩
  have c0 := cN_u (A := A) (A' := aFre A j p1.toInt) (k := 0) 100 j hj (fun i hi hn => by rw [ae i hn])
  rw [if_neg (by omega)] at c0
  by_cases q : 0 ≤ p1.toInt ∧ p1.toInt ≤ 10413791999999
  · refine ⟨_, by rw [core, if_neg (by rw [ltL (k := 0) (n := 0) rfl]; omega), if_pos (by rw [leL (k := 10413791999999) (n := 10413791999999) rfl]; omega)], ⟨?_, ?_, ?_⟩, ?_⟩
    · unfold aFre
      rw [if_pos q]
      exact ca_i (ca_l (ca_o (ca_o h1 (by intro x y; unfold aiP; omega)) (by intro x y; unfold aiP; omega)) (by unfold alP; omega) rfl) (by unfold aiP; omega) rfl
    · refine cP_c hp (fun j' hj' => ?_) p4
      rw [w_i2, w_lr, if_neg (by omega)]; rfl
    · rcases aFre_j (A := A) (j := j) (r := p1.toInt) with ⟨-, -, a0, -⟩ | ⟨a0, -⟩
      · refine cS_f h3 hi hj hc h2 (fun i' => ?_) ?_ ?_ ?_ ae (by omega)
        · rw [w_ir, if_neg (by omega), w_l1, w_ir]
          by_cases e : i' = i
          · rw [if_pos ⟨rfl, e⟩, if_pos e]
          · rw [if_neg (by omega), if_neg e, w_ir, if_neg (by omega)]
        · rw [w_ir, if_neg (by omega), w_l1, w_ir, if_neg (by omega), w_ir, if_neg (by omega)]
        · rw [w_ir, if_neg (by omega), w_l1, w_ir, if_neg (by omega), q14]; exact ew
        · rw [w_ir, if_neg (by omega), w_l1, w_ir, if_neg (by omega), w_ir, if_neg (by omega), s4]
          rw [if_neg (by omega)] at c0
          omega
      · exact absurd q a0
    · exact f0_i (f0_l (f0_i (f0_i f0_r (by unfold jr; omega)) (by unfold jr; omega)) (by unfold jr; omega)) (by unfold jr; omega)
  · have e : F_J_free p0 p1 C = some (w_i (w_i (w_i (w_i C 24 14 w) 46 i (C.1 46 (cN A 1 100 - 1))) (115 + j) 0 0) 24 11 v) := by
      rw [core, rem]
      by_cases g : p1.toInt < 0
      · rw [if_pos (by rw [ltL (k := 0) (n := 0) rfl]; exact g)]
      · rw [if_neg (by rw [ltL (k := 0) (n := 0) rfl]; exact g), if_neg (by rw [leL (k := 10413791999999) (n := 10413791999999) rfl]; omega)]
    refine ⟨_, e, ⟨?_, ?_, ?_⟩, ?_⟩
    · unfold aFre
      rw [if_neg q]
      exact ca_o (ca_i (ca_o (ca_o h1 (by intro x y; unfold aiP; omega)) (by intro x y; unfold aiP; omega)) (by unfold aiP; omega) rfl) (by intro x y; unfold aiP; omega)
    · exact cP_c hp (fun j' hj' => rfl) p4
    · rcases aFre_j (A := A) (j := j) (r := p1.toInt) with ⟨a1, a2, -⟩ | ⟨-, a0, -⟩
      · exact absurd ⟨a1, a2⟩ q
      · refine cS_f h3 hi hj hc h2 (fun i' => ?_) ?_ ?_ ?_ ae (by omega)
        · rw [w_ir, if_neg (by omega), w_ir, if_neg (by omega), w_ir]
          by_cases e : i' = i
          · rw [if_pos ⟨rfl, e⟩, if_pos e]
          · rw [if_neg (by omega), if_neg e, w_ir, if_neg (by omega)]
        · rw [w_ir, if_neg (by omega), w_ir, if_neg (by omega), w_ir, if_neg (by omega), w_ir, if_neg (by omega)]
        · rw [w_ir, if_neg (by omega), w_ir, if_neg (by omega), w_ir, if_neg (by omega), q14]; exact ew
        · rw [w_ir, if_pos ⟨rfl, rfl⟩, ev]
          rw [if_pos (by omega)] at c0
          omega
    · exact f0_i (f0_i (f0_i (f0_i f0_r (by unfold jr; omega)) (by unfold jr; omega)) (by unfold jr; omega)) (by unfold jr; omega)
end JU_3
