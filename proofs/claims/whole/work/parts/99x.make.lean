section JV_8
variable {S T U C C' M Y D : jS} {A A' : Nat → Nat → Int} {b j i k n x y c f g : Nat} {p0 p1 p2 p4 p5 p6 x5 : Int32} {p3 x3 : Int64} {RB : jS → Prop}
theorem cS_n (h3 : cS C A) (hp : ∀ i, i < 100 → 0 ≤ A i 0) (hf : fs A j) (e46 : ∀ i, C'.1 46 i = C.1 46 i) (e14 : C'.1 24 14 = C.1 24 14) (e11 : (C'.1 24 11).toInt = (C.1 24 11).toInt + 1) (e10 : (C'.1 24 10).toInt = if (C.1 24 10).toInt < (C.1 24 11).toInt + 1 then (C.1 24 11).toInt + 1 else (C.1 24 10).toInt) (ea : ∀ j', j' < 100 → j' ≠ j → A' j' 0 = A j' 0) (ej : A' j 0 = 1) : cS C' A' := by
  obtain ⟨f1, f2, f3⟩ := hf
  obtain ⟨⟨s1, s2, s3⟩, s4, s5, s6, s7, s8, s9⟩ := h3
  have c0 : cN A' 0 100 = cN A 0 100 + 1 := by
    have := cN_u (A := A) (A' := A') (k := 0) 100 j f1 (fun i hi hn => by rw [ea i hi hn])
    rw [if_pos (by omega), if_neg (by omega)] at this
    omega
  have c1 : cN A' 1 100 = cN A 1 100 := by
    have := cN_u (A := A) (A' := A') (k := 1) 100 j f1 (fun i hi hn => by rw [ea i hi hn])
    rw [if_pos (by omega), if_pos (by omega)] at this
    omega
  have cj : j ≤ cN A 0 100 := by
    have a := cN_m (A := A) (k := 0) j 100 (by omega)
    have d : cN A 0 j = j := cN_f j (fun i hi => by
      have := f3 i hi
      have := hp i (by omega)
      omega)
    omega
  have cb := cN_b (A := A') (k := 0) 100
  generalize hN : cN A 1 100 = N at *
  generalize hK : cN A 0 100 = K at *
  obtain ⟨u, hu⟩ : ∃ u : Int, (C.1 24 10).toInt = u := ⟨_, rfl⟩
  obtain ⟨u', hu'⟩ : ∃ u : Int, (C'.1 24 10).toInt = u := ⟨_, rfl⟩
  rw [s4, hu, hu'] at e10
  rw [s4] at e11
  rw [hu] at s1 s2 s3
  have b1 : u' = (K : Int) + 1 ∧ u < (K : Int) + 1 ∨ u' = u ∧ (K : Int) + 1 ≤ u := by
    by_cases q : u < (K : Int) + 1
    · rw [if_pos q] at e10; exact Or.inl ⟨e10, q⟩
    · rw [if_neg q] at e10; exact Or.inr ⟨e10, by omega⟩
  unfold cS
  rw [c0, c1, hu', e11]
  simp only [e46, e14]
  refine ⟨⟨by omega, by omega, fun j' hj' q => ?_⟩, by omega, s5, s6, fun i hi => ?_, fun j' hj' q => ?_, s9⟩
  · rw [ea j' hj' (by omega)]
    exact s3 j' hj' (by omega)
  · obtain ⟨j', j1, j2, j3⟩ := s7 i hi
    refine ⟨j', j1, j2, ?_⟩
    rw [ea j' j1 (fun w => by rw [w] at j3; omega)]
    exact j3
  · have e : j' ≠ j := fun w => by rw [w] at q; omega
    rw [ea j' hj' e] at q
    exact s8 j' hj' q
/-- the class fills a slot -/
theorem fJ_fill {B : Int} (h : cA C A) (hI : iA B A) (hB : B < 2000000000) (hf : fs A j) {q6 : Int64} {q8 q9 q10 : Int32} : ∃ C1, F_J_fill (115 + j) q6 q8 q9 q10 C = some C1 ∧ bB aiP alP C1 (up (up (up (up (up (up (up (up A j 0 1) j 7 q6.toInt) j 8 q8.toInt) j 9 q9.toInt) j 10 q10.toInt) j 3 0) j 2 (A 100 4)) 100 4 (A 100 4 + 1)) ∧ f0 C C1 ∧ (∀ i, C1.1 46 i = C.1 46 i) ∧ C1.1 24 14 = C.1 24 14 ∧ (C1.1 24 11).toInt = (C.1 24 11).toInt + 1 ∧ ((C1.1 24 10).toInt = if (C.1 24 10).toInt < (C.1 24 11).toInt + 1 then (C.1 24 11).toInt + 1 else (C.1 24 10).toInt) ∧ C1.2.1 = (w_l C (115 + j) 7 q6).2.1 := by
  have hj := hf.1
  have I7 := hI.2.2.2.2.2.2
  have s4 := h.2.2.2.1
  have cb := cN_b (A := A) (k := 0) 100
  obtain ⟨v11, hv11, e11⟩ : ∃ v, C.1 24 11 + 1 = v ∧ v.toInt = (C.1 24 11).toInt + 1 := ⟨_, rfl, adJ rfl rfl (by omega) (by omega)⟩
  obtain ⟨v10, hv10, e10⟩ : ∃ v, F_Math_max (C.1 24 10) v11 C = some v ∧ v.toInt = if (C.1 24 10).toInt < (C.1 24 11).toInt + 1 then (C.1 24 11).toInt + 1 else (C.1 24 10).toInt := by
    unfold F_Math_max
    by_cases q : (C.1 24 10).toInt < (C.1 24 11).toInt + 1
    · exact ⟨v11, by rw [if_pos (Int32.lt_iff_toInt_lt.mpr (by rw [e11]; exact q))], by rw [if_pos q, e11]⟩
    · exact ⟨C.1 24 10, by rw [if_neg (fun w => q (by have := Int32.lt_iff_toInt_lt.mp w; rw [e11] at this; exact this))], by rw [if_neg q]⟩
  have r12 : ∀ a b c d, (w_i (w_i (w_i (w_i (w_l (w_i C (115 + j) 0 1) (115 + j) 7 a) (115 + j) 8 b) (115 + j) 9 c) (115 + j) 10 d) (115 + j) 3 0).1 24 12 = C.1 24 12 := fun a b c d => by
    rw [w_ir, if_neg (by omega), w_ir, if_neg (by omega), w_ir, if_neg (by omega), w_ir, if_neg (by omega), w_l1, w_ir, if_neg (by omega)]
  have rr : ∀ a b c d e i, (w_i (w_i (w_i (w_i (w_i (w_l (w_i C (115 + j) 0 1) (115 + j) 7 a) (115 + j) 8 b) (115 + j) 9 c) (115 + j) 10 d) (115 + j) 3 0) (115 + j) 2 e).1 24 i = C.1 24 i := fun a b c d e i => by
    rw [w_ir, if_neg (by omega), w_ir, if_neg (by omega), w_ir, if_neg (by omega), w_ir, if_neg (by omega), w_ir, if_neg (by omega), w_l1, w_ir, if_neg (by omega)]
  have r46 : ∀ a b c d e i, (w_i (w_i (w_i (w_i (w_i (w_l (w_i C (115 + j) 0 1) (115 + j) 7 a) (115 + j) 8 b) (115 + j) 9 c) (115 + j) 10 d) (115 + j) 3 0) (115 + j) 2 e).1 46 i = C.1 46 i := fun a b c d e i => by
    rw [w_ir, if_neg (by omega), w_ir, if_neg (by omega), w_ir, if_neg (by omega), w_ir, if_neg (by omega), w_ir, if_neg (by omega), w_l1, w_ir, if_neg (by omega)]
  refine ⟨w_i (w_i (w_i (w_i (w_i (w_i (w_i (w_i (w_l (w_i C (115 + j) 0 1) (115 + j) 7 q6) (115 + j) 8 q8) (115 + j) 9 q9) (115 + j) 10 q10) (115 + j) 3 0) (115 + j) 2 (C.1 24 12)) 24 12 (C.1 24 12 + 1)) 24 11 v11) 24 10 v10, ?_, ?_, ?_, ?_, ?_, ?_, ?_, ?_⟩
  · unfold F_J_fill
    simp only [jl_]
    rw [r12, rr]
    have a11 : ∀ a b c d e f, (w_i (w_i (w_i (w_i (w_i (w_i (w_l (w_i C (115 + j) 0 1) (115 + j) 7 a) (115 + j) 8 b) (115 + j) 9 c) (115 + j) 10 d) (115 + j) 3 0) (115 + j) 2 e) 24 12 f).1 24 11 = C.1 24 11 := fun a b c d e f => by rw [w_ir, if_neg (by omega), rr]
    rw [a11, hv11]
    have b10 : ∀ a b c d e f, (w_i (w_i (w_i (w_i (w_i (w_i (w_i (w_l (w_i C (115 + j) 0 1) (115 + j) 7 a) (115 + j) 8 b) (115 + j) 9 c) (115 + j) 10 d) (115 + j) 3 0) (115 + j) 2 e) 24 12 f) 24 11 v11).1 24 10 = C.1 24 10 := fun a b c d e f => by rw [w_ir, if_neg (by omega), w_ir, if_neg (by omega), rr]
    have b11 : ∀ a b c d e f, (w_i (w_i (w_i (w_i (w_i (w_i (w_i (w_l (w_i C (115 + j) 0 1) (115 + j) 7 a) (115 + j) 8 b) (115 + j) 9 c) (115 + j) 10 d) (115 + j) 3 0) (115 + j) 2 e) 24 12 f) 24 11 v11).1 24 11 = v11 := fun a b c d e f => by rw [w_ir, if_pos ⟨rfl, rfl⟩]
    rw [b10, b11]
    unfold F_Math_max at hv10 ⊢
    rw [hv10, ob_]
  · exact ca_o (ca_o (ca_i (ca_i (ca_i (ca_i (ca_i (ca_i (ca_l (ca_i h.1 (pc0 hj) rfl) (pc7 hj) rfl) (pc8 hj) rfl) (pc9 hj) rfl) (pc10 hj) rfl) (pc3 hj) rfl) (pc2 hj) (cg4 h.1)) pc12_ (adJ (cg4 h.1) rfl (by omega) (by omega))) pc11_) pc10_
  · refine f0_i (f0_i (f0_i (f0_i (f0_i (f0_i (f0_i (f0_i (f0_l (f0_i f0_r ?_) ?_) ?_) ?_) ?_) ?_) ?_) ?_) ?_) ?_ <;> (unfold jr; omega)
  · intro i
    rw [w_ir, if_neg (by omega), w_ir, if_neg (by omega), w_ir, if_neg (by omega), r46]
  · rw [w_ir, if_neg (by omega), w_ir, if_neg (by omega), w_ir, if_neg (by omega), rr]
  · rw [w_ir, if_neg (by omega), w_ir, if_pos ⟨rfl, rfl⟩, e11]
  · rw [w_ir, if_pos ⟨rfl, rfl⟩, e10]
  · rfl
theorem mk_d {ord nom dur pri pol fai c1 c2 c3 : Int} (hj : j < 100) (ho : ord = A 100 4) (x y : Nat) : aMk A j (mkF 3 ord nom 0 dur pri pol fai c1 c2 c3) x y = up (up (up (up (up (up (up (up (up (up (up (up (up (up A j 0 1) j 7 dur) j 8 pri) j 9 pol) j 10 fai) j 3 0) j 2 ord) 100 4 (ord + 1)) j 1 3) j 11 c1) j 12 c2) j 13 c3) j 4 nom) j 6 0 x y := by
  unfold aMk mkF
  simp only [up_r]
  by_cases e : x = j
  · subst e
    have n : ¬ x = 100 := by omega
    rcases (by omega : y = 0 ∨ y = 1 ∨ y = 2 ∨ y = 3 ∨ y = 4 ∨ y = 5 ∨ y = 6 ∨ y = 7 ∨ y = 8 ∨ y = 9 ∨ y = 10 ∨ y = 11 ∨ y = 12 ∨ y = 13 ∨ 14 ≤ y) with rfl | rfl | rfl | rfl | rfl | rfl | rfl | rfl | rfl | rfl | rfl | rfl | rfl | rfl | hy
    all_goals first
      | (simp [n]; done)
      | (repeat rw [if_neg (by omega)])
  · simp [e, ho]
/-- the invariants of a new job -/
theorem iA_mk {B : Int} {F : Nat → Int} (h : iA B A) (hf : fs A j) (f0 : F 0 = 1) (f1 : 0 ≤ F 1 ∧ F 1 ≤ 3) (f2 : F 2 = A 100 4) (f3 : F 3 = 0) (f4 : 0 ≤ F 4 ∧ F 4 ≤ 10413791999999) (f6 : F 1 = 1 ∨ F 1 = 2 → 1 ≤ F 6 ∧ F 6 ≤ 1099511627776) (f7 : 0 ≤ F 7 ∧ F 7 ≤ 1099511627776) (f9 : 0 ≤ F 9 ∧ F 9 ≤ 2) (f10 : 0 ≤ F 10) (f11 : F 1 = 3 → 0 ≤ F 11 ∧ F 11 ≤ 15 ∧ 0 ≤ F 12 ∧ F 12 ≤ 7 ∧ -1 ≤ F 13 ∧ F 13 ≤ 3) : iA (B + 1) (aMk A j F) := by
  obtain ⟨I1, I2, I3, I4, I5, I6, I7⟩ := h
  obtain ⟨hj, z0, -⟩ := hf
  have g : ∀ k, k ≠ 4 → aMk A j F 100 k = A 100 k := fun k hk => aMk_g hj hk
  have g4 : aMk A j F 100 4 = A 100 4 + 1 := aMk_4 hj
  have old : ∀ i, i < 100 → A i 0 ≠ 0 → A i 2 < A 100 4 := fun i hi q => ((I1 i hi).2.2 q).2.2.2.2.2.2.2.2.1.2
  refine ⟨fun i hi => ?_, fun i i' hi hi' => ?_, ?_, ?_, ?_, ?_, ?_⟩
  · by_cases e : i = j
    · subst e
      unfold jI
      rw [g4, g 0 (by omega)]
      simp only [aMk_j (k := 0) (by omega) (by omega), aMk_j (k := 1) (by omega) (by omega), aMk_j (k := 2) (by omega) (by omega), aMk_j (k := 3) (by omega) (by omega), aMk_j (k := 4) (by omega) (by omega), aMk_j (k := 6) (by omega) (by omega), aMk_j (k := 7) (by omega) (by omega), aMk_j (k := 9) (by omega) (by omega), aMk_j (k := 10) (by omega) (by omega), aMk_j (k := 11) (by omega) (by omega), aMk_j (k := 12) (by omega) (by omega), aMk_j (k := 13) (by omega) (by omega)]
      exact ⟨by omega, by omega, fun _ => ⟨f1, f11, f6, f4, f7, f9, f10, by omega, by omega, fun w => by omega⟩⟩
    · have := jI_m (I1 i hi) (show B ≤ B + 1 by omega)
      unfold jI at this ⊢
      simp only [aMk_n e hi, g 0 (by omega), g4]
      obtain ⟨a1, a2, a3⟩ := this
      refine ⟨a1, a2, fun q => ?_⟩
      obtain ⟨b1, b2, b3, b4, b5, b6, b7, b8, b9, b10⟩ := a3 q
      exact ⟨b1, b2, b3, b4, b5, b6, b7, b8, ⟨b9.1, by omega⟩, b10⟩
  · intro q1 q2 q3
    by_cases e : i = j
    · by_cases e' : i' = j
      · omega
      · exfalso
        rw [e, aMk_j (by omega) (by omega), aMk_n e' hi', f2] at q3
        rw [aMk_n e' hi'] at q2
        have := old i' hi' q2
        omega
    · by_cases e' : i' = j
      · exfalso
        rw [e', aMk_j (by omega) (by omega), aMk_n e hi, f2] at q3
        rw [aMk_n e hi] at q1
        have := old i hi q1
        omega
      · rw [aMk_n e hi, aMk_n e' hi'] at q3
        rw [aMk_n e hi] at q1
        rw [aMk_n e' hi'] at q2
        exact I2 i i' hi hi' q1 q2 q3
  · rw [g 0 (by omega)]; exact I3
  · rw [g 1 (by omega)]; exact I4
  · rw [g 2 (by omega)]; exact I5
  · rw [g 3 (by omega)]; omega
  · rw [g4]; omega
theorem fcr0 (h1 : 0 ≤ p3.toInt) (h2 : p3.toInt ≤ 1099511627776) (h3 : 0 ≤ p5.toInt) (h4 : p5.toInt ≤ 2) (h5 : 0 ≤ p6.toInt) : F_J_checkRun p3 p5 p6 S = some (none, S) := by
  unfold F_J_checkRun
  have := Int32.toInt_lt p6
  rw [fck0 (by simp only [Int64.reduceToInt]; omega) (by simp only [Int64.reduceToInt]; omega), jxv_0, fck0 (by simp only [Int32.toInt_toInt64, Int64.reduceToInt]; omega) (by simp only [Int32.toInt_toInt64, Int64.reduceToInt]; omega), jxv_0, fck0 (by simp only [Int32.toInt_toInt64, Int64.reduceToInt]; omega) (by simp only [Int32.toInt_toInt64, Int64.reduceToInt]; omega), jxv_0]
theorem fcr1 (hn : ¬ (0 ≤ p3.toInt ∧ p3.toInt ≤ 1099511627776 ∧ 0 ≤ p5.toInt ∧ p5.toInt ≤ 2 ∧ 0 ≤ p6.toInt)) : F_J_checkRun p3 p5 p6 S = some (some 11, S) := by
  unfold F_J_checkRun
  by_cases a : 0 ≤ p3.toInt ∧ p3.toInt ≤ 1099511627776
  · rw [fck0 (by simp only [Int64.reduceToInt]; omega) (by simp only [Int64.reduceToInt]; omega), jxv_0]
    by_cases b : 0 ≤ p5.toInt ∧ p5.toInt ≤ 2
    · rw [fck0 (by simp only [Int32.toInt_toInt64, Int64.reduceToInt]; omega) (by simp only [Int32.toInt_toInt64, Int64.reduceToInt]; omega), jxv_0, fck1 (by simp only [Int32.toInt_toInt64, Int64.reduceToInt]; omega), jxv_1]
    · rw [fck1 (by simp only [Int32.toInt_toInt64, Int64.reduceToInt]; omega), jxv_1]
  · rw [fck1 (by simp only [Int64.reduceToInt]; omega), jxv_1]
end JV_8
