section JK_7
variable {S V : jS} {a h k : Nat} {p0 : Int32}
/-- the day rule of the class and the ways of the model -/
def cD (S : jS) (a k : Nat) : Prop :=
  ((S.1 a 1).toInt = 0 ∧ S.1 (378 + k) 0 = 0 ∧ S.1 (378 + k) 1 = 1 ∧ ∀ i, 1 ≤ i → i ≤ 31 → (bt (S.2.1 (a + 1) 3) i = true ↔ ¬ S.1 (240 + k * 8 + 1 + 3) (i - 1) = 0)) ∨
  ((S.1 a 1).toInt = 1 ∧ S.1 (378 + k) 0 = 1 ∧ S.1 (378 + k) 1 = 0 ∧ (∀ i, 1 ≤ i → i ≤ 7 → (bt (S.2.1 (a + 1) 5) i = true ↔ ¬ S.1 (240 + k * 8 + 1 + 5) (i - 1) = 0)) ∧ ∀ j, j < 7 → S.1 (240 + k * 8 + 1 + 5) j = 0 ∨ S.1 (240 + k * 8 + 1 + 5) j = 1) ∨
  ((S.1 a 1).toInt = 2 ∧ S.1 (378 + k) 0 = 2 ∧ S.1 (378 + k) 1 = 1 ∧ S.1 a 3 = S.1 (395 + k) 0) ∨
  ((S.1 a 1).toInt = 3 ∧ S.1 (378 + k) 0 = 3 ∧ S.1 (378 + k) 1 = 1) ∨
  ((S.1 a 1).toInt = 4 ∧ S.1 (378 + k) 0 = 4 ∧ S.1 (378 + k) 1 = 1 ∧ S.1 a 2 = S.1 (395 + k) 0) ∨
  ((S.1 a 1).toInt = 5 ∧ S.1 (378 + k) 0 = 1 ∧ S.1 (378 + k) 1 = 5 ∧ S.1 a 2 = S.1 (395 + k) 1) ∨
  ((S.1 a 1).toInt = 6 ∧ S.1 (378 + k) 0 = 1 ∧ S.1 (378 + k) 1 = 6 ∧ S.1 a 2 = S.1 (395 + k) 1 ∧ S.1 a 3 = S.1 (412 + k) 1)
theorem ij02 : j_in 0 2 = true := by decide
theorem ij12 : j_in 1 2 = true := by decide
theorem ij37 : j_in 3 7 = true := by decide
theorem ij47 : j_in 4 7 = true := by decide
theorem ij57 : j_in 5 7 = true := by decide
theorem ij67 : j_in 6 7 = true := by decide
theorem wd_n {D F : Int} {d : Nat} (h : D = F + d - 1) (hF : 0 ≤ F) : ((D + 4) % 7 + 1) = ((wdn ((F + 4) % 7 + 1).toNat d : Nat) : Int) := by
  unfold wdn
  omega
/-- the day of a month that a special day rule names -/
theorem fM_sp {L : Nat} {F y m : Int} (ip : p0.toInt = k) (i2 : k < 16) (y1 : (V.1 215 4).toInt = y) (m1 : (V.1 215 5).toInt = m) (yb : 1970 ≤ y) (yb2 : y ≤ 2299) (mb : 1 ≤ m) (mb2 : m ≤ 12) (hL : dt_n y m = L) (hF : dt_m y m = F) (f1 : 0 ≤ F) (f2 : F ≤ 130000) {v w : Int32} (hv : V.1 (395 + k) 0 = v) (hw : V.1 (378 + k) 0 = w) (wb : w = 2 ∧ 0 ≤ v.toInt ∧ v.toInt ≤ 30 ∨ w = 3 ∨ w = 4 ∧ 1 ≤ v.toInt ∧ v.toInt ≤ 31) : ∃ r, F_M_special2 p0 V = some r ∧ ((w = 2 ∧ (r.toInt = if (L : Int) - v.toInt ≤ 0 then 0 else (L : Int) - v.toInt)) ∨ (w = 3 ∧ r.toInt = nw L L ((F + 4) % 7 + 1).toNat) ∨ (w = 4 ∧ r.toInt = if v.toInt ≤ L then ((nw v.toInt.toNat L ((F + 4) % 7 + 1).toNat : Nat) : Int) else 0)) := by
  have lb := dt_nb (y := y) (m := m)
  unfold F_M_special2
  rw [fM_len (by omega) (by omega) (by omega) (by omega), y1, m1, hL]
  simp only [ob_]
  rw [fM_num (by omega) (by omega) (by omega) (by omega), y1, m1, hF]
  simp only [ob_]
  have q16 : j_in p0 16 = true := j_inb.mpr ⟨by omega, by omega⟩
  simp only [j_qt q16, j_qt ij02, jl_, cl0, clN ip, hv, hw]
  have eL : (Int32.ofInt (L : Int)).toInt = L := tI (by omega) (by omega)
  have eF : (Int32.ofInt F).toInt = F := tI (by omega) (by omega)
  generalize Int32.ofInt (L : Int) = l at *
  generalize Int32.ofInt F = g at *
  clear hv hw y1 m1
  rcases wb with ⟨rfl, v1, v2⟩ | rfl | ⟨rfl, v1, v2⟩
  · rw [if_pos rfl]
    have e : (l - v).toInt = L - v.toInt := by
      simp (disch := omega) only [Int32.toInt_sub, bs32, eL]
    by_cases q : (L : Int) - v.toInt ≤ 0
    · rw [if_pos (show l - v ≤ 0 from Int32.le_iff_toInt_le.mpr (by rw [e]; simp only [Int32.reduceToInt]; omega))]
      exact ⟨_, rfl, Or.inl ⟨rfl, by rw [if_pos q]; rfl⟩⟩
    · rw [if_neg (show ¬ l - v ≤ 0 from fun z => q (by
        have := Int32.le_iff_toInt_le.mp z
        rw [e] at this
        simp only [Int32.reduceToInt] at this
        omega))]
      exact ⟨_, rfl, Or.inl ⟨rfl, by rw [if_neg q, e]⟩⟩
  · rw [if_neg (by decide), if_pos rfl]
    have e : (g + l - 1).toInt = F + L - 1 := by
      simp (disch := omega) only [Int32.toInt_sub, Int32.toInt_add, bs32, eL, eF, Int32.reduceToInt]
    rw [fM_wd (by rw [e]; omega) (by rw [e]; omega), e, wd_n (d := L) rfl f1]
    simp only [ob_]
    have wb : 1 ≤ wdn ((F + 4) % 7 + 1).toNat L ∧ wdn ((F + 4) % 7 + 1).toNat L ≤ 7 := by unfold wdn; omega
    generalize hW : wdn ((F + 4) % 7 + 1).toNat L = W at *
    have eW : (Int32.ofInt (W : Int)).toInt = W := tI (by omega) (by omega)
    generalize Int32.ofInt (W : Int) = ww at *
    have c7 : (ww = 7) ↔ W = 7 := by rw [eqI, eW]; simp only [Int32.reduceToInt]; omega
    have c1 : (ww = 1) ↔ W = 1 := by rw [eqI, eW]; simp only [Int32.reduceToInt]; omega
    by_cases q7 : W = 7
    · rw [if_pos (c7.mpr q7)]
      refine ⟨_, rfl, Or.inr (Or.inl ⟨by trivial, ?_⟩)⟩
      unfold nw
      rw [hW, if_pos q7, if_pos (by omega)]
      simp (disch := omega) only [Int32.toInt_sub, bs32, eL, Int32.reduceToInt]
      omega
    · rw [if_neg (fun z => q7 (c7.mp z))]
      by_cases q1 : W = 1
      · rw [if_pos (c1.mpr q1)]
        refine ⟨_, rfl, Or.inr (Or.inl ⟨by trivial, ?_⟩)⟩
        unfold nw
        rw [hW, if_neg q7, if_pos q1, if_neg (by omega)]
        simp (disch := omega) only [Int32.toInt_sub, bs32, eL, Int32.reduceToInt]
        omega
      · rw [if_neg (fun z => q1 (c1.mp z))]
        refine ⟨_, rfl, Or.inr (Or.inl ⟨by trivial, ?_⟩)⟩
        unfold nw
        rw [hW, if_neg q7, if_neg q1, eL]
  · rw [if_neg (by decide), if_neg (by decide)]
    by_cases q : v.toInt ≤ L
    · rw [if_pos (show v ≤ l from Int32.le_iff_toInt_le.mpr (by rw [eL]; exact q))]
      have e : (g + v - 1).toInt = F + v.toInt - 1 := by
        simp (disch := omega) only [Int32.toInt_sub, Int32.toInt_add, bs32, eF, Int32.reduceToInt]
      rw [fM_wd (by rw [e]; omega) (by rw [e]; omega), e, wd_n (F := F) (d := v.toInt.toNat) (by omega) f1]
      simp only [ob_]
      have wb : 1 ≤ wdn ((F + 4) % 7 + 1).toNat v.toInt.toNat ∧ wdn ((F + 4) % 7 + 1).toNat v.toInt.toNat ≤ 7 := by unfold wdn; omega
      generalize hW : wdn ((F + 4) % 7 + 1).toNat v.toInt.toNat = W at *
      have eW : (Int32.ofInt (W : Int)).toInt = W := tI (by omega) (by omega)
      generalize Int32.ofInt (W : Int) = ww at *
      have c7 : (ww = 7) ↔ W = 7 := by rw [eqI, eW]; simp only [Int32.reduceToInt]; omega
      have c1 : (ww = 1) ↔ W = 1 := by rw [eqI, eW]; simp only [Int32.reduceToInt]; omega
      by_cases q7 : W = 7
      · rw [if_pos (c7.mpr q7)]
        by_cases qv : v.toInt ≤ 1
        · rw [if_pos (show v ≤ 1 from Int32.le_iff_toInt_le.mpr (by simp only [Int32.reduceToInt]; omega))]
          refine ⟨_, rfl, Or.inr (Or.inr ⟨by trivial, ?_⟩)⟩
          rw [if_pos q]
          unfold nw
          rw [hW, if_pos q7, if_neg (by omega)]
          simp (disch := omega) only [Int32.toInt_add, bs32, Int32.reduceToInt]
          omega
        · rw [if_neg (show ¬ v ≤ 1 from fun z => qv (by
            have := Int32.le_iff_toInt_le.mp z
            simp only [Int32.reduceToInt] at this
            omega))]
          refine ⟨_, rfl, Or.inr (Or.inr ⟨by trivial, ?_⟩)⟩
          rw [if_pos q]
          unfold nw
          rw [hW, if_pos q7, if_pos (by omega)]
          simp (disch := omega) only [Int32.toInt_sub, bs32, Int32.reduceToInt]
          omega
      · rw [if_neg (fun z => q7 (c7.mp z))]
        by_cases q1 : W = 1
        · rw [if_pos (c1.mpr q1)]
          by_cases qv : (L : Int) ≤ v.toInt
          · rw [if_pos (show l ≤ v from Int32.le_iff_toInt_le.mpr (by rw [eL]; exact qv))]
            refine ⟨_, rfl, Or.inr (Or.inr ⟨by trivial, ?_⟩)⟩
            rw [if_pos q]
            unfold nw
            rw [hW, if_neg q7, if_pos q1, if_neg (by omega)]
            simp (disch := omega) only [Int32.toInt_sub, bs32, Int32.reduceToInt]
            omega
          · rw [if_neg (show ¬ l ≤ v from fun z => qv (by
              have := Int32.le_iff_toInt_le.mp z
              rw [eL] at this
              exact this))]
            refine ⟨_, rfl, Or.inr (Or.inr ⟨by trivial, ?_⟩)⟩
            rw [if_pos q]
            unfold nw
            rw [hW, if_neg q7, if_pos q1, if_pos (by omega)]
            simp (disch := omega) only [Int32.toInt_add, bs32, Int32.reduceToInt]
            omega
        · rw [if_neg (fun z => q1 (c1.mp z))]
          refine ⟨_, rfl, Or.inr (Or.inr ⟨by trivial, ?_⟩)⟩
          rw [if_pos q]
          unfold nw
          rw [hW, if_neg q7, if_neg q1]
          omega
    · rw [if_neg (show ¬ v ≤ l from fun z => q (by
        have := Int32.le_iff_toInt_le.mp z
        rw [eL] at this
        exact this))]
      exact ⟨_, rfl, Or.inr (Or.inr ⟨rfl, by rw [if_neg q]; rfl⟩)⟩
end JK_7
