section JH_3
variable {a h : Nat} {S : jS}
theorem lF_du {f0 : Int32} {B : Int64} {y m : Int} (hk : hsk S h) (ha : S.2.2 32 2 = h) (hj : jh_ h = true) (hf : f0.toInt = dt_m y m) (b1 : 0 ≤ dt_m y m) (b2 : dt_m y m ≤ 120530) (hB : ∀ i : Nat, bt B i = true ↔ (1 ≤ i ∧ (i : Int) ≤ dt_n y m ∧ dkS S a (dt_n y m).toNat ((dt_m y m + 4) % 7 + 1).toNat i)) : ∀ (f : Nat) (x7 x8 : Int32) (k : Int) (c : Nat), x7.toInt = k → x8.toInt = c → k + c ≤ 31 → -1 ≤ k → c ≤ 31 → 31 - c < f → ∃ r, L_F_dateUpTo_32 S f f0 B x7 x8 = some r ∧ ((∃ d : Nat, r.toInt = dt_m y m + d - 1 ∧ d ≤ k ∧ fD S a h y m d ∧ ∀ i : Nat, d < i → i ≤ k → ¬ fD S a h y m i) ∨ (r.toInt = -1 ∧ ∀ i : Nat, i ≤ k → ¬ fD S a h y m i)) := by
  intro f
  induction f with
  | zero => intro x7 x8 k c _ _ _ _ _ q; omega
  | succ f ih =>
    intro x7 x8 k c e1 e2 e3 e4 e5 e6
    have hn := dt_nb (y := y) (m := m)
    rw [L_F_dateUpTo_32]
    by_cases c1 : c = 31
    · rw [if_pos (show (31 : Int32) ≤ x8 from Int32.le_iff_toInt_le.mpr (by simp only [Int32.reduceToInt]; omega))]
      exact ⟨_, rfl, Or.inr ⟨rfl, fun i i1 i2 => by have := i2.1; omega⟩⟩
    · rw [if_neg (fun q : (31 : Int32) ≤ x8 => by have := Int32.le_iff_toInt_le.mp q; simp only [Int32.reduceToInt] at this; omega)]
      obtain ⟨z, ez, lz⟩ := hwp (S := S) (s := B) e1 (by omega)
      rw [ez]
      simp only [ob_]
      rcases lz with ⟨j, j1, j2, j3, j4, j5⟩ | ⟨j1, j2⟩
      · rw [if_pos (show (0 : Int32) ≤ z from Int32.le_iff_toInt_le.mpr (by simp only [Int32.reduceToInt]; omega)), ha, j_qt hj]
        have hj4 := (hB j).mp j4
        have ed : ((f0 + z) - 1).toInt = dt_m y m + j - 1 := by
          have q : (f0 + z).toInt = dt_m y m + j := by
            rw [Int32.toInt_add, hf, j1]
            exact bs32 (by omega) (by omega)
          rw [Int32.toInt_sub, q]
          exact bs32 (by simp only [Int32.reduceToInt]; omega) (by simp only [Int32.reduceToInt]; omega)
        obtain ⟨w, ew, hw_⟩ := fH_pl (d := (f0 + z) - 1) hk
        rw [ew]
        simp only [ob_]
        have hh := hpl_h hw_
        rw [ed] at hh
        by_cases c2 : 0 ≤ w.toInt
        · rw [if_pos (show (0 : Int32) ≤ w from Int32.le_iff_toInt_le.mpr (by simp only [Int32.reduceToInt]; omega)), jl_]
          have e7 : (z - 1).toInt = (j : Int) - 1 := by
            rw [Int32.toInt_sub, j1, bs32 (by simp only [Int32.reduceToInt]; omega) (by simp only [Int32.reduceToInt]; omega)]
            simp only [Int32.reduceToInt]
          have e8 : (x8 + 1).toInt = (c + 1 : Nat) := by
            rw [Int32.toInt_add, e2, bs32 (by simp only [Int32.reduceToInt]; omega) (by simp only [Int32.reduceToInt]; omega)]
            simp only [Int32.reduceToInt]; omega
          obtain ⟨r, g1, g2⟩ := ih (z - 1) (x8 + 1) (j - 1) (c + 1) e7 e8 (by omega) (by omega) (by omega) (by omega)
          refine ⟨r, g1, ?_⟩
          have skip : ∀ i : Nat, j ≤ i → i ≤ k → ¬ fD S a h y m i := fun i i1 i2 i3 => by
            by_cases e : i = j
            · subst e
              exact i3.2.2.2 (hh.mpr c2)
            · have := (hB i).mpr ⟨i3.1, i3.2.1, i3.2.2.1⟩
              rw [j5 i (by omega) i2] at this
              cases this
          rcases g2 with ⟨d, d1, d2, d3, d4⟩ | ⟨d1, d2⟩
          · refine Or.inl ⟨d, d1, by omega, d3, fun i i1 i2 => ?_⟩
            by_cases e : j ≤ i
            · exact skip i e i2
            · exact d4 i i1 (by omega)
          · refine Or.inr ⟨d1, fun i i1 => ?_⟩
            by_cases e : j ≤ i
            · exact skip i e i1
            · exact d2 i (by omega)
        · rw [if_neg (fun q : (0 : Int32) ≤ w => c2 (by have := Int32.le_iff_toInt_le.mp q; simp only [Int32.reduceToInt] at this; omega))]
          refine ⟨_, rfl, Or.inl ⟨j, ed, j2, ⟨hj4.1, hj4.2.1, hj4.2.2, fun q => c2 (hh.mp q)⟩, fun i i1 i2 i3 => ?_⟩⟩
          have := (hB i).mpr ⟨i3.1, i3.2.1, i3.2.2.1⟩
          rw [j5 i i1 i2] at this
          cases this
      · rw [if_neg (fun q : (0 : Int32) ≤ z => by have := Int32.le_iff_toInt_le.mp q; simp only [Int32.reduceToInt] at this; omega)]
        refine ⟨_, rfl, Or.inr ⟨rfl, fun i i1 i3 => ?_⟩⟩
        have := (hB i).mpr ⟨i3.1, i3.2.1, i3.2.2.1⟩
        rw [j2 i i1] at this
        cases this
theorem fF_du {y m hi : Int32} {k : Nat} (hc : ckD S a) (ac : S.2.2 32 0 = a) (jc : jc_ a = true) (hk : hsk S h) (ha : S.2.2 32 2 = h) (hj : jh_ h = true) (y1 : 1970 ≤ y.toInt) (y2 : y.toInt ≤ 2299) (m1 : 1 ≤ m.toInt) (m2 : m.toInt ≤ 12) (hl : hi.toInt = k) (k2 : k ≤ 31) : ∃ r, F_F_dateUpTo y m hi S = some r ∧ ((∃ d : Nat, r.toInt = dt_m y.toInt m.toInt + d - 1 ∧ d ≤ (k : Int) ∧ fD S a h y.toInt m.toInt d ∧ ∀ i : Nat, d < i → i ≤ (k : Int) → ¬ fD S a h y.toInt m.toInt i) ∨ (r.toInt = -1 ∧ ∀ i : Nat, i ≤ (k : Int) → ¬ fD S a h y.toInt m.toInt i)) := by
  have db := dm_b (y := y.toInt) y1 y2 m1 (by omega)
  have hn := dt_nb (y := y.toInt) (m := m.toInt)
  have e1 : (Int32.ofInt (dt_m y.toInt m.toInt)).toInt = dt_m y.toInt m.toInt := tI (by omega) (by omega)
  unfold F_F_dateUpTo
  rw [fD_first (by omega) (by omega) m1 m2, fD_len (by omega) (by omega) m1 m2]
  simp only [ob_]
  rw [fD_wd (by rw [e1]; omega) (by rw [e1]; omega), e1, ac, j_qt jc]
  simp only [ob_]
  obtain ⟨B, eB, hB⟩ := fC_days (S := S) (a := a) (L := (dt_n y.toInt m.toInt).toNat) (F := ((dt_m y.toInt m.toInt + 4) % 7 + 1).toNat) (l := Int32.ofInt (dt_n y.toInt m.toInt)) (f := Int32.ofInt ((dt_m y.toInt m.toInt + 4) % 7 + 1)) (by rw [tI (by omega) (by omega)]; omega) (by rw [tI (by omega) (by omega)]; omega) (by omega) (by omega) (by omega) (by omega) hc
  rw [eB]
  simp only [ob_]
  exact lF_du hk ha hj e1 db.1 db.2 (fun i => by rw [hB]; constructor <;> rintro ⟨q1, q2, q3⟩ <;> exact ⟨q1, by omega, q3⟩) ju_ hi 0 k 0 hl rfl (by omega) (by omega) (by omega) (by show _ < 1000000; omega)
end JH_3
