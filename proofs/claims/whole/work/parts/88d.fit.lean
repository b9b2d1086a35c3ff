section JH_5
variable {a h : Nat} {S : jS}
def uN (S : jS) (a h : Nat) (N r : Int) : Prop := (r ≤ N ∧ fN S a h r ∧ ∀ D, D ≤ N → r < D → ¬ fN S a h D) ∨ (r = -1 ∧ ∀ D, D ≤ N → ¬ fN S a h D)
theorem uN_up {N N' r : Int} (hr : uN S a h N' r) (h1 : N' ≤ N) (h2 : ∀ D, D ≤ N → N' < D → ¬ fN S a h D) : uN S a h N r := by
  rcases hr with ⟨g1, g2, g3⟩ | ⟨g1, g2⟩
  · refine Or.inl ⟨by omega, g2, fun D d1 d2 => ?_⟩
    by_cases c : N' < D
    · exact h2 D d1 c
    · exact g3 D (by omega) d2
  · refine Or.inr ⟨g1, fun D d1 => ?_⟩
    by_cases c : N' < D
    · exact h2 D d1 c
    · exact g2 D (by omega)
theorem uN_eq {N N' r : Int} (hr : uN S a h N r) (e : N = N') : uN S a h N' r := e ▸ hr
/-- the last day of a month that is not behind a date -/
def up_ (y m : Int) (K : Nat) : Int := if (K : Int) ≤ dt_n y m then dt_m y m + K - 1 else dt_m y (m + 1) - 1
theorem up_b {y m : Int} {K : Nat} (h1 : 1 ≤ m) (h2 : m ≤ 12) (hK : 1 ≤ K) : dt_m y m ≤ up_ y m K ∧ up_ y m K < dt_m y (m + 1) := by
  have hs := dt_s (y := y) h1 h2
  have hn := dt_nb (y := y) (m := m)
  unfold up_
  split <;> omega
theorem up_d {y m : Int} {K d : Nat} (h1 : 1 ≤ m) (h2 : m ≤ 12) (d1 : (d : Int) ≤ dt_n y m) : dt_m y m + d - 1 ≤ up_ y m K ↔ (d : Int) ≤ K := by
  have hs := dt_s (y := y) h1 h2
  have hn := dt_nb (y := y) (m := m)
  unfold up_
  split <;> omega
theorem lF_58 {kt : Int32 → Int32 → Int32 → Option Int32} {x6 : Int32} (hc : ckA S a h) (y1 : 1970 ≤ x6.toInt) (y2 : x6.toInt ≤ 2299) (hy : hyS S a x6.toInt) (hk : ∀ z : Int32, z.toInt = x6.toInt - 1 → ∃ r, kt 12 31 z = some r ∧ uN S a h (dt_1 x6.toInt - 1) r.toInt) : ∀ (f : Nat) (x5 x7 : Int32) (K : Nat), x5.toInt = K → 1 ≤ K → K ≤ 31 → 0 ≤ x7.toInt → x7.toInt ≤ 12 → x7.toInt < f → ∃ r, L_F_dayUpTo_58 kt S f x5 x6 x7 = some r ∧ uN S a h (if x7.toInt = 0 then dt_1 x6.toInt - 1 else up_ x6.toInt x7.toInt K) r.toInt := by
  obtain ⟨c1, c2, c3, c4, c5, c6, c7⟩ := hc
  intro f
  induction f with
  | zero => intro x5 x7 K _ _ _ _ _ q; omega
  | succ f ih =>
    intro x5 x7 K e1 e2 e3 e4 e5 e7
    rw [L_F_dayUpTo_58]
    by_cases cm : x7.toInt = 0
    · rw [if_pos (show x7 < 1 from Int32.lt_iff_toInt_lt.mpr (by simp only [Int32.reduceToInt]; omega)), if_pos cm]
      unfold J_F_dayUpTo_110
      exact hk (x6 + -1) (by
        rw [Int32.toInt_add]
        exact bs32 (by simp only [Int32.reduceToInt]; omega) (by simp only [Int32.reduceToInt]; omega))
    · rw [if_neg (fun q : x7 < 1 => cm (by have := Int32.lt_iff_toInt_lt.mp q; simp only [Int32.reduceToInt] at this; omega)), c2, j_qt c3, if_neg cm]
      unfold J_F_dayUpTo_90
      obtain ⟨w, hw, e8⟩ : ∃ w, x7 + -1 = w ∧ w.toInt = x7.toInt - 1 := ⟨_, rfl, by
        rw [Int32.toInt_add]
        exact bs32 (by simp only [Int32.reduceToInt]; omega) (by simp only [Int32.reduceToInt]; omega)⟩
      rw [hw]
      clear hw
      have hs := dt_s (y := x6.toInt) (m := x7.toInt) (by omega) (by omega)
      have hn := dt_nb (y := x6.toInt) (m := x7.toInt)
      have ub1 := (up_b (y := x6.toInt) (m := x7.toInt) (K := K) (by omega) (by omega) e2).1
      have ub2 := (up_b (y := x6.toInt) (m := x7.toInt) (K := K) (by omega) (by omega) e2).2
      have nx : (∀ D, D ≤ up_ x6.toInt x7.toInt K → dt_m x6.toInt x7.toInt ≤ D → ¬ fN S a h D) → ∃ r, L_F_dayUpTo_58 kt S f 31 x6 w = some r ∧ uN S a h (up_ x6.toInt x7.toInt K) r.toInt := by
        intro hno
        obtain ⟨r, g1, g2⟩ := ih 31 w 31 rfl (by omega) (by omega) (by omega) (by omega) (by omega)
        refine ⟨r, g1, ?_⟩
        have e9 : (if w.toInt = 0 then dt_1 x6.toInt - 1 else up_ x6.toInt w.toInt 31) = dt_m x6.toInt x7.toInt - 1 := by
          rw [e8]
          by_cases q : x7.toInt - 1 = 0
          · rw [if_pos q, show x7.toInt = 1 by omega, dt_11]
          · rw [if_neg q]
            have hs2 := dt_s (y := x6.toInt) (m := x7.toInt - 1) (by omega) (by omega)
            rw [Int.sub_add_cancel] at hs2
            have hn2 := dt_nb (y := x6.toInt) (m := x7.toInt - 1)
            unfold up_
            rw [Int.sub_add_cancel]
            split <;> omega
        exact uN_up (uN_eq g2 e9) (by omega) (fun D q1 q2 => hno D q1 (by omega))
      rcases fC_hm (S := S) (a := a) (m := x7) (by omega) (by omega) c7 with ⟨g1, g2⟩ | ⟨g1, g2⟩
      · rw [g1]
        simp only [ob_]
        rw [if_neg (by decide)]
        obtain ⟨r, r1, r2⟩ := fF_du (S := S) (a := a) (h := h) (y := x6) (m := x7) c1 c2 c3 c4 c5 c6 y1 y2 (by omega) (by omega) e1 (by omega)
        rw [r1]
        simp only [ob_]
        rcases r2 with ⟨d, d1, d2, d3, d4⟩ | ⟨d1, d2⟩
        · have db := dm_b (y := x6.toInt) (m := x7.toInt) y1 y2 (by omega) (by omega)
          have hd1 := d3.1
          have hd2 := d3.2.1
          have hu := (up_d (K := K) (by omega) (by omega) hd2).mpr d2
          rw [if_neg (fun q : r < 0 => by have := Int32.lt_iff_toInt_lt.mp q; simp only [Int32.reduceToInt] at this; omega)]
          refine ⟨r, rfl, Or.inl ⟨by omega, ⟨x6.toInt, x7.toInt, d, y1, y2, by omega, by omega, hy, g2, d3, d1⟩, fun D q1 q2 q3 => ?_⟩⟩
          obtain ⟨-, -, -, -, dd, p1, p2⟩ := fN_in (y := x6.toInt) (m := x7.toInt) q3 (by omega) (by omega) (by omega) (by omega)
          have hp1 := p1.1
          have hp2 := p1.2.1
          exact d4 dd (by omega) ((up_d (K := K) (by omega) (by omega) hp2).mp (by omega)) p1
        · rw [if_pos (show r < 0 from Int32.lt_iff_toInt_lt.mpr (by simp only [Int32.reduceToInt]; omega))]
          refine nx (fun D q1 q2 q3 => ?_)
          obtain ⟨-, -, -, -, dd, p1, p2⟩ := fN_in (y := x6.toInt) (m := x7.toInt) q3 (by omega) (by omega) q2 (by omega)
          have hp1 := p1.1
          have hp2 := p1.2.1
          exact d2 dd ((up_d (K := K) (by omega) (by omega) hp2).mp (by omega)) p1
      · rw [g1]
        simp only [ob_, if_true]
        rw [if_pos (show (-1 : Int32) < 0 by decide)]
        refine nx (fun D q1 q2 q3 => ?_)
        obtain ⟨-, -, -, p, -⟩ := fN_in (y := x6.toInt) (m := x7.toInt) q3 (by omega) (by omega) q2 (by omega)
        exact g2 p
end JH_5
