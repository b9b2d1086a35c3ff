section JH_4
variable {a h : Nat} {S : jS}
/-- a day that fits -/
def fN (S : jS) (a h : Nat) (D : Int) : Prop := ∃ (y m : Int) (d : Nat), 1970 ≤ y ∧ y ≤ 2299 ∧ 1 ≤ m ∧ m ≤ 12 ∧ hyS S a y ∧ hmS S a m ∧ fD S a h y m d ∧ D = dt_m y m + d - 1
theorem fN_in {y m D : Int} (hf : fN S a h D) (m1 : 1 ≤ m) (m2 : m ≤ 12) (h1 : dt_m y m ≤ D) (h2 : D < dt_m y (m + 1)) : 1970 ≤ y ∧ y ≤ 2299 ∧ hyS S a y ∧ hmS S a m ∧ ∃ d : Nat, fD S a h y m d ∧ D = dt_m y m + d - 1 := by
  obtain ⟨y', m', d', g1, g2, g3, g4, g5, g6, g7, g8⟩ := hf
  have hs := dt_s (y := y') g3 g4
  have d1 := g7.1
  have d2 := g7.2.1
  have o1 : dt_o y D = m := dt_ou m1 m2 h1 h2
  have o2 : dt_o y' D = m' := dt_ou g3 g4 (by omega) (by omega)
  have a1 := dt_mm (y := y) (m := 1) (k := m) (by omega) m1 (by omega)
  have a2 := dt_mm (y := y) (m := m + 1) (k := 13) (by omega) (by omega) (by omega)
  have a3 := dt_mm (y := y') (m := 1) (k := m') (by omega) g3 (by omega)
  have a4 := dt_mm (y := y') (m := m' + 1) (k := 13) (by omega) (by omega) (by omega)
  rw [dt_11] at a1 a3
  rw [dt_13] at a2 a4
  have y1 : dt_y D = y := dt_yu (by omega) (by omega)
  have y2 : dt_y D = y' := dt_yu (by omega) (by omega)
  have ey : y' = y := by omega
  subst ey
  have em : m' = m := by omega
  subst em
  exact ⟨g1, g2, g5, g6, d', g7, g8⟩
theorem fN_b {D : Int} (hf : fN S a h D) : 0 ≤ D ∧ D < 120530 := by
  obtain ⟨y', m', d', g1, g2, g3, g4, g5, g6, g7, g8⟩ := hf
  have hs := dt_s (y := y') g3 g4
  have b1 := dm_b (y := y') g1 g2 g3 (by omega)
  have b2 := dm_b (y := y') (m := m' + 1) g1 g2 (by omega) (by omega)
  have d1 := g7.1
  have d2 := g7.2.1
  omega
def rN (S : jS) (a h : Nat) (N r : Int) : Prop := (N ≤ r ∧ fN S a h r ∧ ∀ D, N ≤ D → D < r → ¬ fN S a h D) ∨ (r = -1 ∧ ∀ D, N ≤ D → ¬ fN S a h D)
theorem rN_up {N N' r : Int} (hr : rN S a h N' r) (h1 : N ≤ N') (h2 : ∀ D, N ≤ D → D < N' → ¬ fN S a h D) : rN S a h N r := by
  rcases hr with ⟨g1, g2, g3⟩ | ⟨g1, g2⟩
  · refine Or.inl ⟨by omega, g2, fun D d1 d2 => ?_⟩
    by_cases c : D < N'
    · exact h2 D d1 c
    · exact g3 D (by omega) d2
  · refine Or.inr ⟨g1, fun D d1 => ?_⟩
    by_cases c : D < N'
    · exact h2 D d1 c
    · exact g2 D (by omega)
/-- a cron and a calendar that are looked at -/
def ckA (S : jS) (a h : Nat) : Prop := ckD S a ∧ S.2.2 32 0 = a ∧ jc_ a = true ∧ hsk S h ∧ S.2.2 32 2 = h ∧ jh_ h = true ∧ bt (S.2.1 (a + 1) 4) 63 = false
theorem lF_57 {kt : Int32 → Int32 → Int32 → Option Int32} {x6 : Int32} (hc : ckA S a h) (y1 : 1970 ≤ x6.toInt) (y2 : x6.toInt ≤ 2299) (hy : hyS S a x6.toInt) (hk : ∀ z : Int32, z.toInt = x6.toInt + 1 → ∃ r, kt 1 1 z = some r ∧ rN S a h (dt_1 (x6.toInt + 1)) r.toInt) : ∀ (f : Nat) (x5 x7 : Int32) (K : Nat), x5.toInt = K → 1 ≤ K → 1 ≤ x7.toInt → x7.toInt ≤ 13 → (x7.toInt = 13 → K = 1) → (x7.toInt ≤ 12 → (K : Int) ≤ dt_n x6.toInt x7.toInt) → 13 - x7.toInt < f → ∃ r, L_F_dayFrom_57 kt S f x5 x6 x7 = some r ∧ rN S a h (dt_m x6.toInt x7.toInt + K - 1) r.toInt := by
  obtain ⟨c1, c2, c3, c4, c5, c6, c7⟩ := hc
  intro f
  induction f with
  | zero => intro x5 x7 K _ _ _ _ _ _ q; omega
  | succ f ih =>
    intro x5 x7 K e1 e2 e4 e5 e6 e9 e7
    rw [L_F_dayFrom_57]
    by_cases cm : x7.toInt = 13
    · rw [if_pos (show (12 : Int32) < x7 from Int32.lt_iff_toInt_lt.mpr (by simp only [Int32.reduceToInt]; omega))]
      unfold J_F_dayFrom_109
      have e6 := e6 cm
      subst e6
      rw [cm, dt_13]
      obtain ⟨r, g1, g2⟩ := hk (x6 + 1) (by
        rw [Int32.toInt_add]
        exact bs32 (by simp only [Int32.reduceToInt]; omega) (by simp only [Int32.reduceToInt]; omega))
      refine ⟨r, g1, ?_⟩
      rw [show dt_1 (x6.toInt + 1) + ((1 : Nat) : Int) - 1 = dt_1 (x6.toInt + 1) by omega]
      exact g2
    · rw [if_neg (fun q : (12 : Int32) < x7 => cm (by have := Int32.lt_iff_toInt_lt.mp q; simp only [Int32.reduceToInt] at this; omega)), c2, j_qt c3]
      have e9 := e9 (by omega)
      have hs := dt_s (y := x6.toInt) e4 (by omega)
      have hn := dt_nb (y := x6.toInt) (m := x7.toInt)
      have e8 : (x7 + 1).toInt = x7.toInt + 1 := by
        rw [Int32.toInt_add]
        exact bs32 (by simp only [Int32.reduceToInt]; omega) (by simp only [Int32.reduceToInt]; omega)
      have nx : (∀ D, dt_m x6.toInt x7.toInt + K - 1 ≤ D → D < dt_m x6.toInt (x7.toInt + 1) → ¬ fN S a h D) → ∃ r, L_F_dayFrom_57 kt S f 1 x6 (x7 + 1) = some r ∧ rN S a h (dt_m x6.toInt x7.toInt + K - 1) r.toInt := by
        intro hno
        have hn2 := dt_nb (y := x6.toInt) (m := (x7 + 1).toInt)
        obtain ⟨r, g1, g2⟩ := ih 1 (x7 + 1) 1 rfl (by omega) (by omega) (by omega) (fun _ => rfl) (fun _ => by omega) (by omega)
        refine ⟨r, g1, ?_⟩
        rw [e8, show dt_m x6.toInt (x7.toInt + 1) + ((1 : Nat) : Int) - 1 = dt_m x6.toInt (x7.toInt + 1) by omega] at g2
        exact rN_up g2 (by omega) hno
      unfold J_F_dayFrom_90
      rcases fC_hm (S := S) (a := a) (m := x7) (by omega) (by omega) c7 with ⟨g1, g2⟩ | ⟨g1, g2⟩
      · rw [g1]
        simp only [ob_]
        rw [if_neg (by decide)]
        obtain ⟨r, r1, r2⟩ := fF_df (S := S) (a := a) (h := h) c1 c2 c3 c4 c5 c6 y1 y2 e4 (by omega) e1 e2 (by omega)
        rw [r1]
        simp only [ob_]
        rcases r2 with ⟨d, d1, d2, d3, d4⟩ | ⟨d1, d2⟩
        · have db := dm_b (y := x6.toInt) y1 y2 e4 (by omega)
          have hd1 := d3.1
          rw [if_neg (fun q : r < 0 => by have := Int32.lt_iff_toInt_lt.mp q; simp only [Int32.reduceToInt] at this; omega)]
          refine ⟨r, rfl, Or.inl ⟨by omega, ⟨x6.toInt, x7.toInt, d, y1, y2, e4, by omega, hy, g2, d3, d1⟩, fun D q1 q2 q3 => ?_⟩⟩
          have hd2 := d3.2.1
          obtain ⟨-, -, -, -, dd, p1, p2⟩ := fN_in (y := x6.toInt) q3 e4 (by omega) (by omega) (by omega)
          exact d4 dd (by omega) (by omega) p1
        · rw [if_pos (show r < 0 from Int32.lt_iff_toInt_lt.mpr (by simp only [Int32.reduceToInt]; omega))]
          refine nx (fun D q1 q2 q3 => ?_)
          obtain ⟨-, -, -, -, dd, p1, p2⟩ := fN_in q3 e4 (by omega) (by omega) q2
          exact d2 dd (by omega) p1
      · rw [g1]
        simp only [ob_, if_true]
        rw [if_pos (show (-1 : Int32) < 0 by decide)]
        refine nx (fun D q1 q2 q3 => ?_)
        obtain ⟨-, -, -, p, -⟩ := fN_in q3 e4 (by omega) (by omega) q2
        exact g2 p
theorem lF_33 (hc : ckA S a h) : ∀ (f : Nat) (x4 x5 x6 : Int32) (K : Nat), x5.toInt = K → 1 ≤ K → 1 ≤ x4.toInt → x4.toInt ≤ 12 → (K : Int) ≤ dt_n x6.toInt x4.toInt → 1970 ≤ x6.toInt → x6.toInt ≤ 2300 → 2300 - x6.toInt < f → ∃ r, L_F_dayFrom_33 S f x4 x5 x6 = some r ∧ rN S a h (dt_m x6.toInt x4.toInt + K - 1) r.toInt := by
  intro f
  induction f with
  | zero => intro x4 x5 x6 K _ _ _ _ _ _ _ q; omega
  | succ f ih =>
    intro x4 x5 x6 K e1 e2 e3 e4 e5 e6 e7 e8
    have hc' := hc
    obtain ⟨c1, c2, c3, c4, c5, c6, c7⟩ := hc'
    rw [L_F_dayFrom_33]
    have m1 := dt_mm (y := x6.toInt) (m := 1) (k := x4.toInt) (by omega) e3 (by omega)
    rw [dt_11] at m1
    have hs := dt_s (y := x6.toInt) e3 e4
    have m2 := dt_mm (y := x6.toInt) (m := x4.toInt + 1) (k := 13) (by omega) (by omega) (by omega)
    rw [dt_13] at m2
    by_cases cy : x6.toInt = 2300
    · rw [if_pos (show (2299 : Int32) < x6 from Int32.lt_iff_toInt_lt.mpr (by simp only [Int32.reduceToInt]; omega))]
      refine ⟨_, rfl, Or.inr ⟨rfl, fun D q1 q2 => ?_⟩⟩
      have := fN_b q2
      rw [cy, d99] at m1
      rw [cy] at q1
      omega
    · rw [if_neg (fun q : (2299 : Int32) < x6 => cy (by have := Int32.lt_iff_toInt_lt.mp q; simp only [Int32.reduceToInt] at this; omega)), c2, j_qt c3]
      have nxt : ∀ z : Int32, z.toInt = x6.toInt + 1 → ∃ r, L_F_dayFrom_33 S f 1 1 z = some r ∧ rN S a h (dt_1 (x6.toInt + 1)) r.toInt := fun z hz => by
        have hn := dt_nb (y := z.toInt) (m := (1 : Int32).toInt)
        obtain ⟨r, g1, g2⟩ := ih 1 1 z 1 rfl (by omega) (by decide) (by decide) (by omega) (by omega) (by omega) (by omega)
        refine ⟨r, g1, ?_⟩
        simp only [Int32.reduceToInt] at g2
        rw [dt_11, hz, show dt_1 (x6.toInt + 1) + ((1 : Nat) : Int) - 1 = dt_1 (x6.toInt + 1) by omega] at g2
        exact g2
      rcases fC_hy (S := S) (a := a) (y := x6) e6 (by omega) (fun _ _ _ => Or.inr trivial) with ⟨g1, g2⟩ | ⟨g1, g2⟩
      · rw [g1]
        simp only [ob_]
        rw [if_neg (by decide)]
        exact lF_57 hc e6 (by omega) g2 nxt ju_ x5 x4 K e1 e2 e3 (by omega) (fun q => by omega) (fun _ => e5) (by show _ < ((1000000 : Nat) : Int); omega)
      · rw [g1]
        simp only [ob_, if_true]
        unfold J_F_dayFrom_109
        obtain ⟨r, p1, p2⟩ := nxt (x6 + 1) (by
          rw [Int32.toInt_add]
          exact bs32 (by simp only [Int32.reduceToInt]; omega) (by simp only [Int32.reduceToInt]; omega))
        refine ⟨r, p1, rN_up p2 (by omega) (fun D q1 q2 q3 => ?_)⟩
        have y1 : dt_y D = x6.toInt := dt_yu (by omega) q2
        obtain ⟨o1, o2, o3, o4⟩ := dt_ob (y := x6.toInt) (d := D) (by omega) q2
        obtain ⟨-, -, p, -⟩ := fN_in q3 o1 o2 o3 o4
        exact g2 p
theorem fF_dyf {p : Int32} (hc : ckA S a h) (h1 : -10 ≤ p.toInt) (h2 : p.toInt < 120895) : ∃ r, F_F_dayFrom p S = some r ∧ rN S a h (if p.toInt < 0 then 0 else p.toInt) r.toInt := by
  unfold F_F_dayFrom
  rw [fmax]
  simp only [ob_, Int32.reduceToInt]
  have e0 : (Int32.ofInt (if p.toInt < 0 then 0 else p.toInt)).toInt = (if p.toInt < 0 then 0 else p.toInt) := tI (by split <;> omega) (by split <;> omega)
  generalize hD : (if p.toInt < 0 then 0 else p.toInt) = D at *
  have b1 : 0 ≤ D ∧ D < 120895 := by
    rw [← hD]; split <;> omega
  generalize Int32.ofInt D = d at *
  have yb := dt_yr (d := D) (by omega) b1.2
  have ya := dt_ya D
  have yb2 := dt_yb D
  have y70 : 1970 ≤ dt_y D := by
    by_cases c : dt_y D < 1970
    · have := dt_mo (x := dt_y D + 1) (y := 1971) (by omega)
      have e : dt_1 1971 = 365 := by decide
      omega
    · omega
  rw [fD_year (by omega) (by omega)]
  simp only [ob_]
  have e1 : (Int32.ofInt (dt_y d.toInt)).toInt = dt_y D := by rw [e0]; exact tI (by omega) (by omega)
  generalize Int32.ofInt (dt_y d.toInt) = y at *
  rw [fD_month (by omega) (by omega) (by rw [e1, e0]; exact ya) (by rw [e1, e0]; exact yb2)]
  simp only [ob_]
  obtain ⟨o1, o2, o3, o4⟩ := dt_ob ya yb2
  have e2 : (Int32.ofInt (dt_o y.toInt d.toInt)).toInt = dt_o (dt_y D) D := by rw [e1, e0]; exact tI (by omega) (by omega)
  generalize Int32.ofInt (dt_o y.toInt d.toInt) = m at *
  rw [fD_first (by omega) (by omega) (by omega) (by omega)]
  simp only [ob_, jl_]
  have hs := dt_s (y := dt_y D) o1 o2
  have e3 : ((d - Int32.ofInt (dt_m y.toInt m.toInt)) + 1).toInt = D - dt_m (dt_y D) (dt_o (dt_y D) D) + 1 := by
    rw [e1, e2]
    have q : (d - Int32.ofInt (dt_m (dt_y D) (dt_o (dt_y D) D))).toInt = D - dt_m (dt_y D) (dt_o (dt_y D) D) := by
      have hn := dt_nb (y := dt_y D) (m := dt_o (dt_y D) D)
      rw [Int32.toInt_sub, e0, tI (by omega) (by omega)]
      exact bs32 (by omega) (by omega)
    have hn := dt_nb (y := dt_y D) (m := dt_o (dt_y D) D)
    rw [Int32.toInt_add, q]
    exact bs32 (by simp only [Int32.reduceToInt]; omega) (by simp only [Int32.reduceToInt]; omega)
  obtain ⟨r, g1, g2⟩ := lF_33 hc ju_ m ((d - Int32.ofInt (dt_m y.toInt m.toInt)) + 1) y (D - dt_m (dt_y D) (dt_o (dt_y D) D) + 1).toNat (by rw [e3]; omega) (by omega) (by omega) (by omega) (by rw [e1, e2]; omega) (by omega) (by omega) (by show _ < ((1000000 : Nat) : Int); omega)
  refine ⟨r, g1, ?_⟩
  rw [e1, e2] at g2
  rw [show dt_m (dt_y D) (dt_o (dt_y D) D) + ((D - dt_m (dt_y D) (dt_o (dt_y D) D) + 1).toNat : Int) - 1 = D by omega] at g2
  exact g2
end JH_4
