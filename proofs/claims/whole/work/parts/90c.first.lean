section JK_3
variable {a h c : Nat} {S T : jS}
theorem jF_117 {kt : Int64 → Int32 → jS → Option (Int64 × jS)} {x6 x8 : Int64} {x5 : Int32} {x : Int} (hk : ckF T a h c) (b1 : 0 ≤ x) (b2 : x < (T.2.1 c 5).toInt) (hn : ∀ i, x ≤ i → i < (T.2.1 c 5).toInt → ¬ Fr T a h c i) (hr : rL T a h x6.toInt x8.toInt) (hkt : (T.2.1 c 5).toInt ≤ 10413791999 → ∀ z : Int64, (T.2.1 c 5).toInt ≤ z.toInt → z.toInt ≤ 10420000000 → oF T a h c z.toInt (kt z (x5 + 1) T)) : oF T a h c x (J_F_firstAfter_117 kt x5 x6 x8 T) := by
  have k := hk
  obtain ⟨k1, k2, k3, k4, k5, k6⟩ := k
  obtain ⟨z1, z2, z3, z4, -⟩ := id k5
  unfold J_F_firstAfter_117
  simp only [k3, jl_]
  simp only [j_qt k4]
  by_cases q : (T.2.1 c 5).toInt ≤ 10413791999
  · rw [if_pos (show T.2.1 c 5 ≤ 10413791999 from Int64.le_iff_toInt_le.mpr (by simp only [Int64.reduceToInt]; omega))]
    have e1 : (T.2.1 c 5 + (T.1 c 0).toInt64).toInt = (T.2.1 c 5).toInt + (T.1 c 0).toInt := by
      simp (disch := omega) only [Int64.toInt_add, Int32.toInt_toInt64, bs64]
    have q2 := hkt q
    clear hkt
    refine oF_s (Int.le_of_lt b2) hn ?_
    by_cases g : x6 ≤ T.2.1 c 5 + (T.1 c 0).toInt64
    · rw [if_pos g]
      have g' := Int64.le_iff_toInt_le.mp g
      rw [e1] at g'
      refine jF_175 hk (by omega) q (Or.inr ?_) q2
      rcases hr with ⟨h1, h2, h3, h4⟩ | ⟨h1, h2⟩
      · exact Or.inl ⟨h2, (lf_b h3).2, fun i i1 i2 => h4 i (by omega) i2⟩
      · exact Or.inr ⟨h1, fun i i1 => h2 i (by omega)⟩
    · rw [if_neg g]
      obtain ⟨y, y1, y2⟩ := fF_lfv (x := T.2.1 c 5 + (T.1 c 0).toInt64) k1 k2 (by rw [e1]; omega) (by rw [e1]; omega)
      rw [y1]
      simp only [ob_]
      rw [e1] at y2
      exact jF_175 hk (by omega) q (Or.inl y2) q2
  · rw [if_neg (show ¬ T.2.1 c 5 ≤ 10413791999 from fun w => by
      have := Int64.le_iff_toInt_le.mp w
      simp only [Int64.reduceToInt] at this
      omega)]
    exact oF_0 k6 (Or.inr ⟨rfl, fun i i1 i2 => hn i i1 (by omega)⟩)
theorem lF_11 : ∀ (f : Nat) (x3 : Int64) (x5 : Int32) (T : jS), ckF T a h c → 0 ≤ x3.toInt → x3.toInt ≤ 10420000000 → 0 ≤ x5.toInt → (mF T c x3.toInt : Int) + x5.toInt ≤ 9000 → mF T c x3.toInt < f → oF T a h c x3.toInt (L_F_firstAfter_11 f x3 x5 T) := by
  intro f
  induction f with
  | zero => intro x3 x5 T _ _ _ _ _ q; omega
  | succ f ih =>
    intro x3 x5 T hk b1 b2 b3 b4 b5
    have k := hk
    obtain ⟨k1, k2, k3, k4, k5, k6⟩ := k
    obtain ⟨z1, z2, z3, z4, -⟩ := id k5
    unfold L_F_firstAfter_11
    rw [if_neg (show ¬ (10000 : Int32) ≤ x5 from fun w => by
      have := Int32.le_iff_toInt_le.mp w
      simp only [Int32.reduceToInt] at this
      omega)]
    by_cases q : (10413791999 : Int64) < x3
    · rw [if_pos q]
      have q' := Int64.lt_iff_toInt_lt.mp q
      simp only [Int64.reduceToInt] at q'
      exact oF_0 k6 (Or.inr ⟨rfl, fun i i1 i2 => by omega⟩)
    · rw [if_neg q]
      have q' : x3.toInt ≤ 10413791999 := by
        have := Int64.le_iff_toInt_le.mp (Int64.not_lt.mp q)
        simp only [Int64.reduceToInt] at this
        omega
      clear q
      simp only [k3, jl_]
      rw [j_qt k4]
      obtain ⟨s, u, o, e1, e2, e3, e4⟩ := fZ_off (x := x3) k5 k6 (by omega) (by omega)
      rw [e1]
      simp only [ob_]
      have hk2 := zw_ckF hk e2
      refine oF_w (s := s) (u := u) (o := o) hk ?_
      have ob := zof_b k5 (e2.1 x3.toInt e3 e4)
      have e2' := e2
      rw [← zw_zst (s := s) (u := u) (o := o)] at e2'
      obtain ⟨d1, d2, d3⟩ := e2'
      have ez : ∀ x, s.toInt ≤ x → x < u.toInt → zof (zw T c s u o) c x o.toInt := d1
      have hu : (zw T c s u o).2.1 c 5 = u := zw_25
      have ho : (zw T c s u o).1 c 6 = o := zw_16
      have hm : mF (zw T c s u o) c x3.toInt = mF T c x3.toInt := zw_mF _
      have h32 : (zw T c s u o).2.2 32 1 = c := k3
      simp only [h32, j_qt k4, hu, ho]
      clear e1 e2 k1 k2 k3 k5 k6 hk
      generalize zw T c s u o = V at *
      rw [← hm] at b4 b5
      clear hm
      have e6 : (x3 + o.toInt64).toInt = x3.toInt + o.toInt := by
        simp (disch := omega) only [Int64.toInt_add, Int32.toInt_toInt64, bs64]
      obtain ⟨y, y1, y2⟩ := fF_lfv (x := x3 + o.toInt64) hk2.1 hk2.2.1 (by rw [e6]; omega) (by rw [e6]; omega)
      rw [y1]
      simp only [ob_]
      have go : (∀ i, x3.toInt + o.toInt ≤ i → i < u.toInt + o.toInt → ¬ lf V a h i) → oF V a h c x3.toInt (J_F_firstAfter_117 (L_F_firstAfter_11 f) x5 (x3 + o.toInt64) y V) := by
        intro hno
        refine jF_117 hk2 b1 (by rw [hu]; exact e4) ?_ y2 ?_
        · rw [hu]
          exact fr_b ez e3 hno
        · rw [hu]
          intro w1 z w2 w3
          have e7 : (x5 + 1).toInt = x5.toInt + 1 := by
            rw [Int32.toInt_add]
            exact bs32 (by simp only [Int32.reduceToInt]; omega) (by simp only [Int32.reduceToInt]; omega)
          have lt : mF V c z.toInt < mF V c x3.toInt := by
            rcases d3 with w | ⟨-, w⟩
            · omega
            · exact mF_lt w e4 w2
          refine ih z (x5 + 1) V hk2 (by omega) w3 ?_ ?_ ?_
          · rw [e7]; omega
          · rw [e7]; omega
          · omega
      rw [e6] at y2
      rcases y2 with ⟨g1, g2, g3, g4⟩ | ⟨g1, g2⟩
      · rw [if_neg (show ¬ y < 0 from fun w => by
          have := Int64.lt_iff_toInt_lt.mp w
          simp only [Int64.reduceToInt] at this
          omega)]
        have hy := lf_b g3
        have e8 : (y - o.toInt64).toInt = y.toInt - o.toInt := by
          simp (disch := omega) only [Int64.toInt_sub, Int32.toInt_toInt64, bs64]
        by_cases w : u ≤ y - o.toInt64
        · rw [if_pos w]
          have w' := Int64.le_iff_toInt_le.mp w
          rw [e8] at w'
          exact go (fun i i1 i2 => g4 i i1 (by omega))
        · rw [if_neg w]
          have w' : y.toInt - o.toInt < u.toInt := by
            have := Int64.lt_iff_toInt_lt.mp (Int64.not_le.mp w)
            rw [e8] at this
            omega
          obtain ⟨f1, f2⟩ := fr_a ez e3 g1 g3 g4 w'
          by_cases t : y.toInt - o.toInt ≤ 10413791999
          · rw [if_pos (show y - o.toInt64 ≤ 10413791999 from Int64.le_iff_toInt_le.mpr (by rw [e8]; simp only [Int64.reduceToInt]; omega))]
            refine oF_0 hk2.2.2.2.2.2 (Or.inl ⟨y.toInt - o.toInt, ?_, by omega, t, f1, f2⟩)
            rw [Int64.toInt_mul, e8]
            simp only [Int64.reduceToInt]
            rw [bs64 (by omega) (by omega)]
            omega
          · rw [if_neg (show ¬ y - o.toInt64 ≤ 10413791999 from fun v => by
              have := Int64.le_iff_toInt_le.mp v
              rw [e8] at this
              simp only [Int64.reduceToInt] at this
              omega)]
            exact oF_0 hk2.2.2.2.2.2 (Or.inr ⟨rfl, fun i i1 i2 => f2 i i1 (by omega)⟩)
      · rw [if_pos (show y < 0 from Int64.lt_iff_toInt_lt.mpr (by simp only [Int64.reduceToInt]; omega))]
        exact go (fun i i1 _ => g2 i i1)
theorem dv1000 {p : Int64} (h1 : 0 ≤ p.toInt) (h2 : p.toInt ≤ 10413791999999) : (p / 1000).toInt = p.toInt / 1000 := by
  rw [Int64.toInt_div]
  simp only [Int64.reduceToInt]
  rw [td_ h1]
  exact bs64 (by omega) (by omega)
theorem fF_first {p : Int64} (hk : ckF S a h c) (h1 : 0 ≤ p.toInt) (h2 : p.toInt ≤ 10413791999999) : oF S a h c (p.toInt / 1000 + 1) (F_F_firstAfter p S) := by
  unfold F_F_firstAfter
  rw [jl_]
  have e1 : (p / 1000 + 1).toInt = p.toInt / 1000 + 1 := by
    rw [Int64.toInt_add, dv1000 h1 h2]
    simp only [Int64.reduceToInt]
    exact bs64 (by omega) (by omega)
  have b := mF_b (S := S) (c := c) (x := p.toInt / 1000 + 1)
  have := lF_11 (a := a) (h := h) (c := c) ju_ (p / 1000 + 1) 0 S hk (by rw [e1]; omega) (by rw [e1]; omega) (by simp only [Int32.reduceToInt]; omega) (by rw [e1]; simp only [Int32.reduceToInt]; omega) (by rw [e1]; show _ < 1000000; omega)
  rw [e1] at this
  exact this
end JK_3
