section JK_4
variable {a h c : Nat} {S T : jS}
theorem ur_a {s u o x z : Int} (hz : ∀ x, s ≤ x → x < u → zof S c x o) (hs : x < u) (hL : z ≤ x + o) (hlf : lf S a h z) (hn : ∀ i, i ≤ x + o → z < i → ¬ lf S a h i) (hu : s ≤ z - o) : Fr S a h c (z - o) ∧ ∀ i, i ≤ x → z - o < i → ¬ Fr S a h c i := by
  refine ⟨⟨o, hz _ hu (by omega), ?_⟩, fun i i1 i2 => ?_⟩
  · rw [show z - o + o = z by omega]
    exact hlf
  · rintro ⟨r, r1, r2⟩
    have e := zof_u r1 (hz i (by omega) (by omega))
    rw [e] at r2
    exact hn _ (by omega) (by omega) r2
theorem ur_b {s u o x : Int} (hz : ∀ x, s ≤ x → x < u → zof S c x o) (hs : x < u) (hn : ∀ i, i ≤ x + o → s + o ≤ i → o ≤ i → ¬ lf S a h i) : ∀ i, i ≤ x → s ≤ i → 0 ≤ i → ¬ Fr S a h c i := by
  intro i i1 i2 i3
  rintro ⟨r, r1, r2⟩
  have e := zof_u r1 (hz i (by omega) (by omega))
  rw [e] at r2
  exact hn _ (by omega) (by omega) (by omega) r2
theorem ur_c {u y : Int} (hz : zok S c) (hn : ∀ i, i ≤ u + (S.1 c 0).toInt + (S.1 c 1).toInt → y < i → ¬ lf S a h i) : ∀ i, i ≤ u → y < i + (S.1 c 0).toInt → ¬ Fr S a h c i := by
  intro i i1 i2
  rintro ⟨r, r1, r2⟩
  have e := zof_b hz r1
  exact hn _ (by omega) (by omega) r2
theorem ur_d {u : Int} (hz : zok S c) (hn : ∀ i, i ≤ u + (S.1 c 0).toInt + (S.1 c 1).toInt → ¬ lf S a h i) : ∀ i, i ≤ u → ¬ Fr S a h c i := by
  intro i i1
  rintro ⟨r, r1, r2⟩
  have e := zof_b hz r1
  exact hn _ (by omega) r2
theorem uF_s {x x' r : Int} (h1 : x' ≤ x) (hn : ∀ i, i ≤ x → x' < i → 0 ≤ i → ¬ Fr S a h c i) (hr : uF S a h c x' r) : uF S a h c x r := by
  rcases hr with ⟨v, v1, v2, v3, v4, v5⟩ | ⟨v1, v2⟩
  · refine Or.inl ⟨v, v1, by omega, v3, v4, fun i i1 i2 => ?_⟩
    by_cases q : x' < i
    · exact hn i i1 q (by omega)
    · exact v5 i (by omega) i2
  · refine Or.inr ⟨v1, fun i i1 i2 => ?_⟩
    by_cases q : x' < i
    · exact hn i i1 q i2
    · exact v2 i (by omega) i2
theorem oU_s {x x' : Int} {R : Option (Int64 × jS)} (h1 : x' ≤ x) (hn : ∀ i, i ≤ x → x' < i → 0 ≤ i → ¬ Fr S a h c i) (hr : oU S a h c x' R) : oU S a h c x R := by
  obtain ⟨r, s', u', o', e1, e2, e3⟩ := hr
  exact ⟨r, s', u', o', e1, uF_s h1 hn e2, e3⟩
/-- the search goes on before the change -/
theorem jU_169 {kt : Int64 → Int32 → jS → Option (Int64 × jS)} {x3 x8 : Int64} {x5 : Int32} (hk : ckF T a h c) (b1 : 0 ≤ x3.toInt) (b2 : x3.toInt ≤ 10413791999) (hr2 : (0 ≤ x8.toInt ∧ x8.toInt < 10413792000 ∧ ∀ i, i ≤ x3.toInt + (T.1 c 0).toInt + (T.1 c 1).toInt → x8.toInt < i → ¬ lf T a h i) ∨ (x8.toInt = -1 ∧ ∀ i, i ≤ x3.toInt + (T.1 c 0).toInt + (T.1 c 1).toInt → ¬ lf T a h i)) (hkt : ∀ z : Int64, z.toInt ≤ x3.toInt → -60000 ≤ z.toInt → oU T a h c z.toInt (kt z (x5 + 1) T)) : oU T a h c x3.toInt (J_F_latestUpTo_169 kt x3 x5 x8 T) := by
  obtain ⟨k1, k2, k3, k4, k5, k6⟩ := hk
  unfold J_F_latestUpTo_169
  rw [k3, j_qt k4]
  rcases hr2 with ⟨g1, g2, g3⟩ | ⟨g1, g2⟩
  · rw [if_pos (show (0 : Int64) ≤ x8 from Int64.le_iff_toInt_le.mpr (by simp only [Int64.reduceToInt]; omega)), fmin2]
    simp only [ob_]
    obtain ⟨z1, z2, z3, z4, -⟩ := id k5
    have e1 : (x8 - (T.1 c 0).toInt64).toInt = x8.toInt - (T.1 c 0).toInt := by
      simp (disch := omega) only [Int64.toInt_sub, Int32.toInt_toInt64, bs64]
    rw [e1]
    obtain ⟨m, hm, m1, m2, m3⟩ : ∃ m : Int, (if x8.toInt - (T.1 c 0).toInt < x3.toInt then x8.toInt - (T.1 c 0).toInt else x3.toInt) = m ∧ m ≤ x3.toInt ∧ -60000 ≤ m ∧ ∀ i, i ≤ x3.toInt → m < i → x8.toInt < i + (T.1 c 0).toInt := by
      refine ⟨_, rfl, ?_, ?_, fun i i1 i2 => ?_⟩
      · split <;> omega
      · split <;> omega
      · split at i2 <;> omega
    rw [hm]
    have e2 : (Int64.ofInt m).toInt = m := tL (by omega) (by omega)
    refine oU_s (x' := (Int64.ofInt m).toInt) (by rw [e2]; exact m1) (fun i i1 i2 _ => ?_) (hkt _ (by rw [e2]; exact m1) (by rw [e2]; exact m2))
    rw [e2] at i2
    exact ur_c k5 g3 i i1 (m3 i i1 i2)
  · rw [if_neg (show ¬ (0 : Int64) ≤ x8 from fun q => by
      have := Int64.le_iff_toInt_le.mp q
      simp only [Int64.reduceToInt] at this
      omega)]
    exact oU_0 k6 (Or.inr ⟨rfl, fun i i1 _ => ur_d k5 g2 i i1⟩)
theorem jU_93 {kt : Int64 → Int32 → jS → Option (Int64 × jS)} {x6 x8 : Int64} {x5 : Int32} {x : Int} (hk : ckF T a h c) (b1 : x ≤ 10413791999) (b2 : (T.2.1 c 4).toInt ≤ x) (hn : ∀ i, i ≤ x → (T.2.1 c 4).toInt ≤ i → 0 ≤ i → ¬ Fr T a h c i) (hr : uL T a h x6.toInt x8.toInt) (hkt : 0 < (T.2.1 c 4).toInt → ∀ z : Int64, z.toInt < (T.2.1 c 4).toInt → -60000 ≤ z.toInt → oU T a h c z.toInt (kt z (x5 + 1) T)) : oU T a h c x (J_F_latestUpTo_93 kt x5 x6 x8 T) := by
  have k := hk
  obtain ⟨k1, k2, k3, k4, k5, k6⟩ := k
  obtain ⟨z1, z2, z3, z4, -⟩ := id k5
  unfold J_F_latestUpTo_93
  simp only [k3, jl_]
  simp only [j_qt k4]
  by_cases q : 0 < (T.2.1 c 4).toInt
  · rw [if_pos (show (0 : Int64) < T.2.1 c 4 from Int64.lt_iff_toInt_lt.mpr (by simp only [Int64.reduceToInt]; omega))]
    have q2 := hkt q
    clear hkt
    have e0 : (T.2.1 c 4 - 1).toInt = (T.2.1 c 4).toInt - 1 := by
      rw [Int64.toInt_sub]
      simp only [Int64.reduceToInt]
      exact bs64 (by omega) (by omega)
    obtain ⟨w, hw, e1⟩ : ∃ w, T.2.1 c 4 - 1 = w ∧ w.toInt = (T.2.1 c 4).toInt - 1 := ⟨_, rfl, e0⟩
    rw [hw]
    clear hw e0
    have e2 : (w + (T.1 c 0).toInt64 + (T.1 c 1).toInt64).toInt = w.toInt + (T.1 c 0).toInt + (T.1 c 1).toInt := by
      simp (disch := omega) only [Int64.toInt_add, Int32.toInt_toInt64, bs64]
    refine oU_s (x' := w.toInt) (by omega) (fun i i1 i2 i3 => hn i i1 (by omega) i3) ?_
    have q3 : ∀ z : Int64, z.toInt ≤ w.toInt → -60000 ≤ z.toInt → oU T a h c z.toInt (kt z (x5 + 1) T) := fun z y1 y2 => q2 z (by omega) y2
    clear q2 hn
    by_cases g : w + (T.1 c 0).toInt64 + (T.1 c 1).toInt64 ≤ x6
    · rw [if_pos g]
      have g' := Int64.le_iff_toInt_le.mp g
      rw [e2] at g'
      refine jU_169 hk (by omega) (by omega) ?_ q3
      rcases hr with ⟨h1, h2, h3, h4⟩ | ⟨h1, h2⟩
      · exact Or.inl ⟨h2, (lf_b h3).2, fun i i1 i2 => h4 i (by omega) i2⟩
      · exact Or.inr ⟨h1, fun i i1 => h2 i (by omega)⟩
    · rw [if_neg g]
      obtain ⟨y, y1, y2⟩ := fF_luv (x := w + (T.1 c 0).toInt64 + (T.1 c 1).toInt64) k1 k2 (by rw [e2]; omega) (by rw [e2]; omega)
      rw [y1]
      simp only [ob_]
      rw [e2] at y2
      refine jU_169 hk (by omega) (by omega) ?_ q3
      rcases y2 with ⟨h1, h2, h3, h4⟩ | ⟨h1, h2⟩
      · exact Or.inl ⟨h2, (lf_b h3).2, h4⟩
      · exact Or.inr ⟨h1, h2⟩
  · rw [if_neg (show ¬ (0 : Int64) < T.2.1 c 4 from fun w => by
      have := Int64.lt_iff_toInt_lt.mp w
      simp only [Int64.reduceToInt] at this
      omega)]
    exact oU_0 k6 (Or.inr ⟨rfl, fun i i1 i2 => hn i i1 (by omega) i2⟩)
theorem lU_9 : ∀ (f : Nat) (x3 : Int64) (x5 : Int32) (T : jS), ckF T a h c → -60000 ≤ x3.toInt → x3.toInt ≤ 10413791999 → 0 ≤ x5.toInt → (mU T c x3.toInt : Int) + x5.toInt ≤ 9000 → mU T c x3.toInt < f → oU T a h c x3.toInt (L_F_latestUpTo_9 f x3 x5 T) := by
  intro f
  induction f with
  | zero => intro x3 x5 T _ _ _ _ _ q; omega
  | succ f ih =>
    intro x3 x5 T hk b1 b2 b3 b4 b5
    have k := hk
    obtain ⟨k1, k2, k3, k4, k5, k6⟩ := k
    obtain ⟨z1, z2, z3, z4, -⟩ := id k5
    unfold L_F_latestUpTo_9
    rw [if_neg (show ¬ (10000 : Int32) ≤ x5 from fun w => by
      have := Int32.le_iff_toInt_le.mp w
      simp only [Int32.reduceToInt] at this
      omega)]
    by_cases q : x3 < (0 : Int64)
    · rw [if_pos q]
      have q' := Int64.lt_iff_toInt_lt.mp q
      simp only [Int64.reduceToInt] at q'
      exact oU_0 k6 (Or.inr ⟨rfl, fun i i1 i2 => by omega⟩)
    · rw [if_neg q]
      have q' : 0 ≤ x3.toInt := by
        have := Int64.le_iff_toInt_le.mp (Int64.not_lt.mp q)
        simp only [Int64.reduceToInt] at this
        omega
      clear q
      simp only [k3, jl_]
      rw [j_qt k4]
      obtain ⟨s, u, o, e1, e2, e3, e4⟩ := fZ_off (x := x3) k5 k6 (by omega) (by omega)
      rw [e1]
      simp only [ob_]
      have hk2 := zw_ckF hk e2
      refine oU_w (s := s) (u := u) (o := o) hk ?_
      have ob := zof_b k5 (e2.1 x3.toInt e3 e4)
      have e2' := e2
      rw [← zw_zst (s := s) (u := u) (o := o)] at e2'
      obtain ⟨d1, d2, d3⟩ := e2'
      have ez : ∀ x, s.toInt ≤ x → x < u.toInt → zof (zw T c s u o) c x o.toInt := d1
      have hs : (zw T c s u o).2.1 c 4 = s := zw_24
      have ho : (zw T c s u o).1 c 6 = o := zw_16
      have hm : mU (zw T c s u o) c x3.toInt = mU T c x3.toInt := zw_mU _
      have h32 : (zw T c s u o).2.2 32 1 = c := k3
      simp only [h32, j_qt k4, hs, ho, fmax2, ob_]
      clear e1 e2 k1 k2 k3 k5 k6 hk d1 d3
      generalize zw T c s u o = V at *
      rw [← hm] at b4 b5
      clear hm
      have e6 : (x3 + o.toInt64).toInt = x3.toInt + o.toInt := by
        simp (disch := omega) only [Int64.toInt_add, Int32.toInt_toInt64, bs64]
      obtain ⟨y, y1, y2⟩ := fF_luv (x := x3 + o.toInt64) hk2.1 hk2.2.1 (by rw [e6]; omega) (by rw [e6]; omega)
      rw [y1]
      simp only [ob_]
      obtain ⟨m, hm, m1, m2, m3⟩ : ∃ m : Int, (if s.toInt < (0 : Int64).toInt then (0 : Int64).toInt else s.toInt) = m ∧ s.toInt ≤ m ∧ 0 ≤ m ∧ (m = s.toInt ∨ m = 0) := by
        simp only [Int64.reduceToInt]
        refine ⟨_, rfl, ?_, ?_, ?_⟩ <;> split <;> omega
      rw [hm]
      clear hm
      have sb := hiL s
      have em : (Int64.ofInt m).toInt = m := tL (by omega) (by omega)
      generalize Int64.ofInt m = mm_ at *
      have go : (∀ i, i ≤ x3.toInt + o.toInt → m + o.toInt ≤ i → ¬ lf V a h i) → oU V a h c x3.toInt (J_F_latestUpTo_93 (L_F_latestUpTo_9 f) x5 (x3 + o.toInt64) y V) := by
        intro hno
        refine jU_93 hk2 b2 (by rw [hs]; exact e3) ?_ y2 ?_
        · rw [hs]
          exact ur_b ez e4 (fun i i1 i2 i3 => hno i i1 (by omega))
        · rw [hs]
          intro w1 z w2 w3
          have e7 : (x5 + 1).toInt = x5.toInt + 1 := by
            rw [Int32.toInt_add]
            exact bs32 (by simp only [Int32.reduceToInt]; omega) (by simp only [Int32.reduceToInt]; omega)
          have lt : mU V c z.toInt < mU V c x3.toInt := by
            rcases d2 with w | ⟨-, w⟩
            · omega
            · exact mU_lt w e3 w2
          refine ih z (x5 + 1) V hk2 w3 (by omega) ?_ ?_ ?_
          · rw [e7]; omega
          · rw [e7]; omega
          · omega
      rw [e6] at y2
      rcases y2 with ⟨g1, g2, g3, g4⟩ | ⟨g1, g2⟩
      · rw [if_neg (show ¬ y < 0 from fun w => by
          have := Int64.lt_iff_toInt_lt.mp w
          simp only [Int64.reduceToInt] at this
          omega)]
        have hy := lf_b g3
        have e8 : (y - o.toInt64).toInt = y.toInt - o.toInt := by
          simp (disch := omega) only [Int64.toInt_sub, Int32.toInt_toInt64, bs64]
        by_cases w : y - o.toInt64 < mm_
        · rw [if_pos w]
          have w' := Int64.lt_iff_toInt_lt.mp w
          rw [e8, em] at w'
          exact go (fun i i1 i2 => g4 i i1 (by omega))
        · rw [if_neg w]
          have w' : m ≤ y.toInt - o.toInt := by
            have := Int64.le_iff_toInt_le.mp (Int64.not_lt.mp w)
            rw [e8, em] at this
            omega
          obtain ⟨f1, f2⟩ := ur_a ez e4 g1 g3 g4 (by omega)
          refine oU_0 hk2.2.2.2.2.2 (Or.inl ⟨y.toInt - o.toInt, ?_, by omega, by omega, f1, f2⟩)
          rw [Int64.toInt_mul, e8]
          simp only [Int64.reduceToInt]
          rw [bs64 (by omega) (by omega)]
          omega
      · rw [if_pos (show y < 0 from Int64.lt_iff_toInt_lt.mpr (by simp only [Int64.reduceToInt]; omega))]
        exact go (fun i i1 _ => g2 i i1)
theorem fF_last {p : Int64} (hk : ckF S a h c) (h1 : 0 ≤ p.toInt) (h2 : p.toInt ≤ 10413791999999) : oU S a h c (p.toInt / 1000) (F_F_latestUpTo p S) := by
  unfold F_F_latestUpTo
  rw [jl_]
  have e1 := dv1000 h1 h2
  have b := mU_b (S := S) (c := c) (x := p.toInt / 1000)
  have := lU_9 (a := a) (h := h) (c := c) ju_ (p / 1000) 0 S hk (by rw [e1]; omega) (by rw [e1]; omega) (by simp only [Int32.reduceToInt]; omega) (by rw [e1]; simp only [Int32.reduceToInt]; omega) (by rw [e1]; show _ < 1000000; omega)
  rw [e1] at this
  exact this
end JK_4
