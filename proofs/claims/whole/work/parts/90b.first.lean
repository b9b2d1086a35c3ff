section JK_2
variable {a h c : Nat} {S T : jS}
theorem fr_a {s u o x z : Int} (hz : ∀ x, s ≤ x → x < u → zof S c x o) (hs : s ≤ x) (hL : x + o ≤ z) (hlf : lf S a h z) (hn : ∀ i, x + o ≤ i → i < z → ¬ lf S a h i) (hu : z - o < u) : Fr S a h c (z - o) ∧ ∀ i, x ≤ i → i < z - o → ¬ Fr S a h c i := by
  refine ⟨⟨o, hz _ (by omega) hu, ?_⟩, fun i i1 i2 => ?_⟩
  · rw [show z - o + o = z by omega]
    exact hlf
  · rintro ⟨r, r1, r2⟩
    have e := zof_u r1 (hz i (by omega) (by omega))
    rw [e] at r2
    exact hn _ (by omega) (by omega) r2
theorem fr_b {s u o x : Int} (hz : ∀ x, s ≤ x → x < u → zof S c x o) (hs : s ≤ x) (hn : ∀ i, x + o ≤ i → i < u + o → ¬ lf S a h i) : ∀ i, x ≤ i → i < u → ¬ Fr S a h c i := by
  intro i i1 i2
  rintro ⟨r, r1, r2⟩
  have e := zof_u r1 (hz i (by omega) (by omega))
  rw [e] at r2
  exact hn _ (by omega) (by omega) r2
theorem fr_c {u y : Int} (hz : zok S c) (hn : ∀ i, u + (S.1 c 0).toInt ≤ i → i < y → ¬ lf S a h i) : ∀ i, u ≤ i → i + (S.1 c 0).toInt + (S.1 c 1).toInt < y → ¬ Fr S a h c i := by
  intro i i1 i2
  rintro ⟨r, r1, r2⟩
  have e := zof_b hz r1
  exact hn _ (by omega) (by omega) r2
theorem fr_d {u : Int} (hz : zok S c) (hn : ∀ i, u + (S.1 c 0).toInt ≤ i → ¬ lf S a h i) : ∀ i, u ≤ i → ¬ Fr S a h c i := by
  intro i i1
  rintro ⟨r, r1, r2⟩
  have e := zof_b hz r1
  exact hn _ (by omega) r2
theorem rF_s {x x' r : Int} (h1 : x ≤ x') (hn : ∀ i, x ≤ i → i < x' → ¬ Fr S a h c i) (hr : rF S a h c x' r) : rF S a h c x r := by
  rcases hr with ⟨v, v1, v2, v3, v4, v5⟩ | ⟨v1, v2⟩
  · refine Or.inl ⟨v, v1, by omega, v3, v4, fun i i1 i2 => ?_⟩
    by_cases q : i < x'
    · exact hn i i1 q
    · exact v5 i (by omega) i2
  · refine Or.inr ⟨v1, fun i i1 i2 => ?_⟩
    by_cases q : i < x'
    · exact hn i i1 q
    · exact v2 i (by omega) i2
def ckF (S : jS) (a h c : Nat) : Prop := ckA S a h ∧ ckV S a ∧ S.2.2 32 1 = c ∧ jz_ c = true ∧ zok S c ∧ zca S c
theorem cf_ne (hk : ckF S a h c) : a ≠ c ∧ a + 1 ≠ c ∧ h ≠ c ∧ h + 1 ≠ c := by
  obtain ⟨⟨-, -, c3, -, -, c6, -⟩, -, -, c7, -⟩ := hk
  have := jc_b c3
  have := jh_b c6
  have := jz_b c7
  omega
theorem zw_ckV {s u : Int64} {o : Int32} (ha1 : a + 1 ≠ c) : ckV (zw S c s u o) a = ckV S a := by
  unfold ckV vd
  simp only [zw_ckU ha1, zw_2 ha1]
theorem zw_Fr {s u : Int64} {o : Int32} (hk : ckF S a h c) (x : Int) : Fr (zw S c s u o) a h c x = Fr S a h c x := by
  obtain ⟨n1, n2, n3, n4⟩ := cf_ne hk
  unfold Fr
  simp only [zw_zof, zw_lf n1 n2 n3 n4]
theorem zw_rF {s u : Int64} {o : Int32} (hk : ckF S a h c) (x r : Int) : rF (zw S c s u o) a h c x r = rF S a h c x r := by
  unfold rF
  simp only [zw_Fr hk]
theorem zw_uF {s u : Int64} {o : Int32} (hk : ckF S a h c) (x r : Int) : uF (zw S c s u o) a h c x r = uF S a h c x r := by
  unfold uF
  simp only [zw_Fr hk]
theorem zw_mF {s u : Int64} {o : Int32} (x : Int) : mF (zw S c s u o) c x = mF S c x := by
  unfold mF
  simp only [zw_zB, zw_zE]
theorem zw_mU {s u : Int64} {o : Int32} (x : Int) : mU (zw S c s u o) c x = mU S c x := by
  unfold mU
  simp only [zw_zB, zw_zE]
theorem zw_ckF {s u : Int64} {o : Int32} (hk : ckF S a h c) (hs : zst S c s.toInt u.toInt o.toInt) : ckF (zw S c s u o) a h c := by
  obtain ⟨n1, n2, n3, n4⟩ := cf_ne hk
  obtain ⟨k1, k2, k3, k4, k5, k6⟩ := hk
  refine ⟨?_, ?_, k3, k4, ?_, ?_⟩
  · rw [zw_ckA n1 n2 n3 n4]; exact k1
  · rw [zw_ckV n2]; exact k2
  · rw [zw_zok]; exact k5
  · rw [zw_zca]; exact Or.inr hs
/-- a search that ends well -/
def oF (S : jS) (a h c : Nat) (x : Int) (R : Option (Int64 × jS)) : Prop := ∃ r s u o, R = some (r, zw S c s u o) ∧ rF S a h c x r.toInt ∧ zca (zw S c s u o) c
def oU (S : jS) (a h c : Nat) (x : Int) (R : Option (Int64 × jS)) : Prop := ∃ r s u o, R = some (r, zw S c s u o) ∧ uF S a h c x r.toInt ∧ zca (zw S c s u o) c
theorem oF_0 {x : Int} {r : Int64} (hc : zca S c) (hr : rF S a h c x r.toInt) : oF S a h c x (some (r, S)) := by
  refine ⟨r, S.2.1 c 4, S.2.1 c 5, S.1 c 6, ?_, hr, ?_⟩
  · rw [zw_id]
  · rw [zw_id]; exact hc
theorem oU_0 {x : Int} {r : Int64} (hc : zca S c) (hr : uF S a h c x r.toInt) : oU S a h c x (some (r, S)) := by
  refine ⟨r, S.2.1 c 4, S.2.1 c 5, S.1 c 6, ?_, hr, ?_⟩
  · rw [zw_id]
  · rw [zw_id]; exact hc
theorem oF_w {x : Int} {R : Option (Int64 × jS)} {s u : Int64} {o : Int32} (hk : ckF S a h c) (hr : oF (zw S c s u o) a h c x R) : oF S a h c x R := by
  obtain ⟨r, s', u', o', e1, e2, e3⟩ := hr
  rw [zw_zw] at e1 e3
  rw [zw_rF hk] at e2
  exact ⟨r, s', u', o', e1, e2, e3⟩
theorem oU_w {x : Int} {R : Option (Int64 × jS)} {s u : Int64} {o : Int32} (hk : ckF S a h c) (hr : oU (zw S c s u o) a h c x R) : oU S a h c x R := by
  obtain ⟨r, s', u', o', e1, e2, e3⟩ := hr
  rw [zw_zw] at e1 e3
  rw [zw_uF hk] at e2
  exact ⟨r, s', u', o', e1, e2, e3⟩
theorem oF_s {x x' : Int} {R : Option (Int64 × jS)} (h1 : x ≤ x') (hn : ∀ i, x ≤ i → i < x' → ¬ Fr S a h c i) (hr : oF S a h c x' R) : oF S a h c x R := by
  obtain ⟨r, s', u', o', e1, e2, e3⟩ := hr
  exact ⟨r, s', u', o', e1, rF_s h1 hn e2, e3⟩
theorem lf_b {x : Int} (hf : lf S a h x) : 0 ≤ x ∧ x < 10413792000 := by
  have := fN_b hf.1
  omega
/-- the search goes on behind the change x3 -/
theorem jF_175 {kt : Int64 → Int32 → jS → Option (Int64 × jS)} {x3 x8 : Int64} {x5 : Int32} (hk : ckF T a h c) (b1 : 0 ≤ x3.toInt) (b2 : x3.toInt ≤ 10413791999) (hr : rL T a h (x3.toInt + (T.1 c 0).toInt) x8.toInt ∨ (0 ≤ x8.toInt ∧ x8.toInt < 10413792000 ∧ ∀ i, x3.toInt + (T.1 c 0).toInt ≤ i → i < x8.toInt → ¬ lf T a h i) ∨ (x8.toInt = -1 ∧ ∀ i, x3.toInt + (T.1 c 0).toInt ≤ i → ¬ lf T a h i)) (hkt : ∀ z : Int64, x3.toInt ≤ z.toInt → z.toInt ≤ 10420000000 → oF T a h c z.toInt (kt z (x5 + 1) T)) : oF T a h c x3.toInt (J_F_firstAfter_175 kt x3 x5 x8 T) := by
  have hr2 : (0 ≤ x8.toInt ∧ x8.toInt < 10413792000 ∧ ∀ i, x3.toInt + (T.1 c 0).toInt ≤ i → i < x8.toInt → ¬ lf T a h i) ∨ (x8.toInt = -1 ∧ ∀ i, x3.toInt + (T.1 c 0).toInt ≤ i → ¬ lf T a h i) := by
    rcases hr with (⟨g1, g2, g3, g4⟩ | ⟨g1, g2⟩) | g | g
    · exact Or.inl ⟨g2, (lf_b g3).2, g4⟩
    · exact Or.inr ⟨g1, g2⟩
    · exact Or.inl g
    · exact Or.inr g
  clear hr
  obtain ⟨k1, k2, k3, k4, k5, k6⟩ := hk
  unfold J_F_firstAfter_175
  rw [k3, j_qt k4, j_qt k4]
  rcases hr2 with ⟨g1, g2, g3⟩ | ⟨g1, g2⟩
  · rw [if_pos (show (0 : Int64) ≤ x8 from Int64.le_iff_toInt_le.mpr (by simp only [Int64.reduceToInt]; omega)), fmax2]
    simp only [ob_]
    obtain ⟨z1, z2, z3, z4, -⟩ := id k5
    have e1 : (x8 - (T.1 c 0).toInt64 - (T.1 c 1).toInt64).toInt = x8.toInt - (T.1 c 0).toInt - (T.1 c 1).toInt := by
      simp (disch := omega) only [Int64.toInt_sub, Int32.toInt_toInt64, bs64]
    rw [e1]
    have e2 : (Int64.ofInt (if x3.toInt < x8.toInt - (T.1 c 0).toInt - (T.1 c 1).toInt then x8.toInt - (T.1 c 0).toInt - (T.1 c 1).toInt else x3.toInt)).toInt = if x3.toInt < x8.toInt - (T.1 c 0).toInt - (T.1 c 1).toInt then x8.toInt - (T.1 c 0).toInt - (T.1 c 1).toInt else x3.toInt := tL (by split <;> omega) (by split <;> omega)
    have e3 : x3.toInt ≤ if x3.toInt < x8.toInt - (T.1 c 0).toInt - (T.1 c 1).toInt then x8.toInt - (T.1 c 0).toInt - (T.1 c 1).toInt else x3.toInt := by split <;> omega
    have e4 : (if x3.toInt < x8.toInt - (T.1 c 0).toInt - (T.1 c 1).toInt then x8.toInt - (T.1 c 0).toInt - (T.1 c 1).toInt else x3.toInt) ≤ 10420000000 := by split <;> omega
    refine oF_s (x' := (Int64.ofInt (if x3.toInt < x8.toInt - (T.1 c 0).toInt - (T.1 c 1).toInt then x8.toInt - (T.1 c 0).toInt - (T.1 c 1).toInt else x3.toInt)).toInt) (by rw [e2]; exact e3) (fun i i1 i2 => ?_) (hkt _ (by rw [e2]; exact e3) (by rw [e2]; exact e4))
    rw [e2] at i2
    refine fr_c k5 g3 i i1 ?_
    split at i2 <;> omega
  · rw [if_neg (show ¬ (0 : Int64) ≤ x8 from fun q => by
      have := Int64.le_iff_toInt_le.mp q
      simp only [Int64.reduceToInt] at this
      omega)]
    exact oF_0 k6 (Or.inr ⟨rfl, fun i i1 _ => fr_d k5 g2 i i1⟩)
end JK_2
