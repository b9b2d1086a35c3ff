section JL_3
variable {S V : jS} {a h c k z : Nat} {x1 x2 x3 : Int32}
variable {y_ m_ d_ : Int32}
theorem dS_zB (hc : c < 200) (y : Int) : zB (dt_S S y_ m_ d_) c y = zB S c y := by
  unfold zB rsS
  simp only [dS_1 (show c ≠ 215 by omega), dS_1 (show c + 1 ≠ 215 by omega)]
theorem dS_zE (hc : c < 200) (y : Int) : zE (dt_S S y_ m_ d_) c y = zE S c y := by
  unfold zE rsS
  simp only [dS_1 (show c ≠ 215 by omega), dS_1 (show c + 2 ≠ 215 by omega)]
theorem dS_zok (hc : c < 200) : zok (dt_S S y_ m_ d_) c = zok S c := by
  unfold zok rkS
  simp only [dS_1 (show c ≠ 215 by omega), dS_1 (show c + 1 ≠ 215 by omega), dS_1 (show c + 2 ≠ 215 by omega)]
theorem dS_zof (hc : c < 200) (x r : Int) : zof (dt_S S y_ m_ d_) c x r = zof S c x r := by
  unfold zof zsum
  simp only [dS_1 (show c ≠ 215 by omega), dS_zB hc, dS_zE hc]
theorem dS_zR (hc : c < 200) : zR (dt_S S y_ m_ d_) c z = zR S c z := by
  unfold zR zP
  simp only [dS_1 (show c ≠ 215 by omega), dS_1 (show 217 ≠ 215 by omega), dS_1 (show 218 ≠ 215 by omega), dS_1 (show 237 ≠ 215 by omega), dS_1 (show 229 + z ≠ 215 by omega), dS_2, dS_zB hc, dS_zE hc]
theorem dS_lf (ha : a < 200) (hh : h < 200) (x : Int) : lf (dt_S S y_ m_ d_) a h x = lf S a h x := by
  unfold lf
  simp only [dS_fN ha hh, dS_tkS]
theorem dS_Fr (ha : a < 200) (hh : h < 200) (hc : c < 200) (x : Int) : Fr (dt_S S y_ m_ d_) a h c x = Fr S a h c x := by
  unfold Fr
  simp only [dS_zof hc, dS_lf ha hh]
theorem dS_rF (ha : a < 200) (hh : h < 200) (hc : c < 200) (x r : Int) : rF (dt_S S y_ m_ d_) a h c x r = rF S a h c x r := by
  unfold rF
  simp only [dS_Fr ha hh hc]
theorem dS_uF (ha : a < 200) (hh : h < 200) (hc : c < 200) (x r : Int) : uF (dt_S S y_ m_ d_) a h c x r = uF S a h c x r := by
  unfold uF
  simp only [dS_Fr ha hh hc]
theorem dS_id : dt_S S (S.1 215 4) (S.1 215 5) (S.1 215 6) = S := by
  apply S_ext
  · intro b j
    by_cases hb : b = 215
    · subst hb
      by_cases h4 : j = 4
      · subst h4; rw [dS_y]
      · by_cases h5 : j = 5
        · subst h5; rw [dS_m]
        · by_cases h6 : j = 6
          · subst h6; rw [dS_d]
          · rw [dS_o h4 h5 h6]
    · rw [dS_1 hb]
  · intro b j; rfl
  · intro b j; rfl
/-- all that the model's search needs -/
def ckM (S : jS) (a h c k z : Nat) (x3 : Int32) : Prop := a < 200 ∧ h < 200 ∧ c < 200 ∧ k < 16 ∧ z < 8 ∧ -1 ≤ x3.toInt ∧ x3.toInt < 4 ∧ ckD S a ∧ cR S a k ∧ hR S h x3 ∧ zok S c ∧ zR S c z
theorem dS_ckM : ckM (dt_S S y_ m_ d_) a h c k z x3 ↔ ckM S a h c k z x3 := by
  unfold ckM
  constructor
  · rintro ⟨b1, b2, b3, b4, b5, b6, b7, q1, q2, q3, q4, q5⟩
    rw [dS_ckD (by omega)] at q1
    rw [dS_cR (by omega)] at q2
    rw [dS_hR b2] at q3
    rw [dS_zok b3] at q4
    rw [dS_zR b3] at q5
    exact ⟨b1, b2, b3, b4, b5, b6, b7, q1, q2, q3, q4, q5⟩
  · rintro ⟨b1, b2, b3, b4, b5, b6, b7, q1, q2, q3, q4, q5⟩
    rw [dS_ckD (by omega), dS_cR (by omega), dS_hR b2, dS_zok b3, dS_zR b3]
    exact ⟨b1, b2, b3, b4, b5, b6, b7, q1, q2, q3, q4, q5⟩
/-- a search of the model that ends well -/
def oM (S : jS) (a h c : Nat) (x : Int) (R : Option (Int64 × jS)) : Prop := ∃ r y m d, R = some (r, dt_S S y m d) ∧ rF S a h c x r.toInt
def oN (S : jS) (a h c : Nat) (x : Int) (R : Option (Int64 × jS)) : Prop := ∃ r y m d, R = some (r, dt_S S y m d) ∧ uF S a h c x r.toInt
theorem oM_0 {x : Int} {r : Int64} (hr : rF S a h c x r.toInt) : oM S a h c x (some (r, S)) := ⟨r, S.1 215 4, S.1 215 5, S.1 215 6, by rw [dS_id], hr⟩
theorem oN_0 {x : Int} {r : Int64} (hr : uF S a h c x r.toInt) : oN S a h c x (some (r, S)) := ⟨r, S.1 215 4, S.1 215 5, S.1 215 6, by rw [dS_id], hr⟩
theorem oM_w {x : Int} {R : Option (Int64 × jS)} (hk : ckM S a h c k z x3) (hr : oM (dt_S S y_ m_ d_) a h c x R) : oM S a h c x R := by
  obtain ⟨r, y, m, d, e1, e2⟩ := hr
  rw [dS_dS] at e1
  rw [dS_rF hk.1 hk.2.1 hk.2.2.1] at e2
  exact ⟨r, y, m, d, e1, e2⟩
theorem oN_w {x : Int} {R : Option (Int64 × jS)} (hk : ckM S a h c k z x3) (hr : oN (dt_S S y_ m_ d_) a h c x R) : oN S a h c x R := by
  obtain ⟨r, y, m, d, e1, e2⟩ := hr
  rw [dS_dS] at e1
  rw [dS_uF hk.1 hk.2.1 hk.2.2.1] at e2
  exact ⟨r, y, m, d, e1, e2⟩
theorem oM_s {x x' : Int} {R : Option (Int64 × jS)} (h1 : x ≤ x') (hn : ∀ i, x ≤ i → i < x' → ¬ Fr S a h c i) (hr : oM S a h c x' R) : oM S a h c x R := by
  obtain ⟨r, y, m, d, e1, e2⟩ := hr
  exact ⟨r, y, m, d, e1, rF_s h1 hn e2⟩
theorem oN_s {x x' : Int} {R : Option (Int64 × jS)} (h1 : x' ≤ x) (hn : ∀ i, i ≤ x → x' < i → 0 ≤ i → ¬ Fr S a h c i) (hr : oN S a h c x' R) : oN S a h c x R := by
  obtain ⟨r, y, m, d, e1, e2⟩ := hr
  exact ⟨r, y, m, d, e1, uF_s h1 hn e2⟩
theorem l32 {n : Int} (h1 : -1000000 ≤ n) (h2 : n ≤ 1000000) : ((Int64.ofInt n).toInt32).toInt = n := by
  rw [Int64.toInt_toInt32, tL (by omega) (by omega), bs32 (by omega) (by omega)]
/-- behind the stretch -/
theorem nF_208 {kt : Int32 → Int32 → Int32 → Int32 → Int64 → jS → Option (Int64 × jS)} {x6 : Int32} {x7 x9 : Int64} {n p : Nat} (i2 : x2.toInt = z) (hz : z < 8) (hn : (V.1 237 z).toInt = n) (h6 : x6.toInt = p) (b7 : -1000000 ≤ x7.toInt) (b8 : x7.toInt ≤ 10420000000) (b9 : -1000000 ≤ x9.toInt) (b10 : x9.toInt ≤ 10413791999) (hl : n ≤ p → x9.toInt = 10413791999) (hno : ∀ i, x7.toInt ≤ i → i ≤ x9.toInt → ¬ Fr V a h c i) (hk : p < n → ¬ x9.toInt = 10413791999 → ∀ w : Int64, x7.toInt ≤ w.toInt → x9.toInt + 1 ≤ w.toInt → (w.toInt = x7.toInt ∨ w.toInt = x9.toInt + 1) → oM V a h c w.toInt (kt x1 x2 x3 (x6 + 1) w V)) : oM V a h c x7.toInt (J_M_nextFire_208 kt x1 x2 x3 x6 x7 x9 V) := by
  unfold J_M_nextFire_208
  rw [j_qi (by omega) (by omega), clN i2]
  by_cases q : n ≤ p
  · rw [if_pos (show V.1 237 z ≤ x6 from Int32.le_iff_toInt_le.mpr (by rw [hn, h6]; omega))]
    have := hl q
    exact oM_0 (Or.inr ⟨rfl, fun i i1 i2 => hno i i1 (by omega)⟩)
  · rw [if_neg (show ¬ V.1 237 z ≤ x6 from fun w => q (by
      have := Int32.le_iff_toInt_le.mp w
      rw [hn, h6] at this
      omega))]
    by_cases g : x9.toInt = 10413791999
    · rw [if_pos (show x9 = 10413791999 from eqL.mpr (by rw [g]; rfl))]
      exact oM_0 (Or.inr ⟨rfl, fun i i1 i2 => hno i i1 (by omega)⟩)
    · rw [if_neg (show ¬ x9 = 10413791999 from fun w => g (by rw [w]; rfl)), fmax2]
      simp only [ob_]
      have e1 : (x9 + 1).toInt = x9.toInt + 1 := by
        rw [Int64.toInt_add]
        simp only [Int64.reduceToInt]
        exact bs64 (by omega) (by omega)
      rw [e1]
      obtain ⟨m, hm, m1, m2, m3⟩ : ∃ m : Int, (if x7.toInt < x9.toInt + 1 then x9.toInt + 1 else x7.toInt) = m ∧ x7.toInt ≤ m ∧ x9.toInt + 1 ≤ m ∧ (m = x7.toInt ∨ m = x9.toInt + 1) := by
        refine ⟨_, rfl, ?_, ?_, ?_⟩ <;> split <;> omega
      rw [hm]
      have e2 : (Int64.ofInt m).toInt = m := tL (by omega) (by omega)
      generalize Int64.ofInt m = w at *
      refine oM_s (x' := w.toInt) (by omega) (fun i i1 i2 => hno i i1 (by omega)) (hk (by omega) g w (by omega) (by omega) (by omega))
end JL_3
