section KB_3
theorem si_z {a : Nat} (h1 : a ≠ 24) (h2 : a ≠ 25) (h3 : a ≠ 215) : s_i a = fun _ => 0 := by
  funext k
  unfold s_i
  rw [if_neg h1, if_neg h2, if_neg h3]
theorem sl_n {a : Nat} (h : ¬ jz_ a = true) : s_l a = fun _ => 0 := by
  funext k
  unfold s_l
  rw [if_neg h]
theorem rp_i (n : Nat) : List.replicate n (Value.int 0) = jx_vi n (fun _ => 0) := by
  unfold jx_vi
  rw [List.map_const', List.length_range]
theorem rp_l (n : Nat) : List.replicate n (Value.long 0) = jx_vl n (fun _ => 0) := by
  unfold jx_vl
  rw [List.map_const', List.length_range]
theorem s0_m {L : Nat} {xs : Nat → Int32} (N : jx_H) (f : jx_fq (jx_C (200, jx_vi L xs)) ja_h6 N) : mm 0 s_0 N ∧ N[0]? = some (200, jx_vi L xs) ∧ N[453]? = some (jl_out 0) := by
  obtain ⟨f1, f2, f3⟩ := f
  have hl : N.length = 454 := f1.trans s0_l
  have ng : ∀ a, jx_SS a = false → N[a]? = ja_h6[a]? := fun a h => f2 a (by show (jx_SS a && decide (a < List.length ja_h6)) = false; rw [h]; rfl)
  have ys : ∀ a, a < 454 → jx_SS a = true → N[a]? = jx_C (200, jx_vi L xs) a := fun a ha h => (f3 a (by show (jx_SS a && decide (a < List.length ja_h6)) = true; rw [h, s0_l]; simpa using ha)).2
  refine ⟨⟨by omega, fun a h1 h2 => ?_, fun a h1 h2 => ?_, Or.inl rfl⟩, ?_, ?_⟩
  · show N[a]? = some (j_cl a (s_i a) (s_l a) (s_r a))
    cases hs : jx_SS a with
    | false => rw [ng a hs]; exact s0_c ⟨a, h2⟩ h1 hs
    | true =>
      rw [ys a (by omega) hs]
      simp only [jx_SS, Bool.or_eq_true, Bool.and_eq_true, decide_eq_true_eq] at hs
      rw [si_z (by omega) (by omega) (by omega), sl_n (jz_n (by omega))]
      unfold jx_C
      rw [if_neg (by omega)]
      by_cases q1 : a ≤ 227
      · rw [if_pos q1, (kc_ev (a := a) (by simp only [jr_, Bool.and_eq_true, decide_eq_true_eq]; omega)).2.2, rp_l]
      · rw [if_neg q1]
        by_cases q2 : a ≤ 236
        · rw [if_pos q2, (kc_bg (a := a) (by simp only [jr_, Bool.and_eq_true, decide_eq_true_eq]; omega)).2.2, rp_i]
        · rw [if_neg q2]
          by_cases q3 : a ≤ 367
          · rw [if_pos q3, (kc_sb (a := a) (by simp only [jf_, Bool.and_eq_true, Bool.not_eq_true', decide_eq_false_iff_not, decide_eq_true_eq]; omega)).2.2, rp_i]
          · rw [if_neg q3, (kc_hr (a := a) (by simp only [jr_, Bool.and_eq_true, decide_eq_true_eq]; omega)).2.2, rp_i]
  · rw [ng a (by
      cases hs : jx_SS a with
      | false => rfl
      | true =>
        simp only [jx_SS, Bool.or_eq_true, Bool.and_eq_true, decide_eq_true_eq] at hs
        omega)]
    exact s0_k ⟨a, h2⟩ h1
  · rw [ys 0 (by omega) rfl]
    rfl
  · rw [ng 453 rfl]
    have e : ja_h6 = ja_h5 ++ [(103, [.long 0])] := rfl
    rw [e, List.getElem?_append_right (by rw [ja_l5]; exact Nat.le_refl _), ja_l5]
    rfl
theorem cN_z {A : Nat → Nat → Int} {k : Int} (n : Nat) (h : ∀ j, j < n → A j 0 ≤ k) : cN A k n = 0 := by
  induction n with
  | zero => rfl
  | succ n ih =>
    unfold cN
    rw [ih (fun j hj => h j (by omega)), if_pos (h n (by omega))]
/-- the numbers at the beginning -/
def a_0 (x y : Nat) : Int := if x = 100 ∧ y = 1 then 4 else 0
theorem s0_r : RJ RB 0 s_0 := by
  have i0 : ∀ a k, a ≠ 24 → a ≠ 25 → a ≠ 215 → s_0.1 a k = 0 := fun a k h1 h2 h3 => by
    show s_i a k = 0
    rw [si_z h1 h2 h3]
  have l0 : ∀ a k, ¬ jz_ a = true → s_0.2.1 a k = 0 := fun a k h => by
    show s_l a k = 0
    rw [sl_n h]
  have zt : ∀ z, z < 8 → jz_ (51 + 3 * z) = true := fun z hz => by
    simp only [jz_, Bool.or_eq_true, Bool.and_eq_true, decide_eq_true_eq]
    omega
  have ct : ∀ k, k < 16 → jc_ (75 + 2 * k) = true := fun k hk => by
    simp only [jc_, Bool.or_eq_true, Bool.and_eq_true, decide_eq_true_eq]
    omega
  refine ⟨⟨⟨⟨?_, ?_, ?_, fun j hj => ?_⟩, fun j hj => ?_⟩, ?_, ⟨?_, fun z hz => ?_, fun z z' hz hz' hn => ?_⟩, ⟨?_, fun k hk => ?_, fun z z' hz hz' hn => ?_⟩, ?_⟩, a_0, ⟨⟨fun b j x y q => ?_, fun b j x y q => ?_⟩, fun j hj q => ?_, ?_⟩, ⟨fun b j x y q => ?_, fun b j x y q => ?_⟩, ?_⟩
  · decide
  · decide
  · decide
  · exact absurd hj (by rw [show s_0.1 25 1 = 0 from rfl]; simp only [Int32.reduceToInt]; omega)
  · exact absurd hj (by rw [show s_0.1 25 1 = 0 from rfl]; simp only [Int32.reduceToInt]; omega)
  · decide
  · decide
  · rw [show s_0.2.2 27 z = 51 + 3 * z from rfl, show s_0.2.2 24 6 = 40 from rfl]
    have e0 : ∀ k, s_0.1 (51 + 3 * z) k = 0 := fun k => i0 _ k (by omega) (by omega) (by omega)
    refine ⟨zt z hz, by omega, ?_, Or.inl ?_, ⟨?_, ?_, Or.inl ⟨e0 1, i0 237 z (by omega) (by omega) (by omega)⟩⟩, fun j => Or.inl (i0 _ j (by omega) (by omega) (by omega))⟩
    · unfold zok
      rw [e0 0, e0 1]
      exact ⟨by decide, by decide, by decide, by decide, fun w => absurd rfl w⟩
    · show s_l (51 + 3 * z) 5 = _
      unfold s_l
      rw [if_pos (zt z hz), if_pos rfl]
    · rw [e0 0, i0 217 z (by omega) (by omega) (by omega)]; rfl
    · rw [e0 1, i0 218 z (by omega) (by omega) (by omega)]; rfl
  · rw [show s_0.2.2 27 z = 51 + 3 * z from rfl, show s_0.2.2 27 z' = 51 + 3 * z' from rfl]
    omega
  · decide
  · rw [show s_0.2.2 28 k = 75 + 2 * k from rfl, show s_0.2.2 24 7 = 43 from rfl]
    have e0 : ∀ j, s_0.1 (75 + 2 * k) j = 0 := fun j => i0 _ j (by omega) (by omega) (by omega)
    have e1 : ∀ j, s_0.2.1 (75 + 2 * k + 1) j = 0 := fun j => l0 _ j (jz_n (by omega))
    refine ⟨ct k hk, by omega, ?_, by rw [e1]; exact bt_0, Or.inl ⟨i0 376 k (by omega) (by omega) (by omega), fun j _ => e1 j⟩⟩
    unfold ckD
    simp only [e0, e1, bt_0]
    simp only [Int32.reduceToInt]
    exact ⟨by omega, by omega, fun w => by omega, fun w => by omega, fun w => by omega, fun w => by omega, by trivial, fun _ _ => by trivial, by trivial, fun _ _ => by trivial⟩
  · rw [show s_0.2.2 28 z = 75 + 2 * z from rfl, show s_0.2.2 28 z' = 75 + 2 * z' from rfl]
    omega
  · have hs : ∀ h, h ≠ 24 → h ≠ 25 → h ≠ 215 → hsk s_0 h := fun h h1 h2 h3 => by
      unfold hsk
      rw [i0 h 1 h1 h2 h3]
      simp only [Int32.reduceToInt]
      exact ⟨by omega, by omega, by omega, fun i j _ w => by omega⟩
    refine ⟨hs 30 (by omega) (by omega) (by omega), i0 30 1 (by omega) (by omega) (by omega), fun c hc => ⟨hs _ (by omega) (by omega) (by omega), fun D d1 d2 => ?_, ?_, fun d => Or.inl (i0 _ d (by omega) (by omega) (by omega))⟩⟩
    · constructor
      · rintro ⟨i, w, -⟩
        rw [i0 _ 1 (by omega) (by omega) (by omega)] at w
        simp only [Int32.reduceToInt] at w
        omega
      · rintro ⟨-, w⟩
        exact absurd (i0 _ D.toNat (by omega) (by omega) (by omega)) w
    · rw [i0 435 c (by omega) (by omega) (by omega), i0 (107 + 2 * c) 1 (by omega) (by omega) (by omega)]
  · unfold aiP at q
    unfold a_0
    by_cases w : b = 24 ∧ j = 15
    · obtain ⟨rfl, rfl⟩ := w
      rw [if_pos (by omega)]
      rfl
    · rw [if_neg (by omega)]
      have : s_0.1 b j = 0 := by
        by_cases v : b = 24
        · show s_i b j = 0
          unfold s_i
          rw [if_pos v, if_neg (by omega)]
        · exact i0 b j v (by omega) (by omega)
      rw [this]
      rfl
  · unfold alP at q
    unfold a_0
    rw [if_neg (by omega), l0 b j (jz_n (by omega))]
    rfl
  · unfold a_0
    rw [if_neg (by omega), l0 _ 6 (jz_n (by omega))]
    rfl
  · have z0 : ∀ j, j < 100 → a_0 j 0 = 0 := fun j hj => by unfold a_0; rw [if_neg (by omega)]
    have c0 : cN a_0 0 100 = 0 := cN_z 100 (fun j hj => by rw [z0 j hj]; exact Int.le_refl _)
    have c1 : cN a_0 1 100 = 0 := cN_z 100 (fun j hj => by rw [z0 j hj]; omega)
    unfold cS
    rw [c0, c1]
    exact ⟨⟨by decide, by decide, fun j hj _ => z0 j hj⟩, by decide, by decide, by omega, fun i hi => by omega, fun j hj w => by rw [z0 j hj] at w; omega, fun i i' hi => by omega⟩
  · unfold biP at q
    unfold a_0
    by_cases w : b = 215 ∧ j = 42
    · obtain ⟨rfl, rfl⟩ := w
      rw [if_pos (by omega)]
      rfl
    · rw [if_neg (by omega)]
      have : s_0.1 b j = 0 := by
        by_cases v : b = 215
        · show s_i b j = 0
          unfold s_i
          rw [if_neg (by omega), if_neg (by omega), if_pos v, if_neg (by omega), if_neg (by omega)]
        · exact i0 b j (by omega) (by omega) v
      rw [this]
      rfl
  · unfold blP at q
    unfold a_0
    rw [if_neg (by omega), l0 b j (jz_n (by omega))]
    rfl
  · have z0 : ∀ j k, ¬ (j = 100 ∧ k = 1) → a_0 j k = 0 := fun j k q => by unfold a_0; rw [if_neg q]
    have z1 : a_0 100 1 = 4 := rfl
    refine ⟨fun j hj => ?_, fun j j' hj hj' w => absurd (z0 j 0 (by omega)) w, ?_, ?_, ?_, ?_, ?_⟩
    · unfold jI
      rw [z0 j 0 (by omega)]
      exact ⟨by omega, by omega, fun w => absurd rfl w⟩
    · rw [z0 100 0 (by omega)]; omega
    · rw [z1]; omega
    · rw [z0 100 2 (by omega)]; omega
    · rw [z0 100 3 (by omega)]; omega
    · rw [z0 100 4 (by omega)]; omega
theorem jx_all (L : Nat) (xs : Nat → Int32) (hL : L ≤ 5632) : jx_goal L xs := RJ_goal hL s_0 s0_r (fun N f => s0_m N f)
theorem i_vc : Claimed_1_1 ∧ Claimed_1_2 := jx_vc jx_all
end KB_3
