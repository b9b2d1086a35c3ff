section KA_7
variable {S T C C' M M' D Y : jS} {n p s f a u k g : Nat} {c e v x1 x3 : Int32}
theorem lM_257 (h1 : x1.toInt = k) (hk : k < 16) (h3 : x3.toInt = f) (hf : f < 7) : ∀ (g : Nat) (x4 : Int32) (i0 : Nat) (M : jS), x4.toInt = i0 → i0 ≤ 330 → 330 - i0 < g → ∃ M', (∀ kt, L_M_readCron_257 kt g x1 x3 x4 M = kt x1 (x3 + 1) M') ∧ (∀ b j, b ≠ 240 + k * 8 + 1 + f → M'.1 b j = M.1 b j) ∧ M'.2 = M.2 ∧ (∀ i, i < i0 → M'.1 (240 + k * 8 + 1 + f) i = M.1 (240 + k * 8 + 1 + f) i) ∧ ∀ i, i0 ≤ i → i < 330 → M'.1 (240 + k * 8 + 1 + f) i = vp_nar .boolean (M.1 (369 + f) i) := by
  intro g
  induction g with
  | zero => intro x4 i0 M _ _ q; omega
  | succ g ih =>
    intro x4 i0 M h4 hi hg
    by_cases e : i0 = 330
    · refine ⟨M, fun kt => ?_, fun _ _ _ => rfl, rfl, fun _ _ => rfl, fun i q1 q2 => by omega⟩
      conv => lhs; unfold L_M_readCron_257
      rw [if_pos (by rw [geI (k := 330) (n := 330) rfl]; omega)]
    · obtain ⟨M', m1, m2, m3, m4, m5⟩ := ih (x4 + 1) (i0 + 1) (w_i M (240 + k * 8 + 1 + f) i0 (vp_nar .boolean (M.1 (369 + f) i0))) (p1I h4 (by omega)) (by omega) (by omega)
      refine ⟨M', fun kt => ?_, fun b j q => by rw [m2 b j q, w_ir, if_neg (by omega)], by rw [m3, w_i2], fun i q => by rw [m4 i (by omega), w_ir, if_neg (by omega)], fun i q1 q2 => ?_⟩
      · conv => lhs; unfold L_M_readCron_257
        rw [if_neg (by rw [geI (k := 330) (n := 330) rfl]; omega), j_qN h1 hk, j_qN h3 hf, j_qN h3 hf, j_qN h4 (by omega), j_qN h4 (by omega), clN h1, clN h3, clN h4, jl_, m1]
      · by_cases w : i = i0
        · rw [m4 i (by omega), w_ir, if_pos ⟨rfl, w⟩, w]
        · rw [m5 i (by omega) q2, w_ir, if_neg (by omega)]
theorem lM_248 (h1 : x1.toInt = k) (hk : k < 16) : ∀ (g : Nat) (x3 : Int32) (f0 : Nat) (M : jS), x3.toInt = f0 → f0 ≤ 7 → 7 - f0 < g → ∃ M', L_M_readCron_248 g x1 x3 M = L_M_readCron_299 ju_ x1 0 M' ∧ (∀ b j, ¬ (240 + k * 8 + 1 + f0 ≤ b ∧ b ≤ 240 + k * 8 + 7) → M'.1 b j = M.1 b j) ∧ M'.2 = M.2 ∧ ∀ f, f0 ≤ f → f < 7 → ∀ i, i < 330 → M'.1 (240 + k * 8 + 1 + f) i = vp_nar .boolean (M.1 (369 + f) i) := by
  intro g
  induction g with
  | zero => intro x3 f0 M _ _ q; omega
  | succ g ih =>
    intro x3 f0 M h3 hf hg
    by_cases e : f0 = 7
    · refine ⟨M, ?_, fun _ _ _ => rfl, rfl, fun f q1 q2 => by omega⟩
      conv => lhs; unfold L_M_readCron_248
      rw [if_pos (by rw [geI (k := 7) (n := 7) rfl]; omega)]
    · obtain ⟨M1, a1, a2, a3, a4, a5⟩ := lM_257 (x3 := x3) h1 hk h3 (by omega) ju_ 0 0 M rfl (by omega) (by show _ < 1000000; omega)
      obtain ⟨M', m1, m2, m3, m4⟩ := ih (x3 + 1) (f0 + 1) M1 (p1I h3 (by omega)) (by omega) (by omega)
      refine ⟨M', ?_, fun b j q => by rw [m2 b j (by omega), a2 b j (by omega)], by rw [m3, a3], fun f q1 q2 i hi => ?_⟩
      · conv => lhs; unfold L_M_readCron_248
        rw [if_neg (by rw [geI (k := 7) (n := 7) rfl]; omega), a1, m1]
      · by_cases w : f = f0
        · subst w
          rw [m2 _ _ (by omega), a5 i (by omega) hi]
        · rw [m4 f (by omega) q2 i hi, a2 _ _ (by omega)]
/-- the model keeps a cron -/
theorem cp_ (h1 : x1.toInt = k) (hk : k < 16) : ∃ M', L_M_readCron_248 ju_ x1 0 M = some (none, M') ∧ (∀ f, f < 7 → ∀ i, i < 330 → M'.1 (240 + k * 8 + 1 + f) i = vp_nar .boolean (M.1 (369 + f) i)) ∧ (M'.1 (378 + k) 0 = M.1 453 0 ∧ M'.1 (378 + k) 1 = M.1 453 3 ∧ M'.1 (395 + k) 0 = M.1 453 1 ∧ M'.1 (395 + k) 1 = M.1 453 4 ∧ M'.1 (412 + k) 1 = M.1 453 5) ∧ M'.1 376 k = 1 ∧ (∀ b j, ¬ (240 + k * 8 + 1 ≤ b ∧ b ≤ 240 + k * 8 + 7) → b ≠ 378 + k → b ≠ 395 + k → b ≠ 412 + k → ¬ (b = 376 ∧ j = k) → M'.1 b j = M.1 b j) ∧ M'.2 = M.2 := by
  obtain ⟨M1, a1, a2, a3, a4⟩ := lM_248 h1 hk ju_ 0 0 M rfl (by omega) (by show _ < 1000000; omega)
  have one : vp_nar .boolean 1 = 1 := nar_b (Or.inr rfl)
  have q453 : ∀ j, M1.1 453 j = M.1 453 j := fun j => a2 453 j (by omega)
  have jq : ∀ {α : Type} {X : Option α}, j_q (j_in x1 16) X = X := fun {α X} => j_qN h1 hk
  have e1 : ∀ b j v, b ≠ 453 → ∀ i, (w_i M1 b j v).1 453 i = M1.1 453 i := fun b j v q i => by rw [w_ir, if_neg (by omega)]
  refine ⟨w_i (w_i (w_i (w_i (w_i (w_i (w_i M1 (378 + k) 0 (M1.1 453 0)) (395 + k) 0 (M1.1 453 1)) (412 + k) 0 (M1.1 453 2)) (378 + k) 1 (M1.1 453 3)) (395 + k) 1 (M1.1 453 4)) (412 + k) 1 (M1.1 453 5)) 376 k 1, ?_, fun f hf i hi => ?_, ⟨?_, ?_, ?_, ?_, ?_⟩, by rw [w_ir, if_pos ⟨rfl, rfl⟩], fun b j c1 c2 c3 c4 c5 => ?_, by rw [w_i2, w_i2, w_i2, w_i2, w_i2, w_i2, w_i2, a3]⟩
  · rw [a1, show ju_ = 999997 + 1 + 1 + 1 from rfl]
    have s2 : ∀ S : jS, L_M_readCron_299 (999997 + 1) x1 2 S = some (none, w_i S 376 k 1) := by
      intro S
      unfold L_M_readCron_299
      rw [if_pos (by decide), jq, clN h1, one, jl_]
    have s1 : ∀ S : jS, L_M_readCron_299 (999997 + 1 + 1) x1 1 S = L_M_readCron_299 (999997 + 1) x1 2 (w_i (w_i (w_i S (378 + k) 1 (S.1 453 3)) (395 + k) 1 (S.1 453 4)) (412 + k) 1 (S.1 453 5)) := by
      intro S
      conv => lhs; unfold L_M_readCron_299
      have r4 : ∀ v, (w_i S (378 + k) 1 v).1 453 4 = S.1 453 4 := fun v => by rw [w_ir, if_neg (by omega)]
      have r5 : ∀ v w, (w_i (w_i S (378 + k) 1 v) (395 + k) 1 w).1 453 5 = S.1 453 5 := fun v w => by rw [w_ir, if_neg (by omega), w_ir, if_neg (by omega)]
      rw [if_neg (by decide)]
      simp only [jq, clN h1, jl_, j_qt (show j_in (3 * 1) 6 = true by decide), j_qt (show j_in (3 * 1 + 1) 6 = true by decide), j_qt (show j_in (3 * 1 + 2) 6 = true by decide), j_qt (show j_in 1 2 = true by decide), show (3 * 1 : Int32).toNatClampNeg = 3 from rfl, show (3 * 1 + 1 : Int32).toNatClampNeg = 4 from rfl, show (3 * 1 + 2 : Int32).toNatClampNeg = 5 from rfl, show (1 : Int32).toNatClampNeg = 1 from rfl, r4, r5]
      rfl
    have s0 : ∀ S : jS, L_M_readCron_299 (999997 + 1 + 1 + 1) x1 0 S = L_M_readCron_299 (999997 + 1 + 1) x1 1 (w_i (w_i (w_i S (378 + k) 0 (S.1 453 0)) (395 + k) 0 (S.1 453 1)) (412 + k) 0 (S.1 453 2)) := by
      intro S
      conv => lhs; unfold L_M_readCron_299
      have r4 : ∀ v, (w_i S (378 + k) 0 v).1 453 1 = S.1 453 1 := fun v => by rw [w_ir, if_neg (by omega)]
      have r5 : ∀ v w, (w_i (w_i S (378 + k) 0 v) (395 + k) 0 w).1 453 2 = S.1 453 2 := fun v w => by rw [w_ir, if_neg (by omega), w_ir, if_neg (by omega)]
      rw [if_neg (by decide)]
      simp only [jq, clN h1, jl_, j_qt (show j_in (3 * 0) 6 = true by decide), j_qt (show j_in (3 * 0 + 1) 6 = true by decide), j_qt (show j_in (3 * 0 + 2) 6 = true by decide), j_qt (show j_in 0 2 = true by decide), show (3 * 0 : Int32).toNatClampNeg = 0 from rfl, show (3 * 0 + 1 : Int32).toNatClampNeg = 1 from rfl, show (3 * 0 + 2 : Int32).toNatClampNeg = 2 from rfl, show (0 : Int32).toNatClampNeg = 0 from rfl, r4, r5]
      rfl
    rw [s0, s1, s2]
    have t3 : ∀ u v w j, (w_i (w_i (w_i M1 (378 + k) 0 u) (395 + k) 0 v) (412 + k) 0 w).1 453 j = M1.1 453 j := fun u v w j => by rw [w_ir, if_neg (by omega), w_ir, if_neg (by omega), w_ir, if_neg (by omega)]
    rw [t3, t3, t3]
  · rw [w_ir, if_neg (by omega), w_ir, if_neg (by omega), w_ir, if_neg (by omega), w_ir, if_neg (by omega), w_ir, if_neg (by omega), w_ir, if_neg (by omega), w_ir, if_neg (by omega)]
    exact a4 f (by omega) hf i hi
  · rw [w_ir, if_neg (by omega), w_ir, if_neg (by omega), w_ir, if_neg (by omega), w_ir, if_neg (by omega), w_ir, if_neg (by omega), w_ir, if_neg (by omega), w_ir, if_pos ⟨rfl, rfl⟩, q453]
  · rw [w_ir, if_neg (by omega), w_ir, if_neg (by omega), w_ir, if_neg (by omega), w_ir, if_pos ⟨rfl, rfl⟩, q453]
  · rw [w_ir, if_neg (by omega), w_ir, if_neg (by omega), w_ir, if_neg (by omega), w_ir, if_neg (by omega), w_ir, if_neg (by omega), w_ir, if_pos ⟨rfl, rfl⟩, q453]
  · rw [w_ir, if_neg (by omega), w_ir, if_neg (by omega), w_ir, if_pos ⟨rfl, rfl⟩, q453]
  · rw [w_ir, if_neg (by omega), w_ir, if_pos ⟨rfl, rfl⟩, q453]
  · rw [w_ir, if_neg c5, w_ir, if_neg (by omega), w_ir, if_neg (by omega), w_ir, if_neg (by omega), w_ir, if_neg (by omega), w_ir, if_neg (by omega), w_ir, if_neg (by omega)]
    exact a2 b j (by omega)
end KA_7
