section KA_8
variable {S T C C' M M' D Y : jS} {n p s f a u k g : Nat}
theorem lo7 : lo_ 0 = 0 ∧ hi_ 0 = 59 ∧ lo_ 1 = 0 ∧ hi_ 1 = 59 ∧ lo_ 2 = 0 ∧ hi_ 2 = 23 ∧ lo_ 3 = 1 ∧ hi_ 3 = 31 ∧ lo_ 4 = 1 ∧ hi_ 4 = 12 ∧ lo_ 5 = 1 ∧ hi_ 5 = 7 ∧ lo_ 6 = 1970 ∧ hi_ 6 = 2299 := by decide
/-- no bit but a value's -/
theorem kO_f (h : kO C a) (hf : f < 6) {i : Nat} (hb : bt (C.2.1 (a + 1) f) i = true) : lo_ f ≤ i ∧ i ≤ hi_ f := by
  obtain ⟨g, u, g1, g2, g3, g4, g5⟩ := h f i (by omega) hb
  unfold wd at g4
  unfold bi at g5
  by_cases q : g = 6
  · rw [if_pos q] at g4; omega
  · rw [if_neg q] at g4 g5
    subst g4 g5
    exact ⟨g2, g3⟩
theorem wd_f (hf : f < 6) : wd f u = f ∧ bi f u = u := by
  unfold wd bi
  rw [if_neg (by omega), if_neg (by omega)]
  exact ⟨rfl, rfl⟩
/-- what the two sides keep of a cron is the same -/
theorem cq_ (hL : aL C a M) (hk : k < 16) (e1 : ∀ j, T.1 a j = C.1 a j) (e2 : ∀ w, T.2.1 (a + 1) w = C.2.1 (a + 1) w) (eS : ∀ f, f < 7 → ∀ i, i < 330 → T.1 (240 + k * 8 + 1 + f) i = vp_nar .boolean (M.1 (369 + f) i)) (w0 : T.1 (378 + k) 0 = M.1 453 0) (w1 : T.1 (378 + k) 1 = M.1 453 3) (w2 : T.1 (395 + k) 0 = M.1 453 1) (w3 : T.1 (395 + k) 1 = M.1 453 4) (w4 : T.1 (412 + k) 1 = M.1 453 5) : ckD T a ∧ bt (T.2.1 (a + 1) 4) 63 = false ∧ ckU T a ∧ cR T a k := by
  obtain ⟨hO, ⟨k0, n0⟩, ⟨k1, n1⟩, ⟨k2, n2⟩, k4, k6, hW⟩ := hL
  obtain ⟨a0, b0, a1, b1, a2, b2, a3, b3, a4, b4, a5, b5, a6, b6⟩ := lo7
  have kk : ∀ f, f < 7 → kS C a M f → ∀ u, lo_ f ≤ u → u ≤ hi_ f → (bt (T.2.1 (a + 1) (wd f u)) (bi f u) = true ↔ ¬ T.1 (240 + k * 8 + 1 + f) (u - lo_ f) = 0) := by
    intro f hf h u u1 u2
    have := (lhN hf).2.2.2.2
    rw [e2, eS f hf _ (by omega), nar_b (h.1 _ (by omega))]
    exact h.2 u u1 u2
  have bl : ∀ f, f < 7 → kS C a M f → ∀ i, i < 330 → T.1 (240 + k * 8 + 1 + f) i = 0 ∨ T.1 (240 + k * 8 + 1 + f) i = 1 := by
    intro f hf h i hi
    rw [eS f hf i hi, nar_b (h.1 i hi)]
    exact h.1 i hi
  have no : ∀ f, f < 6 → ∀ i, ¬ (lo_ f ≤ i ∧ i ≤ hi_ f) → bt (T.2.1 (a + 1) f) i = false := by
    intro f hf i q
    cases h : bt (T.2.1 (a + 1) f) i with
    | false => rfl
    | true => rw [e2] at h; exact absurd (kO_f hO hf h) q
  have ex : ∀ f, f < 6 → ne_ C a f → ∃ i, bt (T.2.1 (a + 1) f) i = true := by
    intro f hf ⟨u, _, _, u3⟩
    rw [(wd_f (u := u) hf).1, (wd_f (u := u) hf).2] at u3
    exact ⟨u, by rw [e2]; exact u3⟩
  have kf : ∀ f, f < 6 → kS C a M f → ∀ u, lo_ f ≤ u → u ≤ hi_ f → (bt (T.2.1 (a + 1) f) u = true ↔ ¬ T.1 (240 + k * 8 + 1 + f) (u - lo_ f) = 0) := by
    intro f hf h u u1 u2
    have := kk f (by omega) h u u1 u2
    rw [(wd_f (u := u) hf).1, (wd_f (u := u) hf).2] at this
    exact this
  refine ⟨?_, no 4 (by omega) 63 (by omega), ⟨⟨fun i hi => no 2 (by omega) i (by omega), fun i hi => no 1 (by omega) i (by omega), fun i hi => no 0 (by omega) i (by omega), ex 1 (by omega) n1, ex 0 (by omega) n0⟩, ex 2 (by omega) n2⟩, ?_, ?_, ?_, ?_⟩
  · -- the day rule is one of the class's
    have bits : bt (T.2.1 (a + 1) 3) 0 = false ∧ (∀ i, 32 ≤ i → bt (T.2.1 (a + 1) 3) i = false) ∧ bt (T.2.1 (a + 1) 5) 0 = false ∧ (∀ i, 8 ≤ i → bt (T.2.1 (a + 1) 5) i = false) := ⟨no 3 (by omega) 0 (by omega), fun i hi => no 3 (by omega) i (by omega), no 5 (by omega) 0 (by omega), fun i hi => no 5 (by omega) i (by omega)⟩
    unfold ckD
    simp only [e1]
    rcases hW with ⟨q, -⟩ | ⟨q, -⟩ | ⟨q, -, -, -, r1, r2⟩ | ⟨q, -⟩ | ⟨q, -, -, -, r1, r2⟩ | ⟨q, -, -, -, r1, r2⟩ | ⟨q, -, -, -, r1, r2, -, r3, r4⟩
    all_goals rw [q]; simp only [Int32.reduceToInt]
    · exact ⟨by omega, by omega, fun w => by omega, fun w => by omega, fun w => by omega, fun w => by omega, bits⟩
    · exact ⟨by omega, by omega, fun w => by omega, fun w => by omega, fun w => by omega, fun w => by omega, bits⟩
    · exact ⟨by omega, by omega, fun w => ⟨r1, r2⟩, fun w => by omega, fun w => by omega, fun w => by omega, bits⟩
    · exact ⟨by omega, by omega, fun w => by omega, fun w => by omega, fun w => by omega, fun w => by omega, bits⟩
    · exact ⟨by omega, by omega, fun w => by omega, fun w => ⟨r1, r2⟩, fun w => by omega, fun w => by omega, bits⟩
    · exact ⟨by omega, by omega, fun w => by omega, fun w => by omega, fun w => ⟨r1, r2⟩, fun w => by omega, bits⟩
    · exact ⟨by omega, by omega, fun w => by omega, fun w => by omega, fun w => ⟨r1, r2⟩, fun w => ⟨r3, r4⟩, bits⟩
  · unfold cD
    rw [w0, w1, w2, w3, w4]
    simp only [e1]
    rcases hW with ⟨q, v0, v1, r⟩ | ⟨q, v0, v1, r⟩ | ⟨q, v0, v1, r, -⟩ | ⟨q, v0, v1⟩ | ⟨q, v0, v1, r, -⟩ | ⟨q, v0, v1, r, -⟩ | ⟨q, v0, v1, r, -, -, r3, -⟩
    · refine Or.inl ⟨by rw [q]; rfl, v0, v1, fun i i1 i2 => ?_⟩
      have := kf 3 (by omega) r i (by omega) (by omega)
      rw [a3] at this
      exact this
    · refine Or.inr (Or.inl ⟨by rw [q]; rfl, v0, v1, fun i i1 i2 => ?_, fun j hj => bl 5 (by omega) r j (by omega)⟩)
      have := kf 5 (by omega) r i (by omega) (by omega)
      rw [a5] at this
      exact this
    · exact Or.inr (Or.inr (Or.inl ⟨by rw [q]; rfl, v0, v1, r⟩))
    · exact Or.inr (Or.inr (Or.inr (Or.inl ⟨by rw [q]; rfl, v0, v1⟩)))
    · exact Or.inr (Or.inr (Or.inr (Or.inr (Or.inl ⟨by rw [q]; rfl, v0, v1, r⟩))))
    · exact Or.inr (Or.inr (Or.inr (Or.inr (Or.inr (Or.inl ⟨by rw [q]; rfl, v0, v1, r⟩)))))
    · exact Or.inr (Or.inr (Or.inr (Or.inr (Or.inr (Or.inr ⟨by rw [q]; rfl, v0, v1, r, r3⟩)))))
  · intro y y1 y2
    have := kk 6 (by omega) k6 y.toNat (by omega) (by omega)
    unfold hyS
    rw [show 6 + ((y - 1970) / 64).toNat = wd 6 y.toNat by unfold wd; rw [if_pos rfl]; omega, show ((y - 1970) % 64).toNat = bi 6 y.toNat by unfold bi; rw [if_pos rfl]; omega, show (y - 1970).toNat = y.toNat - lo_ 6 by omega]
    exact this
  · intro m m1 m2
    have := kf 4 (by omega) k4 m.toNat (by omega) (by omega)
    unfold hmS
    rw [show (m - 1).toNat = m.toNat - lo_ 4 by omega]
    exact this
  · intro s hs
    unfold tkS mt
    have t2 := kf 2 (by omega) k2 (s / 3600) (by omega) (by omega)
    have t1 := kf 1 (by omega) k1 (s / 60 % 60) (by omega) (by omega)
    have t0 := kf 0 (by omega) k0 (s % 60) (by omega) (by omega)
    rw [a2, Nat.sub_zero] at t2
    rw [a1, Nat.sub_zero] at t1
    rw [a0, Nat.sub_zero] at t0
    rw [t2, t1, t0]
end KA_8
