section JX_5
variable {S T C C' M M' D Y : jS} {n p s a i k : Nat} {c e lo hi x3 k0 : Int32}
theorem fY_k {C0 C1 C2 C3 : jS} {v0 v1 v2 v3 : Int32} (b0 : fA a 0 C C0) (b1 : fA a 1 C0 C1) (b2 : fA a 2 C1 C2) (b3 : fA a 3 C2 C3) (c0 : C0.1 a 0 = v0) (c1 : C1.1 a 1 = v1) (c2 : C2.1 a 2 = v2) (c3 : C3.1 a 3 = v3) (ha : a ≠ 25) : fR a C C3 ∧ C3.1 a 0 = v0 ∧ C3.1 a 1 = v1 ∧ C3.1 a 2 = v2 ∧ C3.1 a 3 = v3 := by
  refine ⟨⟨fun b j q1 q2 => ?_, by rw [b3.2, b2.2, b1.2, b0.2]⟩, ?_, ?_, ?_, c3⟩
  · rw [b3.1 b j q1 (by omega), b2.1 b j q1 (by omega), b1.1 b j q1 (by omega), b0.1 b j q1 (by omega)]
  · rw [b3.1 a 0 (by omega) (by omega), b2.1 a 0 (by omega) (by omega), b1.1 a 0 (by omega) (by omega), c0]
  · rw [b3.1 a 1 (by omega) (by omega), b2.1 a 1 (by omega) (by omega), c1]
  · rw [b3.1 a 2 (by omega) (by omega), c2]
theorem fY_r {v0 v1 v2 v3 : Int32} (e0 : C.1 a 0 = v0) (e1 : C.1 a 1 = v1) (e2 : C.1 a 2 = v2) (e3 : C.1 a 3 = v3) (r0 : (1 : Int32).toInt ≤ v0.toInt ∧ v0.toInt ≤ (12 : Int32).toInt) (r1 : (1 : Int32).toInt ≤ v1.toInt ∧ v1.toInt ≤ (5 : Int32).toInt) (r2 : (0 : Int32).toInt ≤ v2.toInt ∧ v2.toInt ≤ (6 : Int32).toInt) (r3 : (0 : Int32).toInt ≤ v3.toInt ∧ v3.toInt ≤ (1439 : Int32).toInt) : rkS C a := by
  unfold rkS rk
  rw [e0, e1, e2, e3]
  simp only [Int32.reduceToInt] at r0 r1 r2 r3
  omega
theorem gA_g {j : Nat} (h : gA j M M') (h1 : k ≤ j) (h2 : j < k + 4) : gR k M M' := ⟨fun b i q1 q2 => h.1 b i q1 (by omega), h.2⟩
theorem gR_t (h1 : gR k M M') (h2 : gR k M' Y) : gR k M Y := ⟨fun b j q1 q2 => (h2.1 b j q1 q2).trans (h1.1 b j q1 q2), h2.2.trans h1.2⟩
/-- a rule on both sides -/
theorem fY_rd (h : tx C M n p) (ha : a ≠ 25) (ha' : a ≠ 26) (hk : k0.toInt = k) (hk8 : k + 3 < 8) : ∃ C', F_Y_readFrom a C = some C' ∧ fR a C C' ∧ rkS C' a ∧ ((∃ M' p', F_M_rule k0 M = some (none, M') ∧ gR k M M' ∧ tx C' M' n p' ∧ ∀ i, i < 4 → C'.1 a i = M'.1 238 (k + i)) ∨ (∃ M' p' e, F_M_rule k0 M = some (some 12, M') ∧ gR k M M' ∧ bk C' n p' e ∧ M'.1 215 3 = e)) := by
  have hk1 : (k0 + 1).toInt = ((k + 1 : Nat) : Int) := ip_ hk (by omega) 1 rfl
  have hk2 : (k0 + 2).toInt = ((k + 2 : Nat) : Int) := ip_ hk (by omega) 2 rfl
  have hk3 : (k0 + 3).toInt = ((k + 3 : Nat) : Int) := ip_ hk (by omega) 3 rfl
  obtain ⟨v0, C0, a0, b0, c0, r0, m0⟩ := s4_ (c := 77) (lo := 1) (hi := 12) (i := 0) (k0 := k0) h (by decide) (by decide) (by decide) (by decide) ha ha' hk (by omega)
  rcases m0 with ⟨M0, p0, f0, g0, w0, t0⟩ | ⟨M0, p0, e, f0, g0, t0, u0⟩
  · obtain ⟨v1, C1, a1, b1, c1, r1, m1⟩ := s4_ (c := 46) (lo := 1) (hi := 5) (i := 1) (k0 := k0 + 1) t0 (by decide) (by decide) (by decide) (by decide) ha ha' hk1 (by omega)
    rcases m1 with ⟨M1, p1, f1, g1, w1, t1⟩ | ⟨M1, p1, e, f1, g1, t1, u1⟩
    · obtain ⟨v2, C2, a2, b2, c2, r2, m2⟩ := s4_ (c := 46) (lo := 0) (hi := 6) (i := 2) (k0 := k0 + 2) t1 (by decide) (by decide) (by decide) (by decide) ha ha' hk2 (by omega)
      rcases m2 with ⟨M2, p2, f2, g2, w2, t2⟩ | ⟨M2, p2, e, f2, g2, t2, u2⟩
      · obtain ⟨v3, C3, a3, b3, c3, r3, m3⟩ := s4_ (c := 47) (lo := 0) (hi := 1439) (i := 3) (k0 := k0 + 3) t2 (by decide) (by decide) (by decide) (by decide) ha ha' hk3 (by omega)
        obtain ⟨k1, k2, k3, k4, k5⟩ := fY_k b0 b1 b2 b3 c0 c1 c2 c3 ha
        refine ⟨C3, by unfold F_Y_readFrom; rw [a0, a1, a2, a3], k1, fY_r k2 k3 k4 k5 r0 r1 r2 r3, ?_⟩
        rcases m3 with ⟨M3, p3, f3, g3, w3, t3⟩ | ⟨M3, p3, e, f3, g3, t3, u3⟩
        · refine Or.inl ⟨M3, p3, by unfold F_M_rule; rw [f0, f1, f2, f3], gR_t (gR_t (gR_t (gA_g g0 (by omega) (by omega)) (gA_g g1 (by omega) (by omega))) (gA_g g2 (by omega) (by omega))) (gA_g g3 (by omega) (by omega)), t3, fun i hi => ?_⟩
          rcases (by omega : i = 0 ∨ i = 1 ∨ i = 2 ∨ i = 3) with rfl | rfl | rfl | rfl
          · rw [k2, g3.1 238 _ (by omega) (by omega), g2.1 238 _ (by omega) (by omega), g1.1 238 _ (by omega) (by omega)]
            exact w0.symm
          · rw [k3, g3.1 238 _ (by omega) (by omega), g2.1 238 _ (by omega) (by omega), w1]
          · rw [k4, g3.1 238 _ (by omega) (by omega), w2]
          · rw [k5, w3]
        · exact Or.inr ⟨M3, p3, e, by unfold F_M_rule; rw [f0, f1, f2, f3], gR_t (gR_t (gR_t (gA_g g0 (by omega) (by omega)) (gA_g g1 (by omega) (by omega))) (gA_g g2 (by omega) (by omega))) (gA_g g3 (by omega) (by omega)), t3, u3⟩
      · obtain ⟨v3, C3, a3, b3, c3, r3, t3⟩ := s4b (c := 47) (lo := 0) (hi := 1439) (i := 3) t2 (by decide) (by decide) ha
        obtain ⟨k1, k2, k3, k4, k5⟩ := fY_k b0 b1 b2 b3 c0 c1 c2 c3 ha
        exact ⟨C3, by unfold F_Y_readFrom; rw [a0, a1, a2, a3], k1, fY_r k2 k3 k4 k5 r0 r1 r2 r3, Or.inr ⟨M2, p2, e, by unfold F_M_rule; rw [f0, f1, f2], gR_t (gR_t (gA_g g0 (by omega) (by omega)) (gA_g g1 (by omega) (by omega))) (gA_g g2 (by omega) (by omega)), t3, u2⟩⟩
    · obtain ⟨v2, C2, a2, b2, c2, r2, t2⟩ := s4b (c := 46) (lo := 0) (hi := 6) (i := 2) t1 (by decide) (by decide) ha
      obtain ⟨v3, C3, a3, b3, c3, r3, t3⟩ := s4b (c := 47) (lo := 0) (hi := 1439) (i := 3) t2 (by decide) (by decide) ha
      obtain ⟨k1, k2, k3, k4, k5⟩ := fY_k b0 b1 b2 b3 c0 c1 c2 c3 ha
      exact ⟨C3, by unfold F_Y_readFrom; rw [a0, a1, a2, a3], k1, fY_r k2 k3 k4 k5 r0 r1 r2 r3, Or.inr ⟨M1, p1, e, by unfold F_M_rule; rw [f0, f1], gR_t (gA_g g0 (by omega) (by omega)) (gA_g g1 (by omega) (by omega)), t3, u1⟩⟩
  · obtain ⟨v1, C1, a1, b1, c1, r1, t1⟩ := s4b (c := 46) (lo := 1) (hi := 5) (i := 1) t0 (by decide) (by decide) ha
    obtain ⟨v2, C2, a2, b2, c2, r2, t2⟩ := s4b (c := 46) (lo := 0) (hi := 6) (i := 2) t1 (by decide) (by decide) ha
    obtain ⟨v3, C3, a3, b3, c3, r3, t3⟩ := s4b (c := 47) (lo := 0) (hi := 1439) (i := 3) t2 (by decide) (by decide) ha
    obtain ⟨k1, k2, k3, k4, k5⟩ := fY_k b0 b1 b2 b3 c0 c1 c2 c3 ha
    exact ⟨C3, by unfold F_Y_readFrom; rw [a0, a1, a2, a3], k1, fY_r k2 k3 k4 k5 r0 r1 r2 r3, Or.inr ⟨M0, p0, e, by unfold F_M_rule; rw [f0], gA_g g0 (by omega) (by omega), t3, u0⟩⟩
end JX_5
