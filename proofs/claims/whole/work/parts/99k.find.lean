section JT_2
variable {S T A : jS} {a h c k z : Nat} {p0 p1 p2 : Int32} {p3 : Int64}
theorem zw_ckF2 {s u : Int64} {o : Int32} (hk : ckF S a h c) (hs : zca (zw S c s u o) c) : ckF (zw S c s u o) a h c := by
  obtain ⟨n1, n2, n3, n4⟩ := cf_ne hk
  obtain ⟨k1, k2, k3, k4, k5, k6⟩ := hk
  refine ⟨?_, ?_, k3, k4, ?_, hs⟩
  · rw [zw_ckA n1 n2 n3 n4]; exact k1
  · rw [zw_ckV n2]; exact k2
  · rw [zw_zok]; exact k5
theorem rF_b {x r : Int} (hx : 0 ≤ x) (hr : rF S a h c x r) : r = -1 ∨ (0 ≤ r ∧ r ≤ 10413791999000) := by
  rcases hr with ⟨v, e, v1, v2, -⟩ | ⟨q, -⟩
  · exact Or.inr (by omega)
  · exact Or.inl q
theorem uF_b {x r : Int} (hx : x ≤ 10413791999) (hr : uF S a h c x r) : r = -1 ∨ (0 ≤ r ∧ r ≤ 10413791999000) := by
  rcases hr with ⟨v, e, v1, v2, -⟩ | ⟨q, -⟩
  · exact Or.inr (by omega)
  · exact Or.inl q
theorem ckM_v (hs : sv S T) (i0' : k < 16) (i1' : z < 8) (c1 : -1 ≤ p2.toInt) (c2 : p2.toInt ≤ 3) (hz : rZ S) (hc : rC S) (hh : jh_ h = true) (hr : hR S h p2) (ht : ¬ S.1 376 k = 0) : ckM T (S.2.2 28 k) h (S.2.2 27 z) k z p2 := by
  obtain ⟨C1, C2, C3, C4, C5⟩ := hc.2.1 k i0'
  obtain ⟨Z1, Z2, Z3, Z4, Z5, -⟩ := hz.2.1 z i1'
  have bc := jc_b C1
  have bz := jz_b Z1
  have bh := jh_b hh
  refine ⟨by omega, by omega, by omega, i0', i1', c1, by omega, ?_, ?_, ?_, ?_, ?_⟩
  · rw [sv_ckD hs C1]; exact C3
  · rw [sv_cR hs C1 i0']
    rcases C5 with ⟨q, -⟩ | ⟨-, -, q⟩
    · exact absurd q ht
    · exact q
  · rw [sv_hR hs hh c2]; exact hr
  · rw [sv_zok hs Z1]; exact Z3
  · rw [sv_zR hs Z1 i1']; exact Z5
/-- both sides are aimed at one cron, zone and calendar -/
theorem ag_ (hz : rZ S) (hc : rC S) (hh : rH S) (i0 : p0.toInt = k) (i0' : k < 16) (i1 : p1.toInt = z) (i1' : z < 8) (c1 : -1 ≤ p2.toInt) (c2 : p2.toInt ≤ 3) : ∃ A a h, F_J_aimAt p0 p1 p2 S = some A ∧ sw S A ∧ A.1 = S.1 ∧ A.2.1 = S.2.1 ∧ ckF A a h (S.2.2 27 z) ∧ (∀ p3 r : Int64, 0 ≤ p3.toInt → p3.toInt ≤ 10413791999999 → rF A a h (S.2.2 27 z) (p3.toInt / 1000 + 1) r.toInt → ∀ Y, sv S Y → ∃ y m d, F_M_nextFire p0 p1 p2 p3 Y = some (r, dt_S Y y m d)) ∧ (∀ p3 r : Int64, 0 ≤ p3.toInt → p3.toInt ≤ 10413791999999 → uF A a h (S.2.2 27 z) (p3.toInt / 1000) r.toInt → ∀ Y, sv S Y → ∃ y m d, F_M_lastFire p0 p1 p2 p3 Y = some (r, dt_S Y y m d)) := by
  obtain ⟨A, hd, a1, a2, a3, a4, a5, a6, a7⟩ := fJ_aim (p0 := p0) (p1 := p1) (p2 := p2) i0 i0' i1 i1' c1 c2 hz hc hh
  obtain ⟨C1, C2, C3, C4, C5⟩ := hc.2.1 k i0'
  obtain ⟨Z1, Z2, Z3, Z4, Z5, -⟩ := hz.2.1 z i1'
  refine ⟨A, _, hd, a1, a2, a3, a4, a5, fun p3 r d1 d2 r2 Y hY => ?_, fun p3 r d1 d2 r2 Y hY => ?_⟩
  · have e376 : Y.1 376 = S.1 376 := sv_1 hY (jz_n (by omega)) (by omega)
    by_cases t : S.1 376 k = 0
    · have : r.toInt = -1 := by
        rcases C5 with ⟨-, q⟩ | ⟨q, -⟩
        · refine vd_r (S := A) ?_ r2
          rw [sw_vd a2 C1]
          exact q
        · exact absurd t q
      refine ⟨Y.1 215 4, Y.1 215 5, Y.1 215 6, ?_⟩
      unfold F_M_nextFire
      rw [j_qi (by omega) (by omega), clN i0, e376, if_pos t, dS_id, show r = -1 from eqL.mpr (by rw [this]; rfl)]
    · have hM := ckM_v hY i0' i1' c1 c2 hz hc a7 a6 t
      obtain ⟨r', y, m, d, q1, q2⟩ := fM_next hM i0 i1 (by rw [e376]; exact t) d1 d2
      rw [sv_rF hY C1 a7 Z1] at q2
      rw [sw_rF a2 C1 a7 Z1] at r2
      rw [eqL.mpr (rF_u r2 q2)]
      exact ⟨y, m, d, q1⟩
  · have e376 : Y.1 376 = S.1 376 := sv_1 hY (jz_n (by omega)) (by omega)
    by_cases t : S.1 376 k = 0
    · have : r.toInt = -1 := by
        rcases C5 with ⟨-, q⟩ | ⟨q, -⟩
        · refine vd_u (S := A) ?_ r2
          rw [sw_vd a2 C1]
          exact q
        · exact absurd t q
      refine ⟨Y.1 215 4, Y.1 215 5, Y.1 215 6, ?_⟩
      unfold F_M_lastFire
      rw [j_qi (by omega) (by omega), clN i0, e376, if_pos t, dS_id, show r = -1 from eqL.mpr (by rw [this]; rfl)]
    · have hM := ckM_v hY i0' i1' c1 c2 hz hc a7 a6 t
      obtain ⟨r', y, m, d, q1, q2⟩ := fM_last hM i0 i1 (by rw [e376]; exact t) d1 d2
      rw [sv_uF hY C1 a7 Z1] at q2
      rw [sw_uF a2 C1 a7 Z1] at r2
      rw [eqL.mpr (uF_u r2 q2)]
      exact ⟨y, m, d, q1⟩
/-- the caches after a search -/
theorem zca_w {s u : Int64} {o : Int32} (hz : rZ S) (hz8 : z < 8) (e1 : A.1 = S.1) (e2 : A.2.1 = S.2.1) (hs : sw S A) (hq : zca (zw A (S.2.2 27 z) s u o) (S.2.2 27 z)) : ∀ z', z' < 8 → zca (zw A (S.2.2 27 z) s u o) (S.2.2 27 z') := by
  intro z' h8
  obtain ⟨Z1, -, -, Z4, -⟩ := hz.2.1 z' h8
  obtain ⟨Y1, -⟩ := hz.2.1 z hz8
  by_cases e : z' = z
  · subst e
    exact hq
  · have n := hz.2.2 z' z h8 hz8 e
    rw [zca_e (sw_t hs (sw_z Y1)) Z1 (by rw [zw_2 n, e2]) (by rw [zw_2 n, e2]) (by rw [zw_1 n, e1])]
    exact Z4
end JT_2
