section JP_2
variable {S T : jS} {a h c k z : Nat} {p0 p1 p2 : Int32} {p3 : Int64}
/-- what every relation of the two sides keeps for the searches -/
def rS (R : jS → Prop) : Prop := (∀ S, R S → rZ S ∧ rC S ∧ rH S) ∧ ∀ S T, R S → sw S T → (∀ z, z < 8 → zca T (S.2.2 27 z)) → R T
theorem rS_0 {R : jS → Prop} (hR : rS R) (h : R S) {v v' : Int32} : R (w_i (w_i S 215 0 v) 215 0 v') := by
  refine hR.2 _ _ h (sw_t sw_0 sw_0) (fun z hz => ?_)
  obtain ⟨Z1, -, -, Z4, -⟩ := (hR.1 _ h).1.2.1 z hz
  have b := jz_b Z1
  rw [zca_e (sw_t sw_0 sw_0) Z1 rfl rfl (by simp only [w_ir]; rw [if_neg (fun w => by omega), if_neg (fun w => by omega)])]
  exact Z4
theorem ckM_s (hs : sw S T) (i0' : k < 16) (i1' : z < 8) (c1 : -1 ≤ p2.toInt) (c2 : p2.toInt ≤ 3) (hz : rZ S) (hc : rC S) (hh : jh_ h = true) (hr : hR S h p2) (ht : ¬ S.1 376 k = 0) : ckM T (S.2.2 28 k) h (S.2.2 27 z) k z p2 := by
  obtain ⟨C1, C2, C3, C4, C5⟩ := hc.2.1 k i0'
  obtain ⟨Z1, Z2, Z3, Z4, Z5, -⟩ := hz.2.1 z i1'
  have bc := jc_b C1
  have bz := jz_b Z1
  have bh := jh_b hh
  refine ⟨by omega, by omega, by omega, i0', i1', c1, by omega, ?_, ?_, ?_, ?_, ?_⟩
  · rw [sw_ckD hs C1]; exact C3
  · rw [sw_cR hs C1]
    rcases C5 with ⟨q, -⟩ | ⟨-, -, q⟩
    · exact absurd q ht
    · exact q
  · rw [sw_hR hs hh]; exact hr
  · rw [sw_zok hs Z1]; exact Z3
  · rw [sw_zR hs Z1]; exact Z5
theorem fail1 {v : Int32} : F_M_fail v S = some (0, w_i S 215 0 v) := rfl
/-- both sides find the same next fire -/
theorem nx_ {R : jS → Prop} (hR : rS R) (h : R S) (i0 : p0.toInt = k) (i0' : k < 16) (i1 : p1.toInt = z) (i1' : z < 8) (c1 : -1 ≤ p2.toInt) (c2 : p2.toInt ≤ 3) (d1 : 0 ≤ p3.toInt) (d2 : p3.toInt ≤ 10413791999999) : ∃ A r Z, F_J_aimAt p0 p1 p2 S = some A ∧ A.1 = S.1 ∧ A.2.1 = S.2.1 ∧ F_F_firstAfter p3 A = some (r, Z) ∧ sw S Z ∧ (∀ z, z < 8 → zca Z (S.2.2 27 z)) ∧ ∀ Y, sw S Y → ∃ y m d, F_M_nextFire p0 p1 p2 p3 Y = some (r, dt_S Y y m d) := by
  obtain ⟨hz, hc, hh⟩ := hR.1 _ h
  obtain ⟨A, hd, a1, a2, a3, a4, a5, a6, a7⟩ := fJ_aim (p0 := p0) (p1 := p1) (p2 := p2) i0 i0' i1 i1' c1 c2 hz hc hh
  obtain ⟨r, s, u, o, r1, r2, r3⟩ := fF_first a5 d1 d2
  obtain ⟨C1, C2, C3, C4, C5⟩ := hc.2.1 k i0'
  obtain ⟨Z1, Z2, Z3, Z4, Z5, -⟩ := hz.2.1 z i1'
  refine ⟨A, r, _, a1, a3, a4, r1, sw_t a2 (sw_z Z1), ?_, fun Y hY => ?_⟩
  · intro z' h8
    have := zca_a (v := (zw A (S.2.2 27 z) s u o).1 215 0) (y := (zw A (S.2.2 27 z) s u o).1 215 4) (m := (zw A (S.2.2 27 z) s u o).1 215 5) (d := (zw A (S.2.2 27 z) s u o).1 215 6) hz i1' a3 a4 a2 r3 z' h8
    have e : w_i (zw A (S.2.2 27 z) s u o) 215 0 ((zw A (S.2.2 27 z) s u o).1 215 0) = zw A (S.2.2 27 z) s u o := by
      apply S_ext
      · intro b j
        rw [w_ir]
        by_cases q : b = 215 ∧ j = 0
        · rw [if_pos q, q.1, q.2]
        · rw [if_neg q]
      · intro b j; rw [w_i2]
      · intro b j; rfl
    rw [e, dS_id] at this
    exact this
  · have e376 : Y.1 376 = S.1 376 := sw_1 hY (jz_n (by omega)) (by omega)
    by_cases t : S.1 376 k = 0
    · have : r.toInt = -1 := by
        rcases C5 with ⟨-, q⟩ | ⟨q, -⟩
        · refine vd_r (S := A) ?_ r2
          rw [sw_vd a2 C1]
          exact q
        · exact absurd t q
      refine ⟨Y.1 215 4, Y.1 215 5, Y.1 215 6, ?_⟩
      unfold F_M_nextFire
      rw [j_qi (by omega) (by omega), clN i0, e376, if_pos t, dS_id, show r = -1 from eqL.mpr (by rw [this]; rfl)]
    · have hM := ckM_s hY i0' i1' c1 c2 hz hc a7 a6 t
      obtain ⟨r', y, m, d, q1, q2⟩ := fM_next hM i0 i1 (by rw [e376]; exact t) d1 d2
      rw [sw_rF hY C1 a7 Z1] at q2
      rw [sw_rF a2 C1 a7 Z1] at r2
      rw [eqL.mpr (rF_u r2 q2)]
      exact ⟨y, m, d, q1⟩
theorem la_ {R : jS → Prop} (hR : rS R) (h : R S) (i0 : p0.toInt = k) (i0' : k < 16) (i1 : p1.toInt = z) (i1' : z < 8) (c1 : -1 ≤ p2.toInt) (c2 : p2.toInt ≤ 3) (d1 : 0 ≤ p3.toInt) (d2 : p3.toInt ≤ 10413791999999) : ∃ A r Z, F_J_aimAt p0 p1 p2 S = some A ∧ A.1 = S.1 ∧ A.2.1 = S.2.1 ∧ F_F_latestUpTo p3 A = some (r, Z) ∧ sw S Z ∧ (∀ z, z < 8 → zca Z (S.2.2 27 z)) ∧ ∀ Y, sw S Y → ∃ y m d, F_M_lastFire p0 p1 p2 p3 Y = some (r, dt_S Y y m d) := by
  obtain ⟨hz, hc, hh⟩ := hR.1 _ h
  obtain ⟨A, hd, a1, a2, a3, a4, a5, a6, a7⟩ := fJ_aim (p0 := p0) (p1 := p1) (p2 := p2) i0 i0' i1 i1' c1 c2 hz hc hh
  obtain ⟨r, s, u, o, r1, r2, r3⟩ := fF_last a5 d1 d2
  obtain ⟨C1, C2, C3, C4, C5⟩ := hc.2.1 k i0'
  obtain ⟨Z1, Z2, Z3, Z4, Z5, -⟩ := hz.2.1 z i1'
  refine ⟨A, r, _, a1, a3, a4, r1, sw_t a2 (sw_z Z1), ?_, fun Y hY => ?_⟩
  · intro z' h8
    have := zca_a (v := (zw A (S.2.2 27 z) s u o).1 215 0) (y := (zw A (S.2.2 27 z) s u o).1 215 4) (m := (zw A (S.2.2 27 z) s u o).1 215 5) (d := (zw A (S.2.2 27 z) s u o).1 215 6) hz i1' a3 a4 a2 r3 z' h8
    have e : w_i (zw A (S.2.2 27 z) s u o) 215 0 ((zw A (S.2.2 27 z) s u o).1 215 0) = zw A (S.2.2 27 z) s u o := by
      apply S_ext
      · intro b j
        rw [w_ir]
        by_cases q : b = 215 ∧ j = 0
        · rw [if_pos q, q.1, q.2]
        · rw [if_neg q]
      · intro b j; rw [w_i2]
      · intro b j; rfl
    rw [e, dS_id] at this
    exact this
  · have e376 : Y.1 376 = S.1 376 := sw_1 hY (jz_n (by omega)) (by omega)
    by_cases t : S.1 376 k = 0
    · have : r.toInt = -1 := by
        rcases C5 with ⟨-, q⟩ | ⟨q, -⟩
        · refine vd_u (S := A) ?_ r2
          rw [sw_vd a2 C1]
          exact q
        · exact absurd t q
      refine ⟨Y.1 215 4, Y.1 215 5, Y.1 215 6, ?_⟩
      unfold F_M_lastFire
      rw [j_qi (by omega) (by omega), clN i0, e376, if_pos t, dS_id, show r = -1 from eqL.mpr (by rw [this]; rfl)]
    · have hM := ckM_s hY i0' i1' c1 c2 hz hc a7 a6 t
      obtain ⟨r', y, m, d, q1, q2⟩ := fM_last hM i0 i1 (by rw [e376]; exact t) d1 d2
      rw [sw_uF hY C1 a7 Z1] at q2
      rw [sw_uF a2 C1 a7 Z1] at r2
      rw [eqL.mpr (uF_u r2 q2)]
      exact ⟨y, m, d, q1⟩
/-- the relation after a search -/
theorem rS_d {R : jS → Prop} (hR : rS R) (h : R S) {Z : jS} {v y m d : Int32} (hs : sw S Z) (hz : ∀ z, z < 8 → zca Z (S.2.2 27 z)) : R (dt_S (w_i Z 215 0 v) y m d) := by
  refine hR.2 _ _ h (sw_t (sw_t hs sw_0) sw_d) (fun z h8 => ?_)
  obtain ⟨Z1, -⟩ := (hR.1 _ h).1.2.1 z h8
  have b := jz_b Z1
  rw [zca_e (sw_t sw_0 sw_d) Z1 rfl rfl (by rw [dS_1 (by omega), w_ir, if_neg (fun w => by omega)])]
  exact hz z h8
theorem d0_ {Z : jS} {v y m d : Int32} : (dt_S (w_i Z 215 0 v) y m d).1 215 0 = v := by
  rw [dS_o (by omega) (by omega) (by omega), w_ir, if_pos ⟨rfl, rfl⟩]
theorem ok_next {R : jS → Prop} (hR : rS R) : Ok_next R := by
  intro p0 p1 p2 p3 S h
  by_cases q : 0 ≤ p0.toInt ∧ p0.toInt ≤ 15 ∧ 0 ≤ p1.toInt ∧ p1.toInt ≤ 7 ∧ -1 ≤ p2.toInt ∧ p2.toInt ≤ 3 ∧ 0 ≤ p3.toInt ∧ p3.toInt ≤ 10413791999999
  · have q' := q
    obtain ⟨q0, q1, q2, q3, q4, q5, q6, q7⟩ := q
    obtain ⟨A, r, Z, a1, a2, a3, a4, a5, a6, a7⟩ := nx_ (p0 := p0) (p1 := p1) (p2 := p2) (p3 := p3) (k := p0.toInt.toNat) (z := p1.toInt.toNat) hR h (by omega) (by omega) (by omega) (by omega) q4 q5 q6 q7
    obtain ⟨y, m, d, e1⟩ := a7 (w_i Z 215 0 0) (sw_t a5 sw_0)
    refine ⟨(.inl r, Z), r, dt_S (w_i Z 215 0 0) y m d, ?_, ?_, rS_d hR h a5 a6, d0_, rfl⟩
    · unfold F_J_next
      rw [fcs0 q0 q1 q2 q3 q4 q5, jxv_0, fck0 (by simp only [Int64.reduceToInt]; omega) (by simp only [Int64.reduceToInt]; omega), jxv_0, a1]
      simp only [ob_]
      rw [a4]
      simp only [ob_]
    · unfold F_M_next
      rw [jl_, fbf, if_pos q']
      simp only [ob_, if_true]
      rw [e1]
      simp only [ob_]
  · refine ⟨(.inr 11, S), 0, w_i (w_i S 215 0 0) 215 0 1, ?_, ?_, rS_0 hR h, ?_⟩
    · unfold F_J_next
      by_cases g : 0 ≤ p0.toInt ∧ p0.toInt ≤ 15 ∧ 0 ≤ p1.toInt ∧ p1.toInt ≤ 7 ∧ -1 ≤ p2.toInt ∧ p2.toInt ≤ 3
      · obtain ⟨q0, q1, q2, q3, q4, q5⟩ := g
        rw [fcs0 q0 q1 q2 q3 q4 q5, jxv_0, fck1 (by simp only [Int64.reduceToInt]; omega), jxv_1]
      · rw [fcs1 g, jxv_1]
    · unfold F_M_next
      rw [jl_, fbf, if_neg q]
      simp only [ob_]
      rw [if_neg (by decide), fail1]
      simp only [ob_]
      rfl
    · show (11, (w_i (w_i S 215 0 0) 215 0 1).1 215 0) ∈ _
      rw [w_ir, if_pos ⟨rfl, rfl⟩]
      exact List.mem_cons_self
theorem ok_last {R : jS → Prop} (hR : rS R) : Ok_last R := by
  intro p0 p1 p2 p3 S h
  by_cases q : 0 ≤ p0.toInt ∧ p0.toInt ≤ 15 ∧ 0 ≤ p1.toInt ∧ p1.toInt ≤ 7 ∧ -1 ≤ p2.toInt ∧ p2.toInt ≤ 3 ∧ 0 ≤ p3.toInt ∧ p3.toInt ≤ 10413791999999
  · have q' := q
    obtain ⟨q0, q1, q2, q3, q4, q5, q6, q7⟩ := q
    obtain ⟨A, r, Z, a1, a2, a3, a4, a5, a6, a7⟩ := la_ (p0 := p0) (p1 := p1) (p2 := p2) (p3 := p3) (k := p0.toInt.toNat) (z := p1.toInt.toNat) hR h (by omega) (by omega) (by omega) (by omega) q4 q5 q6 q7
    obtain ⟨y, m, d, e1⟩ := a7 (w_i Z 215 0 0) (sw_t a5 sw_0)
    refine ⟨(.inl r, Z), r, dt_S (w_i Z 215 0 0) y m d, ?_, ?_, rS_d hR h a5 a6, d0_, rfl⟩
    · unfold F_J_last
      rw [fcs0 q0 q1 q2 q3 q4 q5, jxv_0, fck0 (by simp only [Int64.reduceToInt]; omega) (by simp only [Int64.reduceToInt]; omega), jxv_0, a1]
      simp only [ob_]
      rw [a4]
      simp only [ob_]
    · unfold F_M_last
      rw [jl_, fbf, if_pos q']
      simp only [ob_, if_true]
      rw [e1]
      simp only [ob_]
  · refine ⟨(.inr 11, S), 0, w_i (w_i S 215 0 0) 215 0 1, ?_, ?_, rS_0 hR h, ?_⟩
    · unfold F_J_last
      by_cases g : 0 ≤ p0.toInt ∧ p0.toInt ≤ 15 ∧ 0 ≤ p1.toInt ∧ p1.toInt ≤ 7 ∧ -1 ≤ p2.toInt ∧ p2.toInt ≤ 3
      · obtain ⟨q0, q1, q2, q3, q4, q5⟩ := g
        rw [fcs0 q0 q1 q2 q3 q4 q5, jxv_0, fck1 (by simp only [Int64.reduceToInt]; omega), jxv_1]
      · rw [fcs1 g, jxv_1]
    · unfold F_M_last
      rw [jl_, fbf, if_neg q]
      simp only [ob_]
      rw [if_neg (by decide), fail1]
      simp only [ob_]
      rfl
    · show (11, (w_i (w_i S 215 0 0) 215 0 1).1 215 0) ∈ _
      rw [w_ir, if_pos ⟨rfl, rfl⟩]
      exact List.mem_cons_self
end JP_2
