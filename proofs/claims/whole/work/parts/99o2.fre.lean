section JU_8
variable {S T U C M Y D : jS} {A A' : Nat → Nat → Int} {b j i k n x y c : Nat} {p0 : Int32} {p1 : Int64}
theorem fc_w {s u : Int64} {o : Int32} (hc : jz_ c = true) (e1 : D.1 = C.1) (e2 : D.2.1 = C.2.1) (e3 : ∀ b j, b ≠ 32 → D.2.2 b j = C.2.2 b j) : fc C (zw D c s u o) := by
  refine ⟨fun b i _ q => ?_, fun b i _ q => ?_, fun b i q => e3 b i q⟩
  · by_cases e : b = c
    · subst e
      rw [zw_10 (fun w => q ⟨hc, w⟩), e1]
    · rw [zw_1 e, e1]
  · by_cases e : b = c
    · subst e
      unfold zw
      rw [w_i2, w_lr, if_neg (fun w => q ⟨hc, Or.inr w.2⟩), w_lr, if_neg (fun w => q ⟨hc, Or.inl w.2⟩), e2]
    · rw [zw_2 e, e2]
theorem cA_w {s u : Int64} {o : Int32} (hc : jz_ c = true) (e1 : D.1 = C.1) (e2 : D.2.1 = C.2.1) (h : cA C A) : cA (zw D c s u o) A := by
  have b := jz_b hc
  refine cA_k (fun b' j q => ?_) (fun b' j q => ?_) h
  · rw [zw_1 (fun w => by unfold jr at q; omega), e1]
  · rw [zw_2 (fun w => by unfold jr at q; omega), e2]
/-- a job by cron: its next time on both sides -/
theorem fol_3 {B : Int} (h : cA C A) (hI : jI B A j) (hG : 0 ≤ A 100 0 ∧ A 100 0 ≤ 10413791999999) (hz : rZ C) (hc : rC C) (hh : rH C) (i0 : p0.toInt = j) (hj : j < 100) (h2 : 2 ≤ A j 0) (hk : A j 1 = 3) (ho : ¬ ov A j) : ∃ r Z, F_J_nominalBehind (115 + j) C = some (r, Z) ∧ cA Z A ∧ fc C Z ∧ rZ Z ∧ (∀ i, Z.1 46 i = C.1 46 i) ∧ ∀ Y, sv C Y → mA Y A → ∃ y m d, F_M_following p0 Y = J_M_following_246 r (dt_S Y y m d) := by
  have jq : ∀ {α : Type} {X : Option α}, j_q (j_in p0 100) X = X := fun {α X} => j_qi (by omega) (by omega)
  obtain ⟨-, -, J⟩ := hI
  obtain ⟨-, J11, -, J4, -, J9, -, -, -, Jr⟩ := J (by omega)
  obtain ⟨k1, k2, z1, z2, w1, w2⟩ := J11 hk
  have Jr' := (Jr h2).2
  have d4 := (cs4 h.1 (j := j) (by omega))
  have d8 := (cg0 h.1)
  have d1 := (cs1 h.1 (j := j) (by omega))
  have d9 := (cs9 h.1 (j := j) (by omega))
  have d11 := (cs11 h.1 (j := j) (by omega))
  have d12 := (cs12 h.1 (j := j) (by omega))
  have d13 := (cs13 h.1 (j := j) (by omega))
  have zl : (A j 12).toNat < 8 := by omega
  obtain ⟨D, a, hd, a1, a2, a3, a4, a5, a6, a7⟩ := ag_ (p0 := C.1 (115 + j) 11) (p1 := C.1 (115 + j) 12) (p2 := C.1 (115 + j) 13) (k := (A j 11).toNat) (z := (A j 12).toNat) hz hc hh (by omega) (by omega) (by omega) zl (by omega) (by omega)
  obtain ⟨Z1, -⟩ := hz.2.1 _ zl
  have e3 := a2.2.2
  have q9 : (C.1 (115 + j) 9 = 0) = (A j 9 = 0) := by rw [eqI, d9]; rfl
  have q91 : (C.1 (115 + j) 9 = 1) = (A j 9 = 1) := by rw [eqI, d9]; rfl
  have q92 : (C.1 (115 + j) 9 = 2) = (A j 9 = 2) := by rw [eqI, d9]; rfl
  have bz := jz_b Z1
  have jrj : ∀ {s u : Int64} {o : Int32} (i : Nat), (zw D (C.2.2 27 (A j 12).toNat) s u o).1 (115 + j) i = C.1 (115 + j) i := fun i => by rw [zw_1 (by omega), a3]
  have jlj : ∀ {s u : Int64} {o : Int32} (i : Nat), (zw D (C.2.2 27 (A j 12).toNat) s u o).2.1 (115 + j) i = C.2.1 (115 + j) i := fun i => by rw [zw_2 (by omega), a4]
  -- the class
  have J0 : F_J_nominalBehind (115 + j) C = if A j 9 = 1 then ((F_F_latestUpTo (C.2.1 24 8) D).bind (fun z8 => if z8.1 ≤ (z8.2.2.1 (115 + j) 4) then (J_J_nominalBehind_93 (115 + j) z8.2) else (some (z8.1, z8.2)))) else J_J_nominalBehind_93 (115 + j) D := by
    unfold F_J_nominalBehind
    rw [(fB_over h.1 hj).2 ho, ob_, if_pos rfl, if_neg (fun w => by have := eqI.mp w; rw [d1, hk] at this; exact absurd this (by decide)), if_neg (fun w => by have := eqI.mp w; rw [d1, hk] at this; exact absurd this (by decide)), a1, ob_, a3, a4]
    simp only [q91]
  have bk : ∀ {s u : Int64} {o : Int32} (r : Int64), zca (zw D (C.2.2 27 (A j 12).toNat) s u o) (C.2.2 27 (A j 12).toNat) → cA (zw D (C.2.2 27 (A j 12).toNat) s u o) A ∧ fc C (zw D (C.2.2 27 (A j 12).toNat) s u o) ∧ rZ (zw D (C.2.2 27 (A j 12).toNat) s u o) ∧ ∀ i, (zw D (C.2.2 27 (A j 12).toNat) s u o).1 46 i = C.1 46 i := by
    intro s u o r q
    have f := fc_w (s := s) (u := u) (o := o) Z1 a3 a4 e3
    exact ⟨cA_w Z1 a3 a4 h, f, sv_rZ (fc_v f) (zca_w hz zl a3 a4 a2 q) hz, fun i => by rw [zw_1 (by omega), a3]⟩
  -- the model
  have M0 : ∀ Y, mA Y A → F_M_following p0 Y = if A j 9 = 2 then ((F_Math_max2 (C.2.1 (115 + j) 4) (C.2.1 24 8) Y).bind (fun z23 => (F_M_nextFire (C.1 (115 + j) 11) (C.1 (115 + j) 12) (C.1 (115 + j) 13) z23 Y).bind (fun z24 => J_M_following_246 z24.1 z24.2))) else (if A j 9 = 1 then ((F_M_lastFire (C.1 (115 + j) 11) (C.1 (115 + j) 12) (C.1 (115 + j) 13) (C.2.1 24 8) Y).bind (fun z30 => J_M_following_212 p0 (C.2.1 (115 + j) 4) z30.1 z30.2)) else J_M_following_212 p0 (C.2.1 (115 + j) 4) (-1) Y) := by
    intro Y hm
    have g1 := (ms1 hm (j := j) (by omega))
    have c8 : Y.2.1 215 41 = C.2.1 24 8 := eqL.mpr (by rw [d8, (mg0 hm)])
    have c4 : Y.2.1 438 j = C.2.1 (115 + j) 4 := eqL.mpr (by rw [d4, (ms4 hm (j := j) (by omega))])
    have c9 : Y.1 445 j = C.1 (115 + j) 9 := eqI.mpr (by rw [d9, (ms9 hm (j := j) (by omega))])
    have c11 : Y.1 447 j = C.1 (115 + j) 11 := eqI.mpr (by rw [d11, (ms11 hm (j := j) (by omega))])
    have c12 : Y.1 448 j = C.1 (115 + j) 12 := eqI.mpr (by rw [d12, (ms12 hm (j := j) (by omega))])
    have c13 : Y.1 449 j = C.1 (115 + j) 13 := eqI.mpr (by rw [d13, (ms13 hm (j := j) (by omega))])
    unfold F_M_following
    simp only [jq, clN i0, jl_, c4, c8, c9, c11, c12, c13, q91, q92]
    rw [if_neg (fun w => by have := eqI.mp w; rw [g1, hk] at this; exact absurd this (by decide)), if_neg (fun w => by have := eqI.mp w; rw [g1, hk] at this; exact absurd this (by decide))]
  have M1 : ∀ Y (v : Int64), mA Y A → ¬ A j 4 < v.toInt → J_M_following_212 p0 (C.2.1 (115 + j) 4) v Y = (F_M_nextFire (C.1 (115 + j) 11) (C.1 (115 + j) 12) (C.1 (115 + j) 13) (C.2.1 (115 + j) 4) Y).bind (fun z35 => J_M_following_246 z35.1 z35.2) := by
    intro Y v hm q
    have c11 : Y.1 447 j = C.1 (115 + j) 11 := eqI.mpr (by rw [d11, (ms11 hm (j := j) (by omega))])
    have c12 : Y.1 448 j = C.1 (115 + j) 12 := eqI.mpr (by rw [d12, (ms12 hm (j := j) (by omega))])
    have c13 : Y.1 449 j = C.1 (115 + j) 13 := eqI.mpr (by rw [d13, (ms13 hm (j := j) (by omega))])
    unfold J_M_following_212
    simp only [jq, clN i0, c11, c12, c13]
    rw [if_neg (fun w => q (by have := Int64.lt_iff_toInt_lt.mp w; rw [d4] at this; exact this))]
  by_cases p2 : A j 9 = 2
  · obtain ⟨r, s, u, o, r1, r2, r3⟩ := fF_first (p := C.2.1 24 8) a5 (by omega) (by omega)
    obtain ⟨b1, b2, b3, b4⟩ := bk r r3
    refine ⟨r, _, ?_, b1, b2, b3, b4, fun Y hY hm => ?_⟩
    · rw [J0, if_neg (by omega)]
      unfold J_J_nominalBehind_93 J_J_nominalBehind_116
      rw [a3, a4, if_pos (by rw [q92]; exact p2), r1, ob_]
    · obtain ⟨y, m, d, e⟩ := a6 _ r (by omega) (by omega) r2 Y hY
      refine ⟨y, m, d, ?_⟩
      rw [M0 Y hm, if_pos p2]
      have e5 : F_Math_max2 (C.2.1 (115 + j) 4) (C.2.1 24 8) Y = some (C.2.1 24 8) := by
        unfold F_Math_max2
        by_cases q : A j 4 < A 100 0
        · rw [if_pos (Int64.lt_iff_toInt_lt.mpr (by rw [d4, d8]; exact q))]
        · rw [if_neg (fun w => q (by have := Int64.lt_iff_toInt_lt.mp w; rw [d4, d8] at this; exact this)), show C.2.1 (115 + j) 4 = C.2.1 24 8 from eqL.mpr (by rw [d4, d8]; omega)]
      rw [e5, ob_, e, ob_]
  by_cases p1 : A j 9 = 1
  · obtain ⟨r, s, u, o, r1, r2, r3⟩ := fF_last (p := C.2.1 24 8) a5 (by omega) (by omega)
    have ck := zw_ckF2 a5 r3
    by_cases q : r.toInt ≤ A j 4
    · obtain ⟨r', s', u', o', t1, t2, t3⟩ := fF_first (p := C.2.1 (115 + j) 4) ck (by omega) (by omega)
      rw [zw_zw] at t1 t3
      rw [zw_rF a5] at t2
      obtain ⟨b1, b2, b3, b4⟩ := bk r' t3
      refine ⟨r', _, ?_, b1, b2, b3, b4, fun Y hY hm => ?_⟩
      · rw [J0, if_pos p1, r1, ob_]
        simp only [jlj]
        rw [if_pos (Int64.le_iff_toInt_le.mpr (by rw [d4]; exact q))]
        unfold J_J_nominalBehind_93 J_J_nominalBehind_116
        simp only [jrj, jlj]
        rw [if_neg (by rw [q92]; exact p2), t1, ob_]
      · obtain ⟨y, m, d, e⟩ := a7 _ r (by omega) (by omega) r2 Y hY
        have hY' : sv C (dt_S Y y m d) := sv_t hY (fm_v (fm_d fm_r))
        obtain ⟨y', m', d', e'⟩ := a6 _ r' (by omega) (by omega) t2 _ hY'
        rw [M0 Y hm, if_neg p2, if_pos p1, e, ob_, M1 _ r (dS_bB hm) (by omega), e', ob_]
        exact ⟨y', m', d', by rw [dS_dS]⟩
    · obtain ⟨b1, b2, b3, b4⟩ := bk r r3
      refine ⟨r, _, ?_, b1, b2, b3, b4, fun Y hY hm => ?_⟩
      · rw [J0, if_pos p1, r1, ob_]
        simp only [jlj]
        rw [if_neg (fun w => q (by have := Int64.le_iff_toInt_le.mp w; rw [d4] at this; exact this))]
      · obtain ⟨y, m, d, e⟩ := a7 _ r (by omega) (by omega) r2 Y hY
        refine ⟨y, m, d, ?_⟩
        rw [M0 Y hm, if_neg p2, if_pos p1, e, ob_]
        unfold J_M_following_212
        rw [if_pos (show C.2.1 (115 + j) 4 < r from Int64.lt_iff_toInt_lt.mpr (by rw [d4]; omega))]
  · obtain ⟨r, s, u, o, r1, r2, r3⟩ := fF_first (p := C.2.1 (115 + j) 4) a5 (by omega) (by omega)
    obtain ⟨b1, b2, b3, b4⟩ := bk r r3
    refine ⟨r, _, ?_, b1, b2, b3, b4, fun Y hY hm => ?_⟩
    · rw [J0, if_neg p1]
      unfold J_J_nominalBehind_93 J_J_nominalBehind_116
      rw [a3, a4, if_neg (by rw [q92]; exact p2), r1, ob_]
    · obtain ⟨y, m, d, e⟩ := a6 _ r (by omega) (by omega) r2 Y hY
      refine ⟨y, m, d, ?_⟩
      rw [M0 Y hm, if_neg p2, if_neg p1, M1 _ (-1) hm (by have : (-1 : Int64).toInt = -1 := rfl; omega), e, ob_]
/-- a job is freed on both sides -/
theorem fre_ {B : Int} (h : cA C A) (hI : iA B A) (hz : rZ C) (hc : rC C) (hh : rH C) (i0 : p0.toInt = j) (hj : j < 100) (h2 : 2 ≤ A j 0) : ∃ r Z, F_J_nominalBehind (115 + j) C = some (r, Z) ∧ cA Z A ∧ fc C Z ∧ rZ Z ∧ (∀ i, Z.1 46 i = C.1 46 i) ∧ ∀ Y, sv C Y → mA Y A → ∃ Y', F_M_free p0 Y = some Y' ∧ mA Y' (aFre A j r.toInt) ∧ fm Y Y' := by
  obtain ⟨I1, -, I3, -⟩ := hI
  have J := I1 j hj
  have d1 := (cs1 h.1 (j := j) (by omega))
  by_cases o : ov A j
  · refine ⟨-1, C, ?_, h, fc_r, hz, fun _ => rfl, fun Y hY hm => ?_⟩
    · unfold F_J_nominalBehind
      rw [(fB_over h.1 hj).1 o, ob_, if_neg (by decide)]
    · rw [(fM_fr hm J i0 hj h2).1 o]
      exact fM_66 hm i0 hj (-1) (by decide)
  · have k := J.2.2 (by omega)
    have k1 := k.1
    by_cases k2 : A j 1 = 2
    · refine ⟨C.2.1 24 8 + C.2.1 (115 + j) 6, C, ?_, h, fc_r, hz, fun _ => rfl, fun Y hY hm => ?_⟩
      · unfold F_J_nominalBehind
        rw [(fB_over h.1 hj).2 o, ob_, if_pos rfl, if_pos (eqI.mpr (by rw [d1, k2]; rfl))]
      · rw [(fM_fr hm J i0 hj h2).2 o, fol_2 h hm J i0 hj h2 k2]
        exact fM_f hm i0 hj _
    by_cases k3 : A j 1 = 1
    · have ex : ∃ r, F_B_rateTimeBehind (115 + j) (C.2.1 24 8) C = some r ∧ ∀ Y, mA Y A → F_M_following p0 Y = J_M_following_246 r Y := by
        cases hr : F_B_rateTimeBehind (115 + j) (C.2.1 24 8) C with
        | none =>
          exfalso
          unfold F_B_rateTimeBehind at hr
          have d6 := h.2.1 j hj (by omega)
          have J6 := k.2.2.1 (Or.inl k3)
          have n0 : Unit → ¬ C.2.1 (115 + j) 6 = 0 := fun _ w => by have := eqL.mp w; rw [d6] at this; simp only [Int64.reduceToInt] at this; omega
          rw [if_pos (by rw [geL (k := 1) (n := 1) rfl, d6]; omega), j_qt (by rw [decide_eq_false (n0 ())]; rfl), jl_] at hr
          split at hr
          · exact absurd hr (by simp)
          · split at hr
            · split at hr <;> exact absurd hr (by simp)
            · exact absurd hr (by simp)
        | some r =>
          refine ⟨r, rfl, fun Y hm => ?_⟩
          obtain ⟨r', e1, e2⟩ := fol_1 (p0 := p0) h hm J I3 i0 hj h2 k3
          rw [hr] at e1
          rw [e2, Option.some.inj e1]
      obtain ⟨r, e1, e2⟩ := ex
      refine ⟨r, C, ?_, h, fc_r, hz, fun _ => rfl, fun Y hY hm => ?_⟩
      · unfold F_J_nominalBehind
        rw [(fB_over h.1 hj).2 o, ob_, if_pos rfl, if_neg (fun w => k2 (by have := eqI.mp w; rw [d1] at this; exact this)), if_pos (eqI.mpr (by rw [d1, k3]; rfl)), e1, ob_]
      · rw [(fM_fr hm J i0 hj h2).2 o, e2 Y hm]
        exact fM_f hm i0 hj _
    · have k4 : A j 1 = 3 := by
        have : A j 1 ≠ 0 := fun w => o (Or.inr (Or.inl w))
        omega
      obtain ⟨r, Z, e1, e2, e3, e4, e6, e5⟩ := fol_3 h J I3 hz hc hh i0 hj h2 k4 o
      refine ⟨r, Z, e1, e2, e3, e4, e6, fun Y hY hm => ?_⟩
      obtain ⟨y, m, d, e⟩ := e5 Y hY hm
      rw [(fM_fr hm J i0 hj h2).2 o, e]
      obtain ⟨Y', g1, g2, g3⟩ := fM_f (dS_bB (yy := y) (m := m) (d := d) hm) i0 hj r
      exact ⟨Y', g1, g2, fm_t (fm_d fm_r) g3⟩
end JU_8
