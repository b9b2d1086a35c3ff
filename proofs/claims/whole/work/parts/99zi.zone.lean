section JX_9
variable {S T C C' M M' D Y : jS} {n p s a i k z : Nat} {c e lo hi x1 x2 x3 x4 k0 y : Int32}
theorem negI {v : Int32} (h1 : 0 ≤ v.toInt) (h2 : v.toInt ≤ 840) : (-v).toInt = -v.toInt := by
  rw [Int32.toInt_neg]
  exact bs32 (by omega) (by omega)
theorem z29b (h : bk C n p e) (ha : a ≠ 25) : ∃ C' p', J_Z_readFrom_29 a x2 C = some C' ∧ FZ a C C' ∧ C'.2 = C.2 ∧ bk C' n p' e := by
  unfold J_Z_readFrom_29
  rw [fB_nu h, ob_]
  by_cases q : x2 = 0
  · rw [if_pos q]; exact zJ49b h ha
  · rw [if_neg q]; exact zJ49b h ha
theorem z29 (h : tx C M n p) (ha : jz_ a = true) (h1 : C.1 a 1 = 0) (hz : x1.toInt = z) (hz8 : z < 8) (hb : ∀ j, bol (M.1 (229 + z) j)) : ∃ C', J_Z_readFrom_29 a x2 C = some C' ∧ FZ a C C' ∧ C'.2 = C.2 ∧ ((∃ M' p', j_x (F_M_ranged 0 840 M) (fun c S => (some c, S)) (fun z8 S7 => if x2 = 0 then (J_M_readZone_69 x1 z8 S7) else (j_l (-z8 : Int32) (fun v34 => J_M_readZone_69 x1 v34 S7))) = some (none, M') ∧ GZ z M M' ∧ tx C' M' n p' ∧ zq C' a M' z) ∨ (∃ M' p' e, j_x (F_M_ranged 0 840 M) (fun c S => (some c, S)) (fun z8 S7 => if x2 = 0 then (J_M_readZone_69 x1 z8 S7) else (j_l (-z8 : Int32) (fun v34 => J_M_readZone_69 x1 v34 S7))) = some (some 12, M') ∧ gQ M M' ∧ bk C' n p' e ∧ M'.1 215 3 = e)) := by
  have ba := jz_b ha
  obtain ⟨v, C1, b1, b2, b3, b4⟩ := fT_nu (lo := 0) (hi := 840) h (by decide) (by decide) (by decide)
  simp only [Int32.reduceToInt] at b2
  unfold J_Z_readFrom_29
  rw [b1, ob_]
  have f1 : FZ a C C1 := FZ_T b3
  rcases b4 with ⟨M1, p1, m1, m2, m3⟩ | ⟨M1, p1, e, m1, m2, m3, m4⟩
  · rw [m1, jx_0]
    have hb1 : ∀ j, bol (M1.1 (229 + z) j) := fun j => by rw [m2.1 (229 + z) j (by omega)]; exact hb j
    have h1' : C1.1 a 1 = 0 := by rw [b3.1 a 1 (by omega)]; exact h1
    have fin : ∀ w : Int32, -840 ≤ w.toInt → w.toInt ≤ 840 → ∃ C', J_Z_readFrom_49 a w a C1 = some C' ∧ FZ a C C' ∧ C'.2 = C.2 ∧ ((∃ M' p', J_M_readZone_69 x1 w M1 = some (none, M') ∧ GZ z M M' ∧ tx C' M' n p' ∧ zq C' a M' z) ∨ (∃ M' p' e, J_M_readZone_69 x1 w M1 = some (some 12, M') ∧ gQ M M' ∧ bk C' n p' e ∧ M'.1 215 3 = e)) := by
      intro w w1 w2
      obtain ⟨C', r1, r2, r3, r4⟩ := zJ49 (y := w) m3 ha h1' w1 w2 hz hz8 hb1
      refine ⟨C', r1, FZ_t f1 r2, by rw [r3, b3.2], ?_⟩
      rcases r4 with ⟨M', p', q1, q2, q3, q4⟩ | ⟨M', p', e, q1, q2, q3, q4⟩
      · exact Or.inl ⟨M', p', q1, GZ_t (GZ_N m2) q2, q3, q4⟩
      · exact Or.inr ⟨M', p', e, q1, gQ_t (gN_Q m2) q2, q3, q4⟩
    by_cases q : x2 = 0
    · rw [if_pos q, if_pos q]
      exact fin v (by omega) (by omega)
    · rw [if_neg q, if_neg q, jl_]
      have := negI b2.1 b2.2
      exact fin (-v) (by omega) (by omega)
  · rw [m1, jx_1]
    have fin : ∀ w : Int32, ∃ C', J_Z_readFrom_49 a w a C1 = some C' ∧ FZ a C C' ∧ C'.2 = C.2 ∧ ((∃ M' p', (some (some 12, M1) : Option (Option Nat × jS)) = some (none, M') ∧ GZ z M M' ∧ tx C' M' n p' ∧ zq C' a M' z) ∨ (∃ M' p' e, (some (some 12, M1) : Option (Option Nat × jS)) = some (some 12, M') ∧ gQ M M' ∧ bk C' n p' e ∧ M'.1 215 3 = e)) := by
      intro w
      obtain ⟨C', p', r1, r2, r3, r4⟩ := zJ49b (y := w) (a := a) m3 (by omega)
      exact ⟨C', r1, FZ_t f1 r2, by rw [r3, b3.2], Or.inr ⟨M1, p', e, rfl, gN_Q m2, r4, m4⟩⟩
    by_cases q : x2 = 0
    · rw [if_pos q]; exact fin v
    · rw [if_neg q]; exact fin (-v)
/-- a zone is read on both sides -/
theorem fZ_rd (h : tx C (w_i M 215 7 0) n 0) (ha : jz_ a = true) (hz : x1.toInt = z) (hz8 : z < 8) (hb : ∀ j, bol (M.1 (229 + z) j)) : ∃ C', F_Z_readFrom a C = some C' ∧ FZ a C C' ∧ C'.2.1 a 5 = -1152921504606846976 ∧ ((∃ M' p', F_M_readZone x1 M = some (none, M') ∧ GZ z M M' ∧ tx C' M' n p' ∧ zq C' a M' z) ∨ (∃ M' p' e, F_M_readZone x1 M = some (some 12, M') ∧ gQ M M' ∧ bk C' n p' e ∧ M'.1 215 3 = e)) := by
  have ba := jz_b ha
  have g0 : GZ z M (w_i M 215 7 0) := GZ_N (gN_i (Or.inr rfl))
  have g0' : gQ M (w_i M 215 7 0) := gN_Q (gN_i (Or.inr rfl))
  have hb0 : ∀ j, bol ((w_i M 215 7 0).1 (229 + z) j) := fun j => by rw [w_ir, if_neg (by omega)]; exact hb j
  have h2 : tx (w_i (w_l C a 5 (-1152921504606846976)) a 1 0) (w_i M 215 7 0) n 0 := tx_c (C := w_l C a 5 (-1152921504606846976)) h (by omega) (by omega)
  have f2 : FZ a C (w_i (w_l C a 5 (-1152921504606846976)) a 1 0) := ⟨fun b j q r => by rw [w_ir, if_neg (by omega), w_l1], fun b j q => by rw [w_i2, w_lr, if_neg (by omega)], rfl⟩
  have e1 : (w_i (w_l C a 5 (-1152921504606846976)) a 1 0).1 a 1 = 0 := by rw [w_ir, if_pos ⟨rfl, rfl⟩]
  have e5 : (w_i (w_l C a 5 (-1152921504606846976)) a 1 0).2.1 a 5 = -1152921504606846976 := by rw [w_i2, w_lr, if_pos ⟨rfl, rfl⟩]
  unfold F_Z_readFrom F_M_readZone J_M_readZone_28 J_M_readZone_42
  rw [jl_, jl_, jl_]
  generalize w_i (w_l C a 5 (-1152921504606846976)) a 1 0 = S2 at *
  generalize w_i M 215 7 0 = M0 at *
  rw [fM_pk h2]
  simp only [ob_]
  have fin : ∀ (x2 : Int32), 0 < n → ∃ C', J_Z_readFrom_29 a x2 (c_1 S2) = some C' ∧ FZ a C C' ∧ C'.2.1 a 5 = -1152921504606846976 ∧ ((∃ M' p', j_l (w_i M0 215 7 (M0.1 215 7 + 1)) (fun S6 => j_x (F_M_ranged 0 840 S6) (fun c S => (some c, S)) (fun z8 S7 => if x2 = 0 then (J_M_readZone_69 x1 z8 S7) else (j_l (-z8 : Int32) (fun v34 => J_M_readZone_69 x1 v34 S7)))) = some (none, M') ∧ GZ z M M' ∧ tx C' M' n p' ∧ zq C' a M' z) ∨ (∃ M' p' e, j_l (w_i M0 215 7 (M0.1 215 7 + 1)) (fun S6 => j_x (F_M_ranged 0 840 S6) (fun c S => (some c, S)) (fun z8 S7 => if x2 = 0 then (J_M_readZone_69 x1 z8 S7) else (j_l (-z8 : Int32) (fun v34 => J_M_readZone_69 x1 v34 S7)))) = some (some 12, M') ∧ gQ M M' ∧ bk C' n p' e ∧ M'.1 215 3 = e)) := by
    intro x2 hn
    obtain ⟨C', r1, r2, r3, r4⟩ := z29 (x2 := x2) (M := m_1 M0) (tx_1 h2 hn) ha (by rw [fT_1.1 a 1 (by omega)]; exact e1) hz hz8 (fun j => by rw [gN_1.1 (229 + z) j (by omega)]; exact hb0 j)
    refine ⟨C', r1, FZ_t f2 (FZ_t (FZ_T fT_1) r2), by rw [r3, fT_1.2]; exact e5, ?_⟩
    rw [jl_]
    have gm : GZ z M (m_1 M0) := GZ_t g0 (GZ_N gN_1)
    rcases r4 with ⟨M', p', q1, q2, q3, q4⟩ | ⟨M', p', e, q1, q2, q3, q4⟩
    · exact Or.inl ⟨M', p', q1, GZ_t gm q2, q3, q4⟩
    · exact Or.inr ⟨M', p', e, q1, gQ_t (gQ_t g0' (gN_Q gN_1)) q2, q3, q4⟩
  by_cases q : pkv S2 n 0 = 45
  · obtain ⟨t1, t2⟩ := (fT_tk h2 (c := 45) (by decide)).1 q
    rw [t2, ob_, if_neg (show ¬ (1 : Int32) = 0 by decide), if_neg (show ¬ pkv S2 n 0 = 43 by rw [q]; decide)]
    simp only [if_pos q]
    exact fin 1 t1
  · rw [(fT_tk h2 (c := 45) (by decide)).2 q, ob_, if_pos rfl]
    unfold F_T_require
    simp only [if_neg q]
    by_cases w : pkv S2 n 0 = 43
    · obtain ⟨t1, t2⟩ := (fT_tk h2 (c := 43) (by decide)).1 w
      rw [t2, ob_, if_neg (show ¬ (1 : Int32) = 0 by decide), ob_]
      simp only [if_pos w]
      exact fin 0 t1
    · obtain ⟨b1, b2⟩ := fT_br h2 (pos_n h2)
      rw [(fT_tk h2 (c := 43) (by decide)).2 w, ob_, if_pos rfl, b1, ob_, ob_]
      simp only [if_neg w]
      rw [fM_bad, jxv_1]
      have p0 : S2.1 25 2 = 0 := eqI.mpr (by rw [h2.2.2.2.2.1]; rfl)
      obtain ⟨C', p', r1, r2, r3, r4⟩ := z29b (x2 := 0) (a := a) b2 (by omega)
      refine ⟨C', r1, FZ_t f2 (FZ_t (FZ_T (fT_i (Or.inr rfl))) r2), by rw [r3]; exact e5, Or.inr ⟨_, p', _, rfl, gQ_t g0' (gN_Q (gN_i (Or.inl rfl))), r4, by rw [w_ir, if_pos ⟨rfl, rfl⟩, p0]⟩⟩
end JX_9
