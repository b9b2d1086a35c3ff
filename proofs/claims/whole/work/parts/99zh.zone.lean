section JX_8
variable {S T C C' M M' D Y : jS} {n p s a i k z : Nat} {c e lo hi x1 x3 x4 k0 y : Int32}
/-- the class's zone a is the model's zone z -/
def zq (C : jS) (a : Nat) (M : jS) (z : Nat) : Prop := zok C a ∧ (C.1 a 0).toInt = 60 * (M.1 217 z).toInt ∧ (C.1 a 1).toInt = 60 * (M.1 218 z).toInt ∧ ((C.1 a 1 = 0 ∧ M.1 237 z = 0) ∨ (¬ C.1 a 1 = 0 ∧ M.1 237 z = 660 ∧ evs 660 (M.2.1 (220 + z)) (M.1 (229 + z)) ∧ evp 660 (M.2.1 (220 + z)) (M.1 (229 + z)) (zP C a))) ∧ ∀ j, bol (M.1 (229 + z) j)
theorem tx_k (h : tx C M n p) (h1 : M'.1 215 = M.1 215) (h2 : ∀ j, M'.1 216 j = M.1 216 j) : tx C M' n p := by
  unfold tx at h ⊢
  simp only [h1, h2]
  exact h
theorem mul60 {x : Int32} {v : Int} (h : x.toInt = v) (h1 : -1000 ≤ v) (h2 : v ≤ 1000) : (x * 60).toInt = 60 * v := by
  rw [Int32.toInt_mul, h]
  simp only [Int32.reduceToInt]
  rw [bs32 (by omega) (by omega)]
  omega
theorem zq_m (hm : zm M z x3 x4) (o1 : -840 ≤ x3.toInt) (o2 : x3.toInt ≤ 840) (s1 : 0 ≤ x4.toInt) (s2 : x4.toInt ≤ 120) (c0 : (C.1 a 0).toInt = 60 * x3.toInt) (c1 : (C.1 a 1).toInt = 60 * x4.toInt) (r : ¬ x4 = 0 → rkS C (a + 1) ∧ rkS C (a + 2) ∧ (∀ i, i < 4 → C.1 (a + 1) i = M.1 238 i) ∧ ∀ i, i < 4 → C.1 (a + 2) i = M.1 238 (4 + i)) : zq C a M z := by
  obtain ⟨m1, m2, m3, m4⟩ := hm
  have n0 : C.1 a 1 = 0 ↔ x4 = 0 := by
    rw [eqI, eqI, c1]
    simp only [Int32.reduceToInt]
    omega
  have ok : zok C a := ⟨by omega, by omega, by omega, by omega, fun w => by
    have := r (fun v => w (n0.mpr v))
    exact ⟨this.1, this.2.1⟩⟩
  refine ⟨ok, by rw [m1]; exact c0, by rw [m2]; exact c1, ?_, m3⟩
  rcases m4 with ⟨q, m5⟩ | ⟨q, m5, m6, m7⟩
  · exact Or.inl ⟨n0.mpr q, m5⟩
  · have nz : ¬ C.1 a 1 = 0 := fun w => q (n0.mp w)
    obtain ⟨r1, r2, r3, r4⟩ := r q
    refine Or.inr ⟨nz, m5, m6, evp_c m7 (fun e b => ?_)⟩
    have eB : ∀ y, mB M x3.toInt y = zB C a y := by
      intro y
      unfold mB zB rsM rsS
      rw [r3 0 (by omega), r3 1 (by omega), r3 2 (by omega), r3 3 (by omega), c0]
    have eE : ∀ y, mE M x3.toInt x4.toInt y = zE C a y := by
      intro y
      unfold mE zE rsM rsS
      rw [show C.1 (a + 2) 0 = M.1 238 4 from r4 0 (by omega), r4 1 (by omega), r4 2 (by omega), r4 3 (by omega), c0, c1]
      omega
    unfold mP zP
    constructor
    · rintro ⟨y, y1, y2, y3⟩
      refine ⟨y, y1, y2, ?_⟩
      have b1 := zB_b ok nz y1 (by omega)
      have b2 := zE_b ok nz y1 (by omega)
      rcases y3 with ⟨u, v⟩ | ⟨u, v⟩
      · exact Or.inl ⟨u, by rw [v, tL (by rw [eB]; omega) (by rw [eB]; omega), eB]⟩
      · exact Or.inr ⟨u, by rw [v, tL (by rw [eE]; omega) (by rw [eE]; omega), eE]⟩
    · rintro ⟨y, y1, y2, y3⟩
      refine ⟨y, y1, y2, ?_⟩
      have b1 := zB_b ok nz y1 (by omega)
      have b2 := zE_b ok nz y1 (by omega)
      rcases y3 with ⟨u, v⟩ | ⟨u, v⟩
      · exact Or.inl ⟨u, eqL.mpr (by rw [v, tL (by rw [eB]; omega) (by rw [eB]; omega), eB])⟩
      · exact Or.inr ⟨u, eqL.mpr (by rw [v, tL (by rw [eE]; omega) (by rw [eE]; omega), eE])⟩
theorem FZ_Q (h : fQ a C C') : FZ a C C' := ⟨fun b j q r => h.1 b j q (by omega) (by omega), fun b j _ => by rw [h.2], by rw [h.2]⟩
theorem GZ_Q (h : gQ M M') : GZ z M M' := ⟨fun b j q _ r _ => h.1 b j q r, fun b j _ => by rw [h.2], by rw [h.2]⟩
theorem zJ49b (h : bk C n p e) (ha : a ≠ 25) : ∃ C' p', J_Z_readFrom_49 a y a C = some C' ∧ FZ a C C' ∧ C'.2 = C.2 ∧ bk C' n p' e := by
  refine ⟨w_i C a 0 (y * 60), p, ?_, FZ_i, rfl, bk_c h ha⟩
  unfold J_Z_readFrom_49
  rw [jl_, fB_dn (bk_c h ha), ob_, if_neg (by decide)]
theorem zJ49 (h : tx C M n p) (ha : jz_ a = true) (h1 : C.1 a 1 = 0) (o1 : -840 ≤ y.toInt) (o2 : y.toInt ≤ 840) (hz : x1.toInt = z) (hz8 : z < 8) (hb : ∀ j, bol (M.1 (229 + z) j)) : ∃ C', J_Z_readFrom_49 a y a C = some C' ∧ FZ a C C' ∧ C'.2 = C.2 ∧ ((∃ M' p', J_M_readZone_69 x1 y M = some (none, M') ∧ GZ z M M' ∧ tx C' M' n p' ∧ zq C' a M' z) ∨ (∃ M' p' e, J_M_readZone_69 x1 y M = some (some 12, M') ∧ gQ M M' ∧ bk C' n p' e ∧ M'.1 215 3 = e)) := by
  have ba := jz_b ha
  have h8 : tx (w_i C a 0 (y * 60)) M n p := tx_c h (by omega) (by omega)
  have y60 : (y * 60).toInt = 60 * y.toInt := mul60 rfl (by omega) (by omega)
  have e0 : (w_i C a 0 (y * 60)).1 a 0 = y * 60 := by rw [w_ir, if_pos ⟨rfl, rfl⟩]
  have e1 : (w_i C a 0 (y * 60)).1 a 1 = 0 := by rw [w_ir, if_neg (by omega)]; exact h1
  have f8 : FZ a C (w_i C a 0 (y * 60)) := FZ_i
  have s8 : (w_i C a 0 (y * 60)).2 = C.2 := rfl
  unfold J_Z_readFrom_49 J_M_readZone_69
  rw [jl_]
  generalize w_i C a 0 (y * 60) = S8 at *
  rw [fT_dn h8, ob_]
  by_cases q : p < n
  · rw [if_pos q, if_pos rfl, if_neg (show ¬ M.1 215 2 ≤ M.1 215 7 by rw [fM_dn h8]; exact fun w => w q)]
    obtain ⟨C1, a1, a2, a3⟩ := fT_bl h8
    rw [a1, ob_]
    have A1 : ∀ {D : jS}, fT S8 D → D.1 a 0 = y * 60 ∧ D.1 a 1 = 0 := fun {D} f => ⟨by rw [f.1 a 0 (by omega), e0], by rw [f.1 a 1 (by omega), e1]⟩
    rcases a3 with ⟨M1, p1, m1, m2, m3⟩ | ⟨M1, p1, e, m1, m2, m3, m4⟩
    · rw [m1, jxv_0]
      obtain ⟨v, C2, b1, b2, b3, b4⟩ := fT_nu (lo := 1) (hi := 120) m3 (by decide) (by decide) (by decide)
      simp only [Int32.reduceToInt] at b2
      have v60 : (v * 60).toInt = 60 * v.toInt := mul60 rfl (by omega) (by omega)
      rw [b1, ob_, jl_]
      have fc : FZ a C (w_i C2 a 1 (v * 60)) := FZ_t (FZ_t (FZ_t f8 (FZ_T a2)) (FZ_T b3)) FZ_i
      have sc : (w_i C2 a 1 (v * 60)).2 = C.2 := by rw [w_i2, b3.2, a2.2, s8]
      rcases b4 with ⟨M2, p2, q1, q2, q3⟩ | ⟨M2, p2, e, q1, q2, q3, q4⟩
      · rw [q1, jx_0]
        obtain ⟨C3, c1, c2, c3, c4, c5⟩ := Zt1_s (a := a) (x1 := x1) (x3 := y) (x4 := v) (tx_c (i := 1) (v := v * 60) q3 (show a ≠ 25 by omega) (by omega)) (by omega) (by omega) (by omega) (by omega)
        have z3 : ∀ i, C3.1 a i = (w_i C2 a 1 (v * 60)).1 a i := fun i => c2.1 a i (by omega) (by omega) (by omega)
        have A2 := A1 (fT_t a2 b3)
        have z30 : C3.1 a 0 = y * 60 := by rw [z3, w_ir, if_neg (by omega), A2.1]
        have z31 : C3.1 a 1 = v * 60 := by rw [z3, w_ir, if_pos ⟨rfl, rfl⟩]
        refine ⟨C3, c1, FZ_t fc (FZ_Q c2), by rw [c2.2, sc], ?_⟩
        have gm : GZ z M M2 := GZ_t (GZ_N m2) (GZ_N q2)
        rcases c5 with ⟨M3, p3, o1', o2', o3', o4', o5'⟩ | ⟨M3, p3, e, o1', o2', o3', o4'⟩
        · have g3 : GZ z M M3 := GZ_t gm (GZ_Q o2')
          have hb3 : ∀ j, bol (M3.1 (229 + z) j) := fun j => by
            rw [o2'.1 (229 + z) j (by omega) (by omega), q2.1 (229 + z) j (by omega), m2.1 (229 + z) j (by omega)]
            exact hb j
          have k0 : rkM M3 0 := by
            have := c3
            unfold rkS at this
            unfold rkM
            rw [← o4' 0 (by omega), ← o4' 1 (by omega), ← o4' 2 (by omega), ← o4' 3 (by omega)]
            exact this
          have k4 : rkM M3 4 := by
            have := c4
            unfold rkS at this
            unfold rkM
            rw [show M3.1 238 4 = C3.1 (a + 2) 0 from (o5' 0 (by omega)).symm, ← o5' 1 (by omega), ← o5' 2 (by omega), ← o5' 3 (by omega)]
            exact this
          obtain ⟨M4, j1, j2, j3, j4, j5⟩ := jM_133 (x3 := y) (x4 := v) (M := M3) hz hz8 hb3 o1 o2 (by omega) (by omega) (fun _ => ⟨k0, k4⟩)
          refine Or.inl ⟨M4, p3, ?_, GZ_t g3 j2, tx_k o3' j4 (fun j => j2.1 216 j (by omega) (by omega) (by omega) (by omega)), zq_m j5 o1 o2 (by omega) (by omega) (by rw [z30, y60]) (by rw [z31, v60]) (fun _ => ⟨c3, c4, fun i hi => by rw [j3]; exact o4' i hi, fun i hi => by rw [j3]; exact o5' i hi⟩)⟩
          rw [← j1, ← o1']
          rfl
        · refine Or.inr ⟨M3, p3, e, ?_, gQ_t (gQ_t (gN_Q m2) (gN_Q q2)) o2', o3', o4'⟩
          rw [← o1']
          rfl
      · rw [q1, jx_1]
        obtain ⟨C3, p3, c1, c2, c3, c4, c5⟩ := Zt1_b (a := a) (bk_c (i := 1) (v := v * 60) q3 (show a ≠ 25 by omega)) (by omega) (by omega)
        exact ⟨C3, c1, FZ_t fc (FZ_Q c2), by rw [c2.2, sc], Or.inr ⟨M2, p3, e, rfl, gQ_t (gN_Q m2) (gN_Q q2), c3, q4⟩⟩
    · rw [m1, jxv_1, fB_nu m3, ob_, jl_]
      obtain ⟨C3, p3, c1, c2, c3, c4, c5⟩ := Zt1_b (a := a) (bk_c (i := 1) (v := 1 * 60) m3 (show a ≠ 25 by omega)) (by omega) (by omega)
      exact ⟨C3, c1, FZ_t (FZ_t (FZ_t f8 (FZ_T a2)) FZ_i) (FZ_Q c2), by rw [c2.2, w_i2, a2.2, s8], Or.inr ⟨M1, p3, e, rfl, gN_Q m2, c3, m4⟩⟩
  · rw [if_neg q, if_neg (by decide), if_pos (show M.1 215 2 ≤ M.1 215 7 by rw [fM_dn h8]; exact q)]
    obtain ⟨M4, j1, j2, j3, j4, j5⟩ := jM_133 (x3 := y) (x4 := 0) (M := M) hz hz8 hb o1 o2 (by decide) (by decide) (fun w => absurd rfl w)
    exact ⟨S8, rfl, f8, s8, Or.inl ⟨M4, p, j1, j2, tx_k h8 j4 (fun j => j2.1 216 j (by omega) (by omega) (by omega) (by omega)), zq_m j5 o1 o2 (by decide) (by decide) (by rw [e0, y60]) (by rw [e1]; rfl) (fun w => absurd rfl w)⟩⟩
end JX_8
