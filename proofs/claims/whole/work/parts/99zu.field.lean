section KA_1
variable {S T C C' M M' D Y : jS} {n p s f a u k g : Nat} {c e v x1 x3 : Int32}
theorem kS_o {h : Nat} (hk : kS C a M h) (hh : h < 7) (hn : h ≠ f) (hu : uO f C a C') (hm : ∀ i, M'.1 (369 + h) i = M.1 (369 + h) i) : kS C' a M' h := by
  refine ⟨fun i hi => by rw [hm]; exact hk.1 i hi, fun u u1 u2 => ?_⟩
  rw [hm, hu h u hh hn u1 u2]
  exact hk.2 u u1 u2
/-- a field has a value -/
def ne_ (C : jS) (a f : Nat) : Prop := ∃ u, lo_ f ≤ u ∧ u ≤ hi_ f ∧ bt (C.2.1 (a + 1) (wd f u)) (bi f u) = true
def z_ (C : jS) (a f : Nat) : Prop := ∀ u, lo_ f ≤ u → u ≤ hi_ f → bt (C.2.1 (a + 1) (wd f u)) (bi f u) = false
theorem ne_o {h : Nat} (hk : ne_ C a h) (hc : ∀ w i, bt (C.2.1 (a + 1) w) i = true → bt (C'.2.1 (a + 1) w) i = true) : ne_ C' a h := by
  obtain ⟨u, u1, u2, u3⟩ := hk
  exact ⟨u, u1, u2, hc _ _ u3⟩
theorem z_o {h : Nat} (hk : z_ C a h) (hh : h < 7) (hn : h ≠ f) (hu : uO f C a C') : z_ C' a h := fun u u1 u2 => by rw [hu h u hh hn u1 u2]; exact hk u u1 u2
/-- the model begins a field -/
theorem tx_f (h : tx C M n p) : tx C (w_i (w_i (w_i M 215 20 0) 215 21 0) 215 22 0) n p := tx_j (tx_j (tx_j h (by omega) (by omega) (by omega)) (by omega) (by omega) (by omega)) (by omega) (by omega) (by omega)
theorem gS_f : gS M (w_i (w_i (w_i M 215 20 0) 215 21 0) 215 22 0) := gS_t (gS_t (gS_i (Or.inl rfl)) (gS_i (Or.inr (Or.inl rfl)))) (gS_i (Or.inr (Or.inr rfl)))
/-- a field of plain items on both sides -/
theorem pf_ (h : tx C M n p) (ha : a ≠ 25) (ha' : a ≠ 26) (hx : x1.toInt = f) (hf : f < 7) (h3 : f ≠ 3) (h5 : f ≠ 5) (hz : z_ C a f) : ∃ C', F_CR_readItems a x1 C = some C' ∧ FX a C C' ∧ ((cI f a C C' ∧ ∃ M' d, F_M_field x1 M = some (none, M') ∧ gT f M M' ∧ tx C' M' n (p + d) ∧ kS C' a M' f ∧ ne_ C' a f) ∨ (∃ M' p' e, F_M_field x1 M = some (some 12, M') ∧ GX M M' ∧ bk C' n p' e ∧ M'.1 215 3 = e)) := by
  have n3 : ¬ x1 = 3 := fun w => h3 (by rw [w] at hx; simp only [Int32.reduceToInt] at hx; omega)
  have n5 : ¬ x1 = 5 := fun w => h5 (by rw [w] at hx; simp only [Int32.reduceToInt] at hx; omega)
  have em : F_M_field x1 M = j_xv (F_M_items x1 (w_i (w_i (w_i M 215 20 0) 215 21 0) 215 22 0)) (fun c S => (some c, S)) (fun S33 => some (none, S33)) := by
    unfold F_M_field J_M_field_52 J_M_field_141 J_M_field_202
    rw [jl_, jl_, jl_, if_neg n3, if_neg n5, if_neg n3, if_neg n5]
  obtain ⟨C', c1, c2, c3⟩ := ri_ (a := a) (tx_f h) ha ha' hx hf hz
  refine ⟨C', c1, c2, ?_⟩
  rw [em]
  rcases c3 with ⟨w0, M', d', w1, w2, w3, w4, w5⟩ | ⟨-, -, M', d', v, -, -, -, w5, -⟩ | ⟨M', p', e, w1, w2, w3, w4⟩
  · exact Or.inl ⟨w0, M', d', by rw [w1, jxv_0], gT_t (gT_S gS_f) (gT_F w2), w3, w4, w5⟩
  · unfold sR at w5
    omega
  · exact Or.inr ⟨M', p', e, by rw [w1, jxv_1], GX_t (gS_X gS_f) w2, w3, w4⟩
/-- blanks between fields, in the model -/
theorem m179 (h : tx C M n p) (hx : x3.toInt = f) (hf : f < 5) : J_M_readCron_179 (L_M_readCron_12 (g + 1)) x1 x3 M = j_xv (F_M_blanks M) (fun c S => (some c, S)) (fun S62 => J_M_readCron_74 (L_M_readCron_12 g) x1 (x3 + 1) S62) := by
  have h1 : (x3 + 1).toInt = ((f + 1 : Nat) : Int) := p1I hx (by omega)
  unfold J_M_readCron_179
  rw [if_neg (by rw [geI (k := 5) (n := 5) rfl]; omega), fM_pk h, ob_]
  by_cases q : pkv C n p = 32
  · have pn : p < n := ((fT_tk h (c := 32) (by decide)).1 q).1
    rw [if_pos q]
    unfold J_M_readCron_193
    rw [if_neg (show ¬ M.1 215 2 ≤ M.1 215 7 by rw [fM_dn h]; exact fun w => w pn), fM_pk h, ob_, if_pos q]
    conv => lhs; unfold L_M_readCron_12
    have n6 : ¬ x3 + 1 = 6 := fun w => by rw [w] at h1; simp only [Int32.reduceToInt] at h1; omega
    rw [if_neg (by rw [geI (k := 7) (n := 7) rfl]; omega), if_neg n6]
    unfold J_M_readCron_66
    rw [if_neg (by rw [leI (k := 0) (n := 0) rfl]; omega)]
  · rw [if_neg q]
    unfold J_M_readCron_213 F_M_blanks
    rw [fM_bad, jxv_1, fM_pk h, ob_, if_neg q, jxv_1, jxv_1]
/-- a plain field, and the blanks behind it -/
theorem m74 (h3 : f ≠ 3) (h5 : f ≠ 5) (hx : x3.toInt = f) {kt : Int32 → Int32 → jS → Option (Option Nat × jS)} : J_M_readCron_74 kt x1 x3 M = j_xv (F_M_field x3 M) (fun c S => (some c, S)) (fun S43 => J_M_readCron_179 kt x1 x3 S43) := by
  have n3 : ¬ x3 = 3 := fun w => h3 (by rw [w] at hx; simp only [Int32.reduceToInt] at hx; omega)
  have n5 : ¬ x3 = 5 := fun w => h5 (by rw [w] at hx; simp only [Int32.reduceToInt] at hx; omega)
  unfold J_M_readCron_74 J_M_readCron_116
  rw [if_neg n5]
  simp only [if_neg n3, if_neg n5]
/-- the class behind a broken place -/
theorem wk_b (h : bk C n p e) (ha : a ≠ 25) : ∃ r C', F_CR_takeWeekdayRule a C = some (r, C') ∧ FX a C C' ∧ bk C' n p e := by
  unfold F_CR_takeWeekdayRule
  by_cases q : C.1 a 1 = 1
  · rw [if_pos q, fB_tk h (by decide), ob_, if_pos rfl]
    exact ⟨0, C, rfl, FX_r, h⟩
  · rw [if_neg q, fB_rq h (by decide), ob_]
    exact ⟨1, C, rfl, FX_r, h⟩
theorem dy_b (h : bk C n p e) : F_CR_takeDayRule a C = some (0, C) := by
  unfold F_CR_takeDayRule
  rw [fB_tk h (by decide), ob_, if_pos rfl, fB_tk h (by decide), ob_, if_pos rfl]
theorem j76b (h : bk C n p e) (ha : a ≠ 25) : ∃ C' p', J_CR_readCron_76 a C = some C' ∧ FX a C C' ∧ bk C' n p' e := by
  unfold J_CR_readCron_76
  rw [fB_dn h, ob_, if_neg (by decide)]
  obtain ⟨l1, l2⟩ := lh6
  obtain ⟨C2, c1, c2, c3, c4, c5⟩ := ad_c (a := a) (C := C) (x1 := 6) (f := 6) (x4 := 1970) (x5 := 2299) (x7 := 1) (u0 := 1970) (u1 := 2299) (st := 1) rfl (by omega) rfl (by omega) (by omega) rfl (by omega) (by omega) rfl (by omega) (by omega)
  exact ⟨C2, p, by rw [c1, ob_], c3.1, bk_e h c2⟩
theorem j48b (h : bk C n p e) (ha : a ≠ 25) : ∃ C' p', J_CR_readCron_48 a C = some C' ∧ FX a C C' ∧ bk C' n p' e := by
  unfold J_CR_readCron_48
  obtain ⟨C1, p1, a1, a2, a3⟩ := fB_bl h
  obtain ⟨C2, b1, b2, b3⟩ := ri_b (a := a) (x1 := 4) (f := 4) a3 ha rfl (by omega)
  obtain ⟨C3, p3, d1, d2, d3⟩ := fB_bl b3
  obtain ⟨r, C4, e1, e2, e3⟩ := wk_b (a := a) d3 ha
  rw [a1, ob_, b1, ob_, d1, ob_, e1, ob_]
  have f4 : FX a C C4 := FX_t (FX_t (FX_t (FX_T a2) b2) (FX_T d2)) e2
  by_cases q : r = 0
  · rw [if_pos q]
    obtain ⟨C5, g1, g2, g3⟩ := ri_b (a := a) (x1 := 5) (f := 5) e3 ha rfl (by omega)
    obtain ⟨C6, p6, i1, i2, i3⟩ := j76b (a := a) g3 ha
    exact ⟨C6, p6, by rw [g1, ob_, i1], FX_t (FX_t f4 g2) i2, i3⟩
  · rw [if_neg q]
    obtain ⟨C6, p6, i1, i2, i3⟩ := j76b (a := a) e3 ha
    exact ⟨C6, p6, i1, FX_t f4 i2, i3⟩
/-- the class's tails -/
noncomputable def R3 (a : Nat) (C : jS) : Option jS := (F_T_requireBlanks C).bind (fun z7 => (F_CR_takeDayRule a z7).bind (fun z8 => if z8.1 = 0 then ((F_CR_readItems a 3 z8.2).bind (fun z10 => J_CR_readCron_48 a z10)) else (J_CR_readCron_48 a z8.2)))
noncomputable def R2 (a : Nat) (C : jS) : Option jS := (F_T_requireBlanks C).bind (fun z5 => (F_CR_readItems a 2 z5).bind (fun z6 => R3 a z6))
noncomputable def R1 (a : Nat) (C : jS) : Option jS := (F_T_requireBlanks C).bind (fun z3 => (F_CR_readItems a 1 z3).bind (fun z4 => R2 a z4))
theorem r3b (h : bk C n p e) (ha : a ≠ 25) : ∃ C' p', R3 a C = some C' ∧ FX a C C' ∧ bk C' n p' e := by
  unfold R3
  obtain ⟨C1, p1, a1, a2, a3⟩ := fB_bl h
  obtain ⟨C2, b1, b2, b3⟩ := ri_b (a := a) (x1 := 3) (f := 3) a3 ha rfl (by omega)
  obtain ⟨C3, p3, d1, d2, d3⟩ := j48b (a := a) b3 ha
  exact ⟨C3, p3, by rw [a1, ob_, dy_b a3, ob_, if_pos rfl, b1, ob_, d1], FX_t (FX_t (FX_T a2) b2) d2, d3⟩
theorem r2b (h : bk C n p e) (ha : a ≠ 25) : ∃ C' p', R2 a C = some C' ∧ FX a C C' ∧ bk C' n p' e := by
  unfold R2
  obtain ⟨C1, p1, a1, a2, a3⟩ := fB_bl h
  obtain ⟨C2, b1, b2, b3⟩ := ri_b (a := a) (x1 := 2) (f := 2) a3 ha rfl (by omega)
  obtain ⟨C3, p3, d1, d2, d3⟩ := r3b (a := a) b3 ha
  exact ⟨C3, p3, by rw [a1, ob_, b1, ob_, d1], FX_t (FX_t (FX_T a2) b2) d2, d3⟩
theorem r1b (h : bk C n p e) (ha : a ≠ 25) : ∃ C' p', R1 a C = some C' ∧ FX a C C' ∧ bk C' n p' e := by
  unfold R1
  obtain ⟨C1, p1, a1, a2, a3⟩ := fB_bl h
  obtain ⟨C2, b1, b2, b3⟩ := ri_b (a := a) (x1 := 1) (f := 1) a3 ha rfl (by omega)
  obtain ⟨C3, p3, d1, d2, d3⟩ := r2b (a := a) b3 ha
  exact ⟨C3, p3, by rw [a1, ob_, b1, ob_, d1], FX_t (FX_t (FX_T a2) b2) d2, d3⟩
end KA_1
