section JV_4
variable {S T U C M Y D : jS} {A A' : Nat → Nat → Int} {b j i k n x y c f g : Nat} {p0 x5 : Int32} {p1 x3 : Int64} {RB : jS → Prop}
/-- what the calls on jobs may write -/
def jf (S T : jS) : Prop := (∀ b j, ¬ jr b → b < 436 → ¬ (b = 215 ∧ (j = 0 ∨ j = 4 ∨ j = 5 ∨ j = 6 ∨ j = 42 ∨ j = 45 ∨ j = 49)) → ¬ (jz_ b = true ∧ j = 6) → T.1 b j = S.1 b j) ∧ (∀ b j, ¬ jr b → b < 436 → ¬ (b = 215 ∧ (j = 41 ∨ j = 43 ∨ j = 44)) → ¬ (jz_ b = true ∧ (j = 4 ∨ j = 5)) → T.2.1 b j = S.2.1 b j) ∧ (∀ b j, b ≠ 32 → T.2.2 b j = S.2.2 b j)
theorem jf_r : jf S S := ⟨fun _ _ _ _ _ _ => rfl, fun _ _ _ _ _ _ => rfl, fun _ _ _ => rfl⟩
theorem jf_t (h1 : jf S T) (h2 : jf T U) : jf S U := ⟨fun b j q r s t => (h2.1 b j q r s t).trans (h1.1 b j q r s t), fun b j q r s t => (h2.2.1 b j q r s t).trans (h1.2.1 b j q r s t), fun b j q => (h2.2.2 b j q).trans (h1.2.2 b j q)⟩
theorem fc_j (h : fc S T) : jf S T := ⟨fun b j q _ _ t => h.1 b j q t, fun b j q _ _ t => h.2.1 b j q t, h.2.2⟩
theorem fm_j (h : fm S T) : jf S T := ⟨fun b j _ q r _ => h.1 b j q (by omega), fun b j _ q r _ => h.2.1 b j q r, fun b j _ => by rw [h.2.2]⟩
theorem jf_0 {v : Int32} : jf S (w_i S 215 0 v) := ⟨fun b j _ _ r _ => by rw [w_ir, if_neg (by omega)], fun b j _ _ _ _ => by rw [w_i2], fun b j _ => rfl⟩
theorem jf_v (h : jf S T) : sv S T := ⟨fun b j q r => h.1 b j (by unfold jr; unfold nj at q; omega) (by unfold nj at q; omega) (by unfold nj at q; omega) r, fun b j q r => h.2.1 b j (by unfold jr; unfold nj at q; omega) (by unfold nj at q; omega) (by unfold nj at q; omega) r, trivial, h.2.2⟩
/-- what the rest of the relation keeps -/
def rK (RB : jS → Prop) : Prop := (∀ S, RB S → rZ S ∧ rC S ∧ rH S) ∧ ∀ S T, RB S → jf S T → rZ T → RB T
/-- the relation of both sides after m calls -/
def RJ (RB : jS → Prop) (m : Nat) (S : jS) : Prop := RB S ∧ ∃ A, cA S A ∧ mA S A ∧ iA (500 * (m : Int)) A
theorem cA_0 {v : Int32} (h : cA S A) : cA (w_i S 215 0 v) A := cA_k (fun b j q => by rw [w_ir, if_neg (by unfold jr at q; omega)]) (fun b j _ => by rw [w_i2]) h
theorem mA_0 {v : Int32} (h : mA S A) : mA (w_i S 215 0 v) A := ma_o h (fun x y => by unfold biP; omega)
theorem rZ_0 {v : Int32} (h : rZ S) : rZ (w_i S 215 0 v) := by
  refine sv_rZ (jf_v jf_0) (fun z h8 => ?_) h
  obtain ⟨Z1, -, -, Z4, -⟩ := h.2.1 z h8
  have b := jz_b Z1
  rw [zca_v (jf_v jf_0) Z1 rfl rfl (by rw [w_ir, if_neg (by omega)])]
  exact Z4
theorem RJ_0 {v : Int32} {m : Nat} (hK : rK RB) (h : RJ RB m S) : RJ RB m (w_i S 215 0 v) := by
  obtain ⟨h1, A, h2, h3, h4⟩ := h
  exact ⟨hK.2 _ _ h1 jf_0 (rZ_0 (hK.1 _ h1).1), A, cA_0 h2, mA_0 h3, h4⟩
theorem RJ_m {m : Nat} (h : RJ RB m S) : RJ RB (m + 1) S := by
  obtain ⟨h1, A, h2, h3, h4⟩ := h
  exact ⟨h1, A, h2, h3, iA_m h4 (by omega)⟩
theorem iA_z {B : Int} (h : iA B A) : iA (B + up A 100 2 0 100 2) (up A 100 2 0) := by
  obtain ⟨I1, I2, I3, I4, I5, I6, I7⟩ := h
  have g : ∀ i, i < 100 → ∀ k, up A 100 2 0 i k = A i k := fun i hi k => by rw [up_r, if_neg (by omega)]
  have g2 : up A 100 2 0 100 2 = 0 := by rw [up_r, if_pos ⟨rfl, rfl⟩]
  have gn : ∀ k, k ≠ 2 → up A 100 2 0 100 k = A 100 k := fun k hk => by rw [up_r, if_neg (by omega)]
  rw [g2, Int.add_zero]
  refine ⟨fun j hj => ?_, fun j j' hj hj' => ?_, ?_, ?_, ?_, ?_, ?_⟩
  · have := I1 j hj
    unfold jI at this ⊢
    simp only [g j hj, gn 0 (by omega), gn 4 (by omega)]
    exact this
  · simp only [g j hj, g j' hj']
    exact I2 j j' hj hj'
  · rw [gn 0 (by omega)]; exact I3
  · rw [gn 1 (by omega)]; exact I4
  · rw [g2]; omega
  · rw [gn 3 (by omega)]; exact I6
  · rw [gn 4 (by omega)]; exact I7
theorem ok_advance {m : Nat} (hK : rK RB) (hm : m < 512) : Oq_advance (RJ RB m) (RJ RB (m + 1)) := by
  intro p0 S h
  have h' := h
  obtain ⟨hb, A, ha, hma, hI⟩ := h
  obtain ⟨hz, hc, hh⟩ := hK.1 _ hb
  have I3 := hI.2.2.1
  have g8 := (cg0 ha.1)
  have g41 := (mg0 hma)
  have w1 : S.2.1 215 41 = S.2.1 24 8 := eqL.mpr (by rw [g8, g41])
  have cw := fcw (p := p0) (S := S) (by omega) (by omega)
  by_cases q : 0 ≤ p0.toInt ∧ p0.toInt ≤ 8796093022208 ∧ (S.2.1 24 8).toInt + p0.toInt ≤ 10413791999999
  · rw [if_pos q] at cw
    have ex : (S.2.1 24 8 + p0).toInt = A 100 0 + p0.toInt := adL g8 rfl (by omega) (by omega)
    -- the class's side begins
    have kC : cA (w_i S 47 3 0) (up A 100 2 0) := by
      refine ⟨ca_i ha.1 (by unfold aiP; omega) rfl, ?_, ?_⟩
      · exact cP_c ha.2.1 (fun j hj => rfl) (fun j hj => by simp only [up_r]; rw [if_neg (by omega), if_neg (by omega)]; exact ⟨rfl, rfl⟩)
      · exact cS_c ha.2.2 (fun i => by rw [w_ir, if_neg (by omega)]) (fun i => by rw [w_ir, if_neg (by omega)]) (fun j hj => by rw [up_r, if_neg (by omega)])
    have fC : f0 S (w_i S 47 3 0) := f0_i f0_r (by unfold jr; omega)
    have a0 : up A 100 2 0 100 0 = A 100 0 := by rw [up_r, if_neg (by omega)]
    have a2 : up A 100 2 0 100 2 = 0 := by rw [up_r, if_pos ⟨rfl, rfl⟩]
    have pb := pS_b (A := up A 100 2 0)
    have run : ∀ M, sv (w_i S 47 3 0) M → mA M (up A 100 2 0) → Rz (500 * (m : Int)) (w_i S 47 3 0) M (L_J_advance_23 ju_ (S.2.1 24 8 + p0) 0 (w_i S 47 3 0)) (L_M_advance_50 ju_ (S.2.1 24 8 + p0) M) := by
      intro M hv hm'
      rw [show L_M_advance_50 ju_ (S.2.1 24 8 + p0) M = (L_M_work_0 ju_ M).bind (kA 999999 (S.2.1 24 8 + p0)) from kA_50 (f := 999999)]
      exact (sim_ (B := 500 * (m : Int)) (x3 := S.2.1 24 8 + p0) (by omega) (by omega) (by omega) _ (w_i S 47 3 0) M _ rfl kC hm' (iA_z hI) (f0_z fC hz) (sv_rC (fc_v (f0_c fC)) hc) (sv_rH (fc_v (f0_c fC)) hh) hv (by omega) (by omega) ju_ ju_ 999999 0 (by show _ < 1000000; omega) (by decide) (by simp only [Int32.reduceToInt]; omega) (by show _ < 1000000; omega) (by omega)).1
    have start : ∀ Y, fc (w_i S 47 3 0) Y → sv (w_i S 47 3 0) (w_i (w_i Y 215 0 0) 215 49 0) ∧ mA (w_i (w_i Y 215 0 0) 215 49 0) (up A 100 2 0) := by
      intro Y hY
      refine ⟨sv_t (fc_v hY) (sv_t (jf_v jf_0) (fm_v (fm_i fm_r (by omega)))), ma_i (mA_0 (fc_m hY (fc_m (f0_c fC) hma))) (by unfold biP; omega) rfl⟩
    obtain ⟨s1, s2⟩ := start _ fc_r
    obtain ⟨v, C', -, -, e1, -, -, -, -, e6, -, -⟩ := run _ s1 s2
    obtain ⟨t1, t2⟩ := start _ e6
    obtain ⟨v', C'', M', A', d1, d2, d3, d4, d5, d6, d7, d8⟩ := run _ t1 t2
    rw [e1] at d1
    have d1' := Option.some.inj d1
    have ev : v = v' := Sum.inl.inj (Prod.mk.inj d1').1
    have ec : C' = C'' := (Prod.mk.inj d1').2
    subst ev ec
    have I5' := d5.2.2.2.2.1
    refine ⟨(.inl v, C'), v, M', ?_, ?_, ⟨?_, A', cA_m d7 (cA_k (fun b j q => ?_) (fun b j q => ?_) d3), d4, iA_m d5 (by omega)⟩, ?_, rfl⟩
    · unfold F_J_advance
      rw [cw, jxv_0, jl_, jl_, e1]
    · show F_M_advance p0 C' = _
      have r : (w_i C' 215 0 0).2.1 215 41 = S.2.1 24 8 := by
        rw [w_i2, e6.2.1 215 41 (by unfold jr; omega) (fun w => by have := jz_b w.1; omega), w_i2, w1]
      unfold F_M_advance
      rw [jl_, r, if_neg (by rw [ltL (k := 0) (n := 0) rfl]; omega), if_neg (by rw [gtL (k := 8796093022208) (n := 8796093022208) rfl]; omega), if_pos (by rw [leL (k := 10413791999999) (n := 10413791999999) rfl, ex]; omega), jl_, jl_]
      exact d2
    · have f1 : jf S (w_i (w_i C' 215 0 0) 215 49 0) := jf_t (fc_j (fc_t (f0_c fC) e6)) (jf_t jf_0 (fm_j (fm_i fm_r (by omega))))
      exact hK.2 _ _ hb (jf_t f1 (fm_j d7)) (fm_z d7 (fm_z (fm_i fm_r (by omega)) (rZ_0 d8)))
    · rw [w_ir, if_neg (by unfold jr at q; omega), w_ir, if_neg (by unfold jr at q; omega)]
    · rfl
    · rw [d7.1 215 0 (by omega) (by omega), w_ir, if_neg (by omega), w_ir, if_pos ⟨rfl, rfl⟩]
  · rw [if_neg q] at cw
    refine ⟨(.inr 11, S), 0, w_i (w_i S 215 0 0) 215 0 1, ?_, ?_, RJ_m (RJ_0 hK (RJ_0 hK h')), ?_⟩
    · unfold F_J_advance
      rw [cw, jxv_1]
    · show F_M_advance p0 S = _
      have r : (w_i S 215 0 0).2.1 215 41 = S.2.1 24 8 := by rw [w_i2, w1]
      have e : J_M_advance_32 (w_i S 215 0 0) = some (0, w_i (w_i S 215 0 0) 215 0 1) := rfl
      unfold F_M_advance
      rw [jl_, r, e]
      by_cases g1 : p0.toInt < 0
      · rw [if_pos (by rw [ltL (k := 0) (n := 0) rfl]; exact g1)]
      rw [if_neg (by rw [ltL (k := 0) (n := 0) rfl]; exact g1)]
      by_cases g2 : 8796093022208 < p0.toInt
      · rw [if_pos (by rw [gtL (k := 8796093022208) (n := 8796093022208) rfl]; exact g2)]
      rw [if_neg (by rw [gtL (k := 8796093022208) (n := 8796093022208) rfl]; exact g2)]
      have e2 : (S.2.1 24 8 + p0).toInt = (S.2.1 24 8).toInt + p0.toInt := by
        rw [Int64.toInt_add]
        exact bs64 (by omega) (by omega)
      rw [if_neg (by rw [leL (k := 10413791999999) (n := 10413791999999) rfl, e2]; omega)]
    · show (11, (w_i (w_i S 215 0 0) 215 0 1).1 215 0) ∈ _
      rw [w_ir, if_pos ⟨rfl, rfl⟩]
      exact List.mem_cons_self
end JV_4
