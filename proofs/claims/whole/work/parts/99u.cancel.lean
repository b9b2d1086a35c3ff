section JV_5
variable {S T U C C' M Y D : jS} {A A' : Nat → Nat → Int} {b j i k n x y c f g : Nat} {p0 x5 : Int32} {p1 x3 : Int64} {RB : jS → Prop}
theorem cS_g (h3 : cS C A) (e46 : ∀ i, C'.1 46 i = C.1 46 i) (e10 : C'.1 24 10 = C.1 24 10) (e14 : C'.1 24 14 = C.1 24 14) (e11 : (C'.1 24 11).toInt = cN A' 0 100) (h2 : ∀ j, j < 100 → (2 ≤ A' j 0 ↔ 2 ≤ A j 0)) (h0 : ∀ j, j < 100 → A j 0 = 0 → A' j 0 = 0) : cS C' A' := by
  obtain ⟨⟨s1, s2, s3⟩, s4, s5, s6, s7, s8, s9⟩ := h3
  have c1 : cN A' 1 100 = cN A 1 100 := cN_e 100 (fun j hj => by have := h2 j hj; omega)
  unfold cS
  rw [c1, e10, e14, e11]
  simp only [e46]
  refine ⟨⟨s1, s2, fun j hj q => h0 j hj (s3 j hj q)⟩, by trivial, s5, s6, fun i hi => ?_, fun j hj q => s8 j hj ((h2 j hj).mp q), s9⟩
  obtain ⟨j, j1, j2, j3⟩ := s7 i hi
  exact ⟨j, j1, j2, (h2 j j1).mpr j3⟩
/-- the class takes a pending job away -/
theorem fJ_rem (h : cA C A) (hj : j < 100) (h1 : A j 0 = 1) : ∃ C', F_J_remove (115 + j) C = some C' ∧ cA C' (up A j 0 0) ∧ f0 C C' := by
  obtain ⟨hb, hp, h3⟩ := h
  have s4 := h3.2.1
  have cb := cN_b (A := A) (k := 0) 100
  have r11 : (w_i C (115 + j) 0 0).1 24 11 = C.1 24 11 := by rw [w_ir, if_neg (by omega)]
  have ua : ∀ j', j' ≠ j → ∀ k, up A j 0 0 j' k = A j' k := fun j' hn k => by rw [up_r, if_neg (by omega)]
  have u0 : up A j 0 0 j 0 = 0 := by rw [up_r, if_pos ⟨rfl, rfl⟩]
  have c0 := cN_u (A := A) (A' := up A j 0 0) (k := 0) 100 j hj (fun i hi hn => by rw [ua i hn])
  rw [h1, u0, if_neg (by omega), if_pos (by omega)] at c0
  refine ⟨w_i (w_i C (115 + j) 0 0) 24 11 (C.1 24 11 - 1), ?_, ⟨ca_o (ca_i hb (by unfold aiP; omega) rfl) (fun x y => by unfold aiP; omega), cP_c hp (fun _ _ => rfl) (fun j' hj' => ?_), cS_g h3 (fun i => ?_) ?_ ?_ ?_ (fun j' hj' => ?_) (fun j' hj' q => ?_)⟩, f0_i (f0_i f0_r (by unfold jr; omega)) (by unfold jr; omega)⟩
  · unfold F_J_remove
    rw [jl_, jl_, r11]
  · simp only [up_r]
    rw [if_neg (by omega), if_neg (by omega)]
    exact ⟨rfl, rfl⟩
  · rw [w_ir, if_neg (by omega), w_ir, if_neg (by omega)]
  · rw [w_ir, if_neg (by omega), w_ir, if_neg (by omega)]
  · rw [w_ir, if_neg (by omega), w_ir, if_neg (by omega)]
  · rw [w_ir, if_pos ⟨rfl, rfl⟩, suJ s4 (b := 1) rfl (by omega) (by omega)]
    omega
  · by_cases e : j' = j
    · subst e; rw [u0, h1]; omega
    · rw [ua j' e]
  · by_cases e : j' = j
    · subst e; exact u0
    · rw [ua j' e]; exact q
/-- the class stops a running job -/
theorem cA_stop (h : cA C A) (hj : j < 100) (h1 : 2 ≤ A j 0) : cA (w_i C (115 + j) 0 3) (up A j 0 3) ∧ f0 C (w_i C (115 + j) 0 3) := by
  obtain ⟨hb, hp, h3⟩ := h
  have ua : ∀ j', j' ≠ j → ∀ k, up A j 0 3 j' k = A j' k := fun j' hn k => by rw [up_r, if_neg (by omega)]
  have u0 : up A j 0 3 j 0 = 3 := by rw [up_r, if_pos ⟨rfl, rfl⟩]
  have c0 := cN_u (A := A) (A' := up A j 0 3) (k := 0) 100 j hj (fun i hi hn => by rw [ua i hn])
  rw [u0, if_neg (by omega), if_neg (by omega)] at c0
  refine ⟨⟨ca_i hb (by unfold aiP; omega) rfl, cP_c hp (fun _ _ => rfl) (fun j' hj' => ?_), cS_g h3 (fun i => ?_) ?_ ?_ ?_ (fun j' hj' => ?_) (fun j' hj' q => ?_)⟩, f0_i f0_r (by unfold jr; omega)⟩
  · simp only [up_r]
    rw [if_neg (by omega), if_neg (by omega)]
    exact ⟨rfl, rfl⟩
  · rw [w_ir, if_neg (by omega)]
  · rw [w_ir, if_neg (by omega)]
  · rw [w_ir, if_neg (by omega)]
  · rw [w_ir, if_neg (by omega), h3.2.1]
    omega
  · by_cases e : j' = j
    · subst e; rw [u0]; omega
    · rw [ua j' e]
  · by_cases e : j' = j
    · subst e; omega
    · rw [ua j' e]; exact q
theorem iA_st {B v : Int} (h : iA B A) (hj : j < 100) (hv : v = 0 ∨ (v = 3 ∧ 2 ≤ A j 0)) : iA B (up A j 0 v) := by
  obtain ⟨I1, I2, I3, I4, I5, I6, I7⟩ := h
  have ua : ∀ j', j' ≠ j → ∀ k, up A j 0 v j' k = A j' k := fun j' hn k => by rw [up_r, if_neg (by omega)]
  have uk : ∀ k, k ≠ 0 → up A j 0 v j k = A j k := fun k hk => by rw [up_r, if_neg (by omega)]
  have u0 : up A j 0 v j 0 = v := by rw [up_r, if_pos ⟨rfl, rfl⟩]
  have g : ∀ k, up A j 0 v 100 k = A 100 k := fun k => ua 100 (by omega) k
  refine ⟨fun i hi => ?_, fun i i' hi hi' => ?_, ?_, ?_, ?_, ?_, ?_⟩
  · by_cases e : i = j
    · subst e
      rcases hv with rfl | ⟨rfl, h2⟩
      · unfold jI
        rw [u0]
        exact ⟨by omega, by omega, fun w => absurd rfl w⟩
      · obtain ⟨a1, a2, a3⟩ := I1 i hi
        obtain ⟨b1, b2, b3, b4, b5, b6, b7, b8, b9, b10⟩ := a3 (by omega)
        unfold jI
        rw [u0]
        simp only [uk 1 (by omega), uk 2 (by omega), uk 3 (by omega), uk 4 (by omega), uk 6 (by omega), uk 7 (by omega), uk 9 (by omega), uk 10 (by omega), uk 11 (by omega), uk 12 (by omega), uk 13 (by omega), g]
        exact ⟨by omega, by omega, fun _ => ⟨b1, b2, b3, b4, b5, b6, b7, b8, b9, fun _ => b10 h2⟩⟩
    · have := I1 i hi
      unfold jI at this ⊢
      simp only [ua i e, g]
      exact this
  · have st : ∀ i, i < 100 → (up A j 0 v i 0 ≠ 0 → A i 0 ≠ 0) ∧ up A j 0 v i 2 = A i 2 := by
      intro i hi
      by_cases e : i = j
      · subst e
        refine ⟨fun w => ?_, uk 2 (by omega)⟩
        rw [u0] at w
        rcases hv with q | ⟨-, q⟩
        · exact absurd q w
        · omega
      · rw [ua i e, ua i e]
        exact ⟨fun q => q, rfl⟩
    intro q1 q2 q3
    rw [(st i hi).2, (st i' hi').2] at q3
    exact I2 i i' hi hi' ((st i hi).1 q1) ((st i' hi').1 q2) q3
  · rw [g]; exact I3
  · rw [g]; exact I4
  · rw [g]; exact I5
  · rw [g]; exact I6
  · rw [g]; exact I7
theorem ok_cancel {m : Nat} (hK : rK RB) : Ok_cancel (RJ RB m) := by
  intro p0 S h
  have h' := h
  obtain ⟨hb, A, ha, hma, hI⟩ := h
  obtain ⟨hz, hc, hh⟩ := hK.1 _ hb
  have bad : F_J_jobAt p0 S = some (.inr 14, S) → F_M_none p0 (w_i S 215 0 0) = some 1 → ∃ z b S2, F_J_cancel p0 S = some z ∧ F_M_cancel p0 z.2 = some (b, S2) ∧ RJ RB m S2 ∧ jE [(14, 1)] z.1 (S2.1 215 0) b := by
    intro e1 e2
    refine ⟨(.inr 14, S), 0, w_i (w_i S 215 0 0) 215 0 1, ?_, ?_, RJ_0 hK (RJ_0 hK h'), ?_⟩
    · unfold F_J_cancel
      rw [e1, jx_1]
    · show F_M_cancel p0 S = _
      unfold F_M_cancel
      rw [jl_, e2, ob_, if_neg (by decide), fail1, ob_]
    · show (14, (w_i (w_i S 215 0 0) 215 0 1).1 215 0) ∈ _
      rw [w_ir, if_pos ⟨rfl, rfl⟩]
      exact List.mem_cons_self
  by_cases g : 0 ≤ p0.toInt ∧ p0.toInt ≤ 99
  · obtain ⟨j, hj⟩ : ∃ j : Nat, p0.toInt = j := ⟨p0.toInt.toNat, by omega⟩
    have jq : ∀ {α : Type} {X : Option α}, j_q (j_in p0 100) X = X := fun {α X} => j_qi (by omega) (by omega)
    have jl : j < 100 := by omega
    have g0 := (cs0 ha.1 (j := j) (by omega))
    have m0 := (ms0 hma (j := j) (by omega))
    have eM : ∀ Y, mA Y A → F_M_none p0 Y = some (if A j 0 = 0 then 1 else 0) := by
      intro Y hY
      have y0 := (ms0 hY (j := j) (by omega))
      unfold F_M_none
      rw [if_neg (by rw [ltI (k := 0) (n := 0) rfl]; omega), if_neg (by rw [gtI (k := 99) (n := 99) rfl]; omega)]
      simp only [jq, clN hj]
      by_cases z : A j 0 = 0
      · rw [if_pos z, if_pos (eqI.mpr (by rw [y0, z]; rfl))]
      · rw [if_neg z, if_neg (fun w => z (by have := eqI.mp w; rw [y0] at this; exact this))]
    by_cases z : A j 0 = 0
    · refine bad ?_ ?_
      · unfold F_J_jobAt
        rw [if_neg (by rw [ltI (k := 0) (n := 0) rfl]; omega), if_neg (by rw [geI (k := 100) (n := 100) rfl]; omega)]
        simp only [jq, clN hj]
        rw [if_pos (eqI.mpr (by rw [g0, z]; rfl))]
      · rw [eM _ (mA_0 hma), if_pos z]
    · have e1 : F_J_jobAt p0 S = some (.inl (115 + j), S) := by
        unfold F_J_jobAt
        rw [if_neg (by rw [ltI (k := 0) (n := 0) rfl]; omega), if_neg (by rw [geI (k := 100) (n := 100) rfl]; omega)]
        simp only [jq, clN hj]
        rw [if_neg (fun w => z (by have := eqI.mp w; rw [g0] at this; exact this))]
      have J0 := hI.1 j jl
      have fin : ∀ (C' : jS) (v : Int) (w : Int32), cA C' (up A j 0 v) → f0 S C' → w.toInt = v → (v = 0 ∨ (v = 3 ∧ 2 ≤ A j 0)) → RJ RB m (w_i (w_i C' 215 0 0) 436 j w) ∧ (w_i (w_i C' 215 0 0) 436 j w).1 215 0 = 0 := by
        intro C' v w k1 k2 k3 k4
        have f1 : fm (w_i C' 215 0 0) (w_i (w_i C' 215 0 0) 436 j w) := fm_i fm_r (by omega)
        refine ⟨⟨hK.2 _ _ hb (jf_t (fc_j (f0_c k2)) (jf_t jf_0 (fm_j f1))) (fm_z f1 (rZ_0 (f0_z k2 hz))), up A j 0 v, cA_m f1 (cA_0 k1), ma_i (mA_0 (fc_m (f0_c k2) hma)) (by unfold biP; omega) k3, iA_st hI jl k4⟩, ?_⟩
        rw [w_ir, if_neg (by omega), w_ir, if_pos ⟨rfl, rfl⟩]
      have mm : ∀ C', f0 S C' → F_M_cancel p0 C' = if A j 0 = 1 then some (1, w_i (w_i C' 215 0 0) 436 j 0) else some (2, w_i (w_i C' 215 0 0) 436 j 3) := by
        intro C' k2
        have hY := mA_0 (v := 0) (fc_m (f0_c k2) hma)
        have y0 := (ms0 hY (j := j) (by omega))
        unfold F_M_cancel J_M_cancel_41
        rw [jl_, eM _ hY, if_neg z, ob_, if_pos rfl]
        simp only [jq, clN hj, jl_]
        by_cases q : A j 0 = 1
        · rw [if_pos q]
          have : (w_i C' 215 0 0).1 436 j = 1 := eqI.mpr (by rw [y0, q]; rfl)
          rw [if_pos this, if_pos this]
        · rw [if_neg q]
          have : ¬ (w_i C' 215 0 0).1 436 j = 1 := fun w => q (by have := eqI.mp w; rw [y0] at this; exact this)
          rw [if_neg this, if_neg this]
      by_cases q : A j 0 = 1
      · obtain ⟨C', c1, c2, c3⟩ := fJ_rem ha jl q
        obtain ⟨r1, r2⟩ := fin C' 0 0 c2 c3 rfl (Or.inl rfl)
        refine ⟨(.inl 1, C'), 1, _, ?_, ?_, r1, r2, rfl⟩
        · unfold F_J_cancel
          rw [e1, jx_0, j_qt (jb_k jl), if_pos (eqI.mpr (by rw [g0, q]; rfl)), c1, ob_]
        · show F_M_cancel p0 C' = _
          rw [mm C' c3, if_pos q]
      · have h2 : 2 ≤ A j 0 := by have := J0.1; omega
        obtain ⟨c2, c3⟩ := cA_stop ha jl h2
        obtain ⟨r1, r2⟩ := fin _ 3 3 c2 c3 rfl (Or.inr ⟨rfl, h2⟩)
        refine ⟨(.inl 2, w_i S (115 + j) 0 3), 2, _, ?_, ?_, r1, r2, rfl⟩
        · unfold F_J_cancel
          rw [e1, jx_0, j_qt (jb_k jl), if_neg (fun w => q (by have := eqI.mp w; rw [g0] at this; exact this)), jl_]
        · show F_M_cancel p0 (w_i S (115 + j) 0 3) = _
          rw [mm _ c3, if_neg q]
  · refine bad ?_ ?_
    · unfold F_J_jobAt
      by_cases w : p0.toInt < 0
      · rw [if_pos (by rw [ltI (k := 0) (n := 0) rfl]; exact w)]
      · rw [if_neg (by rw [ltI (k := 0) (n := 0) rfl]; exact w), if_pos (by rw [geI (k := 100) (n := 100) rfl]; omega)]
    · unfold F_M_none
      by_cases w : p0.toInt < 0
      · rw [if_pos (by rw [ltI (k := 0) (n := 0) rfl]; exact w)]
      · rw [if_neg (by rw [ltI (k := 0) (n := 0) rfl]; exact w), if_pos (by rw [gtI (k := 99) (n := 99) rfl]; omega)]
end JV_5
