section KA_9
variable {S T U C C' M M' : jS} {A : Nat → Nat → Int} {a h c k z n y : Nat}
/-- one cron's rows are the same -/
def vk (c y : Nat) (S T : jS) : Prop := T.1 c = S.1 c ∧ T.2.1 (c + 1) = S.2.1 (c + 1) ∧ T.1 376 y = S.1 376 y ∧ T.1 (378 + y) = S.1 (378 + y) ∧ T.1 (395 + y) = S.1 (395 + y) ∧ T.1 (412 + y) = S.1 (412 + y) ∧ ∀ f, f < 7 → T.1 (240 + y * 8 + 1 + f) = S.1 (240 + y * 8 + 1 + f)
theorem vk_ckD (hs : vk c y S T) : ckD T c = ckD S c := by
  unfold ckD
  simp only [hs.1, hs.2.1]
theorem vk_ckU (hs : vk c y S T) : ckU T c = ckU S c := by
  unfold ckU ckT
  simp only [hs.2.1]
theorem vk_vd (hs : vk c y S T) : vd T c = vd S c := by
  unfold vd
  simp only [hs.2.1]
theorem vk_cR (hs : vk c y S T) : cR T c y = cR S c y := by
  obtain ⟨h1, h2, h3, h4, h5, h6, h7⟩ := hs
  have r0 : T.1 (240 + y * 8 + 1) = S.1 (240 + y * 8 + 1) := h7 0 (by omega)
  unfold cR cD hyS hmS tkS mt
  simp only [h1, h2, h4, h5, h6, r0, h7 1 (by omega), h7 2 (by omega), h7 3 (by omega), h7 4 (by omega), h7 5 (by omega), h7 6 (by omega)]
theorem mA_h (h : mA S A) (e1 : ∀ b j, ((436 ≤ b ∧ b ≤ 452) ∨ (b = 215 ∧ 41 ≤ j)) → T.1 b j = S.1 b j) (e2 : ∀ b j, (436 ≤ b ∨ b = 215) → T.2.1 b j = S.2.1 b j) : mA T A := by
  refine ⟨fun b j x y q => ?_, fun b j x y q => ?_⟩
  · rw [e1 b j (by unfold biP at q; omega)]; exact h.1 _ _ _ _ q
  · rw [e2 b j (by unfold blP at q; omega)]; exact h.2 _ _ _ _ q
theorem ok_cron {m : Nat} : Ok_cron (RJ RB m) := by
  intro p0 S h
  have h' := h
  obtain ⟨hb, A, ha, hma, hI⟩ := h
  have ht := hb.1
  obtain ⟨-, b3, hz, hc, hh⟩ := hb
  by_cases q : 0 ≤ p0.toInt ∧ p0.toInt ≤ 15
  · obtain ⟨k, hk0⟩ : ∃ z : Nat, p0.toInt = z := ⟨p0.toInt.toNat, by omega⟩
    have hk : k < 16 := by omega
    obtain ⟨n, hn⟩ : ∃ n : Nat, (S.1 25 1).toInt = n := ⟨(S.1 25 1).toInt.toNat, by have := ht.1.1; omega⟩
    obtain ⟨K0, K1, K2⟩ := hc
    obtain ⟨O1, O2, O3, O4, O5⟩ := K1 k hk
    have ba := jc_b K0
    have bo := jc_b O1
    have run : ∀ Y : jS, Y.1 215 2 = S.1 215 2 → (∀ j, Y.1 216 j = S.1 216 j) → _ := fun Y y1 y2 => rc_ (M := w_i (w_i Y 215 0 0) 215 3 (-1)) (a := S.2.2 24 7) (x1 := p0) (tx_k (M' := w_z (w_i (w_i (w_i Y 215 0 0) 215 3 (-1)) 215 7 0)) (tx_0 ht hn Y y1 y2) (by unfold w_z; simp only [if_neg (show ¬ 215 = 453 by omega)]) (fun j => by unfold w_z; simp only [if_neg (show ¬ 216 = 453 by omega)])) (by omega) (by omega)
    obtain ⟨C', c1, c2, -⟩ := run S rfl (fun _ => rfl)
    have rC' : C'.2.2 = S.2.2 := c2.2.2
    have lo : ∀ b j, b ≠ 25 → b ≠ S.2.2 24 7 → C'.1 b j = S.1 b j := fun b j q1 q2 => by
      rw [c2.1 b j (by omega) q2, w_ir, if_neg (by omega), w_ir, if_neg (by omega)]
    have ll : ∀ b j, b ≠ S.2.2 24 7 + 1 → C'.2.1 b j = S.2.1 b j := fun b j q1 => c2.2.1 b j q1
    have hJ : F_J_cron p0 S = if C'.1 25 3 = -1 then some (none, w_r (w_r (w_i C' 25 1 0) 28 k (S.2.2 24 7)) 24 7 (S.2.2 28 k)) else some (some 12, w_i C' 25 1 0) := by
      unfold F_J_cron F_T_rewind F_J_checkNotBroken
      have e3 : (w_i C' 25 1 0).1 25 3 = C'.1 25 3 := by rw [w_ir, if_neg (by omega)]
      have r5 : (w_i C' 25 1 0).2.2 = S.2.2 := by rw [w_i2]; exact rC'
      rw [fck0 (by simp only [Int32.toInt_toInt64, Int64.reduceToInt]; omega) (by simp only [Int32.toInt_toInt64, Int64.reduceToInt]; omega), jxv_0, jl_, jl_, ob_]
      rw [j_qt (b := jc_ ((w_i (w_i S 25 2 0) 25 3 (-1)).2.2 24 7)) K0]
      rw [show F_CR_readCron ((w_i (w_i S 25 2 0) 25 3 (-1)).2.2 24 7) (w_i (w_i S 25 2 0) 25 3 (-1)) = some C' from c1, ob_, jl_, e3]
      by_cases w : C'.1 25 3 = -1
      · rw [if_pos w, if_pos w, jxv_0, j_qN hk0 hk, clN hk0, r5, j_qt O1, jl_, j_qt K0, j_qN hk0 hk, jl_, jl_]
      · rw [if_neg w, if_neg w, jxv_1]
    have hM : ∀ Y : jS, F_M_cron p0 Y = j_ct (F_M_readCron p0 (w_i (w_i Y 215 0 0) 215 3 (-1))) 12 (fun S6 => J_M_cron_42 S6) (fun S7 => j_l (w_i S7 215 0 2) (fun S10 => J_M_cron_42 S10)) := by
      intro Y
      unfold F_M_cron
      rw [jl_, if_neg (by rw [ltI (k := 0) (n := 0) rfl]; omega), if_pos (by rw [leI (k := 15) (n := 15) rfl]; omega), jl_]
    -- what the others keep
    have keep : ∀ T : jS, (∀ b j, b ≠ 25 → b ≠ S.2.2 24 7 → ¬ (b = 215 ∧ (j = 0 ∨ j = 2 ∨ j = 3 ∨ j = 7 ∨ j = 20 ∨ j = 21 ∨ j = 22)) → ¬ (241 ≤ b ∧ b ≤ 428) → b ≠ 453 → T.1 b j = S.1 b j) → (∀ b j, b ≠ S.2.2 24 7 + 1 → T.2.1 b j = S.2.1 b j) → T.2.2 24 6 = S.2.2 24 6 → (∀ z, T.2.2 27 z = S.2.2 27 z) → T.1 25 1 = 0 → T.1 215 2 = 0 → T.1 215 3 = T.1 25 3 → rC T → RJ RB m T := by
      intro T g1 g2 g3 g4 g5 g6 g7 g8
      have vh : vH S T := fun b j w => g1 b j (by omega) (by omega) (by omega) (by omega) (by omega)
      have rz : rZ T := by
        obtain ⟨Z0, Z1, Z2⟩ := hz
        unfold rZ
        rw [g3]
        simp only [g4]
        refine ⟨Z0, fun y hy => ?_, Z2⟩
        obtain ⟨P1, P2, P3, P4, P5, P6⟩ := Z1 y hy
        have bp := jz_b P1
        have V : vz (S.2.2 27 y) y S T := ⟨fun b j q1 q2 => g1 b j (by omega) (by omega) (by omega) (by omega) (by omega), fun j => g2 _ _ (by omega), g1 217 y (by omega) (by omega) (by omega) (by omega) (by omega), g1 218 y (by omega) (by omega) (by omega) (by omega) (by omega), g1 237 y (by omega) (by omega) (by omega) (by omega) (by omega), funext fun j => g2 _ _ (by omega), funext fun j => g1 (229 + y) j (by omega) (by omega) (by omega) (by omega) (by omega)⟩
        refine ⟨P1, P2, by rw [vz_zok V]; exact P3, by rw [vz_zca V]; exact P4, by rw [vz_zR V]; exact P5, fun j => ?_⟩
        rw [g1 (229 + y) j (by omega) (by omega) (by omega) (by omega) (by omega)]
        exact P6 j
      refine ⟨⟨⟨⟨?_, ?_, ?_, fun j hj => ?_⟩, fun j hj => ?_⟩, g7, rz, g8, vH_rH vh hh⟩, A, cA_k (fun b j w => ?_) (fun b j w => ?_) ha, mA_h hma (fun b j w => ?_) (fun b j w => ?_), hI⟩
      · rw [g5]; decide
      · rw [g5]; decide
      · rw [g5, g6]
      · rw [g5] at hj; simp only [Int32.reduceToInt] at hj; omega
      · rw [g5] at hj; simp only [Int32.reduceToInt] at hj; omega
      · unfold jr at w; exact g1 b j (by omega) (by omega) (by omega) (by omega) (by omega)
      · unfold jr at w; exact g2 b j (by omega)
      · exact g1 b j (by omega) (by omega) (by omega) (by omega) (by omega)
      · exact g2 b j (by omega)
    by_cases w : C'.1 25 3 = -1
    · rw [if_pos w] at hJ
      generalize hZ : w_r (w_r (w_i C' 25 1 0) 28 k (S.2.2 24 7)) 24 7 (S.2.2 28 k) = Z at hJ
      have z1 : Z.1 = (w_i C' 25 1 0).1 := by rw [← hZ]; rfl
      have z2 : Z.2.1 = C'.2.1 := by rw [← hZ]; rfl
      have zlo : ∀ b j, b ≠ 25 → b ≠ S.2.2 24 7 → Z.1 b j = S.1 b j := fun b j q1 q2 => by
        rw [z1, w_ir, if_neg (by omega)]; exact lo b j q1 q2
      obtain ⟨C'', d1, d2, d4⟩ := run Z (zlo 215 2 (by omega) (by omega)) (fun j => zlo 216 j (by omega) (by omega))
      rw [c1] at d1
      have ec := Option.some.inj d1
      subst ec
      rcases d4 with ⟨M1, p', m1, m2, m3, m4⟩ | ⟨M', p', e, m1, m2, m3, m4⟩
      · obtain ⟨M', r1, r2, ⟨u1, u2, u3, u4, u5⟩, r4, r5, r6⟩ := cp_ (M := M1) hk0 hk
        rw [r1] at m1
        have s0 : ∀ b j, ¬ (b = 215 ∧ j = 2) → (w_i M' 215 2 0).1 b j = M'.1 b j := fun b j q1 => by rw [w_ir, if_neg q1]
        have e0 : ∀ b j, ¬ (b = 215 ∧ (j = 0 ∨ j = 3 ∨ j = 7 ∨ j = 20 ∨ j = 21 ∨ j = 22)) → ¬ (369 ≤ b ∧ b ≤ 375) → b ≠ 453 → M1.1 b j = Z.1 b j := fun b j q1 q2 q3 => by
          rw [m2.1 b j (by omega) q2 q3, w_ir, if_neg (by omega), w_ir, if_neg (by omega)]
        have slo : ∀ b j, b < 215 → (w_i M' 215 2 0).1 b j = (w_i C' 25 1 0).1 b j := fun b j q1 => by
          rw [s0 b j (by omega), r5 b j (by omega) (by omega) (by omega) (by omega) (by omega), e0 b j (by omega) (by omega) (by omega), z1]
        have s2 : (w_i M' 215 2 0).2 = Z.2 := by rw [w_i2, r6, m2.2]; rfl
        have rz6 : Z.2.2 24 7 = S.2.2 28 k := by rw [← hZ, w_rr, if_pos ⟨rfl, rfl⟩]
        have rzz : Z.2.2 28 k = S.2.2 24 7 := by rw [← hZ, w_rr, if_neg (by omega), w_rr, if_pos ⟨rfl, rfl⟩]
        have rzo : ∀ b j, ¬ (b = 24 ∧ j = 7) → ¬ (b = 28 ∧ j = k) → Z.2.2 b j = S.2.2 b j := fun b j q1 q2 => by
          rw [← hZ, w_rr, if_neg q1, w_rr, if_neg q2, w_i2, rC']
        have g0 : ∀ b j, b ≠ 25 → b ≠ S.2.2 24 7 → ¬ (b = 215 ∧ (j = 0 ∨ j = 2 ∨ j = 3 ∨ j = 7 ∨ j = 20 ∨ j = 21 ∨ j = 22)) → ¬ (369 ≤ b ∧ b ≤ 375) → b ≠ 453 → ¬ (240 + k * 8 + 1 ≤ b ∧ b ≤ 240 + k * 8 + 7) → b ≠ 378 + k → b ≠ 395 + k → b ≠ 412 + k → ¬ (b = 376 ∧ j = k) → (w_i M' 215 2 0).1 b j = S.1 b j := by
          intro b j q1 q2 q3 q4 q5 q6 q7 q8 q9 q10
          rw [s0 b j (by omega), r5 b j q6 q7 q8 q9 q10, e0 b j (by omega) q4 q5, zlo b j q1 q2]
        have g2 : ∀ b j, b ≠ S.2.2 24 7 + 1 → (w_i M' 215 2 0).2.1 b j = S.2.1 b j := by
          intro b j q1
          rw [s2, z2, ll b j q1]
        refine ⟨(none, Z), w_i M' 215 2 0, hJ, ?_, keep _ (fun b j q1 q2 q3 q4 q5 => g0 b j q1 q2 q3 (by omega) q5 (by omega) (by omega) (by omega) (by omega) (by omega)) g2 ?_ (fun z => ?_) ?_ ?_ ?_ ?_, ?_⟩
        · show F_M_cron p0 Z = _
          rw [hM, m1, jct_0]
          rfl
        · rw [s2, rzo 24 6 (by omega) (by omega)]
        · rw [s2, rzo 27 z (by omega) (by omega)]
        · rw [slo 25 1 (by omega), w_ir, if_pos ⟨rfl, rfl⟩]
        · rw [w_ir, if_pos ⟨rfl, rfl⟩]
        · rw [s0 215 3 (by omega), r5 215 3 (by omega) (by omega) (by omega) (by omega) (by omega), m3.2.2.2.2.2.2.1.2, slo 25 3 (by omega), w_ir, if_neg (by omega), w]
        · unfold rC
          rw [s2, rz6]
          refine ⟨O1, fun y hy => ?_, fun y y' hy hy' hn => ?_⟩
          · by_cases e : y = k
            · subst e
              rw [rzz, show (w_i M' 215 2 0).2.1 = Z.2.1 from congrArg Prod.fst s2] at *
              obtain ⟨x1, x2, x3, x4⟩ := cq_ (T := w_i M' 215 2 0) m4 hk (fun j => by rw [slo _ j (by omega), w_ir, if_neg (by omega)]) (fun w => by rw [s2, z2]) (fun f hf i hi => by rw [s0 _ _ (by omega)]; exact r2 f hf i hi) (by rw [s0 _ _ (by omega)]; exact u1) (by rw [s0 _ _ (by omega)]; exact u2) (by rw [s0 _ _ (by omega)]; exact u3) (by rw [s0 _ _ (by omega)]; exact u4) (by rw [s0 _ _ (by omega)]; exact u5)
              refine ⟨K0, fun v => O2 v.symm, x1, by rw [← s2]; exact x2, Or.inr ⟨?_, x3, x4⟩⟩
              rw [s0 376 y (by omega), r4]
              decide
            · obtain ⟨P1, P2, P3, P4, P5⟩ := K1 y hy
              have bp := jc_b P1
              have np := K2 y k hy hk e
              have e' : Z.2.2 28 y = S.2.2 28 y := rzo 28 y (by omega) (by omega)
              have V : vk (S.2.2 28 y) y S (w_i M' 215 2 0) := ⟨funext fun j => g0 _ j (by omega) P2 (by omega) (by omega) (by omega) (by omega) (by omega) (by omega) (by omega) (by omega), funext fun j => g2 _ j (by omega), g0 376 y (by omega) (by omega) (by omega) (by omega) (by omega) (by omega) (by omega) (by omega) (by omega) (by omega), funext fun j => g0 _ j (by omega) (by omega) (by omega) (by omega) (by omega) (by omega) (by omega) (by omega) (by omega) (by omega), funext fun j => g0 _ j (by omega) (by omega) (by omega) (by omega) (by omega) (by omega) (by omega) (by omega) (by omega) (by omega), funext fun j => g0 _ j (by omega) (by omega) (by omega) (by omega) (by omega) (by omega) (by omega) (by omega) (by omega) (by omega), fun f hf => funext fun j => g0 _ j (by omega) (by omega) (by omega) (by omega) (by omega) (by omega) (by omega) (by omega) (by omega) (by omega)⟩
              rw [e', ← s2, V.2.2.1, vk_ckD V, vk_ckU V, vk_vd V, vk_cR V, V.2.1]
              exact ⟨P1, np, P3, P4, P5⟩
          · by_cases e : y = k
            · subst e
              rw [rzz, rzo 28 y' (by omega) (by omega)]
              exact fun v => (K1 y' hy').2.1 v.symm
            · by_cases e' : y' = k
              · subst e'
                rw [rzz, rzo 28 y (by omega) (by omega)]
                exact (K1 y hy).2.1
              · rw [rzo 28 y (by omega) (by omega), rzo 28 y' (by omega) (by omega)]
                exact K2 y y' hy hy' hn
        · show (w_i M' 215 2 0).1 215 0 = 0
          rw [s0 215 0 (by omega), r5 215 0 (by omega) (by omega) (by omega) (by omega) (by omega), m2.1 215 0 (by omega) (by omega) (by omega), w_ir, if_neg (by omega), w_ir, if_pos ⟨rfl, rfl⟩]
      · exact absurd (m3.2.2.2.2.1.symm.trans w) m3.2.2.2.2.2
    · rw [if_neg w] at hJ
      generalize hZ : w_i C' 25 1 0 = Z at hJ
      have zlo : ∀ b j, b ≠ 25 → b ≠ S.2.2 24 7 → Z.1 b j = S.1 b j := fun b j q1 q2 => by
        rw [← hZ, w_ir, if_neg (by omega)]; exact lo b j q1 q2
      obtain ⟨C'', d1, d2, d4⟩ := run Z (zlo 215 2 (by omega) (by omega)) (fun j => zlo 216 j (by omega) (by omega))
      rw [c1] at d1
      have ec := Option.some.inj d1
      subst ec
      rcases d4 with ⟨M', p', m1, m2, m3, m4⟩ | ⟨M', p', e, m1, m2, m3, m4⟩
      · exact absurd m3.2.2.2.2.2.2.1.1 w
      · have s0 : ∀ b j, ¬ (b = 215 ∧ (j = 2 ∨ j = 0)) → (w_i (w_i M' 215 0 2) 215 2 0).1 b j = M'.1 b j := fun b j q1 => by rw [w_ir, if_neg (by omega), w_ir, if_neg (by omega)]
        have g0 : ∀ b j, b ≠ 25 → b ≠ S.2.2 24 7 → ¬ (b = 215 ∧ (j = 0 ∨ j = 2 ∨ j = 3 ∨ j = 7 ∨ j = 20 ∨ j = 21 ∨ j = 22)) → ¬ (369 ≤ b ∧ b ≤ 375) → b ≠ 453 → (w_i (w_i M' 215 0 2) 215 2 0).1 b j = S.1 b j := by
          intro b j q1 q2 q3 q4 q5
          rw [s0 b j (by omega), m2.1 b j (by omega) q4 q5, w_ir, if_neg (by omega), w_ir, if_neg (by omega), zlo b j q1 q2]
        have s2 : (w_i (w_i M' 215 0 2) 215 2 0).2 = C'.2 := by rw [w_i2, w_i2, m2.2, w_i2, w_i2, ← hZ, w_i2]
        have g2 : ∀ b j, b ≠ S.2.2 24 7 + 1 → (w_i (w_i M' 215 0 2) 215 2 0).2.1 b j = S.2.1 b j := by
          intro b j q1
          rw [s2, ll b j q1]
        have ref : (w_i (w_i M' 215 0 2) 215 2 0).2.2 = S.2.2 := by rw [s2]; exact rC'
        have s25 : ∀ j, (w_i (w_i M' 215 0 2) 215 2 0).1 25 j = (w_i C' 25 1 0).1 25 j := fun j => by
          rw [s0 25 j (by omega), m2.1 25 j (by omega) (by omega) (by omega), w_ir, if_neg (by omega), w_ir, if_neg (by omega), hZ]
        refine ⟨(some 12, Z), w_i (w_i M' 215 0 2) 215 2 0, hJ, ?_, keep _ (fun b j q1 q2 q3 q4 q5 => g0 b j q1 q2 q3 (by omega) q5) g2 (by rw [ref]) (fun z => by rw [ref]) ?_ ?_ ?_ ?_, ?_⟩
        · show F_M_cron p0 Z = _
          rw [hM, m1, jct_1]
          rfl
        · rw [s25, w_ir, if_pos ⟨rfl, rfl⟩]
        · rw [w_ir, if_pos ⟨rfl, rfl⟩]
        · rw [s0 215 3 (by omega), m4, s25, w_ir, if_neg (by omega)]
          exact m3.2.2.2.2.1.symm
        · unfold rC
          rw [ref]
          refine ⟨K0, fun y hy => ?_, K2⟩
          obtain ⟨P1, P2, P3, P4, P5⟩ := K1 y hy
          have bp := jc_b P1
          have V : vk (S.2.2 28 y) y S (w_i (w_i M' 215 0 2) 215 2 0) := ⟨funext fun j => g0 _ j (by omega) P2 (by omega) (by omega) (by omega), funext fun j => g2 _ j (by omega), g0 376 y (by omega) (by omega) (by omega) (by omega) (by omega), funext fun j => g0 _ j (by omega) (by omega) (by omega) (by omega) (by omega), funext fun j => g0 _ j (by omega) (by omega) (by omega) (by omega) (by omega), funext fun j => g0 _ j (by omega) (by omega) (by omega) (by omega) (by omega), fun f hf => funext fun j => g0 _ j (by omega) (by omega) (by omega) (by omega) (by omega)⟩
          rw [V.2.2.1, vk_ckD V, vk_ckU V, vk_vd V, vk_cR V, V.2.1]
          exact ⟨P1, P2, P3, P4, P5⟩
        · show (12, (w_i (w_i M' 215 0 2) 215 2 0).1 215 0) ∈ _
          rw [w_ir, if_neg (by omega), w_ir, if_pos ⟨rfl, rfl⟩]
          exact List.mem_cons_of_mem _ List.mem_cons_self
  · refine ⟨(some 11, S), w_i (w_i S 215 0 0) 215 0 1, ?_, ?_, RJ_0 rK_RB (RJ_0 rK_RB h'), ?_⟩
    · unfold F_J_cron
      rw [fck1 (by simp only [Int32.toInt_toInt64, Int64.reduceToInt]; omega), jxv_1]
    · show F_M_cron p0 S = _
      unfold F_M_cron
      have e : J_M_cron_15 (w_i S 215 0 0) = some (w_i (w_i S 215 0 0) 215 0 1) := rfl
      rw [jl_, e]
      by_cases w : p0.toInt < 0
      · rw [if_pos (by rw [ltI (k := 0) (n := 0) rfl]; exact w)]
      · rw [if_neg (by rw [ltI (k := 0) (n := 0) rfl]; exact w), if_neg (by rw [leI (k := 15) (n := 15) rfl]; omega)]
    · show (11, (w_i (w_i S 215 0 0) 215 0 1).1 215 0) ∈ _
      rw [w_ir, if_pos ⟨rfl, rfl⟩]
      exact List.mem_cons_self
end KA_9
