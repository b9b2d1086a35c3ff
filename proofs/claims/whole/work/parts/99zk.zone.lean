section JY_2
variable {S T U C C' M M' : jS} {A : Nat → Nat → Int} {a h c k z n : Nat}
/-- what both sides share, the jobs aside -/
def RB (S : jS) : Prop := rT2 S ∧ S.1 215 3 = S.1 25 3 ∧ rZ S ∧ rC S ∧ rH S
theorem rK_RB : rK RB := by
  refine ⟨fun S h => ⟨h.2.2.1, h.2.2.2.1, h.2.2.2.2⟩, fun S T h f hz => ?_⟩
  obtain ⟨⟨⟨t1, t2, t3, t4⟩, t5⟩, t6, -, hc, hh⟩ := h
  have n25 : ¬ jr 25 := by unfold jr; omega
  have n26 : ¬ jr 26 := by unfold jr; omega
  have n215 : ¬ jr 215 := by unfold jr; omega
  have n216 : ¬ jr 216 := by unfold jr; omega
  have z25 : ∀ j, ¬ (jz_ 25 = true ∧ j = 6) := fun j w => by have := jz_b w.1; omega
  have z26 : ∀ j, ¬ (jz_ 26 = true ∧ j = 6) := fun j w => by have := jz_b w.1; omega
  have z215 : ∀ j, ¬ (jz_ 215 = true ∧ j = 6) := fun j w => by have := jz_b w.1; omega
  have z216 : ∀ j, ¬ (jz_ 216 = true ∧ j = 6) := fun j w => by have := jz_b w.1; omega
  have e25 : ∀ j, T.1 25 j = S.1 25 j := fun j => f.1 25 j n25 (by omega) (by omega) (z25 j)
  have e26 : ∀ j, T.1 26 j = S.1 26 j := fun j => f.1 26 j n26 (by omega) (by omega) (z26 j)
  have e216 : ∀ j, T.1 216 j = S.1 216 j := fun j => f.1 216 j n216 (by omega) (by omega) (z216 j)
  have e2 : T.1 215 2 = S.1 215 2 := f.1 215 2 n215 (by omega) (by omega) (z215 2)
  have e3 : T.1 215 3 = S.1 215 3 := f.1 215 3 n215 (by omega) (by omega) (z215 3)
  refine ⟨⟨?_, ?_⟩, by rw [e3, e25]; exact t6, hz, sv_rC (jf_v f) hc, sv_rH (jf_v f) hh⟩
  · unfold rT
    simp only [e25, e26, e216, e2]
    exact ⟨t1, t2, t3, t4⟩
  · simp only [e25, e26]
    exact t5
theorem mA_g (h : mA S A) (e1 : ∀ b j, (436 ≤ b ∨ (b = 215 ∧ 41 ≤ j)) → T.1 b j = S.1 b j) (e2 : ∀ b j, (436 ≤ b ∨ b = 215) → T.2.1 b j = S.2.1 b j) : mA T A := by
  refine ⟨fun b j x y q => ?_, fun b j x y q => ?_⟩
  · rw [e1 b j (by unfold biP at q; omega)]; exact h.1 _ _ _ _ q
  · rw [e2 b j (by unfold blP at q; omega)]; exact h.2 _ _ _ _ q
theorem jct_0 {K X : jS → Option jS} : j_ct (some (none, S)) 12 K X = K S := rfl
theorem jct_1 {K X : jS → Option jS} : j_ct (some (some 12, S)) 12 K X = X S := rfl
theorem zq_c (h : zq C a M z) (e1 : ∀ b j, a ≤ b → b ≤ a + 2 → T.1 b j = C.1 b j) (m1 : T.1 217 z = M.1 217 z) (m2 : T.1 218 z = M.1 218 z) (m3 : T.1 237 z = M.1 237 z) (m4 : T.2.1 (220 + z) = M.2.1 (220 + z)) (m5 : T.1 (229 + z) = M.1 (229 + z)) : zok T a ∧ zR T a z ∧ ∀ j, bol (T.1 (229 + z) j) := by
  obtain ⟨h1, h2, h3, h4, h5⟩ := h
  have a0 : T.1 a = C.1 a := funext fun j => e1 a j (by omega) (by omega)
  have a1 : T.1 (a + 1) = C.1 (a + 1) := funext fun j => e1 (a + 1) j (by omega) (by omega)
  have a2 : T.1 (a + 2) = C.1 (a + 2) := funext fun j => e1 (a + 2) j (by omega) (by omega)
  refine ⟨?_, ?_, by rw [m5]; exact h5⟩
  · unfold zok rkS at h1 ⊢
    simp only [a0, a1, a2]
    exact h1
  · unfold zR
    unfold zP zB zE rsS at h4 ⊢
    simp only [a0, a1, a2, m1, m2, m3, m4, m5]
    exact ⟨h2, h3, h4⟩
/-- the text as the readers find it -/
theorem tx_0 (ht : rT2 S) (hn : (S.1 25 1).toInt = n) (Y : jS) (h2 : Y.1 215 2 = S.1 215 2) (h6 : ∀ j, Y.1 216 j = S.1 216 j) : tx (w_i (w_i S 25 2 0) 25 3 (-1)) (w_i (w_i (w_i Y 215 0 0) 215 3 (-1)) 215 7 0) n 0 := by
  obtain ⟨⟨t1, t2, t3, t4⟩, t5⟩ := ht
  refine ⟨by omega, by omega, ?_, ?_, ?_, ?_, ⟨?_, ?_⟩, fun j hj => ?_⟩
  · rw [w_ir, if_neg (by omega), w_ir, if_neg (by omega)]; exact hn
  · rw [w_ir, if_neg (by omega), w_ir, if_neg (by omega), w_ir, if_neg (by omega), h2, t3]; exact hn
  · rw [w_ir, if_neg (by omega), w_ir, if_pos ⟨rfl, rfl⟩]; rfl
  · rw [w_ir, if_pos ⟨rfl, rfl⟩]; rfl
  · rw [w_ir, if_pos ⟨rfl, rfl⟩]
  · rw [w_ir, if_neg (by omega), w_ir, if_pos ⟨rfl, rfl⟩]
  · have e : (w_i (w_i S 25 2 0) 25 3 (-1)).1 26 j = S.1 26 j := by rw [w_ir, if_neg (by omega), w_ir, if_neg (by omega)]
    rw [e, w_ir, if_neg (by omega), w_ir, if_neg (by omega), w_ir, if_neg (by omega), h6]
    exact ⟨t4 j (by omega), t5 j (by omega)⟩
theorem ok_zone {m : Nat} : Ok_zone (RJ RB m) := by
  intro p0 S h
  have h' := h
  obtain ⟨hb, A, ha, hma, hI⟩ := h
  have ht := hb.1
  obtain ⟨-, b3, hz, hc, hh⟩ := hb
  by_cases q : 0 ≤ p0.toInt ∧ p0.toInt ≤ 7
  · obtain ⟨z, hz0⟩ : ∃ z : Nat, p0.toInt = z := ⟨p0.toInt.toNat, by omega⟩
    have hz8 : z < 8 := by omega
    obtain ⟨n, hn⟩ : ∃ n : Nat, (S.1 25 1).toInt = n := ⟨(S.1 25 1).toInt.toNat, by have := ht.1.1; omega⟩
    obtain ⟨Z0, Z1, Z2⟩ := hz
    obtain ⟨O1, O2, O3, O4, O5, O6⟩ := Z1 z hz8
    have ba := jz_b Z0
    have bo := jz_b O1
    have run : ∀ Y : jS, Y.1 215 2 = S.1 215 2 → (∀ j, Y.1 216 j = S.1 216 j) → (∀ j, Y.1 (229 + z) j = S.1 (229 + z) j) → _ := fun Y y1 y2 y3 => fZ_rd (M := w_i (w_i Y 215 0 0) 215 3 (-1)) (a := S.2.2 24 6) (x1 := p0) (z := z) (tx_0 ht hn Y y1 y2) Z0 hz0 hz8 (fun j => by rw [w_ir, if_neg (by omega), w_ir, if_neg (by omega), y3]; exact O6 j)
    obtain ⟨C', c1, c2, c3, -⟩ := run S rfl (fun _ => rfl) (fun _ => rfl)
    have rC' : C'.2.2 = S.2.2 := c2.2.2
    have lo : ∀ b j, b ≠ 25 → ¬ (S.2.2 24 6 ≤ b ∧ b ≤ S.2.2 24 6 + 2) → C'.1 b j = S.1 b j := fun b j q1 q2 => by
      rw [c2.1 b j (by omega) q2, w_ir, if_neg (by omega), w_ir, if_neg (by omega)]
    have ll : ∀ b j, b ≠ S.2.2 24 6 → C'.2.1 b j = S.2.1 b j := fun b j q1 => c2.2.1 b j q1
    have hJ : F_J_zone p0 S = if C'.1 25 3 = -1 then some (none, w_r (w_r (w_i C' 25 1 0) 27 z (S.2.2 24 6)) 24 6 (S.2.2 27 z)) else some (some 12, w_i C' 25 1 0) := by
      unfold F_J_zone F_T_rewind F_J_checkNotBroken
      have e3 : (w_i C' 25 1 0).1 25 3 = C'.1 25 3 := by rw [w_ir, if_neg (by omega)]
      have r5 : (w_i C' 25 1 0).2.2 = S.2.2 := by rw [w_i2]; exact rC'
      rw [fck0 (by simp only [Int32.toInt_toInt64, Int64.reduceToInt]; omega) (by simp only [Int32.toInt_toInt64, Int64.reduceToInt]; omega), jxv_0, jl_, jl_, ob_]
      rw [j_qt (b := jz_ ((w_i (w_i S 25 2 0) 25 3 (-1)).2.2 24 6)) Z0]
      rw [show F_Z_readFrom ((w_i (w_i S 25 2 0) 25 3 (-1)).2.2 24 6) (w_i (w_i S 25 2 0) 25 3 (-1)) = some C' from c1, ob_, jl_, e3]
      by_cases w : C'.1 25 3 = -1
      · rw [if_pos w, if_pos w, jxv_0, j_qN hz0 hz8, clN hz0, r5, j_qt O1, jl_, j_qt Z0, j_qN hz0 hz8, jl_, jl_]
      · rw [if_neg w, if_neg w, jxv_1]
    have hM : ∀ Y : jS, F_M_zone p0 Y = j_ct (F_M_readZone p0 (w_i (w_i Y 215 0 0) 215 3 (-1))) 12 (fun S6 => J_M_zone_42 S6) (fun S7 => j_l (w_i S7 215 0 2) (fun S10 => J_M_zone_42 S10)) := by
      intro Y
      unfold F_M_zone
      rw [jl_, if_neg (by rw [ltI (k := 0) (n := 0) rfl]; omega), if_pos (by rw [leI (k := 7) (n := 7) rfl]; omega), jl_]
    -- what the jobs keep
    have keep : ∀ T : jS, (∀ b j, b ≠ 25 → ¬ (S.2.2 24 6 ≤ b ∧ b ≤ S.2.2 24 6 + 2) → ¬ (b = 215 ∧ (j = 0 ∨ j = 2 ∨ j = 3 ∨ j = 7)) → ¬ ((b = 217 ∨ b = 218 ∨ b = 237) ∧ j = z) → b ≠ 238 → b ≠ 229 + z → T.1 b j = S.1 b j) → (∀ b j, b ≠ S.2.2 24 6 → b ≠ 220 + z → T.2.1 b j = S.2.1 b j) → T.2.2 24 7 = S.2.2 24 7 → (∀ k, T.2.2 28 k = S.2.2 28 k) → T.1 25 1 = 0 → T.1 215 2 = 0 → T.1 215 3 = T.1 25 3 → rZ T → RJ RB m T := by
      intro T g1 g2 g3 g4 g5 g6 g7 g8
      have vc : vC S T := ⟨fun b j w => g1 b j (by omega) (by omega) (by omega) (by omega) (by omega) (by omega), fun b j w => g2 b j (by omega) (by omega), g3, g4⟩
      have vh : vH S T := fun b j w => g1 b j (by omega) (by omega) (by omega) (by omega) (by omega) (by omega)
      refine ⟨⟨⟨⟨?_, ?_, ?_, fun j hj => ?_⟩, fun j hj => ?_⟩, g7, g8, vC_rC vc hc, vH_rH vh hh⟩, A, cA_k (fun b j w => ?_) (fun b j w => ?_) ha, mA_g hma (fun b j w => ?_) (fun b j w => ?_), hI⟩
      · rw [g5]; decide
      · rw [g5]; decide
      · rw [g5, g6]
      · rw [g5] at hj; simp only [Int32.reduceToInt] at hj; omega
      · rw [g5] at hj; simp only [Int32.reduceToInt] at hj; omega
      · unfold jr at w; exact g1 b j (by omega) (by omega) (by omega) (by omega) (by omega) (by omega)
      · unfold jr at w; exact g2 b j (by omega) (by omega)
      · exact g1 b j (by omega) (by omega) (by omega) (by omega) (by omega) (by omega)
      · exact g2 b j (by omega) (by omega)
    by_cases w : C'.1 25 3 = -1
    · -- read well
      rw [if_pos w] at hJ
      generalize hZ : w_r (w_r (w_i C' 25 1 0) 27 z (S.2.2 24 6)) 24 6 (S.2.2 27 z) = Z at hJ
      have z1 : Z.1 = (w_i C' 25 1 0).1 := by rw [← hZ]; rfl
      have z2 : Z.2.1 = C'.2.1 := by rw [← hZ]; rfl
      have zlo : ∀ b j, b ≠ 25 → ¬ (S.2.2 24 6 ≤ b ∧ b ≤ S.2.2 24 6 + 2) → Z.1 b j = S.1 b j := fun b j q1 q2 => by
        rw [z1, w_ir, if_neg (by omega)]; exact lo b j q1 q2
      obtain ⟨C'', d1, d2, d3, d4⟩ := run Z (zlo 215 2 (by omega) (by omega)) (fun j => zlo 216 j (by omega) (by omega)) (fun j => zlo (229 + z) j (by omega) (by omega))
      rw [c1] at d1
      have ec := Option.some.inj d1
      subst ec
      rcases d4 with ⟨M', p', m1, m2, m3, m4⟩ | ⟨M', p', e, m1, m2, m3, m4⟩
      · have s0 : ∀ b j, ¬ (b = 215 ∧ j = 2) → (w_i M' 215 2 0).1 b j = M'.1 b j := fun b j q1 => by rw [w_ir, if_neg q1]
        have slo : ∀ b j, b < 215 → (w_i M' 215 2 0).1 b j = (w_i C' 25 1 0).1 b j := fun b j q1 => by
          rw [s0 b j (by omega), m2.1 b j (by omega) (by omega) (by omega) (by omega), w_ir, if_neg (by omega), w_ir, if_neg (by omega), z1]
        have ref : (w_i M' 215 2 0).2.2 = Z.2.2 := m2.2.2
        have rz6 : Z.2.2 24 6 = S.2.2 27 z := by rw [← hZ, w_rr, if_pos ⟨rfl, rfl⟩]
        have rzz : Z.2.2 27 z = S.2.2 24 6 := by rw [← hZ, w_rr, if_neg (by omega), w_rr, if_pos ⟨rfl, rfl⟩]
        have rzo : ∀ b j, ¬ (b = 24 ∧ j = 6) → ¬ (b = 27 ∧ j = z) → Z.2.2 b j = S.2.2 b j := fun b j q1 q2 => by
          rw [← hZ, w_rr, if_neg q1, w_rr, if_neg q2, w_i2, rC']
        have g1 : ∀ b j, b ≠ 25 → ¬ (S.2.2 24 6 ≤ b ∧ b ≤ S.2.2 24 6 + 2) → ¬ (b = 215 ∧ (j = 0 ∨ j = 2 ∨ j = 3 ∨ j = 7)) → ¬ ((b = 217 ∨ b = 218 ∨ b = 237) ∧ j = z) → b ≠ 238 → b ≠ 229 + z → (w_i M' 215 2 0).1 b j = S.1 b j := by
          intro b j q1 q2 q3 q4 q5 q6
          rw [s0 b j (by omega), m2.1 b j (by omega) q4 q5 q6, w_ir, if_neg (by omega), w_ir, if_neg (by omega), zlo b j q1 q2]
        have g2 : ∀ b j, b ≠ S.2.2 24 6 → b ≠ 220 + z → (w_i M' 215 2 0).2.1 b j = S.2.1 b j := by
          intro b j q1 q2
          rw [w_i2, m2.2.1 b j q2, w_i2, w_i2, z2, ll b j q1]
        refine ⟨(none, Z), w_i M' 215 2 0, hJ, ?_, keep _ g1 g2 ?_ (fun k => ?_) ?_ ?_ ?_ ?_, ?_⟩
        · show F_M_zone p0 Z = _
          rw [hM, m1, jct_0]
          rfl
        · rw [ref, rzo 24 7 (by omega) (by omega)]
        · rw [ref, rzo 28 k (by omega) (by omega)]
        · rw [slo 25 1 (by omega), w_ir, if_pos ⟨rfl, rfl⟩]
        · rw [w_ir, if_pos ⟨rfl, rfl⟩]
        · rw [s0 215 3 (by omega), m3.2.2.2.2.2.2.1.2, slo 25 3 (by omega), w_ir, if_neg (by omega), w]
        · unfold rZ
          rw [ref, rz6]
          refine ⟨O1, fun y hy => ?_, fun y y' hy hy' hn => ?_⟩
          · by_cases e : y = z
            · subst e
              rw [rzz]
              obtain ⟨k1, k2, k3⟩ := zq_c (T := w_i M' 215 2 0) m4 (fun b j q1 q2 => by rw [slo b j (by omega), w_ir, if_neg (by omega)]) (s0 217 y (by omega)) (s0 218 y (by omega)) (s0 237 y (by omega)) rfl (funext fun j => s0 (229 + y) j (by omega))
              refine ⟨Z0, fun v => O2 v.symm, k1, Or.inl ?_, k2, k3⟩
              rw [w_i2, m2.2.1 _ _ (by omega), w_i2, w_i2, z2]
              exact c3
            · obtain ⟨P1, P2, P3, P4, P5, P6⟩ := Z1 y hy
              have bp := jz_b P1
              have np := Z2 y z hy hz8 e
              have e' : Z.2.2 27 y = S.2.2 27 y := rzo 27 y (by omega) (by omega)
              have V : vz (S.2.2 27 y) y S (w_i M' 215 2 0) := ⟨fun b j q1 q2 => g1 b j (by omega) (by omega) (by omega) (by omega) (by omega) (by omega), fun j => g2 _ _ P2 (by omega), g1 217 y (by omega) (by omega) (by omega) (by omega) (by omega) (by omega), g1 218 y (by omega) (by omega) (by omega) (by omega) (by omega) (by omega), g1 237 y (by omega) (by omega) (by omega) (by omega) (by omega) (by omega), funext fun j => g2 _ _ (by omega) (by omega), funext fun j => g1 (229 + y) j (by omega) (by omega) (by omega) (by omega) (by omega) (by omega)⟩
              rw [e']
              refine ⟨P1, np, by rw [vz_zok V]; exact P3, by rw [vz_zca V]; exact P4, by rw [vz_zR V]; exact P5, fun j => ?_⟩
              rw [g1 (229 + y) j (by omega) (by omega) (by omega) (by omega) (by omega) (by omega)]
              exact P6 j
          · by_cases e : y = z
            · subst e
              rw [rzz, rzo 27 y' (by omega) (by omega)]
              exact fun v => (Z1 y' hy').2.1 v.symm
            · by_cases e' : y' = z
              · subst e'
                rw [rzz, rzo 27 y (by omega) (by omega)]
                exact (Z1 y hy).2.1
              · rw [rzo 27 y (by omega) (by omega), rzo 27 y' (by omega) (by omega)]
                exact Z2 y y' hy hy' hn
        · show (w_i M' 215 2 0).1 215 0 = 0
          rw [s0 215 0 (by omega), m2.1 215 0 (by omega) (by omega) (by omega) (by omega), w_ir, if_neg (by omega), w_ir, if_pos ⟨rfl, rfl⟩]
      · exact absurd (m3.2.2.2.2.1.symm.trans w) m3.2.2.2.2.2
    · -- broken
      rw [if_neg w] at hJ
      generalize hZ : w_i C' 25 1 0 = Z at hJ
      have zlo : ∀ b j, b ≠ 25 → ¬ (S.2.2 24 6 ≤ b ∧ b ≤ S.2.2 24 6 + 2) → Z.1 b j = S.1 b j := fun b j q1 q2 => by
        rw [← hZ, w_ir, if_neg (by omega)]; exact lo b j q1 q2
      obtain ⟨C'', d1, d2, d3, d4⟩ := run Z (zlo 215 2 (by omega) (by omega)) (fun j => zlo 216 j (by omega) (by omega)) (fun j => zlo (229 + z) j (by omega) (by omega))
      rw [c1] at d1
      have ec := Option.some.inj d1
      subst ec
      rcases d4 with ⟨M', p', m1, m2, m3, m4⟩ | ⟨M', p', e, m1, m2, m3, m4⟩
      · exact absurd m3.2.2.2.2.2.2.1.1 w
      · have s0 : ∀ b j, ¬ (b = 215 ∧ (j = 2 ∨ j = 0)) → (w_i (w_i M' 215 0 2) 215 2 0).1 b j = M'.1 b j := fun b j q1 => by rw [w_ir, if_neg (by omega), w_ir, if_neg (by omega)]
        have g1 : ∀ b j, b ≠ 25 → ¬ (S.2.2 24 6 ≤ b ∧ b ≤ S.2.2 24 6 + 2) → ¬ (b = 215 ∧ (j = 0 ∨ j = 2 ∨ j = 3 ∨ j = 7)) → b ≠ 238 → (w_i (w_i M' 215 0 2) 215 2 0).1 b j = S.1 b j := by
          intro b j q1 q2 q3 q5
          rw [s0 b j (by omega), m2.1 b j (by omega) q5, w_ir, if_neg (by omega), w_ir, if_neg (by omega), zlo b j q1 q2]
        have g2 : ∀ b j, b ≠ S.2.2 24 6 → (w_i (w_i M' 215 0 2) 215 2 0).2.1 b j = S.2.1 b j := by
          intro b j q1
          rw [w_i2, w_i2, m2.2, w_i2, w_i2, ← hZ, w_i2, ll b j q1]
        have ref : (w_i (w_i M' 215 0 2) 215 2 0).2.2 = S.2.2 := by
          rw [w_i2, w_i2, m2.2, w_i2, w_i2, ← hZ, w_i2]; exact rC'
        have s25 : ∀ j, (w_i (w_i M' 215 0 2) 215 2 0).1 25 j = (w_i C' 25 1 0).1 25 j := fun j => by
          rw [s0 25 j (by omega), m2.1 25 j (by omega) (by omega), w_ir, if_neg (by omega), w_ir, if_neg (by omega), hZ]
        refine ⟨(some 12, Z), w_i (w_i M' 215 0 2) 215 2 0, hJ, ?_, keep _ (fun b j q1 q2 q3 _ q5 _ => g1 b j q1 q2 q3 q5) (fun b j q1 _ => g2 b j q1) (by rw [ref]) (fun k => by rw [ref]) ?_ ?_ ?_ ?_, ?_⟩
        · show F_M_zone p0 Z = _
          rw [hM, m1, jct_1]
          rfl
        · rw [s25, w_ir, if_pos ⟨rfl, rfl⟩]
        · rw [w_ir, if_pos ⟨rfl, rfl⟩]
        · rw [s0 215 3 (by omega), m4, s25, w_ir, if_neg (by omega)]
          exact m3.2.2.2.2.1.symm
        · unfold rZ
          rw [ref]
          refine ⟨Z0, fun y hy => ?_, Z2⟩
          obtain ⟨P1, P2, P3, P4, P5, P6⟩ := Z1 y hy
          have bp := jz_b P1
          have V : vz (S.2.2 27 y) y S (w_i (w_i M' 215 0 2) 215 2 0) := ⟨fun b j q1 q2 => g1 b j (by omega) (by omega) (by omega) (by omega), fun j => g2 _ _ P2, g1 217 y (by omega) (by omega) (by omega) (by omega), g1 218 y (by omega) (by omega) (by omega) (by omega), g1 237 y (by omega) (by omega) (by omega) (by omega), funext fun j => g2 _ _ (by omega), funext fun j => g1 (229 + y) j (by omega) (by omega) (by omega) (by omega)⟩
          refine ⟨P1, P2, by rw [vz_zok V]; exact P3, by rw [vz_zca V]; exact P4, by rw [vz_zR V]; exact P5, fun j => ?_⟩
          rw [g1 (229 + y) j (by omega) (by omega) (by omega) (by omega)]
          exact P6 j
        · show (12, (w_i (w_i M' 215 0 2) 215 2 0).1 215 0) ∈ _
          rw [w_ir, if_neg (by omega), w_ir, if_pos ⟨rfl, rfl⟩]
          exact List.mem_cons_of_mem _ List.mem_cons_self
  · refine ⟨(some 11, S), w_i (w_i S 215 0 0) 215 0 1, ?_, ?_, RJ_0 rK_RB (RJ_0 rK_RB h'), ?_⟩
    · unfold F_J_zone
      rw [fck1 (by simp only [Int32.toInt_toInt64, Int64.reduceToInt]; omega), jxv_1]
    · show F_M_zone p0 S = _
      unfold F_M_zone
      have e : J_M_zone_15 (w_i S 215 0 0) = some (w_i (w_i S 215 0 0) 215 0 1) := rfl
      rw [jl_, e]
      by_cases w : p0.toInt < 0
      · rw [if_pos (by rw [ltI (k := 0) (n := 0) rfl]; exact w)]
      · rw [if_neg (by rw [ltI (k := 0) (n := 0) rfl]; exact w), if_neg (by rw [leI (k := 7) (n := 7) rfl]; omega)]
    · show (11, (w_i (w_i S 215 0 0) 215 0 1).1 215 0) ∈ _
      rw [w_ir, if_pos ⟨rfl, rfl⟩]
      exact List.mem_cons_self
end JY_2
