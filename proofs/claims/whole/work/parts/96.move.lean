section JO_1
variable {S T : jS} {a h c k z : Nat}
/-- T is S but for what a search writes -/
def sw (S T : jS) : Prop := (∀ b j, ¬ (b = 215 ∧ (j = 0 ∨ j = 4 ∨ j = 5 ∨ j = 6)) → ¬ (jz_ b = true ∧ j = 6) → T.1 b j = S.1 b j) ∧ (∀ b j, ¬ (jz_ b = true ∧ (j = 4 ∨ j = 5)) → T.2.1 b j = S.2.1 b j) ∧ (∀ b j, b ≠ 32 → T.2.2 b j = S.2.2 b j)
theorem sw_r : sw S S := ⟨fun _ _ _ _ => rfl, fun _ _ _ => rfl, fun _ _ _ => rfl⟩
theorem sw_t {U : jS} (h1 : sw S T) (h2 : sw T U) : sw S U := ⟨fun b j q1 q2 => (h2.1 b j q1 q2).trans (h1.1 b j q1 q2), fun b j q => (h2.2.1 b j q).trans (h1.2.1 b j q), fun b j q => (h2.2.2 b j q).trans (h1.2.2 b j q)⟩
theorem sw_32 {j v : Nat} : sw S (w_r S 32 j v) := by
  refine ⟨fun b i _ _ => ?_, fun b i _ => ?_, fun b i q => ?_⟩
  · rw [w_r1]
  · rw [w_r2]
  · rw [w_rr, if_neg (fun w => q w.1)]
theorem sw_z {s u : Int64} {o : Int32} (hc : jz_ c = true) : sw S (zw S c s u o) := by
  refine ⟨fun b i _ q => ?_, fun b i q => ?_, fun b i q => rfl⟩
  · by_cases e : b = c
    · subst e
      exact zw_10 (fun w => q ⟨hc, w⟩)
    · rw [zw_1 e]
  · by_cases e : b = c
    · subst e
      unfold zw
      rw [w_i2, w_lr, if_neg (fun w => q ⟨hc, Or.inr w.2⟩), w_lr, if_neg (fun w => q ⟨hc, Or.inl w.2⟩)]
    · rw [zw_2 e]
theorem sw_0 {v : Int32} : sw S (w_i S 215 0 v) := by
  refine ⟨fun b i q _ => ?_, fun b i _ => ?_, fun b i _ => rfl⟩
  · rw [w_ir, if_neg (fun w => q ⟨w.1, Or.inl w.2⟩)]
  · rw [w_i2]
theorem sw_d {y m d : Int32} : sw S (dt_S S y m d) := by
  refine ⟨fun b i q _ => ?_, fun b i _ => rfl, fun b i _ => rfl⟩
  by_cases e : b = 215
  · subst e
    exact dS_o (fun w => q ⟨rfl, by omega⟩) (fun w => q ⟨rfl, by omega⟩) (fun w => q ⟨rfl, by omega⟩)
  · rw [dS_1 e]
theorem sw_1 (hs : sw S T) {b : Nat} (hb : ¬ jz_ b = true) (h5 : b ≠ 215) : T.1 b = S.1 b := funext fun j => hs.1 b j (fun q => h5 q.1) (fun q => hb q.1)
theorem sw_2 (hs : sw S T) {b : Nat} (hb : ¬ jz_ b = true) : T.2.1 b = S.2.1 b := funext fun j => hs.2.1 b j (fun q => hb q.1)
theorem sw_c (hs : sw S T) (hc : jz_ c = true) {j : Nat} (hj : j ≠ 6) : T.1 c j = S.1 c j := by
  have := jz_b hc
  exact hs.1 c j (by omega) (fun q => hj q.2)
theorem sw_zB (hs : sw S T) (hc : jz_ c = true) (y : Int) : zB T c y = zB S c y := by
  have b := jz_b hc
  unfold zB rsS
  simp only [sw_c hs hc (show 0 ≠ 6 by omega), sw_1 hs (b := c + 1) (jz_n (by omega)) (by omega)]
theorem sw_zE (hs : sw S T) (hc : jz_ c = true) (y : Int) : zE T c y = zE S c y := by
  have b := jz_b hc
  unfold zE rsS
  simp only [sw_c hs hc (show 0 ≠ 6 by omega), sw_c hs hc (show 1 ≠ 6 by omega), sw_1 hs (b := c + 2) (jz_n (by omega)) (by omega)]
theorem sw_zok (hs : sw S T) (hc : jz_ c = true) : zok T c = zok S c := by
  have b := jz_b hc
  unfold zok rkS
  simp only [sw_c hs hc (show 0 ≠ 6 by omega), sw_c hs hc (show 1 ≠ 6 by omega), sw_1 hs (b := c + 1) (jz_n (by omega)) (by omega), sw_1 hs (b := c + 2) (jz_n (by omega)) (by omega)]
theorem sw_zof (hs : sw S T) (hc : jz_ c = true) (x r : Int) : zof T c x r = zof S c x r := by
  unfold zof zsum
  simp only [sw_zB hs hc, sw_zE hs hc, sw_c hs hc (show 0 ≠ 6 by omega), sw_c hs hc (show 1 ≠ 6 by omega)]
theorem sw_zst (hs : sw S T) (hc : jz_ c = true) (x y r : Int) : zst T c x y r = zst S c x y r := by
  unfold zst zev
  simp only [sw_zof hs hc, sw_zB hs hc, sw_zE hs hc, sw_c hs hc (show 1 ≠ 6 by omega)]
theorem sw_zR (hs : sw S T) (hc : jz_ c = true) : zR T c z = zR S c z := by
  unfold zR zP
  simp only [sw_zB hs hc, sw_zE hs hc, sw_c hs hc (show 0 ≠ 6 by omega), sw_c hs hc (show 1 ≠ 6 by omega), sw_1 hs (b := 217) (jz_n (by omega)) (by omega), sw_1 hs (b := 218) (jz_n (by omega)) (by omega), sw_1 hs (b := 237) (jz_n (by omega)) (by omega), sw_1 hs (b := 229 + z) (jz_n (by omega)) (by omega), sw_2 hs (b := 220 + z) (jz_n (by omega))]
theorem sw_ckD (hs : sw S T) (ha : jc_ a = true) : ckD T a = ckD S a := by
  have b := jc_b ha
  unfold ckD
  simp only [sw_1 hs (b := a) (jz_n (by omega)) (by omega), sw_2 hs (b := a + 1) (jz_n (by omega))]
theorem sw_ckV (hs : sw S T) (ha : jc_ a = true) : ckV T a = ckV S a := by
  have b := jc_b ha
  unfold ckV ckU ckT vd
  simp only [sw_2 hs (b := a + 1) (jz_n (by omega))]
theorem sw_ckU (hs : sw S T) (ha : jc_ a = true) : ckU T a = ckU S a := by
  have b := jc_b ha
  unfold ckU ckT
  simp only [sw_2 hs (b := a + 1) (jz_n (by omega))]
theorem sw_vd (hs : sw S T) (ha : jc_ a = true) : vd T a = vd S a := by
  have b := jc_b ha
  unfold vd
  simp only [sw_2 hs (b := a + 1) (jz_n (by omega))]
theorem sw_cR (hs : sw S T) (ha : jc_ a = true) : cR T a k = cR S a k := by
  have b := jc_b ha
  unfold cR cD hyS hmS tkS mt
  simp only [sw_1 hs (b := a) (jz_n (by omega)) (by omega), sw_2 hs (b := a + 1) (jz_n (by omega)), sw_1 hs (b := 378 + k) (jz_n (by omega)) (by omega), sw_1 hs (b := 395 + k) (jz_n (by omega)) (by omega), sw_1 hs (b := 412 + k) (jz_n (by omega)) (by omega), sw_1 hs (b := 240 + k * 8 + 1) (jz_n (by omega)) (by omega), sw_1 hs (b := 240 + k * 8 + 1 + 1) (jz_n (by omega)) (by omega), sw_1 hs (b := 240 + k * 8 + 1 + 2) (jz_n (by omega)) (by omega), sw_1 hs (b := 240 + k * 8 + 1 + 3) (jz_n (by omega)) (by omega), sw_1 hs (b := 240 + k * 8 + 1 + 4) (jz_n (by omega)) (by omega), sw_1 hs (b := 240 + k * 8 + 1 + 5) (jz_n (by omega)) (by omega), sw_1 hs (b := 240 + k * 8 + 1 + 6) (jz_n (by omega)) (by omega)]
theorem sw_hld (hs : sw S T) (hh : jh_ h = true) (x : Int) : hld T h x = hld S h x := by
  have b := jh_b hh
  unfold hld
  simp only [sw_1 hs (b := h) (jz_n (by omega)) (by omega), sw_1 hs (b := h + 1) (jz_n (by omega)) (by omega)]
theorem sw_hsk (hs : sw S T) (hh : jh_ h = true) : hsk T h = hsk S h := by
  have b := jh_b hh
  unfold hsk
  simp only [sw_1 hs (b := h) (jz_n (by omega)) (by omega), sw_1 hs (b := h + 1) (jz_n (by omega)) (by omega)]
theorem sw_hR (hs : sw S T) (hh : jh_ h = true) {x : Int32} : hR T h x = hR S h x := by
  unfold hR
  simp only [sw_hld hs hh, sw_1 hs (b := 431 + x.toNatClampNeg) (jz_n (by omega)) (by omega)]
theorem sw_lf (hs : sw S T) (ha : jc_ a = true) (hh : jh_ h = true) (x : Int) : lf T a h x = lf S a h x := by
  have b := jc_b ha
  unfold lf fN fD hyS hmS tkS dkS
  simp only [sw_hld hs hh, sw_1 hs (b := a) (jz_n (by omega)) (by omega), sw_2 hs (b := a + 1) (jz_n (by omega))]
theorem sw_Fr (hs : sw S T) (ha : jc_ a = true) (hh : jh_ h = true) (hc : jz_ c = true) (x : Int) : Fr T a h c x = Fr S a h c x := by
  unfold Fr
  simp only [sw_lf hs ha hh, sw_zof hs hc]
theorem sw_rF (hs : sw S T) (ha : jc_ a = true) (hh : jh_ h = true) (hc : jz_ c = true) (x r : Int) : rF T a h c x r = rF S a h c x r := by
  unfold rF
  simp only [sw_Fr hs ha hh hc]
theorem sw_uF (hs : sw S T) (ha : jc_ a = true) (hh : jh_ h = true) (hc : jz_ c = true) (x r : Int) : uF T a h c x r = uF S a h c x r := by
  unfold uF
  simp only [sw_Fr hs ha hh hc]
/-- the zones of both sides -/
def rZ (S : jS) : Prop := jz_ (S.2.2 24 6) = true ∧ (∀ z, z < 8 → jz_ (S.2.2 27 z) = true ∧ S.2.2 27 z ≠ S.2.2 24 6 ∧ zok S (S.2.2 27 z) ∧ zca S (S.2.2 27 z) ∧ zR S (S.2.2 27 z) z ∧ ∀ j, bol (S.1 (229 + z) j)) ∧ ∀ z z', z < 8 → z' < 8 → z ≠ z' → S.2.2 27 z ≠ S.2.2 27 z'
/-- the crons of both sides -/
def rC (S : jS) : Prop := jc_ (S.2.2 24 7) = true ∧ (∀ k, k < 16 → jc_ (S.2.2 28 k) = true ∧ S.2.2 28 k ≠ S.2.2 24 7 ∧ ckD S (S.2.2 28 k) ∧ bt (S.2.1 (S.2.2 28 k + 1) 4) 63 = false ∧ ((S.1 376 k = 0 ∧ vd S (S.2.2 28 k)) ∨ (¬ S.1 376 k = 0 ∧ ckU S (S.2.2 28 k) ∧ cR S (S.2.2 28 k) k))) ∧ ∀ k k', k < 16 → k' < 16 → k ≠ k' → S.2.2 28 k ≠ S.2.2 28 k'
/-- the calendars of both sides -/
def rH (S : jS) : Prop := hsk S 30 ∧ S.1 30 1 = 0 ∧ ∀ c, c < 4 → hsk S (107 + 2 * c) ∧ hR S (107 + 2 * c) (Int32.ofNat c) ∧ S.1 435 c = S.1 (107 + 2 * c) 1 ∧ ∀ d, bol (S.1 (431 + c) d)
theorem jh_k (c : Nat) (h : c < 4) : jh_ (107 + 2 * c) = true := by
  unfold jh_
  simp only [Bool.or_eq_true, Bool.and_eq_true, decide_eq_true_eq]
  omega
theorem sw_rZ (hs : sw S T) (hq : ∀ z, z < 8 → zca T (S.2.2 27 z)) (h : rZ S) : rZ T := by
  obtain ⟨h1, h2, h3⟩ := h
  unfold rZ
  rw [hs.2.2 24 6 (by omega)]
  refine ⟨h1, fun z hz => ?_, fun z z' hz hz' hn => ?_⟩
  · obtain ⟨g1, g2, g3, g4, g5, g6⟩ := h2 z hz
    rw [hs.2.2 27 z (by omega)]
    refine ⟨g1, g2, by rw [sw_zok hs g1]; exact g3, hq z hz, by rw [sw_zR hs g1]; exact g5, fun j => ?_⟩
    rw [sw_1 hs (b := 229 + z) (jz_n (by omega)) (by omega)]
    exact g6 j
  · rw [hs.2.2 27 z (by omega), hs.2.2 27 z' (by omega)]
    exact h3 z z' hz hz' hn
theorem sw_rC (hs : sw S T) (h : rC S) : rC T := by
  obtain ⟨h1, h2, h3⟩ := h
  unfold rC
  rw [hs.2.2 24 7 (by omega)]
  refine ⟨h1, fun k hk => ?_, fun z z' hz hz' hn => ?_⟩
  · obtain ⟨g1, g2, g3, g4, g5⟩ := h2 k hk
    have b := jc_b g1
    rw [hs.2.2 28 k (by omega)]
    rw [sw_ckD hs g1, sw_ckU hs g1, sw_vd hs g1, sw_cR hs g1, sw_1 hs (b := 376) (jz_n (by omega)) (by omega), sw_2 hs (b := S.2.2 28 k + 1) (jz_n (by omega))]
    exact ⟨g1, g2, g3, g4, g5⟩
  · rw [hs.2.2 28 z (by omega), hs.2.2 28 z' (by omega)]
    exact h3 z z' hz hz' hn
theorem sw_rH (hs : sw S T) (h : rH S) : rH T := by
  obtain ⟨h1, h2, h3⟩ := h
  have j30 : jh_ 30 = true := by decide
  refine ⟨by rw [sw_hsk hs j30]; exact h1, by rw [sw_1 hs (b := 30) (jz_n (by omega)) (by omega)]; exact h2, fun c hc => ?_⟩
  obtain ⟨g1, g2, g3, g4⟩ := h3 c hc
  have jc := jh_k c hc
  refine ⟨by rw [sw_hsk hs jc]; exact g1, by rw [sw_hR hs jc]; exact g2, ?_, fun d => ?_⟩
  · rw [sw_1 hs (b := 435) (jz_n (by omega)) (by omega), sw_1 hs (b := 107 + 2 * c) (jz_n (by omega)) (by omega)]
    exact g3
  · rw [sw_1 hs (b := 431 + c) (jz_n (by omega)) (by omega)]
    exact g4 d
end JO_1
