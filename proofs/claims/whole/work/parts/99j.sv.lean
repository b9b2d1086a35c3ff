section JT_1
variable {S T U : jS} {a h c k z : Nat}
/-- not a row of the jobs -/
def nj (b : Nat) : Prop := b ≠ 24 ∧ ¬ (46 ≤ b ∧ b ≤ 50) ∧ ¬ (115 ≤ b ∧ b ≤ 215) ∧ b < 436
/-- T is S in zones, crons and calendars -/
def sv (S T : jS) : Prop := (∀ b j, nj b → ¬ (jz_ b = true ∧ j = 6) → T.1 b j = S.1 b j) ∧ (∀ b j, nj b → ¬ (jz_ b = true ∧ (j = 4 ∨ j = 5)) → T.2.1 b j = S.2.1 b j) ∧ True ∧ (∀ b j, b ≠ 32 → T.2.2 b j = S.2.2 b j)
theorem sv_r : sv S S := ⟨fun _ _ _ _ => rfl, fun _ _ _ _ => rfl, trivial, fun _ _ _ => rfl⟩
theorem sv_t (h1 : sv S T) (h2 : sv T U) : sv S U := ⟨fun b j q1 q2 => (h2.1 b j q1 q2).trans (h1.1 b j q1 q2), fun b j q q1 => (h2.2.1 b j q q1).trans (h1.2.1 b j q q1), trivial, fun b j q => (h2.2.2.2 b j q).trans (h1.2.2.2 b j q)⟩
theorem sv_s (h1 : sv S T) : sv T S := ⟨fun b j q1 q2 => (h1.1 b j q1 q2).symm, fun b j q q1 => (h1.2.1 b j q q1).symm, trivial, fun b j q => (h1.2.2.2 b j q).symm⟩
theorem sw_sv (h : sw S T) : sv S T := ⟨fun b j q1 q2 => h.1 b j (fun w => by have := w.1; unfold nj at q1; omega) q2, fun b j _ q1 => h.2.1 b j q1, trivial, fun b j q => h.2.2 b j q⟩
theorem sv_i {b j : Nat} {v : Int32} (hb : ¬ nj b) : sv S (w_i S b j v) := by
  refine ⟨fun b' i q _ => ?_, fun b' i _ _ => ?_, trivial, fun b' i _ => rfl⟩
  · rw [w_ir, if_neg (fun w : b' = b ∧ i = j => hb (w.1 ▸ q))]
  · rw [w_i2]
theorem sv_l {b j : Nat} {v : Int64} (hb : ¬ nj b) : sv S (w_l S b j v) := by
  refine ⟨fun b' i q _ => ?_, fun b' i q _ => ?_, trivial, fun b' i _ => rfl⟩
  · rw [w_l1]
  · rw [w_lr, if_neg (fun w : b' = b ∧ i = j => hb (w.1 ▸ q))]
theorem sv_1 (hs : sv S T) {b : Nat} (hb : ¬ jz_ b = true) (h5 : b ≠ 24 ∧ ¬ (46 ≤ b ∧ b ≤ 50) ∧ ¬ (115 ≤ b ∧ b ≤ 215) ∧ b < 436) : T.1 b = S.1 b := funext fun j => hs.1 b j h5 (fun q => hb q.1)
theorem sv_2 (hs : sv S T) {b : Nat} (hb : ¬ jz_ b = true) (h5 : b ≠ 24 ∧ ¬ (46 ≤ b ∧ b ≤ 50) ∧ ¬ (115 ≤ b ∧ b ≤ 215) ∧ b < 436) : T.2.1 b = S.2.1 b := funext fun j => hs.2.1 b j h5 (fun q => hb q.1)
theorem sv_c (hs : sv S T) (hc : jz_ c = true) {j : Nat} (hj : j ≠ 6) : T.1 c j = S.1 c j := by
  have := jz_b hc
  exact hs.1 c j (by unfold nj; omega) (fun q => hj q.2)
theorem sv_zB (hs : sv S T) (hc : jz_ c = true) (y : Int) : zB T c y = zB S c y := by
  have b := jz_b hc
  unfold zB rsS
  simp only [sv_c hs hc (show 0 ≠ 6 by omega), sv_1 hs (b := c + 1) (jz_n (by omega)) (by omega)]
theorem sv_zE (hs : sv S T) (hc : jz_ c = true) (y : Int) : zE T c y = zE S c y := by
  have b := jz_b hc
  unfold zE rsS
  simp only [sv_c hs hc (show 0 ≠ 6 by omega), sv_c hs hc (show 1 ≠ 6 by omega), sv_1 hs (b := c + 2) (jz_n (by omega)) (by omega)]
theorem sv_zok (hs : sv S T) (hc : jz_ c = true) : zok T c = zok S c := by
  have b := jz_b hc
  unfold zok rkS
  simp only [sv_c hs hc (show 0 ≠ 6 by omega), sv_c hs hc (show 1 ≠ 6 by omega), sv_1 hs (b := c + 1) (jz_n (by omega)) (by omega), sv_1 hs (b := c + 2) (jz_n (by omega)) (by omega)]
theorem sv_zof (hs : sv S T) (hc : jz_ c = true) (x r : Int) : zof T c x r = zof S c x r := by
  unfold zof zsum
  simp only [sv_zB hs hc, sv_zE hs hc, sv_c hs hc (show 0 ≠ 6 by omega), sv_c hs hc (show 1 ≠ 6 by omega)]
theorem sv_zst (hs : sv S T) (hc : jz_ c = true) (x y r : Int) : zst T c x y r = zst S c x y r := by
  unfold zst zev
  simp only [sv_zof hs hc, sv_zB hs hc, sv_zE hs hc, sv_c hs hc (show 1 ≠ 6 by omega)]
theorem sv_zR (hs : sv S T) (hc : jz_ c = true) (hz : z < 8) : zR T c z = zR S c z := by
  unfold zR zP
  simp only [sv_zB hs hc, sv_zE hs hc, sv_c hs hc (show 0 ≠ 6 by omega), sv_c hs hc (show 1 ≠ 6 by omega), sv_1 hs (b := 217) (jz_n (by omega)) (by omega), sv_1 hs (b := 218) (jz_n (by omega)) (by omega), sv_1 hs (b := 237) (jz_n (by omega)) (by omega), sv_1 hs (b := 229 + z) (jz_n (by omega)) (by omega), sv_2 hs (b := 220 + z) (jz_n (by omega)) (by omega)]
theorem sv_ckD (hs : sv S T) (ha : jc_ a = true) : ckD T a = ckD S a := by
  have b := jc_b ha
  unfold ckD
  simp only [sv_1 hs (b := a) (jz_n (by omega)) (by omega), sv_2 hs (b := a + 1) (jz_n (by omega)) (by omega)]
theorem sv_ckV (hs : sv S T) (ha : jc_ a = true) : ckV T a = ckV S a := by
  have b := jc_b ha
  unfold ckV ckU ckT vd
  simp only [sv_2 hs (b := a + 1) (jz_n (by omega)) (by omega)]
theorem sv_ckU (hs : sv S T) (ha : jc_ a = true) : ckU T a = ckU S a := by
  have b := jc_b ha
  unfold ckU ckT
  simp only [sv_2 hs (b := a + 1) (jz_n (by omega)) (by omega)]
theorem sv_vd (hs : sv S T) (ha : jc_ a = true) : vd T a = vd S a := by
  have b := jc_b ha
  unfold vd
  simp only [sv_2 hs (b := a + 1) (jz_n (by omega)) (by omega)]
theorem sv_cR (hs : sv S T) (ha : jc_ a = true) (hk : k < 16) : cR T a k = cR S a k := by
  have b := jc_b ha
  unfold cR cD hyS hmS tkS mt
  simp only [sv_1 hs (b := a) (jz_n (by omega)) (by omega), sv_2 hs (b := a + 1) (jz_n (by omega)) (by omega), sv_1 hs (b := 378 + k) (jz_n (by omega)) (by omega), sv_1 hs (b := 395 + k) (jz_n (by omega)) (by omega), sv_1 hs (b := 412 + k) (jz_n (by omega)) (by omega), sv_1 hs (b := 240 + k * 8 + 1) (jz_n (by omega)) (by omega), sv_1 hs (b := 240 + k * 8 + 1 + 1) (jz_n (by omega)) (by omega), sv_1 hs (b := 240 + k * 8 + 1 + 2) (jz_n (by omega)) (by omega), sv_1 hs (b := 240 + k * 8 + 1 + 3) (jz_n (by omega)) (by omega), sv_1 hs (b := 240 + k * 8 + 1 + 4) (jz_n (by omega)) (by omega), sv_1 hs (b := 240 + k * 8 + 1 + 5) (jz_n (by omega)) (by omega), sv_1 hs (b := 240 + k * 8 + 1 + 6) (jz_n (by omega)) (by omega)]
theorem sv_hld (hs : sv S T) (hh : jh_ h = true) (x : Int) : hld T h x = hld S h x := by
  have b := jh_b hh
  unfold hld
  simp only [sv_1 hs (b := h) (jz_n (by omega)) (by omega), sv_1 hs (b := h + 1) (jz_n (by omega)) (by omega)]
theorem sv_hsk (hs : sv S T) (hh : jh_ h = true) : hsk T h = hsk S h := by
  have b := jh_b hh
  unfold hsk
  simp only [sv_1 hs (b := h) (jz_n (by omega)) (by omega), sv_1 hs (b := h + 1) (jz_n (by omega)) (by omega)]
theorem sv_hR (hs : sv S T) (hh : jh_ h = true) {x : Int32} (hx : x.toInt ≤ 3) : hR T h x = hR S h x := by
  have : x.toNatClampNeg < 4 := by rw [show x.toNatClampNeg = x.toInt.toNat from rfl]; omega
  unfold hR
  simp only [sv_hld hs hh, sv_1 hs (b := 431 + x.toNatClampNeg) (jz_n (by omega)) (by omega)]
theorem sv_lf (hs : sv S T) (ha : jc_ a = true) (hh : jh_ h = true) (x : Int) : lf T a h x = lf S a h x := by
  have b := jc_b ha
  unfold lf fN fD hyS hmS tkS dkS
  simp only [sv_hld hs hh, sv_1 hs (b := a) (jz_n (by omega)) (by omega), sv_2 hs (b := a + 1) (jz_n (by omega)) (by omega)]
theorem sv_Fr (hs : sv S T) (ha : jc_ a = true) (hh : jh_ h = true) (hc : jz_ c = true) (x : Int) : Fr T a h c x = Fr S a h c x := by
  unfold Fr
  simp only [sv_lf hs ha hh, sv_zof hs hc]
theorem sv_rF (hs : sv S T) (ha : jc_ a = true) (hh : jh_ h = true) (hc : jz_ c = true) (x r : Int) : rF T a h c x r = rF S a h c x r := by
  unfold rF
  simp only [sv_Fr hs ha hh hc]
theorem sv_uF (hs : sv S T) (ha : jc_ a = true) (hh : jh_ h = true) (hc : jz_ c = true) (x r : Int) : uF T a h c x r = uF S a h c x r := by
  unfold uF
  simp only [sv_Fr hs ha hh hc]
theorem sv_rZ (hs : sv S T) (hq : ∀ z, z < 8 → zca T (S.2.2 27 z)) (h : rZ S) : rZ T := by
  obtain ⟨h1, h2, h3⟩ := h
  unfold rZ
  rw [hs.2.2.2 24 6 (by omega)]
  refine ⟨h1, fun z hz => ?_, fun z z' hz hz' hn => ?_⟩
  · obtain ⟨g1, g2, g3, g4, g5, g6⟩ := h2 z hz
    rw [hs.2.2.2 27 z (by omega)]
    refine ⟨g1, g2, by rw [sv_zok hs g1]; exact g3, hq z hz, by rw [sv_zR hs g1 hz]; exact g5, fun j => ?_⟩
    rw [sv_1 hs (b := 229 + z) (jz_n (by omega)) (by omega)]
    exact g6 j
  · rw [hs.2.2.2 27 z (by omega), hs.2.2.2 27 z' (by omega)]
    exact h3 z z' hz hz' hn
theorem sv_rC (hs : sv S T) (h : rC S) : rC T := by
  obtain ⟨h1, h2, h3⟩ := h
  unfold rC
  rw [hs.2.2.2 24 7 (by omega)]
  refine ⟨h1, fun k hk => ?_, fun z z' hz hz' hn => ?_⟩
  · obtain ⟨g1, g2, g3, g4, g5⟩ := h2 k hk
    have b := jc_b g1
    rw [hs.2.2.2 28 k (by omega)]
    rw [sv_ckD hs g1, sv_ckU hs g1, sv_vd hs g1, sv_cR hs g1 hk, sv_1 hs (b := 376) (jz_n (by omega)) (by omega), sv_2 hs (b := S.2.2 28 k + 1) (jz_n (by omega)) (by omega)]
    exact ⟨g1, g2, g3, g4, g5⟩
  · rw [hs.2.2.2 28 z (by omega), hs.2.2.2 28 z' (by omega)]
    exact h3 z z' hz hz' hn
theorem sv_rH (hs : sv S T) (h : rH S) : rH T := by
  obtain ⟨h1, h2, h3⟩ := h
  have j30 : jh_ 30 = true := by decide
  refine ⟨by rw [sv_hsk hs j30]; exact h1, by rw [sv_1 hs (b := 30) (jz_n (by omega)) (by omega)]; exact h2, fun c hc => ?_⟩
  obtain ⟨g1, g2, g3, g4⟩ := h3 c hc
  have jc := jh_k c hc
  refine ⟨by rw [sv_hsk hs jc]; exact g1, by rw [sv_hR hs jc (by rw [Int32.toInt_ofNat_of_lt (by omega)]; omega)]; exact g2, ?_, fun d => ?_⟩
  · rw [sv_1 hs (b := 435) (jz_n (by omega)) (by omega), sv_1 hs (b := 107 + 2 * c) (jz_n (by omega)) (by omega)]
    exact g3
  · rw [sv_1 hs (b := 431 + c) (jz_n (by omega)) (by omega)]
    exact g4 d
end JT_1
