section JY_1
variable {S T U : jS} {a h c k z : Nat}
/-- the rows of the crons are the same -/
def vC (S T : jS) : Prop := (∀ b j, (33 ≤ b ∧ b ≤ 34) ∨ (43 ≤ b ∧ b ≤ 44) ∨ (75 ≤ b ∧ b ≤ 106) ∨ (241 ≤ b ∧ b ≤ 368) ∨ (376 ≤ b ∧ b ≤ 428) → T.1 b j = S.1 b j) ∧ (∀ b j, (33 ≤ b ∧ b ≤ 34) ∨ (43 ≤ b ∧ b ≤ 44) ∨ (75 ≤ b ∧ b ≤ 106) ∨ (241 ≤ b ∧ b ≤ 368) ∨ (376 ≤ b ∧ b ≤ 428) → T.2.1 b j = S.2.1 b j) ∧ T.2.2 24 7 = S.2.2 24 7 ∧ ∀ k, T.2.2 28 k = S.2.2 28 k
theorem vC_1 (hs : vC S T) {b : Nat} (hb : (33 ≤ b ∧ b ≤ 34) ∨ (43 ≤ b ∧ b ≤ 44) ∨ (75 ≤ b ∧ b ≤ 106) ∨ (241 ≤ b ∧ b ≤ 368) ∨ (376 ≤ b ∧ b ≤ 428)) : T.1 b = S.1 b := funext fun j => hs.1 b j hb
theorem vC_2 (hs : vC S T) {b : Nat} (hb : (33 ≤ b ∧ b ≤ 34) ∨ (43 ≤ b ∧ b ≤ 44) ∨ (75 ≤ b ∧ b ≤ 106) ∨ (241 ≤ b ∧ b ≤ 368) ∨ (376 ≤ b ∧ b ≤ 428)) : T.2.1 b = S.2.1 b := funext fun j => hs.2.1 b j hb
theorem vC_ckD (hs : vC S T) (ha : jc_ a = true) : ckD T a = ckD S a := by
  have b := jc_b ha
  unfold ckD
  simp only [vC_1 hs (b := a) (by omega), vC_2 hs (b := a + 1) (by omega)]
theorem vC_ckV (hs : vC S T) (ha : jc_ a = true) : ckV T a = ckV S a := by
  have b := jc_b ha
  unfold ckV ckU ckT vd
  simp only [vC_2 hs (b := a + 1) (by omega)]
theorem vC_ckU (hs : vC S T) (ha : jc_ a = true) : ckU T a = ckU S a := by
  have b := jc_b ha
  unfold ckU ckT
  simp only [vC_2 hs (b := a + 1) (by omega)]
theorem vC_vd (hs : vC S T) (ha : jc_ a = true) : vd T a = vd S a := by
  have b := jc_b ha
  unfold vd
  simp only [vC_2 hs (b := a + 1) (by omega)]
theorem vC_cR (hs : vC S T) (ha : jc_ a = true) (hk : k < 16) : cR T a k = cR S a k := by
  have b := jc_b ha
  unfold cR cD hyS hmS tkS mt
  simp only [vC_1 hs (b := a) (by omega), vC_2 hs (b := a + 1) (by omega), vC_1 hs (b := 378 + k) (by omega), vC_1 hs (b := 395 + k) (by omega), vC_1 hs (b := 412 + k) (by omega), vC_1 hs (b := 240 + k * 8 + 1) (by omega), vC_1 hs (b := 240 + k * 8 + 1 + 1) (by omega), vC_1 hs (b := 240 + k * 8 + 1 + 2) (by omega), vC_1 hs (b := 240 + k * 8 + 1 + 3) (by omega), vC_1 hs (b := 240 + k * 8 + 1 + 4) (by omega), vC_1 hs (b := 240 + k * 8 + 1 + 5) (by omega), vC_1 hs (b := 240 + k * 8 + 1 + 6) (by omega)]
theorem vC_rC (hs : vC S T) (h : rC S) : rC T := by
  obtain ⟨h1, h2, h3⟩ := h
  unfold rC
  rw [hs.2.2.1]
  refine ⟨h1, fun k hk => ?_, fun z z' hz hz' hn => ?_⟩
  · obtain ⟨g1, g2, g3, g4, g5⟩ := h2 k hk
    have b := jc_b g1
    rw [hs.2.2.2 k]
    rw [vC_ckD hs g1, vC_ckU hs g1, vC_vd hs g1, vC_cR hs g1 hk, vC_1 hs (b := 376) (by omega), vC_2 hs (b := S.2.2 28 k + 1) (by omega)]
    exact ⟨g1, g2, g3, g4, g5⟩
  · rw [hs.2.2.2 z, hs.2.2.2 z']
    exact h3 z z' hz hz' hn
/-- the rows of the calendars are the same -/
def vH (S T : jS) : Prop := ∀ b j, (30 ≤ b ∧ b ≤ 31) ∨ (38 ≤ b ∧ b ≤ 39) ∨ (107 ≤ b ∧ b ≤ 114) ∨ (431 ≤ b ∧ b ≤ 435) → T.1 b j = S.1 b j
theorem vH_1 (hs : vH S T) {b : Nat} (hb : (30 ≤ b ∧ b ≤ 31) ∨ (38 ≤ b ∧ b ≤ 39) ∨ (107 ≤ b ∧ b ≤ 114) ∨ (431 ≤ b ∧ b ≤ 435)) : T.1 b = S.1 b := funext fun j => hs b j hb
theorem vH_hld (hs : vH S T) (hh : jh_ h = true) (x : Int) : hld T h x = hld S h x := by
  have b := jh_b hh
  unfold hld
  simp only [vH_1 hs (b := h) (by omega), vH_1 hs (b := h + 1) (by omega)]
theorem vH_hsk (hs : vH S T) (hh : jh_ h = true) : hsk T h = hsk S h := by
  have b := jh_b hh
  unfold hsk
  simp only [vH_1 hs (b := h) (by omega), vH_1 hs (b := h + 1) (by omega)]
theorem vH_hR (hs : vH S T) (hh : jh_ h = true) {x : Int32} (hx : x.toInt ≤ 3) : hR T h x = hR S h x := by
  have : x.toNatClampNeg < 4 := by rw [show x.toNatClampNeg = x.toInt.toNat from rfl]; omega
  unfold hR
  simp only [vH_hld hs hh, vH_1 hs (b := 431 + x.toNatClampNeg) (by omega)]
theorem vH_rH (hs : vH S T) (h : rH S) : rH T := by
  obtain ⟨h1, h2, h3⟩ := h
  have j30 : jh_ 30 = true := by decide
  refine ⟨by rw [vH_hsk hs j30]; exact h1, by rw [vH_1 hs (b := 30) (by omega)]; exact h2, fun c hc => ?_⟩
  obtain ⟨g1, g2, g3, g4⟩ := h3 c hc
  have jc := jh_k c hc
  refine ⟨by rw [vH_hsk hs jc]; exact g1, by rw [vH_hR hs jc (by rw [Int32.toInt_ofNat_of_lt (by omega)]; omega)]; exact g2, ?_, fun d => ?_⟩
  · rw [vH_1 hs (b := 435) (by omega), vH_1 hs (b := 107 + 2 * c) (by omega)]
    exact g3
  · rw [vH_1 hs (b := 431 + c) (by omega)]
    exact g4 d
/-- one zone's rows are the same -/
def vz (c z : Nat) (S T : jS) : Prop := (∀ b j, c ≤ b → b ≤ c + 2 → T.1 b j = S.1 b j) ∧ (∀ j, T.2.1 c j = S.2.1 c j) ∧ T.1 217 z = S.1 217 z ∧ T.1 218 z = S.1 218 z ∧ T.1 237 z = S.1 237 z ∧ T.2.1 (220 + z) = S.2.1 (220 + z) ∧ T.1 (229 + z) = S.1 (229 + z)
theorem vz_1 (hs : vz c z S T) : T.1 c = S.1 c ∧ T.1 (c + 1) = S.1 (c + 1) ∧ T.1 (c + 2) = S.1 (c + 2) ∧ T.2.1 c = S.2.1 c := ⟨funext fun j => hs.1 c j (by omega) (by omega), funext fun j => hs.1 (c + 1) j (by omega) (by omega), funext fun j => hs.1 (c + 2) j (by omega) (by omega), funext hs.2.1⟩
theorem vz_zok (hs : vz c z S T) : zok T c = zok S c := by
  obtain ⟨e0, e1, e2, e3⟩ := vz_1 hs
  unfold zok rkS
  simp only [e0, e1, e2]
theorem vz_zca (hs : vz c z S T) : zca T c = zca S c := by
  obtain ⟨e0, e1, e2, e3⟩ := vz_1 hs
  unfold zca zst zev zof zsum zB zE rsS
  simp only [e0, e1, e2, e3]
theorem vz_zR (hs : vz c z S T) : zR T c z = zR S c z := by
  obtain ⟨e0, e1, e2, e3⟩ := vz_1 hs
  unfold zR zP zB zE rsS
  simp only [e0, e1, e2, hs.2.2.1, hs.2.2.2.1, hs.2.2.2.2.1, hs.2.2.2.2.2.1, hs.2.2.2.2.2.2]
end JY_1
