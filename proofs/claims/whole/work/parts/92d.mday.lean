section JL_1
variable {S V : jS} {a h k : Nat} {p0 p1 p2 : Int32}
/-- a cron of the class and one of the model say the same -/
def cR (S : jS) (a k : Nat) : Prop := cD S a k ∧ (∀ y : Int, 1970 ≤ y → y ≤ 2299 → (hyS S a y ↔ ¬ S.1 (240 + k * 8 + 1 + 6) (y - 1970).toNat = 0)) ∧ (∀ m : Int, 1 ≤ m → m ≤ 12 → (hmS S a m ↔ ¬ S.1 (240 + k * 8 + 1 + 4) (m - 1).toNat = 0)) ∧ ∀ s, s < 86400 → (tkS S a s ↔ mt S (240 + k * 8 + 1) s)
/-- a calendar of the class and one of the model hold the same days -/
def hR (S : jS) (h : Nat) (c : Int32) : Prop := ∀ D : Int, 0 ≤ D → D ≤ 120529 → (hld S h D ↔ (0 ≤ c.toInt ∧ ¬ S.1 (431 + c.toNatClampNeg) D.toNat = 0))
theorem dS_hyS {y m d : Int32} (x : Int) : hyS (dt_S S y m d) a x = hyS S a x := rfl
theorem dS_hmS {y m d : Int32} (x : Int) : hmS (dt_S S y m d) a x = hmS S a x := rfl
theorem dS_tkS {y m d : Int32} (x : Nat) : tkS (dt_S S y m d) a x = tkS S a x := rfl
theorem dS_mt {y m d : Int32} (x : Nat) : mt (dt_S S y m d) (240 + k * 8 + 1) x = mt S (240 + k * 8 + 1) x := by
  unfold mt
  simp only [dS_1 (show 240 + k * 8 + 1 ≠ 215 by omega), dS_1 (show 240 + k * 8 + 1 + 1 ≠ 215 by omega), dS_1 (show 240 + k * 8 + 1 + 2 ≠ 215 by omega)]
theorem dS_cR {y m d : Int32} (ha : a < 215) : cR (dt_S S y m d) a k = cR S a k := by
  unfold cR
  simp only [dS_cD ha, dS_hyS, dS_hmS, dS_tkS, dS_mt, dS_1 (show 240 + k * 8 + 1 + 6 ≠ 215 by omega), dS_1 (show 240 + k * 8 + 1 + 4 ≠ 215 by omega)]
theorem dS_hld {y m d : Int32} (ha : h < 200) (x : Int) : hld (dt_S S y m d) h x = hld S h x := by
  unfold hld
  simp only [dS_1 (show h ≠ 215 by omega), dS_1 (show h + 1 ≠ 215 by omega)]
theorem dS_hR {y m d c : Int32} (ha : h < 200) : hR (dt_S S y m d) h c = hR S h c := by
  unfold hR
  simp only [dS_hld ha, dS_1 (show 431 + c.toNatClampNeg ≠ 215 by omega)]
theorem dS_fN {y m d : Int32} (ha : a < 200) (hh : h < 200) (x : Int) : fN (dt_S S y m d) a h x = fN S a h x := by
  unfold fN fD
  simp only [dS_dkS (show a < 215 by omega), dS_hld hh, dS_hyS, dS_hmS]
theorem dS_zw {y m d : Int32} {b : Nat} (hb : b ≠ 215) : (dt_S S y m d).1 b = S.1 b := dS_1 hb
theorem d1970 : dt_1 1970 = 0 := by decide
theorem d2300 : dt_1 2300 = 120530 := by decide
theorem dS_dS {y m d y' m' d' : Int32} : dt_S (dt_S S y m d) y' m' d' = dt_S S y' m' d' := by
  apply S_ext
  · intro b j
    unfold dt_S
    simp only [w_ir]
    by_cases h6 : b = 215 ∧ j = 6
    · simp only [if_pos h6]
    · by_cases h5 : b = 215 ∧ j = 5
      · simp only [if_neg h6, if_pos h5]
      · by_cases h4 : b = 215 ∧ j = 4
        · simp only [if_neg h6, if_neg h5, if_pos h4]
        · simp only [if_neg h6, if_neg h5, if_neg h4]
  · intro b j; rfl
  · intro b j; rfl
theorem fM_df (ha : a < 200) (hh : h < 200) (hc : ckD S a) (hR1 : cR S a k) (hR2 : hR S h p1) (ip : p0.toInt = k) (i2 : k < 16) (j1 : -1 ≤ p1.toInt) (j2 : p1.toInt < 4) (h1 : -366 ≤ p2.toInt) (h2 : p2.toInt < 120895) : ∃ r y m d, F_M_dayFits p0 p1 p2 S = some (r, dt_S S y m d) ∧ (¬ r = 0 ↔ fN S a h p2.toInt) := by
  unfold F_M_dayFits
  rw [fM_date h1 h2]
  simp only [ob_]
  rw [fN_iff]
  have a1 := dt_ya p2.toInt
  have a2 := dt_yb p2.toInt
  have yr := dt_yr h1 h2
  have ob := dt_ob a1 a2
  generalize hD : p2.toInt = D at *
  generalize dt_y D = y at *
  generalize dt_o y D = m at *
  obtain ⟨o1, o2, o3, o4⟩ := ob
  have s := dt_s (y := y) o1 o2
  have nb := dt_nb (y := y) (m := m)
  have ey : (Int32.ofInt y).toInt = y := tI (by omega) (by omega)
  have em : (Int32.ofInt m).toInt = m := tI (by omega) (by omega)
  have ed : (Int32.ofInt (D - dt_m y m + 1)).toInt = D - dt_m y m + 1 := tI (by omega) (by omega)
  generalize Int32.ofInt y = iy at *
  generalize Int32.ofInt m = im at *
  generalize Int32.ofInt (D - dt_m y m + 1) = id_ at *
  have q16 : j_in p0 16 = true := j_inb.mpr ⟨by omega, by omega⟩
  simp only [dS_y, dS_m, j_qt q16, j_qt ij67, j_qt ij47, cl6, cl4, clN ip]
  by_cases c1 : y < 1970
  · rw [if_pos (show iy < 1970 from Int32.lt_iff_toInt_lt.mpr (by rw [ey]; simp only [Int32.reduceToInt]; omega))]
    exact ⟨_, _, _, _, rfl, i0z rfl (fun z => by omega)⟩
  rw [if_neg (show ¬ iy < 1970 from fun z => c1 (by
    have := Int32.lt_iff_toInt_lt.mp z
    rw [ey] at this
    simp only [Int32.reduceToInt] at this
    omega))]
  by_cases c2 : 2299 < y
  · rw [if_pos (show 2299 < iy from Int32.lt_iff_toInt_lt.mpr (by rw [ey]; simp only [Int32.reduceToInt]; omega))]
    exact ⟨_, _, _, _, rfl, i0z rfl (fun z => by omega)⟩
  rw [if_neg (show ¬ 2299 < iy from fun z => c2 (by
    have := Int32.lt_iff_toInt_lt.mp z
    rw [ey] at this
    simp only [Int32.reduceToInt] at this
    omega))]
  have D0 : 0 ≤ D := by
    by_cases g : y = 1970
    · rw [g, d1970] at a1; exact a1
    · have := dt_mo (x := 1970) (y := y) (by omega)
      rw [d1970] at this
      omega
  have D1 : D < 120530 := by
    by_cases g : y + 1 = 2300
    · rw [g, d2300] at a2; exact a2
    · have := dt_mo (x := y + 1) (y := 2300) (by omega)
      rw [d2300] at this
      omega
  obtain ⟨r1, r2, r3, -⟩ := id hR1
  have ey1 : (iy - 1970).toInt = ((y - 1970).toNat : Int) := by
    simp (disch := omega) only [Int32.toInt_sub, bs32, ey, Int32.reduceToInt]
    omega
  have em1 : (im - 1).toInt = ((m - 1).toNat : Int) := by
    simp (disch := omega) only [Int32.toInt_sub, bs32, em, Int32.reduceToInt]
    omega
  rw [j_qi (by omega) (by omega), clN ey1, dS_1 (show 240 + k * 8 + 1 + 6 ≠ 215 by omega)]
  have r2' := r2 y (by omega) (by omega)
  by_cases c3 : S.1 (240 + k * 8 + 1 + 6) (y - 1970).toNat = 0
  · rw [if_pos c3]
    exact ⟨_, _, _, _, rfl, i0z rfl (fun z => r2'.mp z.2.2.1 c3)⟩
  rw [if_neg c3, j_qi (by omega) (by omega), clN em1, dS_1 (show 240 + k * 8 + 1 + 4 ≠ 215 by omega)]
  have r3' := r3 m o1 o2
  by_cases c4 : S.1 (240 + k * 8 + 1 + 4) (m - 1).toNat = 0
  · rw [if_pos c4]
    exact ⟨_, _, _, _, rfl, i0z rfl (fun z => r3'.mp z.2.2.2.1 c4)⟩
  rw [if_neg c4]
  have hf : 0 ≤ dt_m y m ∧ dt_m y m ≤ 125000 := by
    refine ⟨?_, by omega⟩
    have g := dt_mm (y := y) (m := 1) (k := m) (by omega) o1 (by omega)
    rw [dt_11] at g
    by_cases g2 : y = 1970
    · rw [g2, d1970] at g; rw [g2]; exact g
    · have := dt_mo (x := 1970) (y := y) (by omega)
      rw [d1970] at this
      omega
  obtain ⟨r, e1, e2⟩ := fM_94 (V := dt_S S iy im id_) (p0 := p0) (p2 := p2) (a := a) (k := k) (y := y) (m := m) (F := dt_m y m) (L := (dt_n y m).toNat) (d := (D - dt_m y m + 1).toNat) (by rw [dS_ckD (by omega)]; exact hc) (by rw [dS_cD (by omega)]; exact r1) ip i2 (by rw [dS_y]; exact ey) (by rw [dS_m]; exact em) (by rw [dS_d, ed]; omega) (by omega) (by omega) o1 o2 (by omega) rfl hf.1 hf.2 (by omega) (by omega) (by rw [hD]; omega)
  rw [dS_dkS (by omega)] at e2
  rw [e1]
  have hol := hR2 D D0 (by omega)
  have fin : ¬ hld S h D → (¬ r = 0 ↔ (1970 ≤ y ∧ y ≤ 2299 ∧ hyS S a y ∧ hmS S a m ∧ dkS S a (dt_n y m).toNat ((dt_m y m + 4) % 7 + 1).toNat (D - dt_m y m + 1).toNat ∧ ¬ hld S h D)) := by
    intro nh
    rw [e2]
    exact ⟨fun z => ⟨by omega, by omega, r2'.mpr c3, r3'.mpr c4, z, nh⟩, fun z => z.2.2.2.2.1⟩
  by_cases c5 : p1.toInt < 0
  · rw [if_pos (show p1 < 0 from Int32.lt_iff_toInt_lt.mpr (by simp only [Int32.reduceToInt]; omega))]
    exact ⟨_, _, _, _, rfl, fin (fun z => by have := (hol.mp z).1; omega)⟩
  rw [if_neg (show ¬ p1 < 0 from fun z => c5 (by
    have := Int32.lt_iff_toInt_lt.mp z
    simp only [Int32.reduceToInt] at this
    omega))]
  rw [if_neg (show ¬ p2 < 0 from fun z => by
    have := Int32.lt_iff_toInt_lt.mp z
    simp only [Int32.reduceToInt] at this
    omega)]
  rw [if_neg (show ¬ 120529 < p2 from fun z => by
    have := Int32.lt_iff_toInt_lt.mp z
    simp only [Int32.reduceToInt] at this
    omega)]
  rw [j_qi (by omega) (by omega), j_qi (by omega) (by omega), dS_1 (show 431 + p1.toNatClampNeg ≠ 215 by omega), show p2.toNatClampNeg = D.toNat from clN (by omega)]
  by_cases c6 : S.1 (431 + p1.toNatClampNeg) D.toNat = 0
  · rw [if_pos c6]
    exact ⟨_, _, _, _, rfl, fin (fun z => (hol.mp z).2 c6)⟩
  · rw [if_neg c6]
    exact ⟨_, _, _, _, rfl, i0z rfl (fun z => z.2.2.2.2.2 (hol.mpr ⟨by omega, c6⟩))⟩
end JL_1
