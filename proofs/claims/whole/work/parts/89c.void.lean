section JN_1
variable {a h : Nat} {S : jS}
/-- a cron that was never told -/
def vd (S : jS) (a : Nat) : Prop := ∀ j, j < 12 → S.2.1 (a + 1) j = 0
theorem vd_N (hv : vd S a) (D : Int) : ¬ fN S a h D := by
  rintro ⟨y, m, d, y1, y2, -, -, q, -⟩
  unfold hyS at q
  rw [hv _ (by omega), bt_0] at q
  cases q
theorem lo0 {l : Int32} {k : Nat} (hl : l.toInt = k) (hk : k < 64) : F_C_lowestBit 0 l S = some (-1) := by
  obtain ⟨r, r1, r2⟩ := lwp (S := S) (s := 0) hl hk
  rcases r2 with ⟨j, -, -, -, q, -⟩ | ⟨q, -⟩
  · rw [bt_0] at q; cases q
  · rw [r1, show r = -1 from eqI.mpr (by rw [q]; rfl)]
theorem hi0 {l : Int32} {k : Int} (hl : l.toInt = k) (hk : k < 63) : F_C_highestBit 0 l S = some (-1) := by
  obtain ⟨r, r1, r2⟩ := hwp (S := S) (s := 0) hl hk
  rcases r2 with ⟨j, -, -, -, q, -⟩ | ⟨q, -⟩
  · rw [bt_0] at q; cases q
  · rw [r1, show r = -1 from eqI.mpr (by rw [q]; rfl)]
theorem ij2 : j_in 2 12 = true := by decide
theorem ij1 : j_in 1 12 = true := by decide
theorem ij0 : j_in 0 12 = true := by decide
theorem pd3 {p : Int32} {P : Nat} (h : p.toInt = P) (hb : P < 86400) : (p / 3600 + 1).toInt = (P / 3600 + 1 : Nat) ∧ (p / 3600 - 1).toInt = (P / 3600 : Int) - 1 := by
  have e := (pd_ h hb).1
  constructor
  · rw [Int32.toInt_add, e]
    simp only [Int32.reduceToInt]
    rw [bs32 (by omega) (by omega)]
    omega
  · rw [Int32.toInt_sub, e]
    simp only [Int32.reduceToInt]
    rw [bs32 (by omega) (by omega)]
    omega
theorem fC_tf0 {p0 : Int32} {P : Nat} (hp : p0.toInt = P) (hb : P < 86400) (hv : vd S a) : F_C_timeFrom a p0 S = some (-1) := by
  have m2 : (2 : Int32).toNatClampNeg = 2 := by decide
  have m1 : (1 : Int32).toNatClampNeg = 1 := by decide
  have m0 : (0 : Int32).toNatClampNeg = 0 := by decide
  have e := (pd_ hp hb).1
  have ne : ¬ (-1 : Int32) = p0 / 3600 := fun q => by
    have := eqI.mp q
    rw [e] at this
    simp only [Int32.reduceToInt] at this
    omega
  have l0 : F_C_lowestBit 0 0 S = some (-1) := lo0 (k := 0) rfl (by omega)
  unfold F_C_timeFrom
  simp only [m2, m1, hv 2 (by omega), hv 1 (by omega), j_qt ij2, j_qt ij1]
  rw [lo0 e (by omega)]
  simp only [ob_]
  rw [if_neg ne]
  unfold J_C_timeFrom_41
  rw [l0]
  simp only [ob_]
  rw [if_neg ne]
  unfold J_C_timeFrom_69 J_C_timeFrom_70
  simp only [m0, hv 0 (by omega), j_qt ij0, if_true]
  unfold J_C_timeFrom_91
  rw [l0]
  simp only [ob_]
  rw [if_neg (by decide)]
  simp only [m1, m0, hv 1 (by omega), hv 0 (by omega), j_qt ij1, j_qt ij0]
  rw [lo0 (l := -1 + 1) (k := 0) rfl (by omega)]
  simp only [ob_, l0]
  unfold J_C_timeFrom_126
  rw [if_neg (by decide)]
  simp only [m2, m1, hv 2 (by omega), hv 1 (by omega), j_qt ij2, j_qt ij1]
  rw [lo0 (pd3 hp hb).1 (by omega)]
  simp only [ob_, l0]
  unfold J_C_timeFrom_158
  rw [if_neg (by decide)]
theorem fC_tu0 {p0 : Int32} {P : Nat} (hp : p0.toInt = P) (hb : P < 86400) (hv : vd S a) : F_C_timeUpTo a p0 S = some (-1) := by
  have m2 : (2 : Int32).toNatClampNeg = 2 := by decide
  have m1 : (1 : Int32).toNatClampNeg = 1 := by decide
  have m0 : (0 : Int32).toNatClampNeg = 0 := by decide
  have e := (pd_ hp hb).1
  have ne : ¬ (-1 : Int32) = p0 / 3600 := fun q => by
    have := eqI.mp q
    rw [e] at this
    simp only [Int32.reduceToInt] at this
    omega
  have l0 : F_C_highestBit 0 59 S = some (-1) := hi0 (k := 59) rfl (by omega)
  unfold F_C_timeUpTo
  simp only [m2, m1, hv 2 (by omega), hv 1 (by omega), j_qt ij2, j_qt ij1]
  rw [hi0 e (by omega)]
  simp only [ob_]
  rw [if_neg ne]
  unfold J_C_timeUpTo_42
  rw [l0]
  simp only [ob_]
  rw [if_neg ne]
  unfold J_C_timeUpTo_70 J_C_timeUpTo_71
  simp only [m0, hv 0 (by omega), j_qt ij0, if_true]
  unfold J_C_timeUpTo_93
  rw [l0]
  simp only [ob_]
  rw [if_neg (by decide)]
  simp only [m1, m0, hv 1 (by omega), hv 0 (by omega), j_qt ij1, j_qt ij0]
  rw [hi0 (l := -1 - 1) (k := -2) rfl (by omega)]
  simp only [ob_, l0]
  unfold J_C_timeUpTo_129
  rw [if_neg (by decide)]
  simp only [m2, m1, hv 2 (by omega), hv 1 (by omega), j_qt ij2, j_qt ij1]
  rw [hi0 (pd3 hp hb).2 (by omega)]
  simp only [ob_, l0]
  unfold J_C_timeUpTo_162
  rw [if_neg (by decide)]
theorem n0m : ¬ (0 : Int32) ≤ -1 := by decide
theorem fF_lf0 {x : Int64} (hc : ckA S a h) (hv : vd S a) (b1 : -80000 ≤ x.toInt) (b2 : x.toInt ≤ 10420000000) : ∃ r, F_F_localFrom x S = some r ∧ rL S a h x.toInt r.toInt := by
  refine ⟨-1, ?_, Or.inr ⟨rfl, fun i _ q => vd_N hv _ q.1⟩⟩
  have dy : ∀ p : Int32, -10 ≤ p.toInt → p.toInt < 120895 → F_F_dayFrom p S = some (-1) := fun p h1 h2 => by
    obtain ⟨z, z1, z2⟩ := fF_dyf (S := S) (a := a) (h := h) (p := p) hc h1 h2
    rcases z2 with ⟨-, q, -⟩ | ⟨q, -⟩
    · exact absurd q (vd_N hv _)
    · rw [z1, show z = -1 from eqI.mpr (by rw [q]; rfl)]
  unfold F_F_localFrom
  rw [fD_day (by omega) (by omega)]
  simp only [ob_]
  have ed : (Int32.ofInt (x.toInt / 86400)).toInt = x.toInt / 86400 := tI (by omega) (by omega)
  generalize Int32.ofInt (x.toInt / 86400) = d at *
  rw [dy d (by omega) (by omega)]
  simp only [ob_]
  by_cases q : -1 = d
  · rw [if_pos q, hc.2.1, j_qt hc.2.2.1, fC_tf0 (pt_e ed (by omega) b2) (by omega) hv]
    simp only [ob_]
    rw [if_neg n0m, dy (d + 1) (by rw [← q]; decide) (by rw [← q]; decide)]
    simp only [ob_]
    unfold J_F_localFrom_55 J_F_localFrom_57
    rw [if_neg n0m]
  · rw [if_neg q]
    unfold J_F_localFrom_57
    rw [if_neg n0m]
theorem fF_lu0 {x : Int64} (hc : ckA S a h) (hv : vd S a) (b1 : -80000 ≤ x.toInt) (b2 : x.toInt ≤ 10420000000) : ∃ r, F_F_localUpTo x S = some r ∧ uL S a h x.toInt r.toInt := by
  refine ⟨-1, ?_, Or.inr ⟨rfl, fun i _ q => vd_N hv _ q.1⟩⟩
  have dy : ∀ p : Int32, -10 ≤ p.toInt → p.toInt ≤ 1000000 → F_F_dayUpTo p S = some (-1) := fun p h1 h2 => by
    obtain ⟨z, z1, z2⟩ := fF_dyu (S := S) (a := a) (h := h) (p := p) hc h1 h2
    rcases z2 with ⟨-, q, -⟩ | ⟨q, -⟩
    · exact absurd q (vd_N hv _)
    · rw [z1, show z = -1 from eqI.mpr (by rw [q]; rfl)]
  unfold F_F_localUpTo
  rw [fD_day (by omega) (by omega)]
  simp only [ob_]
  have ed : (Int32.ofInt (x.toInt / 86400)).toInt = x.toInt / 86400 := tI (by omega) (by omega)
  generalize Int32.ofInt (x.toInt / 86400) = d at *
  rw [dy d (by omega) (by omega)]
  simp only [ob_]
  by_cases q : -1 = d
  · rw [if_pos q, hc.2.1, j_qt hc.2.2.1, fC_tu0 (pt_e ed (by omega) b2) (by omega) hv]
    simp only [ob_]
    rw [if_neg n0m, dy (d - 1) (by rw [← q]; decide) (by rw [← q]; decide)]
    simp only [ob_]
    unfold J_F_localUpTo_55 J_F_localUpTo_57
    rw [if_neg n0m]
  · rw [if_neg q]
    unfold J_F_localUpTo_57
    rw [if_neg n0m]
/-- told or never told -/
def ckV (S : jS) (a : Nat) : Prop := ckU S a ∨ vd S a
theorem fF_lfv {x : Int64} (hc : ckA S a h) (hu : ckV S a) (b1 : -80000 ≤ x.toInt) (b2 : x.toInt ≤ 10420000000) : ∃ r, F_F_localFrom x S = some r ∧ rL S a h x.toInt r.toInt := by
  rcases hu with hu | hu
  · exact fF_lf hc hu b1 b2
  · exact fF_lf0 hc hu b1 b2
theorem fF_luv {x : Int64} (hc : ckA S a h) (hu : ckV S a) (b1 : -80000 ≤ x.toInt) (b2 : x.toInt ≤ 10420000000) : ∃ r, F_F_localUpTo x S = some r ∧ uL S a h x.toInt r.toInt := by
  rcases hu with hu | hu
  · exact fF_lu hc hu b1 b2
  · exact fF_lu0 hc hu b1 b2
end JN_1
