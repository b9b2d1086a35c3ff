section JK_9
variable {S V : jS} {a h k : Nat} {p0 p1 p2 : Int32}
theorem fM_94 {L d : Nat} {y m F : Int} (hc : ckD V a) (hR : cD V a k) (ip : p0.toInt = k) (i2 : k < 16) (y1 : (V.1 215 4).toInt = y) (m1 : (V.1 215 5).toInt = m) (d1 : (V.1 215 6).toInt = d) (yb : 1970 ≤ y) (yb2 : y ≤ 2299) (mb : 1 ≤ m) (mb2 : m ≤ 12) (hL : dt_n y m = L) (hF : dt_m y m = F) (f1 : 0 ≤ F) (f2 : F ≤ 125000) (db : 1 ≤ d) (db2 : d ≤ L) (hp : p2.toInt = F + d - 1) : ∃ r, J_M_dayFits_94 p0 p2 V = some (r, V) ∧ (¬ r = 0 ↔ dkS V a L ((F + 4) % 7 + 1).toNat d) := by
  have lb := dt_nb (y := y) (m := m)
  have q16 : j_in p0 16 = true := j_inb.mpr ⟨by omega, by omega⟩
  have hW := wd_n hp f1
  obtain ⟨b1, b2, b3, b4, b5, b6, -⟩ := hc
  obtain ⟨c1, c0, c5, c6⟩ := fM_151 (W := wdn ((F + 4) % 7 + 1).toNat d) ip i2 y1 m1 d1 yb yb2 mb mb2 hL db db2 (by omega) (by omega) hW
  have wr : 1 ≤ wdn ((F + 4) % 7 + 1).toNat d ∧ wdn ((F + 4) % 7 + 1).toNat d ≤ 7 := by unfold wdn; omega
  have ed := mI1 d1 db
  have sp : ∀ {v w : Int32}, V.1 (395 + k) 0 = v → V.1 (378 + k) 0 = w → (w = 2 ∧ 0 ≤ v.toInt ∧ v.toInt ≤ 30 ∨ w = 3 ∨ w = 4 ∧ 1 ≤ v.toInt ∧ v.toInt ≤ 31) → _ := fun {v w} hv hw wb => fM_sp (p0 := p0) ip i2 y1 m1 yb yb2 mb mb2 hL hF f1 (by omega) (v := v) (w := w) hv hw wb
  have sp2 : ∀ {r : Int32}, F_M_special2 p0 V = some r → ¬ (V.1 (378 + k) 0).toInt ≤ 1 → V.1 (378 + k) 1 = 1 → ∀ {p : Prop}, (r.toInt = d ↔ p) → ∃ r, J_M_dayFits_94 p0 p2 V = some (r, V) ∧ (¬ r = 0 ↔ p) := by
    intro r hr w0 w1 p hpp
    unfold J_M_dayFits_94 J_M_dayFits_125
    simp only [j_qt q16, j_qt ij02, cl0, clN ip]
    rw [if_neg (fun z => w0 (by rw [z]; decide)), if_neg (fun z => w0 (Int32.le_iff_toInt_le.mp z)), hr]
    simp only [ob_]
    by_cases q : r.toInt = d
    · rw [if_pos (eqI.mpr (by rw [d1]; exact q)), c1 w1]
      exact ⟨_, rfl, i1z rfl (hpp.mp q)⟩
    · rw [if_neg (fun z => q (by
        have := eqI.mp z
        rw [d1] at this
        exact this))]
      exact ⟨_, rfl, i0z rfl (fun z => q (hpp.mpr z))⟩
  have pl : V.1 (378 + k) 0 = 1 → J_M_dayFits_94 p0 p2 V = J_M_dayFits_151 p0 p2 V := by
    intro w0
    unfold J_M_dayFits_94 J_M_dayFits_125
    simp only [j_qt q16, j_qt ij02, cl0, clN ip]
    rw [if_neg (fun z => by rw [w0] at z; exact absurd z (by decide)), if_pos (by rw [w0]; decide)]
  unfold dkS
  rcases hR with ⟨e, w0, w1, g⟩ | ⟨e, w0, w1, g, g2⟩ | ⟨e, w0, w1, g⟩ | ⟨e, w0, w1⟩ | ⟨e, w0, w1, g⟩ | ⟨e, w0, w1, g⟩ | ⟨e, w0, w1, g, g2⟩
  · rw [e, dk0]
    unfold J_M_dayFits_94 J_M_dayFits_125
    simp only [j_qt q16, j_qt ij02, j_qt ij37, cl0, cl3, clN ip]
    rw [if_pos w0, j_qi (by omega) (by omega), clN ed]
    have g' := g d db (by omega)
    by_cases q : V.1 (240 + k * 8 + 1 + 3) (d - 1) = 0
    · rw [if_pos q]
      exact ⟨_, rfl, i0z rfl (fun z => (g'.mp z) q)⟩
    · rw [if_neg q, if_pos (by rw [w0]; decide), c1 w1]
      exact ⟨_, rfl, i1z rfl (g'.mpr q)⟩
  · rw [e, dk1, pl w0, c0 w1 g2]
    exact ⟨_, rfl, (g _ wr.1 wr.2).symm⟩
  · rw [e, dk2]
    have b := b3 e
    rw [g] at b
    obtain ⟨r, r1, r2⟩ := sp (v := V.1 (395 + k) 0) (w := 2) rfl w0 (Or.inl ⟨rfl, b.1, b.2⟩)
    refine sp2 r1 (by rw [w0]; decide) w1 ?_
    rw [g]
    rcases r2 with ⟨-, r2⟩ | ⟨q, -⟩ | ⟨q, -⟩
    · rw [r2]
      split <;> omega
    · exact absurd q (by decide)
    · exact absurd q (by decide)
  · rw [e, dk3]
    obtain ⟨r, r1, r2⟩ := sp (v := V.1 (395 + k) 0) (w := 3) rfl w0 (Or.inr (Or.inl rfl))
    refine sp2 r1 (by rw [w0]; decide) w1 ?_
    rcases r2 with ⟨q, -⟩ | ⟨-, r2⟩ | ⟨q, -⟩
    · exact absurd q (by decide)
    · rw [r2]
      omega
    · exact absurd q (by decide)
  · rw [e, dk4]
    have b := b4 e
    rw [g] at b
    obtain ⟨r, r1, r2⟩ := sp (v := V.1 (395 + k) 0) (w := 4) rfl w0 (Or.inr (Or.inr ⟨rfl, b.1, b.2⟩))
    refine sp2 r1 (by rw [w0]; decide) w1 ?_
    rw [g]
    rcases r2 with ⟨q, -⟩ | ⟨q, -⟩ | ⟨-, r2⟩
    · exact absurd q (by decide)
    · exact absurd q (by decide)
    · rw [r2]
      split <;> omega
  · rw [e, dk5, pl w0, g]
    exact c5 w1
  · rw [e, dk6, pl w0, g, g2]
    exact c6 w1
theorem dS_1 {b : Nat} {y m d : Int32} (hb : b ≠ 215) : (dt_S S y m d).1 b = S.1 b := by
  funext j
  unfold dt_S
  simp only [w_ir]
  rw [if_neg (fun q => hb q.1), if_neg (fun q => hb q.1), if_neg (fun q => hb q.1)]
theorem dS_2 {y m d : Int32} : (dt_S S y m d).2 = S.2 := rfl
theorem dS_y {y m d : Int32} : (dt_S S y m d).1 215 4 = y := by
  unfold dt_S
  simp only [w_ir]
  rw [if_neg (by omega), if_neg (by omega), if_pos ⟨by trivial, by trivial⟩]
theorem dS_m {y m d : Int32} : (dt_S S y m d).1 215 5 = m := by
  unfold dt_S
  simp only [w_ir]
  rw [if_neg (by omega), if_pos ⟨by trivial, by trivial⟩]
theorem dS_d {y m d : Int32} : (dt_S S y m d).1 215 6 = d := by
  unfold dt_S
  simp only [w_ir]
  rw [if_pos ⟨by trivial, by trivial⟩]
theorem dS_o {y m d : Int32} {j : Nat} (h4 : j ≠ 4) (h5 : j ≠ 5) (h6 : j ≠ 6) : (dt_S S y m d).1 215 j = S.1 215 j := by
  unfold dt_S
  simp only [w_ir]
  rw [if_neg (fun q => h6 q.2), if_neg (fun q => h5 q.2), if_neg (fun q => h4 q.2)]
theorem dS_ckD {y m d : Int32} (ha : a < 215) : ckD (dt_S S y m d) a = ckD S a := by
  unfold ckD
  simp only [dS_1 (show a ≠ 215 by omega), dS_2]
theorem dS_cD {y m d : Int32} (ha : a < 215) : cD (dt_S S y m d) a k = cD S a k := by
  unfold cD
  simp only [dS_1 (show a ≠ 215 by omega), dS_1 (show 378 + k ≠ 215 by omega), dS_1 (show 395 + k ≠ 215 by omega), dS_1 (show 412 + k ≠ 215 by omega), dS_1 (show 240 + k * 8 + 1 + 3 ≠ 215 by omega), dS_1 (show 240 + k * 8 + 1 + 5 ≠ 215 by omega), dS_2]
theorem dS_dkS {y m d : Int32} (ha : a < 215) (l f x : Nat) : dkS (dt_S S y m d) a l f x = dkS S a l f x := by
  unfold dkS
  simp only [dS_1 (show a ≠ 215 by omega), dS_2]
theorem fN_iff {D : Int} : fN S a h D ↔ (1970 ≤ dt_y D ∧ dt_y D ≤ 2299 ∧ hyS S a (dt_y D) ∧ hmS S a (dt_o (dt_y D) D) ∧ dkS S a (dt_n (dt_y D) (dt_o (dt_y D) D)).toNat ((dt_m (dt_y D) (dt_o (dt_y D) D) + 4) % 7 + 1).toNat (D - dt_m (dt_y D) (dt_o (dt_y D) D) + 1).toNat ∧ ¬ hld S h D) := by
  have a1 := dt_ya D
  have a2 := dt_yb D
  have ob := dt_ob a1 a2
  generalize dt_y D = y at *
  generalize dt_o y D = m at *
  obtain ⟨o1, o2, o3, o4⟩ := ob
  have s := dt_s (y := y) o1 o2
  constructor
  · intro q
    obtain ⟨q1, q2, q3, q4, d, ⟨d1, d2, d3, d4⟩, q6⟩ := fN_in q o1 o2 o3 o4
    refine ⟨q1, q2, q3, q4, ?_, ?_⟩
    · rw [show (D - dt_m y m + 1).toNat = d by omega]
      exact d3
    · rw [q6]
      exact d4
  · rintro ⟨q1, q2, q3, q4, q5, q6⟩
    refine ⟨y, m, (D - dt_m y m + 1).toNat, q1, q2, o1, o2, q3, q4, ⟨by omega, by omega, q5, ?_⟩, by omega⟩
    rw [show dt_m y m + ((D - dt_m y m + 1).toNat : Int) - 1 = D by omega]
    exact q6
end JK_9
