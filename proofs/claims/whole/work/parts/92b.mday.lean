section JK_8
variable {S V : jS} {a h k : Nat} {p0 p2 : Int32}
theorem i1z {n : Int32} {p : Prop} (h : n = 1) (hp : p) : (¬ n = 0 ↔ p) := ⟨fun _ => hp, fun _ q => by rw [h] at q; exact absurd q (by decide)⟩
theorem i0z {n : Int32} {p : Prop} (h : n = 0) (hp : ¬ p) : (¬ n = 0 ↔ p) := ⟨fun q => absurd h q, fun q => absurd q hp⟩
theorem mI1 {x : Int32} {n : Nat} (h : x.toInt = n) (h1 : 1 ≤ n) : (x - 1).toInt = ((n - 1 : Nat) : Int) := by
  rw [Int32.toInt_sub, h]
  have := hiI x
  simp only [Int32.reduceToInt]
  rw [bs32 (by omega) (by omega)]
  omega
/-- the rest of the rule where the day of the month has passed -/
theorem fM_151 {L d W : Nat} {y m : Int} (ip : p0.toInt = k) (i2 : k < 16) (y1 : (V.1 215 4).toInt = y) (m1 : (V.1 215 5).toInt = m) (d1 : (V.1 215 6).toInt = d) (yb : 1970 ≤ y) (yb2 : y ≤ 2299) (mb : 1 ≤ m) (mb2 : m ≤ 12) (hL : dt_n y m = L) (db : 1 ≤ d) (db2 : d ≤ L) (pb : 0 ≤ p2.toInt) (pb2 : p2.toInt ≤ 130000) (hW : (p2.toInt + 4) % 7 + 1 = (W : Int)) : (V.1 (378 + k) 1 = 1 → J_M_dayFits_151 p0 p2 V = some (1, V)) ∧ (V.1 (378 + k) 1 = 0 → (∀ j, j < 7 → V.1 (240 + k * 8 + 1 + 5) j = 0 ∨ V.1 (240 + k * 8 + 1 + 5) j = 1) → J_M_dayFits_151 p0 p2 V = some (V.1 (240 + k * 8 + 1 + 5) (W - 1), V)) ∧ (V.1 (378 + k) 1 = 5 → ∃ r, J_M_dayFits_151 p0 p2 V = some (r, V) ∧ (¬ r = 0 ↔ ((W : Int) = (V.1 (395 + k) 1).toInt ∧ L < d + 7))) ∧ (V.1 (378 + k) 1 = 6 → ∃ r, J_M_dayFits_151 p0 p2 V = some (r, V) ∧ (¬ r = 0 ↔ ((W : Int) = (V.1 (395 + k) 1).toInt ∧ (((d - 1) / 7 + 1 : Nat) : Int) = (V.1 (412 + k) 1).toInt))) := by
  have lb := dt_nb (y := y) (m := m)
  have q16 : j_in p0 16 = true := j_inb.mpr ⟨by omega, by omega⟩
  unfold J_M_dayFits_151
  rw [fM_wd (by omega) (by omega), hW]
  simp only [ob_, j_qt q16, j_qt ij12, j_qt ij57, cl1, cl5, clN ip]
  have Wb : 1 ≤ W ∧ W ≤ 7 := by omega
  have eW : (Int32.ofInt (W : Int)).toInt = W := tI (by omega) (by omega)
  generalize Int32.ofInt (W : Int) = ww at *
  have eW1 := mI1 eW (by omega)
  refine ⟨fun w => ?_, fun w hr => ?_, fun w => ?_, fun w => ?_⟩
  · rw [w, if_neg (by decide), if_pos rfl]
  · rw [w, if_pos rfl, j_qi (by omega) (by omega), clN eW1]
    have := hr (W - 1) (by omega)
    rw [j_qt]
    rcases this with q | q <;> rw [q] <;> decide
  · simp only [w]
    rw [if_neg (by decide), if_neg (by decide)]
    by_cases q : (W : Int) = (V.1 (395 + k) 1).toInt
    · rw [if_pos (eqI.mpr (by rw [eW]; exact q)), if_pos trivial, fM_len (by omega) (by omega) (by omega) (by omega), y1, m1, hL]
      simp only [ob_]
      have eL : (Int32.ofInt (L : Int)).toInt = L := tI (by omega) (by omega)
      have e7 : (V.1 215 6 + 7).toInt = d + 7 := by
        simp (disch := omega) only [Int32.toInt_add, bs32, d1, Int32.reduceToInt]
      by_cases g : d + 7 ≤ L
      · rw [if_pos (show V.1 215 6 + 7 ≤ Int32.ofInt (L : Int) from Int32.le_iff_toInt_le.mpr (by rw [e7, eL]; omega))]
        exact ⟨_, rfl, i0z rfl (by omega)⟩
      · rw [if_neg (show ¬ V.1 215 6 + 7 ≤ Int32.ofInt (L : Int) from fun z => g (by
          have := Int32.le_iff_toInt_le.mp z
          rw [e7, eL] at this
          omega))]
        exact ⟨_, rfl, i1z rfl ⟨q, by omega⟩⟩
    · rw [if_neg (fun z => q (by
        have := eqI.mp z
        rw [eW] at this
        exact this))]
      exact ⟨_, rfl, i0z rfl (fun z => q z.1)⟩
  · simp only [w]
    rw [if_neg (by decide), if_neg (by decide)]
    by_cases q : (W : Int) = (V.1 (395 + k) 1).toInt
    · rw [if_pos (eqI.mpr (by rw [eW]; exact q)), if_neg (by decide)]
      have e7 : ((V.1 215 6 - 1) / 7 + 1).toInt = (((d - 1) / 7 + 1 : Nat) : Int) := by
        have ed := mI1 d1 db
        simp (disch := omega) only [Int32.toInt_add, Int32.toInt_div, bs32, ed, Int32.reduceToInt, td_]
        omega
      by_cases g : (((d - 1) / 7 + 1 : Nat) : Int) = (V.1 (412 + k) 1).toInt
      · rw [if_pos (eqI.mpr (by rw [e7]; exact g))]
        exact ⟨_, rfl, i1z rfl ⟨q, g⟩⟩
      · rw [if_neg (fun z => g (by
          have := eqI.mp z
          rw [e7] at this
          exact this))]
        exact ⟨_, rfl, i0z rfl (fun z => g z.2)⟩
    · rw [if_neg (fun z => q (by
        have := eqI.mp z
        rw [eW] at this
        exact this))]
      exact ⟨_, rfl, i0z rfl (fun z => q z.1)⟩
theorem dk_n {dr vl nn : Int} {s3 s5 : Int64} {len fw d : Nat} {n : Int} (h : dr = n) : dk dr vl nn s3 s5 len fw d ↔ dk n vl nn s3 s5 len fw d := by rw [h]
theorem dk0 {vl nn : Int} {s3 s5 : Int64} {len fw d : Nat} : dk 0 vl nn s3 s5 len fw d ↔ bt s3 d = true := by unfold dk; simp
theorem dk1 {vl nn : Int} {s3 s5 : Int64} {len fw d : Nat} : dk 1 vl nn s3 s5 len fw d ↔ bt s5 (wdn fw d) = true := by unfold dk; simp
theorem dk2 {vl nn : Int} {s3 s5 : Int64} {len fw d : Nat} : dk 2 vl nn s3 s5 len fw d ↔ (d : Int) + nn = len := by unfold dk; simp
theorem dk3 {vl nn : Int} {s3 s5 : Int64} {len fw d : Nat} : dk 3 vl nn s3 s5 len fw d ↔ d = nw len len fw := by unfold dk; simp
theorem dk4 {vl nn : Int} {s3 s5 : Int64} {len fw d : Nat} : dk 4 vl nn s3 s5 len fw d ↔ (vl ≤ len ∧ d = nw vl.toNat len fw) := by unfold dk; simp
theorem dk5 {vl nn : Int} {s3 s5 : Int64} {len fw d : Nat} : dk 5 vl nn s3 s5 len fw d ↔ ((wdn fw d : Int) = vl ∧ len < d + 7) := by unfold dk; simp
theorem dk6 {vl nn : Int} {s3 s5 : Int64} {len fw d : Nat} : dk 6 vl nn s3 s5 len fw d ↔ ((wdn fw d : Int) = vl ∧ ((d - 1) / 7 + 1 : Nat) = nn) := by unfold dk; simp
end JK_8
