section JA2
theorem xs_I {x y : Int32} (h : 0 ≤ y.toInt) : (0 : Int32) ≤ x ^^^ y ↔ 0 ≤ x.toInt := by
  rw [Int32.le_iff_toInt_le]
  have e := BitVec.msb_xor (x := x.toBitVec) (y := y.toBitVec)
  rw [BitVec.msb_eq_toInt, BitVec.msb_eq_toInt, BitVec.msb_eq_toInt] at e
  have e1 : (x ^^^ y).toInt = (x.toBitVec ^^^ y.toBitVec).toInt := rfl
  have e2 : x.toInt = x.toBitVec.toInt := rfl
  have e3 : y.toInt = y.toBitVec.toInt := rfl
  rw [e1, e2]
  rw [e3] at h
  have h4 : decide (y.toBitVec.toInt < 0) = false := decide_eq_false (by omega)
  rw [h4, Bool.xor_false] at e
  have e5 := decide_eq_decide.mp e
  show (0 : Int) ≤ _ ↔ _
  omega
theorem td_q {a b : Int} (hb : 0 < b) : (a.tdiv b = a / b ∧ (0 ≤ a ∨ b ∣ a)) ∨ (a.tdiv b = a / b + 1 ∧ a < 0 ∧ ¬ b ∣ a) := by
  by_cases h : 0 ≤ a ∨ b ∣ a
  · left
    refine ⟨?_, h⟩
    rw [Int.tdiv_eq_ediv, if_pos h, Int.add_zero]
  · right
    refine ⟨?_, by omega, fun q => h (Or.inr q)⟩
    rw [Int.tdiv_eq_ediv, if_neg h, Int.sign_eq_one_of_pos hb]
theorem fFD {x y : Int32} {S : jS} (hy : 0 < y.toInt) (h1 : -1000000000 ≤ x.toInt) (h2 : x.toInt ≤ 1000000000) (h3 : y.toInt ≤ 1000000) : F_Math_floorDiv x y S = some (Int32.ofInt (x.toInt / y.toInt)) := by
  unfold F_Math_floorDiv
  have hne : (!decide (y = 0)) = true := by
    rw [Bool.not_eq_true', decide_eq_false_iff_not, eqI]
    show ¬ y.toInt = 0
    omega
  rw [j_qt hne]
  simp only [j_l]
  have em := Int.mul_ediv_add_emod x.toInt y.toInt
  have er := Int.emod_nonneg x.toInt (b := y.toInt) (by omega)
  have el := Int.emod_lt_of_pos x.toInt hy
  have qb : -1000000000 ≤ x.toInt / y.toInt ∧ x.toInt / y.toInt ≤ 1000000000 := by
    constructor
    · exact Int.le_ediv_of_mul_le hy (Int.le_trans (Int.mul_le_mul_of_nonpos_left (by omega : (-1000000000 : Int) ≤ 0) (show (1 : Int) ≤ y.toInt by omega)) (by omega))
    · by_cases c : 0 ≤ x.toInt
      · exact Int.le_trans (Int.ediv_le_self _ c) h2
      · have : x.toInt / y.toInt < 0 := Int.ediv_neg_of_neg_of_pos (by omega) hy
        omega
  have hq := td_q (a := x.toInt) hy
  have ed : (x / y).toInt = x.toInt.tdiv y.toInt := by
    rw [Int32.toInt_div]
    exact bs32 (by omega) (by omega)
  have hx := xs_I (x := x) (y := y) (by omega)
  have em2 : (x / y * y).toInt = x.toInt.tdiv y.toInt * y.toInt := by
    rw [Int32.toInt_mul, ed]
    rcases hq with ⟨hq, -⟩ | ⟨hq, -, -⟩
    · rw [hq, Int.mul_comm]
      exact bs32 (by omega) (by omega)
    · rw [hq, Int.add_mul, Int.mul_comm, Int.one_mul]
      exact bs32 (by omega) (by omega)
  by_cases c : 0 ≤ x.toInt
  · rw [if_pos (hx.mpr c)]
    exact congrArg some (ofI (by rw [ed, td_ c]))
  · rw [if_neg (fun q => c (hx.mp q))]
    rcases hq with ⟨hq, hd⟩ | ⟨hq, -, hd⟩
    · have hd := hd.resolve_left c
      rw [if_pos (by rw [eqI, em2, hq, Int.ediv_mul_cancel hd])]
      exact congrArg some (ofI (by rw [ed, hq]))
    · rw [if_neg (by
        rw [eqI, em2, hq]
        intro q
        exact hd ⟨x.toInt / y.toInt + 1, by rw [Int.mul_comm]; exact q.symm⟩)]
      refine congrArg some (ofI ?_)
      rw [Int32.toInt_sub, ed, hq]
      show (x.toInt / y.toInt + 1 - 1).bmod _ = _
      rw [Int.add_sub_cancel]
      exact bs32 (by omega) (by omega)
theorem fFM {x y : Int32} {S : jS} (hy : 0 < y.toInt) (h1 : -1000000000 ≤ x.toInt) (h2 : x.toInt ≤ 1000000000) (h3 : y.toInt ≤ 1000000) : F_Math_floorMod x y S = some (Int32.ofInt (x.toInt % y.toInt)) := by
  unfold F_Math_floorMod
  have hne : (!decide (y = 0)) = true := by
    rw [Bool.not_eq_true', decide_eq_false_iff_not, eqI]
    show ¬ y.toInt = 0
    omega
  rw [j_qt hne]
  simp only [j_l]
  have em := Int.mul_ediv_add_emod x.toInt y.toInt
  have er := Int.emod_nonneg x.toInt (b := y.toInt) (by omega)
  have el := Int.emod_lt_of_pos x.toInt hy
  have qb : -1000000000 ≤ x.toInt / y.toInt ∧ x.toInt / y.toInt ≤ 1000000000 := by
    constructor
    · exact Int.le_ediv_of_mul_le hy (Int.le_trans (Int.mul_le_mul_of_nonpos_left (by omega : (-1000000000 : Int) ≤ 0) (show (1 : Int) ≤ y.toInt by omega)) (by omega))
    · by_cases c : 0 ≤ x.toInt
      · exact Int.le_trans (Int.ediv_le_self _ c) h2
      · have : x.toInt / y.toInt < 0 := Int.ediv_neg_of_neg_of_pos (by omega) hy
        omega
  have hq := td_q (a := x.toInt) hy
  have ed : (x / y).toInt = x.toInt.tdiv y.toInt := by
    rw [Int32.toInt_div]
    exact bs32 (by omega) (by omega)
  have hx := xs_I (x := x) (y := y) (by omega)
  have em2 : (x - x / y * y).toInt = x.toInt - x.toInt.tdiv y.toInt * y.toInt := by
    have e0 : (x / y * y).toInt = x.toInt.tdiv y.toInt * y.toInt := by
      rw [Int32.toInt_mul, ed]
      rcases hq with ⟨hq, -⟩ | ⟨hq, -, -⟩
      · rw [hq, Int.mul_comm]
        exact bs32 (by omega) (by omega)
      · rw [hq, Int.add_mul, Int.mul_comm, Int.one_mul]
        exact bs32 (by omega) (by omega)
    rw [Int32.toInt_sub, e0]
    rcases hq with ⟨hq, -⟩ | ⟨hq, -, -⟩
    · rw [hq, Int.mul_comm]
      exact bs32 (by omega) (by omega)
    · rw [hq, Int.add_mul, Int.mul_comm, Int.one_mul]
      exact bs32 (by omega) (by omega)
  have ec : y.toInt * (x.toInt / y.toInt) = x.toInt / y.toInt * y.toInt := Int.mul_comm _ _
  by_cases c : 0 ≤ x.toInt
  · rw [if_pos (hx.mpr c)]
    refine congrArg some (ofI ?_)
    rw [em2, td_ c]
    omega
  · rw [if_neg (fun q => c (hx.mp q))]
    rcases hq with ⟨hq, hd⟩ | ⟨hq, -, hd⟩
    · have hd := hd.resolve_left c
      have hz := Int.emod_eq_zero_of_dvd hd
      rw [if_pos (by
        rw [eqI, em2, hq]
        show _ = (0 : Int)
        omega)]
      refine congrArg some (ofI ?_)
      rw [em2, hq]
      omega
    · have hnz : ¬ x.toInt % y.toInt = 0 := fun q => hd (Int.dvd_of_emod_eq_zero q)
      have e6 : (x - x / y * y).toInt = x.toInt % y.toInt - y.toInt := by
        rw [em2, hq, Int.add_mul, Int.one_mul]
        omega
      rw [if_neg (by
        rw [eqI, e6]
        show ¬ _ = (0 : Int)
        omega)]
      refine congrArg some (ofI ?_)
      rw [Int32.toInt_add, e6, Int.sub_add_cancel]
      exact bs32 (by omega) (by omega)
theorem xs_L {x y : Int64} (h : 0 ≤ y.toInt) : (0 : Int64) ≤ x ^^^ y ↔ 0 ≤ x.toInt := by
  rw [Int64.le_iff_toInt_le]
  have e := BitVec.msb_xor (x := x.toBitVec) (y := y.toBitVec)
  rw [BitVec.msb_eq_toInt, BitVec.msb_eq_toInt, BitVec.msb_eq_toInt] at e
  have e1 : (x ^^^ y).toInt = (x.toBitVec ^^^ y.toBitVec).toInt := rfl
  have e2 : x.toInt = x.toBitVec.toInt := rfl
  have e3 : y.toInt = y.toBitVec.toInt := rfl
  rw [e1, e2]
  rw [e3] at h
  have h4 : decide (y.toBitVec.toInt < 0) = false := decide_eq_false (by omega)
  rw [h4, Bool.xor_false] at e
  have e5 := decide_eq_decide.mp e
  show (0 : Int) ≤ _ ↔ _
  omega
theorem fFD2 {x y : Int64} {S : jS} (hy : 0 < y.toInt) (h1 : -1000000000000000 ≤ x.toInt) (h2 : x.toInt ≤ 1000000000000000) (h3 : y.toInt ≤ 1000000) : F_Math_floorDiv2 x y S = some (Int64.ofInt (x.toInt / y.toInt)) := by
  unfold F_Math_floorDiv2
  have hne : (!decide (y = 0)) = true := by
    rw [Bool.not_eq_true', decide_eq_false_iff_not, eqL]
    show ¬ y.toInt = 0
    omega
  rw [j_qt hne]
  simp only [j_l]
  have em := Int.mul_ediv_add_emod x.toInt y.toInt
  have er := Int.emod_nonneg x.toInt (b := y.toInt) (by omega)
  have el := Int.emod_lt_of_pos x.toInt hy
  have qb : -1000000000000000 ≤ x.toInt / y.toInt ∧ x.toInt / y.toInt ≤ 1000000000000000 := by
    constructor
    · exact Int.le_ediv_of_mul_le hy (Int.le_trans (Int.mul_le_mul_of_nonpos_left (by omega : (-1000000000000000 : Int) ≤ 0) (show (1 : Int) ≤ y.toInt by omega)) (by omega))
    · by_cases c : 0 ≤ x.toInt
      · exact Int.le_trans (Int.ediv_le_self _ c) h2
      · have : x.toInt / y.toInt < 0 := Int.ediv_neg_of_neg_of_pos (by omega) hy
        omega
  have hq := td_q (a := x.toInt) hy
  have ed : (x / y).toInt = x.toInt.tdiv y.toInt := by
    rw [Int64.toInt_div]
    exact bs64 (by omega) (by omega)
  have hx := xs_L (x := x) (y := y) (by omega)
  have em2 : (x / y * y).toInt = x.toInt.tdiv y.toInt * y.toInt := by
    rw [Int64.toInt_mul, ed]
    rcases hq with ⟨hq, -⟩ | ⟨hq, -, -⟩
    · rw [hq, Int.mul_comm]
      exact bs64 (by omega) (by omega)
    · rw [hq, Int.add_mul, Int.mul_comm, Int.one_mul]
      exact bs64 (by omega) (by omega)
  by_cases c : 0 ≤ x.toInt
  · rw [if_pos (hx.mpr c)]
    exact congrArg some (ofL (by rw [ed, td_ c]))
  · rw [if_neg (fun q => c (hx.mp q))]
    rcases hq with ⟨hq, hd⟩ | ⟨hq, -, hd⟩
    · have hd := hd.resolve_left c
      rw [if_pos (by rw [eqL, em2, hq, Int.ediv_mul_cancel hd])]
      exact congrArg some (ofL (by rw [ed, hq]))
    · rw [if_neg (by
        rw [eqL, em2, hq]
        intro q
        exact hd ⟨x.toInt / y.toInt + 1, by rw [Int.mul_comm]; exact q.symm⟩)]
      refine congrArg some (ofL ?_)
      rw [Int64.toInt_sub, ed, hq]
      show (x.toInt / y.toInt + 1 - 1).bmod _ = _
      rw [Int.add_sub_cancel]
      exact bs64 (by omega) (by omega)
theorem fFM2 {x y : Int64} {S : jS} (hy : 0 < y.toInt) (h1 : -1000000000000000 ≤ x.toInt) (h2 : x.toInt ≤ 1000000000000000) (h3 : y.toInt ≤ 1000000) : F_Math_floorMod2 x y S = some (Int64.ofInt (x.toInt % y.toInt)) := by
  unfold F_Math_floorMod2
  have hne : (!decide (y = 0)) = true := by
    rw [Bool.not_eq_true', decide_eq_false_iff_not, eqL]
    show ¬ y.toInt = 0
    omega
  rw [j_qt hne]
  simp only [j_l]
  have em := Int.mul_ediv_add_emod x.toInt y.toInt
  have er := Int.emod_nonneg x.toInt (b := y.toInt) (by omega)
  have el := Int.emod_lt_of_pos x.toInt hy
  have qb : -1000000000000000 ≤ x.toInt / y.toInt ∧ x.toInt / y.toInt ≤ 1000000000000000 := by
    constructor
    · exact Int.le_ediv_of_mul_le hy (Int.le_trans (Int.mul_le_mul_of_nonpos_left (by omega : (-1000000000000000 : Int) ≤ 0) (show (1 : Int) ≤ y.toInt by omega)) (by omega))
    · by_cases c : 0 ≤ x.toInt
      · exact Int.le_trans (Int.ediv_le_self _ c) h2
      · have : x.toInt / y.toInt < 0 := Int.ediv_neg_of_neg_of_pos (by omega) hy
        omega
  have hq := td_q (a := x.toInt) hy
  have ed : (x / y).toInt = x.toInt.tdiv y.toInt := by
    rw [Int64.toInt_div]
    exact bs64 (by omega) (by omega)
  have hx := xs_L (x := x) (y := y) (by omega)
  have em2 : (x - x / y * y).toInt = x.toInt - x.toInt.tdiv y.toInt * y.toInt := by
    have e0 : (x / y * y).toInt = x.toInt.tdiv y.toInt * y.toInt := by
      rw [Int64.toInt_mul, ed]
      rcases hq with ⟨hq, -⟩ | ⟨hq, -, -⟩
      · rw [hq, Int.mul_comm]
        exact bs64 (by omega) (by omega)
      · rw [hq, Int.add_mul, Int.mul_comm, Int.one_mul]
        exact bs64 (by omega) (by omega)
    rw [Int64.toInt_sub, e0]
    rcases hq with ⟨hq, -⟩ | ⟨hq, -, -⟩
    · rw [hq, Int.mul_comm]
      exact bs64 (by omega) (by omega)
    · rw [hq, Int.add_mul, Int.mul_comm, Int.one_mul]
      exact bs64 (by omega) (by omega)
  have ec : y.toInt * (x.toInt / y.toInt) = x.toInt / y.toInt * y.toInt := Int.mul_comm _ _
  by_cases c : 0 ≤ x.toInt
  · rw [if_pos (hx.mpr c)]
    refine congrArg some (ofL ?_)
    rw [em2, td_ c]
    omega
  · rw [if_neg (fun q => c (hx.mp q))]
    rcases hq with ⟨hq, hd⟩ | ⟨hq, -, hd⟩
    · have hd := hd.resolve_left c
      have hz := Int.emod_eq_zero_of_dvd hd
      rw [if_pos (by
        rw [eqL, em2, hq]
        show _ = (0 : Int)
        omega)]
      refine congrArg some (ofL ?_)
      rw [em2, hq]
      omega
    · have hnz : ¬ x.toInt % y.toInt = 0 := fun q => hd (Int.dvd_of_emod_eq_zero q)
      have e6 : (x - x / y * y).toInt = x.toInt % y.toInt - y.toInt := by
        rw [em2, hq, Int.add_mul, Int.one_mul]
        omega
      rw [if_neg (by
        rw [eqL, e6]
        show ¬ _ = (0 : Int)
        omega)]
      refine congrArg some (ofL ?_)
      rw [Int64.toInt_add, e6, Int.sub_add_cancel]
      exact bs64 (by omega) (by omega)
end JA2
