section JP_1
variable {S T : jS} {a h c k z : Nat} {p0 p1 p2 : Int32} {p3 : Int64}
theorem fcs0 (a1 : 0 ≤ p0.toInt) (a2 : p0.toInt ≤ 15) (b1 : 0 ≤ p1.toInt) (b2 : p1.toInt ≤ 7) (c1 : -1 ≤ p2.toInt) (c2 : p2.toInt ≤ 3) : F_J_checkSearch p0 p1 p2 S = some (none, S) := by
  unfold F_J_checkSearch
  rw [fck0 (by simp only [Int32.toInt_toInt64, Int64.reduceToInt]; omega) (by simp only [Int32.toInt_toInt64, Int64.reduceToInt]; omega), jxv_0, fck0 (by simp only [Int32.toInt_toInt64, Int64.reduceToInt]; omega) (by simp only [Int32.toInt_toInt64, Int64.reduceToInt]; omega), jxv_0, fck0 (by simp only [Int32.toInt_toInt64, Int64.reduceToInt]; omega) (by simp only [Int32.toInt_toInt64, Int64.reduceToInt]; omega), jxv_0]
theorem fcs1 (hn : ¬ (0 ≤ p0.toInt ∧ p0.toInt ≤ 15 ∧ 0 ≤ p1.toInt ∧ p1.toInt ≤ 7 ∧ -1 ≤ p2.toInt ∧ p2.toInt ≤ 3)) : F_J_checkSearch p0 p1 p2 S = some (some 11, S) := by
  unfold F_J_checkSearch
  by_cases q0 : 0 ≤ p0.toInt ∧ p0.toInt ≤ 15
  · rw [fck0 (by simp only [Int32.toInt_toInt64, Int64.reduceToInt]; omega) (by simp only [Int32.toInt_toInt64, Int64.reduceToInt]; omega), jxv_0]
    by_cases q1 : 0 ≤ p1.toInt ∧ p1.toInt ≤ 7
    · rw [fck0 (by simp only [Int32.toInt_toInt64, Int64.reduceToInt]; omega) (by simp only [Int32.toInt_toInt64, Int64.reduceToInt]; omega), jxv_0, fck1 (by simp only [Int32.toInt_toInt64, Int64.reduceToInt]; omega), jxv_1]
    · rw [fck1 (by simp only [Int32.toInt_toInt64, Int64.reduceToInt]; omega), jxv_1]
  · rw [fck1 (by simp only [Int32.toInt_toInt64, Int64.reduceToInt]; omega), jxv_1]
theorem ltI {x k : Int32} {n : Int} (hk : k.toInt = n) : (x < k) = (x.toInt < n) := propext (by rw [Int32.lt_iff_toInt_lt, hk])
theorem leI {x k : Int32} {n : Int} (hk : k.toInt = n) : (x ≤ k) = (x.toInt ≤ n) := propext (by rw [Int32.le_iff_toInt_le, hk])
theorem gtI {x k : Int32} {n : Int} (hk : k.toInt = n) : (k < x) = (n < x.toInt) := propext (by rw [Int32.lt_iff_toInt_lt, hk])
theorem geI {x k : Int32} {n : Int} (hk : k.toInt = n) : (k ≤ x) = (n ≤ x.toInt) := propext (by rw [Int32.le_iff_toInt_le, hk])
theorem ltL {x k : Int64} {n : Int} (hk : k.toInt = n) : (x < k) = (x.toInt < n) := propext (by rw [Int64.lt_iff_toInt_lt, hk])
theorem leL {x k : Int64} {n : Int} (hk : k.toInt = n) : (x ≤ k) = (x.toInt ≤ n) := propext (by rw [Int64.le_iff_toInt_le, hk])
theorem gtL {x k : Int64} {n : Int} (hk : k.toInt = n) : (k < x) = (n < x.toInt) := propext (by rw [Int64.lt_iff_toInt_lt, hk])
theorem geL {x k : Int64} {n : Int} (hk : k.toInt = n) : (k ≤ x) = (n ≤ x.toInt) := propext (by rw [Int64.le_iff_toInt_le, hk])
theorem fbf : F_M_badFire p0 p1 p2 p3 S = some (if 0 ≤ p0.toInt ∧ p0.toInt ≤ 15 ∧ 0 ≤ p1.toInt ∧ p1.toInt ≤ 7 ∧ -1 ≤ p2.toInt ∧ p2.toInt ≤ 3 ∧ 0 ≤ p3.toInt ∧ p3.toInt ≤ 10413791999999 then 0 else 1) := by
  unfold F_M_badFire
  simp only [ltI (k := 0) (n := 0) rfl, gtI (k := 15) (n := 15) rfl, gtI (k := 7) (n := 7) rfl, ltI (k := -1) (n := -1) rfl, gtI (k := 3) (n := 3) rfl, ltL (k := 0) (n := 0) rfl, leL (k := 10413791999999) (n := 10413791999999) rfl]
  split
  · rw [if_neg (by omega)]
  split
  · rw [if_neg (by omega)]
  split
  · rw [if_neg (by omega)]
  split
  · rw [if_neg (by omega)]
  split
  · rw [if_neg (by omega)]
  split
  · rw [if_neg (by omega)]
  split
  · rw [if_neg (by omega)]
  split
  · rw [if_pos (by omega)]
  · rw [if_neg (by omega)]
theorem hR_30 (h1 : S.1 30 1 = 0) (hp : p2.toInt = -1) : hR S 30 p2 := by
  intro D _ _
  constructor
  · rintro ⟨i, i1, -⟩
    rw [h1] at i1
    simp only [Int32.reduceToInt] at i1
    omega
  · rintro ⟨q, -⟩
    omega
theorem fJ_aim (i0 : p0.toInt = k) (i0' : k < 16) (i1 : p1.toInt = z) (i1' : z < 8) (c1 : -1 ≤ p2.toInt) (c2 : p2.toInt ≤ 3) (hz : rZ S) (hc : rC S) (hh : rH S) : ∃ A h, F_J_aimAt p0 p1 p2 S = some A ∧ sw S A ∧ A.1 = S.1 ∧ A.2.1 = S.2.1 ∧ ckF A (S.2.2 28 k) h (S.2.2 27 z) ∧ hR S h p2 ∧ jh_ h = true := by
  obtain ⟨C1, C2, C3, C4, C5⟩ := hc.2.1 k i0'
  obtain ⟨Z1, Z2, Z3, Z4, Z5, -⟩ := hz.2.1 z i1'
  have core : ∀ h, jh_ h = true → hsk S h → hR S h p2 → ∃ A h', J_J_aimAt_47 h (w_r (w_r S 32 0 (S.2.2 28 k)) 32 1 (S.2.2 27 z)) = some A ∧ sw S A ∧ A.1 = S.1 ∧ A.2.1 = S.2.1 ∧ ckF A (S.2.2 28 k) h' (S.2.2 27 z) ∧ hR S h' p2 ∧ jh_ h' = true := by
    intro h j1 j2 j3
    refine ⟨w_r (w_r (w_r S 32 0 (S.2.2 28 k)) 32 1 (S.2.2 27 z)) 32 2 h, h, rfl, sw_t (sw_t sw_32 sw_32) sw_32, rfl, rfl, ⟨⟨C3, ?_, C1, j2, ?_, j1, C4⟩, ?_, ?_, Z1, Z3, Z4⟩, j3, j1⟩
    · simp only [w_rr]
      rw [if_neg (by omega), if_neg (by omega), if_pos ⟨by trivial, by trivial⟩]
    · rw [w_rr, if_pos ⟨rfl, rfl⟩]
    · rcases C5 with ⟨-, q⟩ | ⟨-, q, -⟩
      · exact Or.inr q
      · exact Or.inl q
    · simp only [w_rr]
      rw [if_neg (by omega), if_pos ⟨by trivial, by trivial⟩]
  unfold F_J_aimAt
  rw [j_qi (by omega) (by omega), clN i0, j_qt C1, jl_, j_qi (by omega) (by omega), clN i1]
  have e27 : (w_r S 32 0 (S.2.2 28 k)).2.2 27 z = S.2.2 27 z := by rw [w_rr, if_neg (by omega)]
  rw [e27, j_qt Z1, jl_]
  by_cases q : 0 ≤ p2.toInt
  · rw [if_pos (show (0 : Int32) ≤ p2 from Int32.le_iff_toInt_le.mpr (by simp only [Int32.reduceToInt]; omega)), j_qi q (by omega)]
    obtain ⟨n, hn⟩ : ∃ n : Nat, p2.toInt = n := ⟨p2.toInt.toNat, by omega⟩
    rw [clN hn]
    have g := hh.2.2 n (by omega)
    have ep : Int32.ofNat n = p2 := by
      refine (eqI.mpr ?_)
      rw [hn]
      exact Int32.toInt_ofNat_of_lt (by omega)
    rw [ep] at g
    exact core _ (jh_k n (by omega)) g.1 g.2.1
  · rw [if_neg (show ¬ (0 : Int32) ≤ p2 from fun w => q (by
      have := Int32.le_iff_toInt_le.mp w
      simp only [Int32.reduceToInt] at this
      omega))]
    exact core 30 (by decide) hh.1 (hR_30 hh.2.1 (by omega))
theorem vd_r {x r : Int} (hv : vd S a) (hr : rF S a h c x r) : r = -1 := by
  rcases hr with ⟨v, -, -, -, ⟨r', -, q⟩, -⟩ | ⟨q, -⟩
  · exact absurd q.1 (vd_N hv _)
  · exact q
theorem vd_u {x r : Int} (hv : vd S a) (hr : uF S a h c x r) : r = -1 := by
  rcases hr with ⟨v, -, -, -, ⟨r', -, q⟩, -⟩ | ⟨q, -⟩
  · exact absurd q.1 (vd_N hv _)
  · exact q
theorem zca_e (hs : sw S T) (hc : jz_ c = true) (h4 : T.2.1 c 4 = S.2.1 c 4) (h5 : T.2.1 c 5 = S.2.1 c 5) (h6 : T.1 c 6 = S.1 c 6) : zca T c = zca S c := by
  unfold zca
  rw [h4, h5, h6, sw_zst hs hc]
/-- the caches after a search -/
theorem zca_a {A : jS} {s u : Int64} {o y m d v : Int32} (hz : rZ S) (hz8 : z < 8) (e1 : A.1 = S.1) (e2 : A.2.1 = S.2.1) (hs : sw S A) (hq : zca (zw A (S.2.2 27 z) s u o) (S.2.2 27 z)) : ∀ z', z' < 8 → zca (dt_S (w_i (zw A (S.2.2 27 z) s u o) 215 0 v) y m d) (S.2.2 27 z') := by
  intro z' h8
  obtain ⟨Z1, -, -, Z4, -⟩ := hz.2.1 z' h8
  obtain ⟨Y1, -⟩ := hz.2.1 z hz8
  have b := jz_b Z1
  have s2 : sw (zw A (S.2.2 27 z) s u o) (dt_S (w_i (zw A (S.2.2 27 z) s u o) 215 0 v) y m d) := sw_t sw_0 sw_d
  have c6 : (dt_S (w_i (zw A (S.2.2 27 z) s u o) 215 0 v) y m d).1 (S.2.2 27 z') 6 = (zw A (S.2.2 27 z) s u o).1 (S.2.2 27 z') 6 := by
    rw [dS_1 (by omega), w_ir, if_neg (fun w => by omega)]
  by_cases e : z' = z
  · subst e
    rw [zca_e s2 Z1 rfl rfl c6]
    exact hq
  · have n := hz.2.2 z' z h8 hz8 e
    rw [zca_e s2 Z1 rfl rfl c6, zca_e (sw_t hs (sw_z Y1)) Z1 (by rw [zw_2 n, e2]) (by rw [zw_2 n, e2]) (by rw [zw_1 n, e1])]
    exact Z4
end JP_1
