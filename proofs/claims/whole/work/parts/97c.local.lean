section JP_3
variable {S T : jS}
theorem o60 {o mi : Int32} (h : o.toInt = 60 * mi.toInt) (b1 : -60000 ≤ o.toInt) (b2 : o.toInt ≤ 60000) : o / 60 = mi := by
  refine eqI.mpr ?_
  rw [Int32.toInt_div, h]
  simp only [Int32.reduceToInt]
  rw [Int.mul_tdiv_cancel_left _ (by omega)]
  exact bs32 (by omega) (by omega)
theorem fM_lbad {p0 p2 : Int32} {p1 : Int64} (hn : ¬ (0 ≤ p0.toInt ∧ p0.toInt ≤ 7 ∧ 0 ≤ p1.toInt ∧ p1.toInt ≤ 10413791999999 ∧ 0 ≤ p2.toInt ∧ p2.toInt ≤ 7)) : F_M_local p0 p1 p2 S = some (0, w_i (w_i S 215 0 0) 215 0 1) := by
  unfold F_M_local
  rw [jl_]
  have e : J_M_local_41 (w_i S 215 0 0) = some (0, w_i (w_i S 215 0 0) 215 0 1) := rfl
  rw [e]
  by_cases g0 : p0.toInt < 0
  · rw [if_pos (by rw [ltI (k := 0) (n := 0) rfl]; exact g0)]
  rw [if_neg (by rw [ltI (k := 0) (n := 0) rfl]; exact g0)]
  by_cases g1 : 7 < p0.toInt
  · rw [if_pos (by rw [gtI (k := 7) (n := 7) rfl]; exact g1)]
  rw [if_neg (by rw [gtI (k := 7) (n := 7) rfl]; exact g1)]
  by_cases g2 : p1.toInt < 0
  · rw [if_pos (by rw [ltL (k := 0) (n := 0) rfl]; exact g2)]
  rw [if_neg (by rw [ltL (k := 0) (n := 0) rfl]; exact g2)]
  by_cases g3 : 10413791999999 < p1.toInt
  · rw [if_pos (by rw [gtL (k := 10413791999999) (n := 10413791999999) rfl]; exact g3)]
  rw [if_neg (by rw [gtL (k := 10413791999999) (n := 10413791999999) rfl]; exact g3)]
  by_cases g4 : p2.toInt < 0
  · rw [if_pos (by rw [ltI (k := 0) (n := 0) rfl]; exact g4)]
  rw [if_neg (by rw [ltI (k := 0) (n := 0) rfl]; exact g4)]
  rw [if_neg (by rw [leI (k := 7) (n := 7) rfl]; omega)]
theorem ok_local {R : jS → Prop} (hR : rS R) : Ok_local R := by
  intro p0 p1 p2 S h
  by_cases q : 0 ≤ p0.toInt ∧ p0.toInt ≤ 7 ∧ 0 ≤ p1.toInt ∧ p1.toInt ≤ 10413791999999 ∧ 0 ≤ p2.toInt ∧ p2.toInt ≤ 7
  · obtain ⟨q0, q1, q2, q3, q4, q5⟩ := q
    obtain ⟨hz, hc, hh⟩ := hR.1 _ h
    obtain ⟨z, iz⟩ : ∃ z : Nat, p0.toInt = z := ⟨p0.toInt.toNat, by omega⟩
    have z8 : z < 8 := by omega
    obtain ⟨Z1, Z2, Z3, Z4, Z5, -⟩ := hz.2.1 z z8
    obtain ⟨s, u, o, e1, e2, e3⟩ := fJ_loc (S := S) (p2 := p2) iz z8 rfl Z1 Z3 Z4 q2 q3 q4 q5
    have sW : sw S (w_i (zw S (S.2.2 27 z) s u o) 215 0 0) := sw_t (sw_z Z1) sw_0
    obtain ⟨mi, y, m, d, f1, f2⟩ := fM_loc (W := w_i (zw S (S.2.2 27 z) s u o) 215 0 0) (c := S.2.2 27 z) (p2 := p2) (T := zw S (S.2.2 27 z) s u o) iz z8 (by rw [sw_zok sW Z1]; exact Z3) (by rw [sw_zR sW Z1]; exact Z5) q2 q3 q4 q5 rfl
    rw [sw_zof sW Z1] at f2
    have eo := zof_u e3 f2
    have bo := zof_b Z3 e3
    obtain ⟨k1, k2, k3, k4, -⟩ := Z3
    rw [← eo] at f1
    rw [o60 eo (by omega) (by omega)] at e1
    refine ⟨_, _, _, e1, f1, ?_, d0_, rfl⟩
    refine rS_d hR h (sw_z Z1) (fun z' h8 => ?_)
    have zq : zca (zw S (S.2.2 27 z) s u o) (S.2.2 27 z) := by
      rw [zw_zca]
      exact Or.inr e2
    by_cases g : z' = z
    · rw [g]
      exact zq
    · obtain ⟨Y1, -, -, Y4, -⟩ := hz.2.1 z' h8
      have n := hz.2.2 z' z h8 z8 g
      rw [zca_e (sw_z Z1) Y1 (by rw [zw_2 n]) (by rw [zw_2 n]) (by rw [zw_1 n])]
      exact Y4
  · refine ⟨(.inr 11, S), 0, w_i (w_i S 215 0 0) 215 0 1, ?_, fM_lbad q, rS_0 hR h, ?_⟩
    · unfold F_J_local
      by_cases g0 : 0 ≤ p0.toInt ∧ p0.toInt ≤ 7
      · rw [fck0 (by simp only [Int32.toInt_toInt64, Int64.reduceToInt]; omega) (by simp only [Int32.toInt_toInt64, Int64.reduceToInt]; omega), jxv_0]
        by_cases g1 : 0 ≤ p1.toInt ∧ p1.toInt ≤ 10413791999999
        · rw [fck0 (by simp only [Int64.reduceToInt]; omega) (by simp only [Int64.reduceToInt]; omega), jxv_0, fck1 (by simp only [Int32.toInt_toInt64, Int64.reduceToInt]; omega), jxv_1]
        · rw [fck1 (by simp only [Int64.reduceToInt]; omega), jxv_1]
      · rw [fck1 (by simp only [Int32.toInt_toInt64, Int64.reduceToInt]; omega), jxv_1]
    · show (11, (w_i (w_i S 215 0 0) 215 0 1).1 215 0) ∈ _
      rw [w_ir, if_pos ⟨rfl, rfl⟩]
      exact List.mem_cons_self
end JP_3
