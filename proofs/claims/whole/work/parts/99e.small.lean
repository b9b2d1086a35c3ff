section JS_2
variable {S T : jS}
theorem ok_workers {R : jS → Prop} (h0 : ∀ S v, R S → R (w_i S 215 0 v)) (hw : ∀ S, R S → S.1 215 42 = S.1 24 15) (hk : ∀ S (p : Int32), R S → 0 ≤ p.toInt → p.toInt ≤ 8 → R (w_i (w_i (w_i S 24 15 p) 215 0 0) 215 42 p)) : Ok_workers R := by
  intro p0 S h
  by_cases q : 0 ≤ p0.toInt ∧ p0.toInt ≤ 8
  · refine ⟨(.inl (S.1 24 15), w_i S 24 15 p0), S.1 24 15, w_i (w_i (w_i S 24 15 p0) 215 0 0) 215 42 p0, ?_, ?_, hk S p0 h q.1 q.2, ?_, rfl⟩
    · unfold F_J_workers
      rw [fck0 (by simp only [Int32.toInt_toInt64, Int64.reduceToInt]; omega) (by simp only [Int32.toInt_toInt64, Int64.reduceToInt]; omega), jxv_0, jl_, jl_]
    · show F_M_workers p0 (w_i S 24 15 p0) = _
      have r : (w_i (w_i S 24 15 p0) 215 0 0).1 215 42 = S.1 24 15 := by rw [w_ir, if_neg (by omega), w_ir, if_neg (by omega), hw S h]
      unfold F_M_workers
      rw [jl_, if_neg (by rw [ltI (k := 0) (n := 0) rfl]; omega), if_pos (by rw [leI (k := 8) (n := 8) rfl]; omega), jl_, jl_, r]
    · rw [w_ir, if_neg (by omega), w_ir, if_pos ⟨rfl, rfl⟩]
  · refine ⟨(.inr 11, S), 0, w_i (w_i S 215 0 0) 215 0 1, ?_, ?_, h0 _ _ (h0 _ _ h), ?_⟩
    · unfold F_J_workers
      rw [fck1 (by simp only [Int32.toInt_toInt64, Int64.reduceToInt]; omega), jxv_1]
    · show F_M_workers p0 S = _
      unfold F_M_workers
      have e : J_M_workers_15 (w_i S 215 0 0) = some (0, w_i (w_i S 215 0 0) 215 0 1) := rfl
      rw [jl_, e]
      by_cases w : p0.toInt < 0
      · rw [if_pos (by rw [ltI (k := 0) (n := 0) rfl]; exact w)]
      · rw [if_neg (by rw [ltI (k := 0) (n := 0) rfl]; exact w), if_neg (by rw [leI (k := 8) (n := 8) rfl]; omega)]
    · show (11, (w_i (w_i S 215 0 0) 215 0 1).1 215 0) ∈ _
      rw [w_ir, if_pos ⟨rfl, rfl⟩]
      exact List.mem_cons_self
/-- how far the clock may go -/
theorem fcw {p : Int64} (c1 : 0 ≤ (S.2.1 24 8).toInt) (c2 : (S.2.1 24 8).toInt ≤ 10413791999999) : F_J_checkWay p S = some (if 0 ≤ p.toInt ∧ p.toInt ≤ 8796093022208 ∧ (S.2.1 24 8).toInt + p.toInt ≤ 10413791999999 then none else some 11, S) := by
  unfold F_J_checkWay
  have e : (10413791999999 - S.2.1 24 8).toInt = 10413791999999 - (S.2.1 24 8).toInt := by
    rw [Int64.toInt_sub]
    simp only [Int64.reduceToInt]
    exact bs64 (by omega) (by omega)
  rw [fmin2, e]
  simp only [ob_, Int64.reduceToInt]
  obtain ⟨m, hm, m1⟩ : ∃ m : Int, (if 10413791999999 - (S.2.1 24 8).toInt < 8796093022208 then 10413791999999 - (S.2.1 24 8).toInt else 8796093022208) = m ∧ ((m = 8796093022208 ∧ m ≤ 10413791999999 - (S.2.1 24 8).toInt) ∨ (m = 10413791999999 - (S.2.1 24 8).toInt ∧ m ≤ 8796093022208)) := by
    refine ⟨_, rfl, ?_⟩
    split <;> omega
  rw [hm]
  have e2 : (Int64.ofInt m).toInt = m := tL (by omega) (by omega)
  by_cases q : 0 ≤ p.toInt ∧ p.toInt ≤ 8796093022208 ∧ (S.2.1 24 8).toInt + p.toInt ≤ 10413791999999
  · rw [fck0 (by simp only [Int64.reduceToInt]; omega) (by rw [e2]; omega), jxv_0, if_pos q]
  · rw [fck1 (by rw [e2]; simp only [Int64.reduceToInt]; omega), jxv_1, if_neg q]
end JS_2
