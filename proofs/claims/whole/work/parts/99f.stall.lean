section JS_3
variable {S T : jS}
theorem ok_stall {R : jS → Prop} (h0 : ∀ S v, R S → R (w_i S 215 0 v)) (hw : ∀ S, R S → S.2.1 215 41 = S.2.1 24 8 ∧ 0 ≤ (S.2.1 24 8).toInt ∧ (S.2.1 24 8).toInt ≤ 10413791999999) (hk : ∀ S (p : Int64), R S → 0 ≤ p.toInt → (S.2.1 24 8).toInt + p.toInt ≤ 10413791999999 → R (w_l (w_i (w_l S 24 8 (S.2.1 24 8 + p)) 215 0 0) 215 41 (S.2.1 24 8 + p))) : Ok_stall R := by
  intro p0 S h
  obtain ⟨w1, w2, w3⟩ := hw S h
  have cw := fcw (p := p0) w2 w3
  by_cases q : 0 ≤ p0.toInt ∧ p0.toInt ≤ 8796093022208 ∧ (S.2.1 24 8).toInt + p0.toInt ≤ 10413791999999
  · rw [if_pos q] at cw
    refine ⟨(none, w_l S 24 8 (S.2.1 24 8 + p0)), w_l (w_i (w_l S 24 8 (S.2.1 24 8 + p0)) 215 0 0) 215 41 (S.2.1 24 8 + p0), ?_, ?_, hk S p0 h q.1 q.2.2, ?_⟩
    · unfold F_J_stall
      rw [cw, jxv_0, jl_]
    · show F_M_stall p0 (w_l S 24 8 (S.2.1 24 8 + p0)) = _
      have r : (w_i (w_l S 24 8 (S.2.1 24 8 + p0)) 215 0 0).2.1 215 41 = S.2.1 24 8 := by rw [w_i2, w_lr, if_neg (by omega), w1]
      have e : (S.2.1 24 8 + p0).toInt = (S.2.1 24 8).toInt + p0.toInt := by
        rw [Int64.toInt_add]
        exact bs64 (by omega) (by omega)
      unfold F_M_stall
      rw [jl_, r, if_neg (by rw [ltL (k := 0) (n := 0) rfl]; omega), if_neg (by rw [gtL (k := 8796093022208) (n := 8796093022208) rfl]; omega), if_pos (by rw [leL (k := 10413791999999) (n := 10413791999999) rfl, e]; omega), jl_]
    · show (w_l (w_i (w_l S 24 8 (S.2.1 24 8 + p0)) 215 0 0) 215 41 (S.2.1 24 8 + p0)).1 215 0 = 0
      rw [w_l1, w_ir, if_pos ⟨rfl, rfl⟩]
  · rw [if_neg q] at cw
    refine ⟨(some 11, S), w_i (w_i S 215 0 0) 215 0 1, ?_, ?_, h0 _ _ (h0 _ _ h), ?_⟩
    · unfold F_J_stall
      rw [cw, jxv_1]
    · show F_M_stall p0 S = _
      have r : (w_i S 215 0 0).2.1 215 41 = S.2.1 24 8 := by rw [w_i2, w1]
      have e : J_M_stall_32 (w_i S 215 0 0) = some (w_i (w_i S 215 0 0) 215 0 1) := rfl
      unfold F_M_stall
      rw [jl_, r, e]
      by_cases g1 : p0.toInt < 0
      · rw [if_pos (by rw [ltL (k := 0) (n := 0) rfl]; exact g1)]
      rw [if_neg (by rw [ltL (k := 0) (n := 0) rfl]; exact g1)]
      by_cases g2 : 8796093022208 < p0.toInt
      · rw [if_pos (by rw [gtL (k := 8796093022208) (n := 8796093022208) rfl]; exact g2)]
      rw [if_neg (by rw [gtL (k := 8796093022208) (n := 8796093022208) rfl]; exact g2)]
      have e2 : (S.2.1 24 8 + p0).toInt = (S.2.1 24 8).toInt + p0.toInt := by
        rw [Int64.toInt_add]
        exact bs64 (by omega) (by omega)
      rw [if_neg (by rw [leL (k := 10413791999999) (n := 10413791999999) rfl, e2]; omega)]
    · show (11, (w_i (w_i S 215 0 0) 215 0 1).1 215 0) ∈ _
      rw [w_ir, if_pos ⟨rfl, rfl⟩]
      exact List.mem_cons_self
end JS_3
