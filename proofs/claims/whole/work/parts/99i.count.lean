section JS_6
variable {S T : jS}
theorem stN_e {k : Int32} (h : T.1 436 = S.1 436) (n : Nat) : stN T k n = stN S k n := by
  induction n with
  | zero => rfl
  | succ n ih =>
    unfold stN
    rw [ih, h]
/-- the numbers that are counted -/
def rQ (S : jS) : Prop := S.2.1 215 41 = S.2.1 24 8 ∧ (S.1 24 11).toInt = stN S 0 100 ∧ (S.1 24 14).toInt = stN S 1 100 ∧ S.2.1 215 44 = S.2.1 47 4 ∧ S.1 215 2 = S.1 25 1 ∧ S.1 215 3 = S.1 25 3
theorem ok_count {R : jS → Prop} (h0 : ∀ S v, R S → R (w_i S 215 0 v)) (hw : ∀ S, R S → rQ S) : Ok_count R := by
  intro p0 S h
  obtain ⟨q1, q2, q3, q4, q5, q6⟩ := hw S h
  have e436 : (w_i S 215 0 0).1 436 = S.1 436 := funext fun j => by rw [w_ir, if_neg (by omega)]
  by_cases q : 0 ≤ p0.toInt ∧ p0.toInt ≤ 5
  · obtain ⟨a, a1, a2⟩ := fM_there (S := w_i S 215 0 0)
    obtain ⟨b, b1, b2⟩ := fM_running (S := w_i S 215 0 0)
    rw [stN_e e436, ← q2] at a2
    rw [stN_e e436, ← q3] at b2
    have ea : a = S.1 24 11 := eqI.mpr a2
    have eb : b = S.1 24 14 := eqI.mpr b2
    have r2 : (w_i S 215 0 0).1 215 2 = S.1 25 1 := by rw [w_ir, if_neg (by omega), q5]
    have r3 : (w_i S 215 0 0).1 215 3 = S.1 25 3 := by rw [w_ir, if_neg (by omega), q6]
    have J : F_J_count p0 S = some (.inl (if p0 = 0 then S.2.1 24 8 else if p0 = 1 then (S.1 24 11).toInt64 else if p0 = 2 then (S.1 24 14).toInt64 else if p0 = 3 then S.2.1 47 4 else if p0 = 4 then (S.1 25 1).toInt64 else (S.1 25 3).toInt64), S) := by
      unfold F_J_count
      rw [fck0 (by simp only [Int32.toInt_toInt64, Int64.reduceToInt]; omega) (by simp only [Int32.toInt_toInt64, Int64.reduceToInt]; omega), jxv_0]
      by_cases w0 : p0 = 0
      · rw [if_pos w0, if_pos w0]
      rw [if_neg w0, if_neg w0]
      by_cases w1 : p0 = 1
      · rw [if_pos w1, if_pos w1]
      rw [if_neg w1, if_neg w1]
      by_cases w2 : p0 = 2
      · rw [if_pos w2, if_pos w2]
      rw [if_neg w2, if_neg w2]
      by_cases w3 : p0 = 3
      · rw [if_pos w3, if_pos w3]
      rw [if_neg w3, if_neg w3]
      by_cases w4 : p0 = 4
      · rw [if_pos w4, if_pos w4]
      · rw [if_neg w4, if_neg w4]
    have M : F_M_count p0 S = some (if p0 = 0 then S.2.1 24 8 else if p0 = 1 then (S.1 24 11).toInt64 else if p0 = 2 then (S.1 24 14).toInt64 else if p0 = 3 then S.2.1 47 4 else if p0 = 4 then (S.1 25 1).toInt64 else (S.1 25 3).toInt64, w_i S 215 0 0) := by
      unfold F_M_count
      rw [jl_, if_neg (by rw [ltI (k := 0) (n := 0) rfl]; omega), if_pos (by rw [leI (k := 5) (n := 5) rfl]; omega), a1, b1]
      simp only [ob_, ea, eb, r2, r3, w_i2, q1, q4]
      by_cases w0 : p0 = 0
      · rw [if_pos w0, if_pos w0]
      rw [if_neg w0, if_neg w0]
      by_cases w1 : p0 = 1
      · rw [if_pos w1, if_pos w1]
      rw [if_neg w1, if_neg w1]
      by_cases w2 : p0 = 2
      · rw [if_pos w2, if_pos w2]
      rw [if_neg w2, if_neg w2]
      by_cases w3 : p0 = 3
      · rw [if_pos w3, if_pos w3]
      rw [if_neg w3, if_neg w3]
      by_cases w4 : p0 = 4
      · rw [if_pos w4, if_pos w4]
      · rw [if_neg w4, if_neg w4]
    refine ⟨_, _, _, J, M, h0 _ _ h, ?_, rfl⟩
    rw [w_ir, if_pos ⟨rfl, rfl⟩]
  · refine ⟨(.inr 11, S), 0, w_i (w_i S 215 0 0) 215 0 1, ?_, ?_, h0 _ _ (h0 _ _ h), ?_⟩
    · unfold F_J_count
      rw [fck1 (by simp only [Int32.toInt_toInt64, Int64.reduceToInt]; omega), jxv_1]
    · show F_M_count p0 S = _
      unfold F_M_count
      have e : J_M_count_14 (w_i S 215 0 0) = some (0, w_i (w_i S 215 0 0) 215 0 1) := rfl
      rw [jl_, e]
      by_cases w : p0.toInt < 0
      · rw [if_pos (by rw [ltI (k := 0) (n := 0) rfl]; exact w)]
      · rw [if_neg (by rw [ltI (k := 0) (n := 0) rfl]; exact w), if_neg (by rw [leI (k := 5) (n := 5) rfl]; omega)]
    · show (11, (w_i (w_i S 215 0 0) 215 0 1).1 215 0) ∈ _
      rw [w_ir, if_pos ⟨rfl, rfl⟩]
      exact List.mem_cons_self
end JS_6
