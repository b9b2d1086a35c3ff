section JS_4
variable {S T : jS}
/-- what a job tells is the same on both sides -/
def rB (S : jS) (j : Nat) : Prop := S.1 436 j = S.1 (115 + j) 0 ∧ (¬ S.1 (115 + j) 0 = 0 → S.2.1 438 j = S.2.1 (115 + j) 4 ∧ S.2.1 440 j = (S.1 (115 + j) 3).toInt64 ∧ S.2.1 441 j = (S.1 (115 + j) 2).toInt64 ∧ (¬ S.1 (115 + j) 0 = 1 → S.2.1 439 j = S.2.1 (115 + j) 5))
theorem jb_k {j : Nat} (h : j < 100) : jb_ (115 + j) = true := by
  unfold jb_
  simp only [Bool.and_eq_true, decide_eq_true_eq]
  omega
theorem ok_job {R : jS → Prop} (h0 : ∀ S v, R S → R (w_i S 215 0 v)) (hw : ∀ S, R S → ∀ j, j < 100 → rB S j) : Ok_job R := by
  intro p0 p1 S h
  have r436 : ∀ j, (w_i S 215 0 0).1 436 j = S.1 436 j := fun j => by rw [w_ir, if_neg (by omega)]
  by_cases q : 0 ≤ p1.toInt ∧ p1.toInt ≤ 4
  · have bad : ∀ X, F_J_jobAt p0 S = some (.inr 14, S) → F_M_none p0 (w_i S 215 0 0) = some 1 → X = S → ∃ z b S2, F_J_job p0 p1 X = some z ∧ F_M_job p0 p1 z.2 = some (b, S2) ∧ R S2 ∧ jE [(11, 1), (14, 2)] z.1 (S2.1 215 0) b := by
      intro X e1 e2 eX
      subst eX
      refine ⟨(.inr 14, X), 0, w_i (w_i X 215 0 0) 215 0 2, ?_, ?_, h0 _ _ (h0 _ _ h), ?_⟩
      · unfold F_J_job
        rw [fck0 (by simp only [Int32.toInt_toInt64, Int64.reduceToInt]; omega) (by simp only [Int32.toInt_toInt64, Int64.reduceToInt]; omega), jxv_0, e1, jx_1]
      · show F_M_job p0 p1 X = _
        unfold F_M_job
        rw [jl_, if_neg (by rw [ltI (k := 0) (n := 0) rfl]; omega), if_pos (by rw [leI (k := 4) (n := 4) rfl]; omega), e2]
        simp only [ob_]
        rw [if_neg (by decide), fail1]
        simp only [ob_]
        rfl
      · show (14, (w_i (w_i X 215 0 0) 215 0 2).1 215 0) ∈ _
        rw [w_ir, if_pos ⟨rfl, rfl⟩]
        exact List.mem_cons_of_mem _ List.mem_cons_self
    by_cases g : 0 ≤ p0.toInt ∧ p0.toInt ≤ 99
    · obtain ⟨j, hj⟩ : ∃ j : Nat, p0.toInt = j := ⟨p0.toInt.toNat, by omega⟩
      obtain ⟨b1, b2⟩ := hw S h j (by omega)
      have jq : ∀ {α : Type} {X : Option α}, j_q (j_in p0 100) X = X := fun {α X} => j_qi (by omega) (by omega)
      by_cases z : S.1 (115 + j) 0 = 0
      · refine bad S ?_ ?_ rfl
        · unfold F_J_jobAt
          rw [if_neg (by rw [ltI (k := 0) (n := 0) rfl]; omega), if_neg (by rw [geI (k := 100) (n := 100) rfl]; omega)]
          simp only [jq, clN hj]
          rw [if_pos z]
        · unfold F_M_none
          rw [if_neg (by rw [ltI (k := 0) (n := 0) rfl]; omega), if_neg (by rw [gtI (k := 99) (n := 99) rfl]; omega)]
          simp only [jq, clN hj, r436, b1]
          rw [if_pos z]
      · obtain ⟨c1, c2, c3, c4⟩ := b2 z
        have e1 : F_J_jobAt p0 S = some (.inl (115 + j), S) := by
          unfold F_J_jobAt
          rw [if_neg (by rw [ltI (k := 0) (n := 0) rfl]; omega), if_neg (by rw [geI (k := 100) (n := 100) rfl]; omega)]
          simp only [jq, clN hj]
          rw [if_neg z]
        have e2 : F_M_none p0 (w_i S 215 0 0) = some 0 := by
          unfold F_M_none
          rw [if_neg (by rw [ltI (k := 0) (n := 0) rfl]; omega), if_neg (by rw [gtI (k := 99) (n := 99) rfl]; omega)]
          simp only [jq, clN hj, r436, b1]
          rw [if_neg z]
        have e5 : (if S.1 (115 + j) 0 = 1 then (-1 : Int64) else S.2.1 439 j) = if S.1 (115 + j) 0 = 1 then -1 else S.2.1 (115 + j) 5 := by
          by_cases w : S.1 (115 + j) 0 = 1
          · rw [if_pos w, if_pos w]
          · rw [if_neg w, if_neg w, c4 w]
        have J : F_J_job p0 p1 S = some (.inl (if p1 = 0 then (S.1 (115 + j) 0).toInt64 else if p1 = 1 then S.2.1 (115 + j) 4 else if p1 = 2 then (S.1 (115 + j) 3).toInt64 else if p1 = 3 then (S.1 (115 + j) 2).toInt64 else if S.1 (115 + j) 0 = 1 then -1 else S.2.1 (115 + j) 5), S) := by
          unfold F_J_job
          rw [fck0 (by simp only [Int32.toInt_toInt64, Int64.reduceToInt]; omega) (by simp only [Int32.toInt_toInt64, Int64.reduceToInt]; omega), jxv_0, e1, jx_0, j_qt (jb_k (by omega))]
          by_cases w0 : p1 = 0
          · rw [if_pos w0, if_pos w0]
          rw [if_neg w0, if_neg w0]
          by_cases w1 : p1 = 1
          · rw [if_pos w1, if_pos w1]
          rw [if_neg w1, if_neg w1]
          by_cases w2 : p1 = 2
          · rw [if_pos w2, if_pos w2]
          rw [if_neg w2, if_neg w2]
          by_cases w3 : p1 = 3
          · rw [if_pos w3, if_pos w3]
          rw [if_neg w3, if_neg w3]
          by_cases w4 : S.1 (115 + j) 0 = 1
          · rw [if_pos w4, if_pos w4]
          · rw [if_neg w4, if_neg w4]
        have M : F_M_job p0 p1 S = some (if p1 = 0 then (S.1 (115 + j) 0).toInt64 else if p1 = 1 then S.2.1 (115 + j) 4 else if p1 = 2 then (S.1 (115 + j) 3).toInt64 else if p1 = 3 then (S.1 (115 + j) 2).toInt64 else if S.1 (115 + j) 0 = 1 then -1 else S.2.1 (115 + j) 5, w_i S 215 0 0) := by
          unfold F_M_job
          rw [jl_, if_neg (by rw [ltI (k := 0) (n := 0) rfl]; omega), if_pos (by rw [leI (k := 4) (n := 4) rfl]; omega), e2]
          simp only [ob_, if_true, jq, clN hj, r436, b1, w_i2, c1, c2, c3]
          by_cases w0 : p1 = 0
          · rw [if_pos w0, if_pos w0]
          rw [if_neg w0, if_neg w0]
          by_cases w1 : p1 = 1
          · rw [if_pos w1, if_pos w1]
          rw [if_neg w1, if_neg w1]
          by_cases w2 : p1 = 2
          · rw [if_pos w2, if_pos w2]
          rw [if_neg w2, if_neg w2]
          by_cases w3 : p1 = 3
          · rw [if_pos w3, if_pos w3]
          rw [if_neg w3, if_neg w3]
          by_cases w4 : S.1 (115 + j) 0 = 1
          · rw [if_pos w4, if_pos w4]
          · rw [if_neg w4, if_neg w4, c4 w4]
        refine ⟨_, _, _, J, M, h0 _ _ h, ?_, rfl⟩
        rw [w_ir, if_pos ⟨rfl, rfl⟩]
    · refine bad S ?_ ?_ rfl
      · unfold F_J_jobAt
        by_cases w : p0.toInt < 0
        · rw [if_pos (by rw [ltI (k := 0) (n := 0) rfl]; exact w)]
        · rw [if_neg (by rw [ltI (k := 0) (n := 0) rfl]; exact w), if_pos (by rw [geI (k := 100) (n := 100) rfl]; omega)]
      · unfold F_M_none
        by_cases w : p0.toInt < 0
        · rw [if_pos (by rw [ltI (k := 0) (n := 0) rfl]; exact w)]
        · rw [if_neg (by rw [ltI (k := 0) (n := 0) rfl]; exact w), if_pos (by rw [gtI (k := 99) (n := 99) rfl]; omega)]
  · refine ⟨(.inr 11, S), 0, w_i (w_i S 215 0 0) 215 0 1, ?_, ?_, h0 _ _ (h0 _ _ h), ?_⟩
    · unfold F_J_job
      rw [fck1 (by simp only [Int32.toInt_toInt64, Int64.reduceToInt]; omega), jxv_1]
    · show F_M_job p0 p1 S = _
      unfold F_M_job
      have e : J_M_job_14 (w_i S 215 0 0) = some (0, w_i (w_i S 215 0 0) 215 0 1) := rfl
      rw [jl_, e]
      by_cases w : p1.toInt < 0
      · rw [if_pos (by rw [ltI (k := 0) (n := 0) rfl]; exact w)]
      · rw [if_neg (by rw [ltI (k := 0) (n := 0) rfl]; exact w), if_neg (by rw [leI (k := 4) (n := 4) rfl]; omega)]
    · show (11, (w_i (w_i S 215 0 0) 215 0 1).1 215 0) ∈ _
      rw [w_ir, if_pos ⟨rfl, rfl⟩]
      exact List.mem_cons_self
end JS_4
