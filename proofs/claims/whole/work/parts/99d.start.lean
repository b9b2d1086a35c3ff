section JS_1
variable {S T : jS}
/-- the logs of both sides -/
def rLg (S : jS) : Prop := 0 ≤ (S.1 47 3).toInt ∧ (S.1 47 3).toInt ≤ 500 ∧ S.1 215 49 = S.1 47 3 ∧ ∀ j : Nat, (j : Int) < (S.1 47 3).toInt → S.2.1 450 j = S.2.1 48 j ∧ S.1 451 j = S.1 49 j ∧ S.2.1 452 j = S.2.1 50 j
theorem ok_start {R : jS → Prop} (h0 : ∀ S v, R S → R (w_i S 215 0 v)) (hl : ∀ S, R S → rLg S) : Ok_start R := by
  intro p0 p1 S h
  obtain ⟨h1, h2, h3, h4⟩ := hl _ h
  have r49 : (w_i S 215 0 0).1 215 49 = S.1 47 3 := by rw [w_ir, if_neg (by omega), h3]
  by_cases q : 0 ≤ p1.toInt ∧ p1.toInt ≤ 2
  · by_cases g : 0 ≤ p0.toInt ∧ p0.toInt < (S.1 47 3).toInt
    · obtain ⟨n, hn⟩ : ∃ n : Nat, p0.toInt = n := ⟨p0.toInt.toNat, by omega⟩
      obtain ⟨e1, e2, e3⟩ := h4 n (by omega)
      have e2' : (w_i S 215 0 0).1 451 n = S.1 49 n := by rw [w_ir, if_neg (by omega), e2]
      have J : F_J_start p0 p1 S = some (.inl (if p1 = 0 then S.2.1 48 n else if p1 = 1 then (S.1 49 n).toInt64 else S.2.1 50 n), S) := by
        unfold F_J_start
        rw [fck0 (by simp only [Int32.toInt_toInt64, Int64.reduceToInt]; omega) (by simp only [Int32.toInt_toInt64, Int64.reduceToInt]; omega), jxv_0, if_neg (by rw [ltI (k := 0) (n := 0) rfl]; omega), if_pos (Int32.lt_iff_toInt_lt.mpr g.2)]
        simp only [j_qi (show 0 ≤ p0.toInt by omega) (show p0.toInt < (500 : Nat) by omega), clN hn]
        split
        · rfl
        split
        · rfl
        rfl
      have M : F_M_start p0 p1 S = some (if p1 = 0 then S.2.1 48 n else if p1 = 1 then (S.1 49 n).toInt64 else S.2.1 50 n, w_i S 215 0 0) := by
        unfold F_M_start
        rw [jl_, if_neg (by rw [ltI (k := 0) (n := 0) rfl]; omega), if_pos (by rw [leI (k := 2) (n := 2) rfl]; omega), if_neg (by rw [ltI (k := 0) (n := 0) rfl]; omega), r49, if_pos (Int32.lt_iff_toInt_lt.mpr g.2)]
        simp only [j_qi (show 0 ≤ p0.toInt by omega) (show p0.toInt < (500 : Nat) by omega), clN hn, e2', w_i2, e1, e3]
        split
        · rfl
        split
        · rfl
        rfl
      refine ⟨_, _, _, J, M, h0 _ _ h, ?_, rfl⟩
      rw [w_ir, if_pos ⟨rfl, rfl⟩]
    · refine ⟨(.inr 14, S), 0, w_i (w_i S 215 0 0) 215 0 2, ?_, ?_, h0 _ _ (h0 _ _ h), ?_⟩
      · unfold F_J_start
        rw [fck0 (by simp only [Int32.toInt_toInt64, Int64.reduceToInt]; omega) (by simp only [Int32.toInt_toInt64, Int64.reduceToInt]; omega), jxv_0]
        by_cases w : p0.toInt < 0
        · rw [if_pos (by rw [ltI (k := 0) (n := 0) rfl]; exact w)]
        · rw [if_neg (by rw [ltI (k := 0) (n := 0) rfl]; exact w), if_neg (fun v => by have := Int32.lt_iff_toInt_lt.mp v; omega)]
      · show F_M_start p0 p1 S = _
        unfold F_M_start
        have e : J_M_start_33 (w_i S 215 0 0) = some (0, w_i (w_i S 215 0 0) 215 0 2) := rfl
        rw [jl_, if_neg (by rw [ltI (k := 0) (n := 0) rfl]; omega), if_pos (by rw [leI (k := 2) (n := 2) rfl]; omega), r49, e]
        by_cases w : p0.toInt < 0
        · rw [if_pos (by rw [ltI (k := 0) (n := 0) rfl]; exact w)]
        · rw [if_neg (by rw [ltI (k := 0) (n := 0) rfl]; exact w), if_neg (fun v => by have := Int32.lt_iff_toInt_lt.mp v; omega)]
      · show (14, (w_i (w_i S 215 0 0) 215 0 2).1 215 0) ∈ _
        rw [w_ir, if_pos ⟨rfl, rfl⟩]
        exact List.mem_cons_of_mem _ List.mem_cons_self
  · refine ⟨(.inr 11, S), 0, w_i (w_i S 215 0 0) 215 0 1, ?_, ?_, h0 _ _ (h0 _ _ h), ?_⟩
    · unfold F_J_start
      rw [fck1 (by simp only [Int32.toInt_toInt64, Int64.reduceToInt]; omega), jxv_1]
    · show F_M_start p0 p1 S = _
      unfold F_M_start
      have e : J_M_start_14 (w_i S 215 0 0) = some (0, w_i (w_i S 215 0 0) 215 0 1) := rfl
      rw [jl_, e]
      by_cases w : p1.toInt < 0
      · rw [if_pos (by rw [ltI (k := 0) (n := 0) rfl]; exact w)]
      · rw [if_neg (by rw [ltI (k := 0) (n := 0) rfl]; exact w), if_neg (by rw [leI (k := 2) (n := 2) rfl]; omega)]
    · show (11, (w_i (w_i S 215 0 0) 215 0 1).1 215 0) ∈ _
      rw [w_ir, if_pos ⟨rfl, rfl⟩]
      exact List.mem_cons_self
end JS_1
