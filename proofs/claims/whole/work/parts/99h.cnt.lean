section JS_5
variable {S T : jS}
/-- how many of the first n states are above k -/
def stN (S : jS) (k : Int32) : Nat → Nat
  | 0 => 0
  | n + 1 => stN S k n + (if S.1 436 n ≤ k then 0 else 1)
theorem stN_b {k : Int32} (n : Nat) : stN S k n ≤ n := by
  induction n with
  | zero => exact Nat.le_refl _
  | succ n ih =>
    unfold stN
    split <;> omega
theorem adI {x y : Int32} {a b : Nat} (h1 : x.toInt = a) (h2 : y.toInt = b) (hb : a + b < 2147483648) : (x + y).toInt = ((a + b : Nat) : Int) := by
  rw [Int32.toInt_add, h1, h2, bs32 (by omega) (by omega)]
  omega
theorem lM_there : ∀ (f : Nat) (x1 x2 : Int32) (n : Nat), x2.toInt = n → n ≤ 100 → 100 - n < f → x1.toInt = stN S 0 n → ∃ r, L_M_there_4 S f x1 x2 = some r ∧ r.toInt = stN S 0 100 := by
  intro f
  induction f with
  | zero => intro x1 x2 n _ _ q; omega
  | succ f ih =>
    intro x1 x2 n h2 hn hf h1
    have b := stN_b (S := S) (k := 0) n
    unfold L_M_there_4
    by_cases q : n = 100
    · rw [if_pos (by rw [geI (k := 100) (n := 100) rfl]; omega)]
      exact ⟨_, rfl, by rw [h1, q]⟩
    · rw [if_neg (by rw [geI (k := 100) (n := 100) rfl]; omega), j_qi (by omega) (by omega), clN h2]
      unfold J_M_there_25
      by_cases w : S.1 436 n ≤ 0
      · rw [if_pos w, jl_]
        refine ih _ _ (n + 1) (p1I h2 (by omega)) (by omega) (by omega) ?_
        rw [adI (b := 0) h1 rfl (by omega)]
        conv => rhs; unfold stN
        rw [if_pos w]
      · rw [if_neg w, jl_]
        refine ih _ _ (n + 1) (p1I h2 (by omega)) (by omega) (by omega) ?_
        rw [adI (b := 1) h1 rfl (by omega)]
        conv => rhs; unfold stN
        rw [if_neg w]
theorem lM_running : ∀ (f : Nat) (x1 x2 : Int32) (n : Nat), x2.toInt = n → n ≤ 100 → 100 - n < f → x1.toInt = stN S 1 n → ∃ r, L_M_running_4 S f x1 x2 = some r ∧ r.toInt = stN S 1 100 := by
  intro f
  induction f with
  | zero => intro x1 x2 n _ _ q; omega
  | succ f ih =>
    intro x1 x2 n h2 hn hf h1
    have b := stN_b (S := S) (k := 1) n
    unfold L_M_running_4
    by_cases q : n = 100
    · rw [if_pos (by rw [geI (k := 100) (n := 100) rfl]; omega)]
      exact ⟨_, rfl, by rw [h1, q]⟩
    · rw [if_neg (by rw [geI (k := 100) (n := 100) rfl]; omega), j_qi (by omega) (by omega), clN h2]
      unfold J_M_running_26
      by_cases w : S.1 436 n ≤ 1
      · rw [if_pos w, jl_]
        refine ih _ _ (n + 1) (p1I h2 (by omega)) (by omega) (by omega) ?_
        rw [adI (b := 0) h1 rfl (by omega)]
        conv => rhs; unfold stN
        rw [if_pos w]
      · rw [if_neg w, jl_]
        refine ih _ _ (n + 1) (p1I h2 (by omega)) (by omega) (by omega) ?_
        rw [adI (b := 1) h1 rfl (by omega)]
        conv => rhs; unfold stN
        rw [if_neg w]
theorem fM_there : ∃ r, F_M_there S = some r ∧ r.toInt = stN S 0 100 := lM_there ju_ 0 0 0 rfl (by omega) (by show _ < 1000000; omega) rfl
theorem fM_running : ∃ r, F_M_running S = some r ∧ r.toInt = stN S 1 100 := lM_running ju_ 0 0 0 rfl (by omega) (by show _ < 1000000; omega) rfl
end JS_5
