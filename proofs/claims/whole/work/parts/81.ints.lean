section JA0
theorem bs32 {x : Int} (h1 : -2147483648 ≤ x) (h2 : x < 2147483648) : x.bmod (2 ^ 32) = x := Int.bmod_eq_of_le (by simp; omega) (by simp; omega)
theorem bs64 {x : Int} (h1 : -9223372036854775808 ≤ x) (h2 : x < 9223372036854775808) : x.bmod (2 ^ 64) = x := Int.bmod_eq_of_le (by simp; omega) (by simp; omega)
theorem td_ {a b : Int} (h : 0 ≤ a) : a.tdiv b = a / b := Int.tdiv_eq_ediv_of_nonneg h
theorem ofI {x : Int32} {n : Int} (h : x.toInt = n) : x = Int32.ofInt n := by rw [← h, Int32.ofInt_toInt]
theorem ofL {x : Int64} {n : Int} (h : x.toInt = n) : x = Int64.ofInt n := by rw [← h, Int64.ofInt_toInt]
theorem tI {n : Int} (h1 : -2147483648 ≤ n) (h2 : n < 2147483648) : (Int32.ofInt n).toInt = n := by rw [Int32.toInt_ofInt]; exact bs32 h1 h2
theorem tL {n : Int} (h1 : -9223372036854775808 ≤ n) (h2 : n < 9223372036854775808) : (Int64.ofInt n).toInt = n := by rw [Int64.toInt_ofInt]; exact bs64 h1 h2
theorem eqI {x y : Int32} : x = y ↔ x.toInt = y.toInt := Int32.toInt_inj.symm
theorem eqL {x y : Int64} : x = y ↔ x.toInt = y.toInt := Int64.toInt_inj.symm
theorem loI (x : Int32) : -2147483648 ≤ x.toInt := x.le_toInt
theorem hiI (x : Int32) : x.toInt < 2147483648 := x.toInt_lt
theorem loL (x : Int64) : -9223372036854775808 ≤ x.toInt := x.le_toInt
theorem hiL (x : Int64) : x.toInt < 9223372036854775808 := x.toInt_lt
theorem j_inb {i : Int32} {n : Nat} : j_in i n = true ↔ 0 ≤ i.toInt ∧ i.toInt < n := by
  simp only [j_in, Bool.and_eq_true, Bool.not_eq_true', decide_eq_false_iff_not, decide_eq_true_eq, Int32.lt_iff_toInt_lt, Int32.toNatClampNeg, Int32.reduceToInt]
  omega
theorem j_qt {α : Type} {b : Bool} {E : Option α} (h : b = true) : j_q b E = E := by rw [h]; rfl
theorem j_qi {α : Type} {i : Int32} {n : Nat} {E : Option α} (h1 : 0 ≤ i.toInt) (h2 : i.toInt < n) : j_q (j_in i n) E = E := j_qt (j_inb.mpr ⟨h1, h2⟩)
theorem w_ir {S : jS} {a k b j : Nat} {v : Int32} : (w_i S a k v).1 b j = if b = a ∧ j = k then v else S.1 b j := by
  unfold w_i upd
  by_cases h1 : b = a
  · by_cases h2 : j = k <;> simp [h1, h2]
  · simp [h1]
theorem w_i2 {S : jS} {a k : Nat} {v : Int32} : (w_i S a k v).2 = S.2 := rfl
theorem w_lr {S : jS} {a k b j : Nat} {v : Int64} : (w_l S a k v).2.1 b j = if b = a ∧ j = k then v else S.2.1 b j := by
  unfold w_l vp_updL
  by_cases h1 : b = a
  · by_cases h2 : j = k <;> simp [h1, h2]
  · simp [h1]
theorem w_l1 {S : jS} {a k : Nat} {v : Int64} : (w_l S a k v).1 = S.1 := rfl
theorem w_l3 {S : jS} {a k : Nat} {v : Int64} : (w_l S a k v).2.2 = S.2.2 := rfl
theorem w_rr {S : jS} {a k b j v : Nat} : (w_r S a k v).2.2 b j = if b = a ∧ j = k then v else S.2.2 b j := by
  unfold w_r va_up
  by_cases h1 : b = a
  · by_cases h2 : j = k <;> simp [h1, h2]
  · simp [h1]
theorem w_r1 {S : jS} {a k v : Nat} : (w_r S a k v).1 = S.1 := rfl
theorem w_r2 {S : jS} {a k v : Nat} : (w_r S a k v).2.1 = S.2.1 := rfl
theorem w_cr {S : jS} {a sp dp n b j : Nat} : (w_c S a sp dp n).1 b j = if b = a then cp_f sp dp n (S.1 a) j else S.1 b j := by
  unfold w_c
  by_cases h1 : b = a
  · simp [h1]
  · simp [h1]
theorem w_c2 {S : jS} {a sp dp n : Nat} : (w_c S a sp dp n).2 = S.2 := rfl
theorem S_ext {S T : jS} (h1 : ∀ a k, S.1 a k = T.1 a k) (h2 : ∀ a k, S.2.1 a k = T.2.1 a k) (h3 : ∀ a k, S.2.2 a k = T.2.2 a k) : S = T := by
  obtain ⟨S1, S2, S3⟩ := S
  obtain ⟨T1, T2, T3⟩ := T
  have e1 : S1 = T1 := funext fun a => funext fun k => h1 a k
  have e2 : S2 = T2 := funext fun a => funext fun k => h2 a k
  have e3 : S3 = T3 := funext fun a => funext fun k => h3 a k
  rw [e1, e2, e3]
theorem w_ii {S : jS} {a k : Nat} {v w : Int32} : w_i (w_i S a k v) a k w = w_i S a k w := by
  apply S_ext
  · intro b j
    simp only [w_ir]
    by_cases h : b = a ∧ j = k <;> simp [h]
  · intro b j; rfl
  · intro b j; rfl
theorem w_ic {S : jS} {a k b j : Nat} {v w : Int32} (h : ¬ (a = b ∧ k = j)) : w_i (w_i S a k v) b j w = w_i (w_i S b j w) a k v := by
  apply S_ext
  · intro c m
    simp only [w_ir]
    by_cases h1 : c = b ∧ m = j
    · have : ¬ (c = a ∧ m = k) := fun q => h ⟨by omega, by omega⟩
      simp [h1]
      intro q1 q2
      exact absurd ⟨by omega, by omega⟩ h
    · simp [h1]
  · intro b j; rfl
  · intro b j; rfl
theorem ob_ {α β : Type} {a : α} {f : α → Option β} : (some a).bind f = f a := Eq.trans (Eq.refl _) (Eq.refl _)
theorem jl_ {α β : Type} {x : α} {f : α → β} : j_l x f = f x := Eq.trans (Eq.refl _) (Eq.refl _)
theorem jxv_0 {ρ : Type} {S : jS} {X : Nat → jS → ρ} {K : jS → Option ρ} : j_xv (some (none, S)) X K = K S := Eq.trans (Eq.refl _) (Eq.refl _)
theorem jxv_1 {ρ : Type} {S : jS} {c : Nat} {X : Nat → jS → ρ} {K : jS → Option ρ} : j_xv (some (some c, S)) X K = some (X c S) := Eq.trans (Eq.refl _) (Eq.refl _)
theorem jx_0 {ρ τ : Type} {S : jS} {v : τ} {X : Nat → jS → ρ} {K : τ → jS → Option ρ} : j_x (some (.inl v, S)) X K = K v S := Eq.trans (Eq.refl _) (Eq.refl _)
theorem jx_1 {ρ τ : Type} {S : jS} {c : Nat} {X : Nat → jS → ρ} {K : τ → jS → Option ρ} : j_x (some (.inr c, S)) X K = some (X c S) := Eq.trans (Eq.refl _) (Eq.refl _)
theorem ju_s (k : Nat) (h : k < 1000000) : ∃ m, ju_ = m + 1 ∧ k ≤ m := ⟨999999, rfl, by omega⟩
end JA0
