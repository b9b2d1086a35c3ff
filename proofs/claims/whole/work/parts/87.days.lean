section JF_1
variable {a : Nat} {S : jS}
/-- the weekday of a date of a month whose first is fw -/
def wdn (fw d : Nat) : Nat := (fw + d + 5) % 7 + 1
def nw (v len fw : Nat) : Nat := if wdn fw v = 7 then (if 1 < v then v - 1 else v + 2) else if wdn fw v = 1 then (if v < len then v + 1 else v - 2) else v
def dk (dr vl nn : Int) (s3 s5 : Int64) (len fw d : Nat) : Prop :=
  (dr = 0 ∧ bt s3 d = true) ∨ (dr = 1 ∧ bt s5 (wdn fw d) = true) ∨ (dr = 2 ∧ (d : Int) + nn = len) ∨ (dr = 3 ∧ d = nw len len fw) ∨ (dr = 4 ∧ vl ≤ len ∧ d = nw vl.toNat len fw) ∨ (dr = 5 ∧ (wdn fw d : Int) = vl ∧ len < d + 7) ∨ (dr = 6 ∧ (wdn fw d : Int) = vl ∧ ((d - 1) / 7 + 1 : Nat) = nn)
/-- day rule, value, n, sets of a cron are such -/
def ckD (S : jS) (a : Nat) : Prop := 0 ≤ (S.1 a 1).toInt ∧ (S.1 a 1).toInt ≤ 6 ∧ ((S.1 a 1).toInt = 2 → 0 ≤ (S.1 a 3).toInt ∧ (S.1 a 3).toInt ≤ 30) ∧ ((S.1 a 1).toInt = 4 → 1 ≤ (S.1 a 2).toInt ∧ (S.1 a 2).toInt ≤ 31) ∧ (5 ≤ (S.1 a 1).toInt → 1 ≤ (S.1 a 2).toInt ∧ (S.1 a 2).toInt ≤ 7) ∧ ((S.1 a 1).toInt = 6 → 1 ≤ (S.1 a 3).toInt ∧ (S.1 a 3).toInt ≤ 5) ∧ bt (S.2.1 (a + 1) 3) 0 = false ∧ (∀ i, 32 ≤ i → bt (S.2.1 (a + 1) 3) i = false) ∧ bt (S.2.1 (a + 1) 5) 0 = false ∧ (∀ i, 8 ≤ i → bt (S.2.1 (a + 1) 5) i = false)
def dkS (S : jS) (a : Nat) (len fw d : Nat) : Prop := dk (S.1 a 1).toInt (S.1 a 2).toInt (S.1 a 3).toInt (S.2.1 (a + 1) 3) (S.2.1 (a + 1) 5) len fw d
theorem nw_b {v len fw : Nat} (h1 : 1 ≤ v) (h2 : v ≤ len) (h3 : 28 ≤ len) : 1 ≤ nw v len fw ∧ nw v len fw ≤ len := by
  unfold nw
  split
  · split <;> omega
  · split
    · split <;> omega
    · omega
theorem fC_bits {p : Int32} {n : Nat} (h : p.toInt = n) (hn : n < 63) : F_C_bitsUpTo p S = some (on_ (n + 1)) := by
  have e1 : (p + 1).toInt = (n + 1 : Nat) := by
    rw [Int32.toInt_add, h, bs32 (by simp only [Int32.reduceToInt]; omega) (by simp only [Int32.reduceToInt]; omega)]
    simp only [Int32.reduceToInt]; omega
  unfold F_C_bitsUpTo
  rw [s1_tw e1 (by omega), show tw_ (n + 1) - 1 = on_ (n + 1) from tw_on ⟨n + 1, by omega⟩]
theorem bt_tw' {n i : Nat} (h : n < 64) : bt (tw_ n) i = decide (i = n) := by
  by_cases c : i < 64
  · exact bt_tw ⟨n, h⟩ ⟨i, c⟩
  · rw [bt_ge (by omega), decide_eq_false (by omega)]
theorem fC_bitOf {d l : Int32} {L : Nat} (hl : l.toInt = L) (hL : L < 60) (b : d.toInt < 64) : ∃ r, F_C_bitOf d l S = some r ∧ ∀ i : Nat, bt r i = true ↔ (1 ≤ i ∧ i ≤ L ∧ (i : Int) = d.toInt) := by
  unfold F_C_bitOf
  by_cases c1 : d.toInt < 1
  · rw [if_pos (show d < 1 from Int32.lt_iff_toInt_lt.mpr c1)]
    refine ⟨_, rfl, fun i => ?_⟩
    rw [bt_0]
    constructor
    · intro q; cases q
    · intro q; omega
  · rw [if_neg (fun q : d < 1 => c1 (Int32.lt_iff_toInt_lt.mp q))]
    by_cases c2 : d.toInt ≤ L
    · rw [if_pos (Int32.le_iff_toInt_le.mpr (by omega)), s1_tw (k := d.toInt.toNat) (by omega) (by omega)]
      refine ⟨_, rfl, fun i => ?_⟩
      rw [bt_tw' (by omega), decide_eq_true_eq]
      omega
    · rw [if_neg (fun q => c2 (by have := Int32.le_iff_toInt_le.mp q; omega))]
      refine ⟨_, rfl, fun i => ?_⟩
      rw [bt_0]
      constructor
      · intro q; cases q
      · intro q; omega
theorem fC_wn {v l f : Int32} {V L F : Nat} (hv : v.toInt = V) (hl : l.toInt = L) (hf : f.toInt = F) (v1 : 1 ≤ V) (v2 : V ≤ 31) (l1 : 28 ≤ L) (l2 : L ≤ 31) (f1 : 1 ≤ F) (f2 : F ≤ 7) : ∃ r, F_C_workdayNearest v l f S = some r ∧ ∀ i : Nat, bt r i = true ↔ (V ≤ L ∧ i = nw V L F) := by
  have ew : ((((f + v) - 2) - ((f + v) - 2) / 7 * 7) + 1).toInt = (wdn F V : Nat) := by
    unfold wdn
    simp (disch := omega) only [Int32.toInt_add, Int32.toInt_sub, Int32.toInt_mul, Int32.toInt_div, hv, hf, bs32, td_, Int32.reduceToInt]
    omega
  unfold F_C_workdayNearest
  simp only [jl_]
  generalize (((f + v) - 2) - ((f + v) - 2) / 7 * 7) + 1 = w at *
  have one : ∀ {x : Int32} {n : Nat}, x.toInt = n → n < 64 → ∀ i, bt ((1 : Int64) <<< (x.toInt64 &&& 63)) i = true ↔ i = n := fun {x n} h hn i => by rw [bt_1s h hn, decide_eq_true_eq]
  unfold nw
  by_cases c1 : V ≤ L
  · rw [if_pos (show v ≤ l from Int32.le_iff_toInt_le.mpr (by omega))]
    by_cases c2 : wdn F V = 7
    · rw [if_pos (show w = 7 by rw [eqI, ew, c2]; rfl), if_pos c2]
      by_cases c3 : 1 < V
      · rw [if_neg (fun q : v ≤ 1 => by have := Int32.le_iff_toInt_le.mp q; simp only [Int32.reduceToInt] at this; omega), if_pos c3]
        refine ⟨_, rfl, fun i => ?_⟩
        rw [one (n := V - 1) (by rw [Int32.toInt_sub, hv, bs32 (by simp only [Int32.reduceToInt]; omega) (by simp only [Int32.reduceToInt]; omega)]; simp only [Int32.reduceToInt]; omega) (by omega)]
        exact ⟨fun q => ⟨c1, q⟩, fun q => q.2⟩
      · rw [if_pos (show v ≤ 1 from Int32.le_iff_toInt_le.mpr (by simp only [Int32.reduceToInt]; omega)), if_neg c3]
        refine ⟨_, rfl, fun i => ?_⟩
        rw [one (n := V + 2) (by rw [Int32.toInt_add, hv, bs32 (by simp only [Int32.reduceToInt]; omega) (by simp only [Int32.reduceToInt]; omega)]; simp only [Int32.reduceToInt]; omega) (by omega)]
        exact ⟨fun q => ⟨c1, q⟩, fun q => q.2⟩
    · rw [if_neg (fun q : w = 7 => c2 (by rw [eqI, ew] at q; simp only [Int32.reduceToInt] at q; omega)), if_neg c2]
      by_cases c3 : wdn F V = 1
      · rw [if_pos (show w = 1 by rw [eqI, ew, c3]; rfl), if_pos c3]
        by_cases c4 : V < L
        · rw [if_neg (fun q : l ≤ v => by have := Int32.le_iff_toInt_le.mp q; omega), if_pos c4]
          refine ⟨_, rfl, fun i => ?_⟩
          rw [one (n := V + 1) (by rw [Int32.toInt_add, hv, bs32 (by simp only [Int32.reduceToInt]; omega) (by simp only [Int32.reduceToInt]; omega)]; simp only [Int32.reduceToInt]; omega) (by omega)]
          exact ⟨fun q => ⟨c1, q⟩, fun q => q.2⟩
        · rw [if_pos (show l ≤ v from Int32.le_iff_toInt_le.mpr (by omega)), if_neg c4]
          refine ⟨_, rfl, fun i => ?_⟩
          rw [one (n := V - 2) (by rw [Int32.toInt_sub, hv, bs32 (by simp only [Int32.reduceToInt]; omega) (by simp only [Int32.reduceToInt]; omega)]; simp only [Int32.reduceToInt]; omega) (by omega)]
          exact ⟨fun q => ⟨c1, q⟩, fun q => q.2⟩
      · rw [if_neg (fun q : w = 1 => c3 (by rw [eqI, ew] at q; simp only [Int32.reduceToInt] at q; omega)), if_neg c3]
        refine ⟨_, rfl, fun i => ?_⟩
        rw [one hv (by omega)]
        exact ⟨fun q => ⟨c1, q⟩, fun q => q.2⟩
  · rw [if_neg (fun q : v ≤ l => c1 (by have := Int32.le_iff_toInt_le.mp q; omega))]
    refine ⟨_, rfl, fun i => ?_⟩
    rw [bt_0]
    exact ⟨fun q => (by cases q), fun q => absurd q.1 c1⟩
theorem bt254 : ∀ i : Fin 64, bt 254 i.val = (decide (1 ≤ i.val) && decide (i.val ≤ 7)) := by decide +kernel
theorem fC_wk {f : Int32} {F : Nat} (hf : f.toInt = F) (f1 : 1 ≤ F) (f2 : F ≤ 7) (z0 : bt (S.2.1 (a + 1) 5) 0 = false) (z8 : ∀ i, 8 ≤ i → bt (S.2.1 (a + 1) 5) i = false) : ∃ r, F_C_weekdaysFrom a f S = some r ∧ ∀ i : Nat, 1 ≤ i → i ≤ 31 → bt r i = bt (S.2.1 (a + 1) 5) (wdn F i) := by
  have m5 : (5 : Int32).toNatClampNeg = 5 := by decide
  have q5 : ∀ {α : Type} {X : Option α}, j_q (j_in 5 12) X = X := fun {α X} => j_qi (by decide) (by decide)
  unfold F_C_weekdaysFrom
  simp only [q5, m5, jl_]
  generalize S.2.1 (a + 1) 5 = s at *
  have e7 : (7 - f).toInt = (7 - F : Nat) := by
    rw [Int32.toInt_sub, hf, bs32 (by simp only [Int32.reduceToInt]; omega) (by simp only [Int32.reduceToInt]; omega)]
    simp only [Int32.reduceToInt]; omega
  have v3 : ∀ i, i ≤ 6 → bt ((s >>> (f.toInt64 &&& 63)) ||| (s <<< ((7 - f).toInt64 &&& 63))) i = bt s ((F + i + 6) % 7 + 1) := by
    intro i hi
    rw [bt_or, bt_shr hf (by omega) (z8 63 (by omega)), bt_shl e7 (by omega)]
    by_cases c : F + i ≤ 7
    · rw [show (F + i + 6) % 7 + 1 = F + i by omega]
      by_cases c2 : i < 7 - F
      · simp [c2]
      · rw [show i - (7 - F) = 0 by omega, z0]
        simp
    · rw [z8 (F + i) (by omega), show i - (7 - F) = (F + i + 6) % 7 + 1 by omega]
      have : ¬ i < 7 - F := by omega
      have h64 : i < 64 := by omega
      simp [this, h64]
  generalize (s >>> (f.toInt64 &&& 63)) ||| (s <<< ((7 - f).toInt64 &&& 63)) = v at *
  have v4 : ∀ j, bt ((v <<< ((1 : Int32).toInt64 &&& 63)) &&& 254) j = (decide (1 ≤ j) && decide (j ≤ 7) && bt v (j - 1)) := by
    intro j
    rw [bt_and, bt_shl (k := 1) rfl (by omega)]
    by_cases c : j < 64
    · rw [bt254 ⟨j, c⟩]
      by_cases c1 : 1 ≤ j <;> by_cases c2 : j ≤ 7
      · have h0 : ¬ j = 0 := by omega
        simp [c, c1, c2, h0]
      · simp [c2]
      · have : j < 1 := by omega
        simp [c1]
      · simp [c1, c2]
    · rw [bt_ge (s := (254 : Int64)) (by omega)]
      have : ¬ j ≤ 7 := by omega
      simp [this]
  generalize (v <<< ((1 : Int32).toInt64 &&& 63)) &&& 254 = w at *
  refine ⟨_, rfl, fun i i1 i2 => ?_⟩
  rw [bt_or, bt_or, bt_or, bt_or, bt_shl (k := 7) rfl (by omega), bt_shl (k := 14) rfl (by omega), bt_shl (k := 21) rfl (by omega), bt_shl (k := 28) rfl (by omega)]
  simp only [v4]
  have key : bt v ((i - 1) % 7) = bt s (wdn F i) := by
    rw [v3 _ (by omega)]
    unfold wdn
    congr 1
    omega
  rw [← key]
  have hq : (i - 1) / 7 = 0 ∨ (i - 1) / 7 = 1 ∨ (i - 1) / 7 = 2 ∨ (i - 1) / 7 = 3 ∨ (i - 1) / 7 = 4 := by omega
  have i64 : i < 64 := by omega
  rcases hq with q | q | q | q | q
  · have a1 : i ≤ 7 := by omega
    have e : (i - 1) % 7 = i - 1 := by omega
    have b1 : ¬ 1 ≤ i - 7 := by omega
    have b2 : ¬ 1 ≤ i - 14 := by omega
    have b3 : ¬ 1 ≤ i - 21 := by omega
    have b4 : ¬ 1 ≤ i - 28 := by omega
    simp [a1, i1, b1, b2, b3, b4, e]
  · have a1 : ¬ i ≤ 7 := by omega
    have e : (i - 1) % 7 = i - 7 - 1 := by omega
    have b1 : 1 ≤ i - 7 := by omega
    have d1 : i - 7 ≤ 7 := by omega
    have f1 : ¬ i < 7 := by omega
    have b2 : ¬ 1 ≤ i - 14 := by omega
    have b3 : ¬ 1 ≤ i - 21 := by omega
    have b4 : ¬ 1 ≤ i - 28 := by omega
    simp [a1, i64, b1, d1, f1, b2, b3, b4, e]
  · have a1 : ¬ i ≤ 7 := by omega
    have e : (i - 1) % 7 = i - 14 - 1 := by omega
    have b1 : ¬ i - 7 ≤ 7 := by omega
    have b2 : 1 ≤ i - 14 := by omega
    have d1 : i - 14 ≤ 7 := by omega
    have f1 : ¬ i < 14 := by omega
    have b3 : ¬ 1 ≤ i - 21 := by omega
    have b4 : ¬ 1 ≤ i - 28 := by omega
    simp [a1, i64, b1, d1, f1, b2, b3, b4, e]
  · have a1 : ¬ i ≤ 7 := by omega
    have e : (i - 1) % 7 = i - 21 - 1 := by omega
    have b1 : ¬ i - 7 ≤ 7 := by omega
    have b2 : ¬ i - 14 ≤ 7 := by omega
    have b3 : 1 ≤ i - 21 := by omega
    have d1 : i - 21 ≤ 7 := by omega
    have f1 : ¬ i < 21 := by omega
    have b4 : ¬ 1 ≤ i - 28 := by omega
    simp [a1, i64, b1, d1, f1, b2, b3, b4, e]
  · have a1 : ¬ i ≤ 7 := by omega
    have e : (i - 1) % 7 = i - 28 - 1 := by omega
    have b1 : ¬ i - 7 ≤ 7 := by omega
    have b2 : ¬ i - 14 ≤ 7 := by omega
    have b3 : ¬ i - 21 ≤ 7 := by omega
    have b4 : 1 ≤ i - 28 := by omega
    have d1 : i - 28 ≤ 7 := by omega
    have f1 : ¬ i < 28 := by omega
    simp [a1, i64, b1, d1, f1, b2, b3, b4, e]
theorem fC_days {l f : Int32} {L F : Nat} (hl : l.toInt = L) (hf : f.toInt = F) (l1 : 28 ≤ L) (l2 : L ≤ 31) (f1 : 1 ≤ F) (f2 : F ≤ 7) (hc : ckD S a) : ∃ r, F_C_daysOf a l f S = some r ∧ ∀ i : Nat, bt r i = true ↔ (1 ≤ i ∧ i ≤ L ∧ dkS S a L F i) := by
  obtain ⟨k0, k1, k2, k3, k4, k5, k6, k7, k8, k9⟩ := hc
  have m3 : (3 : Int32).toNatClampNeg = 3 := by decide
  have q3 : ∀ {α : Type} {X : Option α}, j_q (j_in 3 12) X = X := fun {α X} => j_qi (by decide) (by decide)
  unfold F_C_daysOf dkS dk
  simp only [q3, m3, eqI, Int32.reduceToInt, fC_bits (S := S) hl (by omega)]
  have hcase : (S.1 a 1).toInt = 0 ∨ (S.1 a 1).toInt = 1 ∨ (S.1 a 1).toInt = 2 ∨ (S.1 a 1).toInt = 3 ∨ (S.1 a 1).toInt = 4 ∨ (S.1 a 1).toInt = 5 ∨ (S.1 a 1).toInt = 6 := by omega
  rcases hcase with h | h | h | h | h | h | h
  · rw [h, if_pos rfl]
    simp only [ob_]
    refine ⟨_, rfl, fun i => ?_⟩
    rw [bt_and, bt_on' (by omega), Bool.and_eq_true, decide_eq_true_eq]
    constructor
    · rintro ⟨q1, q2⟩
      refine ⟨?_, by omega, Or.inl ⟨by trivial, q1⟩⟩
      by_cases c : i = 0
      · rw [c, k6] at q1; cases q1
      · omega
    · rintro ⟨q1, q2, q⟩
      rcases q with ⟨-, q⟩ | ⟨q, -⟩ | ⟨q, -⟩ | ⟨q, -⟩ | ⟨q, -⟩ | ⟨q, -⟩ | ⟨q, -⟩
      · exact ⟨q, by omega⟩
      all_goals (exfalso; omega)
  · obtain ⟨r, e1, e2⟩ := fC_wk (S := S) (a := a) hf f1 f2 k8 k9
    rw [h, if_neg (by omega), if_pos rfl, e1]
    simp only [ob_]
    refine ⟨_, rfl, fun i => ?_⟩
    rw [bt_and, bt_on' (by omega), Bool.and_eq_true, decide_eq_true_eq]
    constructor
    · rintro ⟨q1, q2⟩
      have i1 : 1 ≤ i := by
        by_cases c : i = 0
        · exfalso
          subst c
          revert q1
          unfold F_C_weekdaysFrom at e1
          have m5 : (5 : Int32).toNatClampNeg = 5 := by decide
          have q5 : ∀ {α : Type} {X : Option α}, j_q (j_in 5 12) X = X := fun {α X} => j_qi (by decide) (by decide)
          simp only [q5, m5, jl_, Option.some.injEq] at e1
          rw [← e1]
          simp only [bt_or, bt_and, bt_shl (k := 1) (l := 1) rfl (by omega), bt_shl (k := 7) (l := 7) rfl (by omega), bt_shl (k := 14) (l := 14) rfl (by omega), bt_shl (k := 21) (l := 21) rfl (by omega), bt_shl (k := 28) (l := 28) rfl (by omega)]
          simp
        · omega
      exact ⟨i1, by omega, Or.inr (Or.inl ⟨by trivial, by rw [← e2 i i1 (by omega)]; exact q1⟩)⟩
    · rintro ⟨q1, q2, q⟩
      rcases q with ⟨q, -⟩ | ⟨-, q⟩ | ⟨q, -⟩ | ⟨q, -⟩ | ⟨q, -⟩ | ⟨q, -⟩ | ⟨q, -⟩
      · exfalso; omega
      · exact ⟨by rw [e2 i q1 (by omega)]; exact q, by omega⟩
      all_goals (exfalso; omega)
  · have k := k2 h
    have e0 : (l - S.1 a 3).toInt = L - (S.1 a 3).toInt := by
      rw [Int32.toInt_sub, hl]
      exact bs32 (by omega) (by omega)
    obtain ⟨r, e1, e2⟩ := fC_bitOf (S := S) (d := l - S.1 a 3) hl (by omega) (by rw [e0]; omega)
    rw [h, if_neg (by omega), if_neg (by omega), if_pos rfl, e1]
    simp only [ob_]
    refine ⟨r, rfl, fun i => ?_⟩
    rw [e2, e0]
    constructor
    · rintro ⟨q1, q2, q3⟩
      exact ⟨q1, q2, Or.inr (Or.inr (Or.inl ⟨by trivial, by omega⟩))⟩
    · rintro ⟨q1, q2, q⟩
      rcases q with ⟨q, -⟩ | ⟨q, -⟩ | ⟨-, q⟩ | ⟨q, -⟩ | ⟨q, -⟩ | ⟨q, -⟩ | ⟨q, -⟩
      · exfalso; omega
      · exfalso; omega
      · exact ⟨q1, q2, by omega⟩
      all_goals (exfalso; omega)
  · obtain ⟨r, e1, e2⟩ := fC_wn (S := S) hl hl hf (by omega) l2 l1 l2 f1 f2
    rw [h, if_neg (by omega), if_neg (by omega), if_neg (by omega), if_pos rfl, e1]
    simp only [ob_]
    refine ⟨r, rfl, fun i => ?_⟩
    rw [e2]
    have nb := nw_b (v := L) (len := L) (fw := F) (by omega) (by omega) l1
    constructor
    · rintro ⟨-, q⟩
      exact ⟨by omega, by omega, Or.inr (Or.inr (Or.inr (Or.inl ⟨by trivial, q⟩)))⟩
    · rintro ⟨q1, q2, q⟩
      rcases q with ⟨q, -⟩ | ⟨q, -⟩ | ⟨q, -⟩ | ⟨-, q⟩ | ⟨q, -⟩ | ⟨q, -⟩ | ⟨q, -⟩
      · exfalso; omega
      · exfalso; omega
      · exfalso; omega
      · exact ⟨by omega, q⟩
      all_goals (exfalso; omega)
  · have k := k3 h
    obtain ⟨r, e1, e2⟩ := fC_wn (S := S) (v := S.1 a 2) (V := (S.1 a 2).toInt.toNat) (by omega) hl hf (by omega) (by omega) l1 l2 f1 f2
    rw [h, if_neg (by omega), if_neg (by omega), if_neg (by omega), if_neg (by omega), if_pos rfl, e1]
    simp only [ob_]
    refine ⟨r, rfl, fun i => ?_⟩
    rw [e2]
    constructor
    · rintro ⟨q0, q⟩
      have nb := nw_b (fw := F) (show 1 ≤ (S.1 a 2).toInt.toNat by omega) q0 l1
      exact ⟨by omega, by omega, Or.inr (Or.inr (Or.inr (Or.inr (Or.inl ⟨by trivial, by omega, q⟩))))⟩
    · rintro ⟨q1, q2, q⟩
      rcases q with ⟨q, -⟩ | ⟨q, -⟩ | ⟨q, -⟩ | ⟨q, -⟩ | ⟨-, q, q'⟩ | ⟨q, -⟩ | ⟨q, -⟩
      · exfalso; omega
      · exfalso; omega
      · exfalso; omega
      · exfalso; omega
      · exact ⟨by omega, q'⟩
      all_goals (exfalso; omega)
  · have k := k4 (by omega)
    have ev : (S.1 a 2 - f).toInt = (S.1 a 2).toInt - F := by
      rw [Int32.toInt_sub, hf]
      exact bs32 (by omega) (by omega)
    rw [h, if_neg (by omega), if_neg (by omega), if_neg (by omega), if_neg (by omega), if_neg (by omega), fFM (by decide) (by rw [ev]; omega) (by rw [ev]; omega) (by decide), ev]
    simp only [ob_, jl_, Int32.reduceToInt, if_true]
    have ed : (1 + Int32.ofInt (((S.1 a 2).toInt - F) % 7)).toInt = 1 + ((S.1 a 2).toInt - F) % 7 := by
      rw [Int32.toInt_add, tI (by omega) (by omega)]
      exact bs32 (by simp only [Int32.reduceToInt]; omega) (by simp only [Int32.reduceToInt]; omega)
    generalize 1 + Int32.ofInt (((S.1 a 2).toInt - F) % 7) = d at *
    have e0 : (d + (((l - d) / 7) * 7)).toInt = d.toInt + (L - d.toInt) / 7 * 7 := by
      simp (disch := omega) only [Int32.toInt_add, Int32.toInt_sub, Int32.toInt_mul, Int32.toInt_div, hl, bs32, td_, Int32.reduceToInt]
    obtain ⟨r, e1, e2⟩ := fC_bitOf (S := S) (d := d + (((l - d) / 7) * 7)) hl (by omega) (by rw [e0]; omega)
    rw [e1]
    simp only [ob_]
    refine ⟨r, rfl, fun i => ?_⟩
    rw [e2, e0, ed]
    unfold wdn
    constructor
    · rintro ⟨q1, q2, q3⟩
      refine ⟨q1, q2, Or.inr (Or.inr (Or.inr (Or.inr (Or.inr (Or.inl ⟨by trivial, by omega, by omega⟩)))))⟩
    · rintro ⟨q1, q2, q⟩
      rcases q with ⟨q, -⟩ | ⟨q, -⟩ | ⟨q, -⟩ | ⟨q, -⟩ | ⟨q, -⟩ | ⟨-, q, q'⟩ | ⟨q, -⟩
      · exfalso; omega
      · exfalso; omega
      · exfalso; omega
      · exfalso; omega
      · exfalso; omega
      · exact ⟨q1, q2, by omega⟩
      · exfalso; omega
  · have k := k4 (by omega)
    have kn := k5 h
    have ev : (S.1 a 2 - f).toInt = (S.1 a 2).toInt - F := by
      rw [Int32.toInt_sub, hf]
      exact bs32 (by omega) (by omega)
    rw [h, if_neg (by omega), if_neg (by omega), if_neg (by omega), if_neg (by omega), if_neg (by omega), fFM (by decide) (by rw [ev]; omega) (by rw [ev]; omega) (by decide), ev]
    simp only [ob_, jl_, Int32.reduceToInt]
    rw [if_neg (by omega)]
    have ed : (1 + Int32.ofInt (((S.1 a 2).toInt - F) % 7)).toInt = 1 + ((S.1 a 2).toInt - F) % 7 := by
      rw [Int32.toInt_add, tI (by omega) (by omega)]
      exact bs32 (by simp only [Int32.reduceToInt]; omega) (by simp only [Int32.reduceToInt]; omega)
    generalize 1 + Int32.ofInt (((S.1 a 2).toInt - F) % 7) = d at *
    have e0 : (d + (7 * (S.1 a 3 - 1))).toInt = d.toInt + 7 * ((S.1 a 3).toInt - 1) := by
      simp (disch := omega) only [Int32.toInt_add, Int32.toInt_sub, Int32.toInt_mul, bs32, Int32.reduceToInt]
    obtain ⟨r, e1, e2⟩ := fC_bitOf (S := S) (d := d + (7 * (S.1 a 3 - 1))) hl (by omega) (by rw [e0]; omega)
    rw [e1]
    simp only [ob_]
    refine ⟨r, rfl, fun i => ?_⟩
    rw [e2, e0, ed]
    unfold wdn
    constructor
    · rintro ⟨q1, q2, q3⟩
      refine ⟨q1, q2, Or.inr (Or.inr (Or.inr (Or.inr (Or.inr (Or.inr ⟨by trivial, by omega, by omega⟩)))))⟩
    · rintro ⟨q1, q2, q⟩
      rcases q with ⟨q, -⟩ | ⟨q, -⟩ | ⟨q, -⟩ | ⟨q, -⟩ | ⟨q, -⟩ | ⟨q, -⟩ | ⟨-, q, q'⟩
      · exfalso; omega
      · exfalso; omega
      · exfalso; omega
      · exfalso; omega
      · exfalso; omega
      · exfalso; omega
      · exact ⟨q1, q2, by omega⟩
end JF_1
