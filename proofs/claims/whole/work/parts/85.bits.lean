section JD1
def bt (s : Int64) (i : Nat) : Bool := s.toBitVec.getLsbD i
theorem bt_ge {s : Int64} {i : Nat} (h : 64 ≤ i) : bt s i = false := BitVec.getLsbD_of_ge _ _ h
theorem bt_ext {x y : Int64} (h : ∀ i, i < 64 → bt x i = bt y i) : x = y := Int64.toBitVec_inj.mp (BitVec.eq_of_getLsbD_eq (fun i hi => h i hi))
theorem bt_and {x y : Int64} {i : Nat} : bt (x &&& y) i = (bt x i && bt y i) := by
  unfold bt
  rw [Int64.toBitVec_and, BitVec.getLsbD_and]
theorem bt_or {x y : Int64} {i : Nat} : bt (x ||| y) i = (bt x i || bt y i) := by
  unfold bt
  rw [Int64.toBitVec_or, BitVec.getLsbD_or]
theorem bt_0 {i : Nat} : bt 0 i = false := by
  unfold bt
  show (0#64).getLsbD i = false
  simp
theorem sh_k : ∀ k : Fin 64, ((((Int32.ofNat k.val).toInt64 &&& 63).toBitVec).smod (BitVec.ofNat 64 64)).toNat = k.val := by decide +kernel
theorem sh_ {l : Int32} {k : Nat} (h : l.toInt = k) (hk : k < 64) : (((l.toInt64 &&& 63).toBitVec).smod (BitVec.ofNat 64 64)).toNat = k := by
  have e : l = Int32.ofNat k := by
    rw [eqI, h, Int32.toInt_ofNat_of_lt (by omega)]
  rw [e]
  exact sh_k ⟨k, hk⟩
theorem bt_shl {s : Int64} {l : Int32} {k i : Nat} (h : l.toInt = k) (hk : k < 64) : bt (s <<< (l.toInt64 &&& 63)) i = (decide (i < 64) && !decide (i < k) && bt s (i - k)) := by
  unfold bt
  rw [Int64.toBitVec_shiftLeft, BitVec.shiftLeft_eq', BitVec.getLsbD_shiftLeft]
  have := sh_ h hk
  rw [show (BitVec.ofNat 64 64) = (64 : BitVec 64) from rfl] at this
  rw [this]
theorem bt_shr {s : Int64} {l : Int32} {k i : Nat} (h : l.toInt = k) (hk : k < 64) (hs : bt s 63 = false) : bt (s >>> (l.toInt64 &&& 63)) i = bt s (k + i) := by
  by_cases hi : i < 64
  · unfold bt at hs ⊢
    rw [Int64.toBitVec_shiftRight, BitVec.getLsbD_sshiftRight']
    have := sh_ h hk
    rw [show (BitVec.ofNat 64 64) = (64 : BitVec 64) from rfl] at this
    rw [this]
    have hm : s.toBitVec.msb = false := by rw [BitVec.msb_eq_getLsbD_last]; exact hs
    rw [hm]
    by_cases c : k + i < 64
    · simp [c, hi]
    · rw [BitVec.getLsbD_of_ge _ _ (by omega)]
      simp [c]
  · rw [bt_ge (by omega), bt_ge (by omega)]
theorem bt_srl {s : Int64} {l : Int32} {k i : Nat} (h : l.toInt = k) (hk : k < 64) : bt ((s >>> (l.toInt64 &&& 63)) <<< (l.toInt64 &&& 63)) i = (!decide (i < k) && bt s i) := by
  rw [bt_shl h hk]
  by_cases hi : i < 64
  · by_cases c : i < k
    · simp [c]
    · unfold bt
      rw [Int64.toBitVec_shiftRight, BitVec.getLsbD_sshiftRight']
      have := sh_ h hk
      rw [show (BitVec.ofNat 64 64) = (64 : BitVec 64) from rfl] at this
      rw [this]
      have e : k + (i - k) = i := by omega
      have d : ¬ 64 ≤ i - k := by omega
      simp [c, hi, e, d]
  · rw [bt_ge (s := s) (by omega)]
    simp [hi]
/-- so many ones -/
def on_ (n : Nat) : Int64 := Int64.ofNat (2 ^ n - 1)
theorem bt_on : ∀ n : Fin 64, ∀ i : Fin 64, bt (on_ n.val) i.val = decide (i.val < n.val) := by decide +kernel
theorem bt_on' {n i : Nat} (h : n < 64) : bt (on_ n) i = decide (i < n) := by
  by_cases c : i < 64
  · exact bt_on ⟨n, h⟩ ⟨i, c⟩
  · rw [bt_ge (by omega), decide_eq_false (by omega)]
def tw_ (n : Nat) : Int64 := Int64.ofNat (2 ^ n)
theorem bt_tw : ∀ n : Fin 64, ∀ i : Fin 64, bt (tw_ n.val) i.val = decide (i.val = n.val) := by decide +kernel
theorem tw_on : ∀ n : Fin 64, tw_ n.val - 1 = on_ n.val := by decide +kernel
theorem bt_1s {l : Int32} {k i : Nat} (h : l.toInt = k) (hk : k < 64) : bt ((1 : Int64) <<< (l.toInt64 &&& 63)) i = decide (i = k) := by
  rw [bt_shl h hk]
  have e : ∀ j, bt 1 j = decide (j = 0) := fun j => by
    unfold bt
    show (1#64).getLsbD j = _
    simp
  rw [e]
  by_cases c : i = k
  · subst c; simp [hk]
  · by_cases d : i < k
    · simp [d, c]
    · have : ¬ i - k = 0 := by omega
      simp [c, this]
theorem s1_tw {l : Int32} {k : Nat} (h : l.toInt = k) (hk : k < 64) : (1 : Int64) <<< (l.toInt64 &&& 63) = tw_ k := bt_ext (fun i hi => by rw [bt_1s h hk]; exact (bt_tw ⟨k, hk⟩ ⟨i, hi⟩).symm)
theorem low_b {v : Int64} {j : Nat} (hj : j < 64) (h1 : bt v j = true) (h2 : ∀ i, i < j → bt v i = false) : (v &&& (-v)) - 1 = on_ j := by
  have e : v &&& (-v) = tw_ j := by
    apply bt_ext
    intro i hi
    rw [bt_and, show bt (tw_ j) i = decide (i = j) from bt_tw ⟨j, hj⟩ ⟨i, hi⟩]
    have hn : bt (-v) i = (bt v i ^^ (decide (i < 64) && decide (∃ m, m < i ∧ bt v m = true))) := by
      unfold bt
      rw [Int64.toBitVec_neg, BitVec.getLsbD_neg]
    rw [hn]
    by_cases c : i = j
    · subst c
      have : ¬ ∃ m, m < i ∧ bt v m = true := by
        rintro ⟨m, m1, m2⟩
        rw [h2 m m1] at m2
        cases m2
      simp [h1, this]
    · by_cases d : i < j
      · simp [h2 i d, c]
      · have : ∃ m, m < i ∧ bt v m = true := ⟨j, by omega, h1⟩
        simp [this, hi, c]
  rw [e]
  exact tw_on ⟨j, hj⟩
def bcn (p0 : Int64) : Int32 :=
  let v1 := p0 - (((p0.toUInt64 >>> ((1 : Int32).toInt64.toUInt64 &&& Int64.toUInt64 63)).toInt64) &&& 6148914691236517205)
  let v2 := (v1 &&& 3689348814741910323) + (((v1.toUInt64 >>> ((2 : Int32).toInt64.toUInt64 &&& Int64.toUInt64 63)).toInt64) &&& 3689348814741910323)
  let v3 := (v2 + ((v2.toUInt64 >>> ((4 : Int32).toInt64.toUInt64 &&& Int64.toUInt64 63)).toInt64)) &&& 1085102592571150095
  let v4 := v3 + ((v3.toUInt64 >>> ((8 : Int32).toInt64.toUInt64 &&& Int64.toUInt64 63)).toInt64)
  let v5 := v4 + ((v4.toUInt64 >>> ((16 : Int32).toInt64.toUInt64 &&& Int64.toUInt64 63)).toInt64)
  let v6 := v5 + ((v5.toUInt64 >>> ((32 : Int32).toInt64.toUInt64 &&& Int64.toUInt64 63)).toInt64)
  v6.toInt32 &&& 127
theorem fbc {x : Int64} {S : jS} : F_Long_bitCount x S = some (bcn x) := rfl
theorem bcn_on : ∀ n : Fin 64, bcn (on_ n.val) = Int32.ofNat n.val := by decide +kernel
variable {S : jS} {s : Int64} {l : Int32} {k : Nat}
theorem fst_b {P : Nat → Bool} {k : Nat} : ∀ n, (∃ j, k ≤ j ∧ j < k + n ∧ P j = true ∧ ∀ i, k ≤ i → i < j → P i = false) ∨ ∀ i, k ≤ i → i < k + n → P i = false := by
  intro n
  induction n with
  | zero => exact Or.inr (fun i h1 h2 => by omega)
  | succ n ih =>
    rcases ih with ⟨j, j1, j2, j3, j4⟩ | h
    · exact Or.inl ⟨j, j1, by omega, j3, j4⟩
    · cases c : P (k + n) with
      | true => exact Or.inl ⟨k + n, by omega, by omega, c, fun i i1 i2 => h i i1 i2⟩
      | false =>
        refine Or.inr (fun i i1 i2 => ?_)
        by_cases e : i = k + n
        · rw [e]; exact c
        · exact h i i1 (by omega)
theorem fC_low (hl : l.toInt = k) (hk : k < 64) : (∃ j, k ≤ j ∧ j < 64 ∧ bt s j = true ∧ (∀ i, k ≤ i → i < j → bt s i = false) ∧ F_C_lowestBit s l S = some (Int32.ofNat j)) ∨ ((∀ i, k ≤ i → bt s i = false) ∧ F_C_lowestBit s l S = some (-1)) := by
  unfold F_C_lowestBit
  simp only [jl_]
  have hb := fun i => bt_srl (s := s) (i := i) hl hk
  generalize (s >>> (l.toInt64 &&& 63)) <<< (l.toInt64 &&& 63) = v at *
  rcases fst_b (P := bt s) (k := k) (64 - k) with ⟨j, j1, j2, j3, j4⟩ | h
  · left
    refine ⟨j, j1, by omega, j3, j4, ?_⟩
    have v1 : bt v j = true := by
      rw [hb, j3]
      simp; omega
    have v2 : ∀ i, i < j → bt v i = false := fun i hi => by
      rw [hb]
      by_cases c : i < k
      · simp [c]
      · rw [j4 i (by omega) hi]; simp
    have hne : ¬ v = 0 := fun q => by
      rw [q, bt_0] at v1
      cases v1
    rw [if_neg hne, low_b (by omega) v1 v2, fbc]
    simp only [ob_]
    rw [show bcn (on_ j) = Int32.ofNat j from bcn_on ⟨j, by omega⟩]
  · right
    have h' : ∀ i, k ≤ i → bt s i = false := fun i hi => by
      by_cases c : i < 64
      · exact h i hi (by omega)
      · exact bt_ge (by omega)
    refine ⟨h', ?_⟩
    have : v = 0 := bt_ext (fun i _ => by
      rw [hb, bt_0]
      by_cases c : i < k
      · simp [c]
      · rw [h' i (by omega)]; simp)
    rw [if_pos this]
theorem or_sh {r v : Int64} {m : Int32} {n : Nat} (hm : m.toInt = n) (hn : n < 64) (h63 : bt v 63 = false) (h : ∀ i, bt v i = true ↔ ∃ d, d < n ∧ bt r (i + d) = true) : ∀ i, bt (v ||| (v >>> (m.toInt64 &&& 63))) i = true ↔ ∃ d, d < n + n ∧ bt r (i + d) = true := by
  intro i
  rw [bt_or, bt_shr hm hn h63, Bool.or_eq_true, h, h]
  constructor
  · rintro (⟨d, d1, d2⟩ | ⟨d, d1, d2⟩)
    · exact ⟨d, by omega, d2⟩
    · exact ⟨n + d, by omega, by rw [← d2]; congr 1; omega⟩
  · rintro ⟨d, d1, d2⟩
    by_cases c : d < n
    · exact Or.inl ⟨d, c, d2⟩
    · refine Or.inr ⟨d - n, by omega, ?_⟩
      rw [← d2]
      congr 1
      omega
theorem n63 {r v : Int64} {n : Nat} (hr : bt r 63 = false) (h : ∀ i, bt v i = true ↔ ∃ d, d < n ∧ bt r (i + d) = true) : bt v 63 = false := by
  cases c : bt v 63 with
  | false => rfl
  | true =>
    obtain ⟨d, -, d2⟩ := (h 63).mp c
    by_cases e : d = 0
    · rw [e] at d2
      rw [hr] at d2
      cases d2
    · rw [bt_ge (by omega)] at d2
      cases d2
theorem lst_b {P : Nat → Bool} : ∀ n, (∃ j, j < n ∧ P j = true ∧ ∀ i, j < i → i < n → P i = false) ∨ ∀ i, i < n → P i = false := by
  intro n
  induction n with
  | zero => exact Or.inr (fun i h => by omega)
  | succ n ih =>
    cases c : P n with
    | true => exact Or.inl ⟨n, by omega, c, fun i h1 h2 => by omega⟩
    | false =>
      rcases ih with ⟨j, j1, j2, j3⟩ | h
      · refine Or.inl ⟨j, by omega, j2, fun i i1 i2 => ?_⟩
        by_cases e : i = n
        · rw [e]; exact c
        · exact j3 i i1 (by omega)
      · refine Or.inr (fun i hi => ?_)
        by_cases e : i = n
        · rw [e]; exact c
        · exact h i (by omega)
theorem fC_high (hl : l.toInt = k) (hk : k < 63) : (∃ j, j ≤ k ∧ bt s j = true ∧ (∀ i, j < i → i ≤ k → bt s i = false) ∧ F_C_highestBit s l S = some (Int32.ofNat j)) ∨ ((∀ i, i ≤ k → bt s i = false) ∧ F_C_highestBit s l S = some (-1)) := by
  have e1 : (l + 1).toInt = (k + 1 : Nat) := by
    rw [Int32.toInt_add, hl, bs32 (by simp only [Int32.reduceToInt]; omega) (by simp only [Int32.reduceToInt]; omega)]
    simp only [Int32.reduceToInt]; omega
  unfold F_C_highestBit F_C_bitsUpTo
  rw [if_pos (show (0 : Int32) ≤ l from Int32.le_iff_toInt_le.mpr (by simp only [Int32.reduceToInt]; omega)), s1_tw e1 (by omega), show tw_ (k + 1) - 1 = on_ (k + 1) from tw_on ⟨k + 1, by omega⟩]
  simp only [ob_, jl_]
  have hr : ∀ i, bt (s &&& on_ (k + 1)) i = (bt s i && decide (i < k + 1)) := fun i => by rw [bt_and, bt_on' (by omega)]
  generalize s &&& on_ (k + 1) = r at *
  have r63 : bt r 63 = false := by rw [hr, decide_eq_false (by omega)]; simp
  have h0 : ∀ i, bt r i = true ↔ ∃ d, d < 1 ∧ bt r (i + d) = true := fun i => ⟨fun q => ⟨0, by omega, q⟩, fun ⟨d, d1, d2⟩ => by rwa [show d = 0 by omega] at d2⟩
  have h1 := or_sh (m := 1) (n := 1) rfl (by omega) r63 h0
  have g1 := n63 r63 h1
  generalize r ||| (r >>> ((1 : Int32).toInt64 &&& 63)) = v1 at *
  have h2 := or_sh (m := 2) (n := 2) rfl (by omega) g1 h1
  have g2 := n63 r63 h2
  generalize v1 ||| (v1 >>> ((2 : Int32).toInt64 &&& 63)) = v2 at *
  have h3 := or_sh (m := 4) (n := 4) rfl (by omega) g2 h2
  have g3 := n63 r63 h3
  generalize v2 ||| (v2 >>> ((4 : Int32).toInt64 &&& 63)) = v3 at *
  have h4 := or_sh (m := 8) (n := 8) rfl (by omega) g3 h3
  have g4 := n63 r63 h4
  generalize v3 ||| (v3 >>> ((8 : Int32).toInt64 &&& 63)) = v4 at *
  have h5 := or_sh (m := 16) (n := 16) rfl (by omega) g4 h4
  have g5 := n63 r63 h5
  generalize v4 ||| (v4 >>> ((16 : Int32).toInt64 &&& 63)) = v5 at *
  have h6 := or_sh (m := 32) (n := 32) rfl (by omega) g5 h5
  generalize v5 ||| (v5 >>> ((32 : Int32).toInt64 &&& 63)) = v6 at *
  rw [fbc]
  simp only [ob_]
  rcases lst_b (P := bt s) (k + 1) with ⟨j, j1, j2, j3⟩ | h
  · left
    refine ⟨j, by omega, j2, fun i i1 i2 => j3 i i1 (by omega), ?_⟩
    have hv : v6 = on_ (j + 1) := bt_ext (fun i hi => by
      rw [bt_on' (by omega)]
      by_cases c : i < j + 1
      · rw [decide_eq_true c]
        refine (h6 i).mpr ⟨j - i, by omega, ?_⟩
        rw [show i + (j - i) = j by omega, hr, j2]
        simp [j1]
      · rw [decide_eq_false c]
        cases q : bt v6 i with
        | false => rfl
        | true =>
          obtain ⟨d, -, d2⟩ := (h6 i).mp q
          rw [hr] at d2
          by_cases e : i + d < k + 1
          · rw [j3 _ (by omega) e] at d2
            simp at d2
          · simp [e] at d2)
    rw [hv, show bcn (on_ (j + 1)) = Int32.ofNat (j + 1) from bcn_on ⟨j + 1, by omega⟩]
    refine congrArg some ?_
    rw [eqI, Int32.toInt_sub, Int32.toInt_ofNat_of_lt (by omega), Int32.toInt_ofNat_of_lt (by omega), bs32 (by simp only [Int32.reduceToInt]; omega) (by simp only [Int32.reduceToInt]; omega)]
    simp only [Int32.reduceToInt]; omega
  · right
    refine ⟨fun i hi => h i (by omega), ?_⟩
    have hv : v6 = on_ 0 := bt_ext (fun i hi => by
      rw [bt_on' (by omega)]
      cases q : bt v6 i with
      | false => simp
      | true =>
        obtain ⟨d, -, d2⟩ := (h6 i).mp q
        rw [hr] at d2
        by_cases e : i + d < k + 1
        · rw [h _ e] at d2
          simp at d2
        · simp [e] at d2)
    rw [hv, show bcn (on_ 0) = Int32.ofNat 0 from bcn_on ⟨0, by omega⟩]
    rfl
theorem fC_high0 (hl : l.toInt < 0) : F_C_highestBit s l S = some (-1) := by
  unfold F_C_highestBit
  rw [if_neg (fun q : (0 : Int32) ≤ l => by rw [Int32.le_iff_toInt_le] at q; simp only [Int32.reduceToInt] at q; omega)]
end JD1
