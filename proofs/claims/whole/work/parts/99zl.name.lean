section JZ_1
variable {S T C C' M M' : jS} {n p s f X Yn N : Nat} {c e lo hi x1 : Int32}
/-- the name j of the list X stands at the place -/
def nm (C : jS) (p X j : Nat) : Prop := C.1 26 p = sc_ X (3 * j) ∧ C.1 26 (p + 1) = sc_ X (3 * j + 1) ∧ C.1 26 (p + 2) = sc_ X (3 * j + 2)
/-- the lists of names -/
def nl (X Yn N : Nat) : Prop := (X = 3 ∧ Yn = 428 ∧ N = 12) ∨ (X = 4 ∧ Yn = 429 ∧ N = 7)
theorem nl_3 : ∀ j : Fin 12, ∀ i : Fin 3, sc_ (5 + j.val) i.val = sc_ 3 (3 * j.val + i.val) := by decide +kernel
theorem nl_4 : ∀ j : Fin 7, ∀ i : Fin 3, sc_ (17 + j.val) i.val = sc_ 4 (3 * j.val + i.val) := by decide +kernel
theorem nl_b3 : ∀ i : Fin 36, (sc_ 3 i.val &&& 255) = sc_ 3 i.val ∧ 65 ≤ (sc_ 3 i.val).toInt ∧ (sc_ 3 i.val).toInt ≤ 90 := by decide +kernel
theorem nl_b4 : ∀ i : Fin 21, (sc_ 4 i.val &&& 255) = sc_ 4 i.val ∧ 65 ≤ (sc_ 4 i.val).toInt ∧ (sc_ 4 i.val).toInt ≤ 90 := by decide +kernel
theorem nl_n (h : nl X Yn N) : N ≤ 12 ∧ sl_ X = 3 * N ∧ ml_ Yn = N := by
  rcases h with ⟨rfl, rfl, rfl⟩ | ⟨rfl, rfl, rfl⟩
  · exact ⟨by decide, by decide, by decide⟩
  · exact ⟨by decide, by decide, by decide⟩
theorem nl_s (h : nl X Yn N) {j i : Nat} (hj : j < N) (hi : i < 3) : sl_ (me_ Yn j) = 3 ∧ sc_ (me_ Yn j) i = sc_ X (3 * j + i) := by
  rcases h with ⟨rfl, rfl, rfl⟩ | ⟨rfl, rfl, rfl⟩
  · refine ⟨?_, nl_3 ⟨j, hj⟩ ⟨i, hi⟩⟩
    have : ∀ j : Fin 12, sl_ (me_ 428 j.val) = 3 := by decide +kernel
    exact this ⟨j, hj⟩
  · refine ⟨?_, nl_4 ⟨j, hj⟩ ⟨i, hi⟩⟩
    have : ∀ j : Fin 7, sl_ (me_ 429 j.val) = 3 := by decide +kernel
    exact this ⟨j, hj⟩
theorem nl_b (h : nl X Yn N) {i : Nat} (hi : i < 3 * N) : (sc_ X i &&& 255) = sc_ X i ∧ 65 ≤ (sc_ X i).toInt ∧ (sc_ X i).toInt ≤ 90 := by
  rcases h with ⟨rfl, rfl, rfl⟩ | ⟨rfl, rfl, rfl⟩
  · exact nl_b3 ⟨i, hi⟩
  · exact nl_b4 ⟨i, hi⟩
theorem adN {x y : Int32} {a b : Nat} (h1 : x.toInt = a) (h2 : y.toInt = b) (hb : a + b < 2147483648) : (x + y).toInt = ((a + b : Nat) : Int) := adI h1 h2 hb
/-- the class looks for a name -/
theorem lT_tn (hl : nl X Yn N) (h : tx C M n p) (hp : p + 3 ≤ n) : ∀ (f : Nat) (x3 : Int32) (j : Nat), x3.toInt = ((3 * j : Nat) : Int) → j ≤ N → N - j < f → (∀ i, i < j → ¬ nm C p X i) → (∃ (x : Int32) (j' : Nat), j' < N ∧ nm C p X j' ∧ (∀ i, i < j' → ¬ nm C p X i) ∧ x.toInt = j' ∧ L_T_takeName_29 f X 1 x3 C = some (x, w_i C 25 2 (C.1 25 2 + 3))) ∨ ((∀ i, i < N → ¬ nm C p X i) ∧ L_T_takeName_29 f X 1 x3 C = some (-1, C)) := by
  obtain ⟨n1, n2, n3⟩ := nl_n hl
  have hpos := h.2.2.2.2.1
  have hn := h.1
  have p1 : (C.1 25 2 + 1).toInt = ((p + 1 : Nat) : Int) := p1I hpos (by omega)
  have p2 : (C.1 25 2 + 2).toInt = ((p + 2 : Nat) : Int) := adN hpos rfl (by omega)
  intro f
  induction f with
  | zero => intro x3 j _ _ q; omega
  | succ f ih =>
    intro x3 j h3 hj hf hno
    have h33 : (x3 + 3).toInt = ((3 * (j + 1) : Nat) : Int) := by rw [adN h3 (b := 3) rfl (by omega)]; congr 1
    have h31 : (x3 + 1).toInt = ((3 * j + 1 : Nat) : Int) := p1I h3 (by omega)
    have h32 : (x3 + 2).toInt = ((3 * j + 2 : Nat) : Int) := adN h3 rfl (by omega)
    have hs : (Int32.ofNat (sl_ X)).toInt = ((3 * N : Nat) : Int) := by rw [n2]; exact Int32.toInt_ofNat_of_lt (by omega)
    unfold L_T_takeName_29
    rw [if_neg (by decide)]
    by_cases e : j = N
    · rw [if_pos (Int32.lt_iff_toInt_lt.mpr (by rw [hs, h33]; omega))]
      exact Or.inr ⟨e ▸ hno, rfl⟩
    · have jN : j < N := by omega
      rw [if_neg (fun w => by have := Int32.lt_iff_toInt_lt.mp w; rw [hs, h33] at this; omega)]
      have nx : ¬ nm C p X j → _ := fun w => ih (x3 + 3) (j + 1) h33 (by omega) (by omega) (fun i hi => by
        by_cases v : i < j
        · exact hno i v
        · rw [show i = j by omega]; exact w)
      rw [j_qN hpos (by omega), n2, j_qN h3 (by omega), clN hpos, clN h3]
      by_cases a0 : C.1 26 p = sc_ X (3 * j)
      · rw [if_pos a0, j_qN p1 (by omega), j_qN h31 (by omega), clN p1, clN h31]
        by_cases a1 : C.1 26 (p + 1) = sc_ X (3 * j + 1)
        · rw [if_pos a1, j_qN p2 (by omega), j_qN h32 (by omega), clN p2, clN h32]
          by_cases a2 : C.1 26 (p + 2) = sc_ X (3 * j + 2)
          · rw [if_pos a2, jl_]
            refine Or.inl ⟨x3 / 3, j, jN, ⟨a0, a1, a2⟩, hno, ?_, rfl⟩
            rw [Int32.toInt_div, h3]
            simp only [Int32.reduceToInt]
            rw [Int.tdiv_eq_ediv_of_nonneg (by omega), bs32 (by omega) (by omega)]
            omega
          · rw [if_neg a2]
            exact nx (fun w => a2 w.2.2)
        · rw [if_neg a1]
          exact nx (fun w => a1 w.2.1)
      · rw [if_neg a0]
        exact nx (fun w => a0 w.1)
/-- the model looks at one name -/
theorem lM_51 (hl : nl X Yn N) (h : tx C M n p) {kt : Int32 → Nat → Int32 → jS → Option ((Int32 ⊕ Nat) × jS)} {x3 : Int32} {j : Nat} (h3 : x3.toInt = j) (hj : j < N) : (p + 3 ≤ n ∧ nm C p X j ∧ L_M_value_51 kt ju_ x1 Yn x3 1 0 M = some (.inl (x3 + 1), w_i M 215 7 (M.1 215 7 + 3))) ∨ (¬ (p + 3 ≤ n ∧ nm C p X j) ∧ L_M_value_51 kt ju_ x1 Yn x3 1 0 M = kt x1 Yn (x3 + 1) M) := by
  obtain ⟨n1, n2, n3⟩ := nl_n hl
  have hpos := h.2.2.2.2.2.1
  have hlen := h.2.2.2.1
  have hn := h.1
  have hp := h.2.1
  -- one sign
  have step : ∀ (f : Nat) (x4 x5 : Int32) (i : Nat), x5.toInt = i → i < 3 → L_M_value_51 kt (f + 1) x1 Yn x3 x4 x5 M = if p + i < n then (if C.1 26 (p + i) = sc_ X (3 * j + i) then L_M_value_51 kt f x1 Yn x3 x4 (x5 + 1) M else L_M_value_51 kt f x1 Yn x3 0 (x5 + 1) M) else L_M_value_51 kt f x1 Yn x3 0 (x5 + 1) M := by
    intro f x4 x5 i h5 hi
    have pi : (M.1 215 7 + x5).toInt = ((p + i : Nat) : Int) := adN hpos h5 (by omega)
    obtain ⟨s1, s2⟩ := nl_s hl hj hi
    conv => lhs; unfold L_M_value_51
    rw [if_neg (by rw [geI (k := 3) (n := 3) rfl]; omega)]
    by_cases q : p + i < n
    · rw [if_pos q, if_neg (fun w => by have := Int32.le_iff_toInt_le.mp w; rw [hlen, pi] at this; omega), j_qN pi (by omega), n3, j_qN h3 hj, clN h3, s1, j_qN h5 hi, clN pi, clN h5, s2, ← (h.2.2.2.2.2.2.2 (p + i) q).1]
      rfl
    · rw [if_neg q, if_pos (Int32.le_iff_toInt_le.mpr (by rw [hlen, pi]; omega))]
      rfl
  have last : ∀ (f : Nat) (x4 : Int32), L_M_value_51 kt (f + 1) x1 Yn x3 x4 3 M = if x4 = 0 then kt x1 Yn (x3 + 1) M else some (.inl (x3 + 1), w_i M 215 7 (M.1 215 7 + 3)) := by
    intro f x4
    conv => lhs; unfold L_M_value_51
    rw [if_pos (by decide), jl_]
  have st0 := fun (x4 : Int32) => step 999999 x4 0 0 rfl (by omega)
  have st1 := fun (x4 : Int32) => step 999998 x4 1 1 rfl (by omega)
  have st2 := fun (x4 : Int32) => step 999997 x4 2 2 rfl (by omega)
  have la := fun (x4 : Int32) => last 999996 x4
  have z2 : L_M_value_51 kt 999998 x1 Yn x3 0 2 M = kt x1 Yn (x3 + 1) M := by
    rw [show (999998 : Nat) = 999997 + 1 from rfl, st2, show (2 : Int32) + 1 = 3 from rfl, show (999997 : Nat) = 999996 + 1 from rfl, la, if_pos rfl]
    simp only [ite_self]
  have z1 : L_M_value_51 kt 999999 x1 Yn x3 0 1 M = kt x1 Yn (x3 + 1) M := by
    rw [show (999999 : Nat) = 999998 + 1 from rfl, st1, show (1 : Int32) + 1 = 2 from rfl, z2]
    simp only [ite_self]
  rw [show ju_ = 999999 + 1 from rfl, st0, show (0 : Int32) + 1 = 1 from rfl, z1]
  by_cases q0 : p + 0 < n
  · rw [if_pos q0]
    by_cases a0 : C.1 26 (p + 0) = sc_ X (3 * j + 0)
    · rw [if_pos a0, show (999999 : Nat) = 999998 + 1 from rfl, st1, show (1 : Int32) + 1 = 2 from rfl, z2]
      by_cases q1 : p + 1 < n
      · rw [if_pos q1]
        by_cases a1 : C.1 26 (p + 1) = sc_ X (3 * j + 1)
        · rw [if_pos a1, show (999998 : Nat) = 999997 + 1 from rfl, st2, show (2 : Int32) + 1 = 3 from rfl, show (999997 : Nat) = 999996 + 1 from rfl, la, la, if_pos (show (0 : Int32) = 0 from rfl), if_neg (show ¬ (1 : Int32) = 0 by decide)]
          by_cases q2 : p + 2 < n
          · rw [if_pos q2]
            by_cases a2 : C.1 26 (p + 2) = sc_ X (3 * j + 2)
            · rw [if_pos a2]
              exact Or.inl ⟨by omega, ⟨a0, a1, a2⟩, rfl⟩
            · rw [if_neg a2]
              exact Or.inr ⟨fun w => a2 w.2.2.2, rfl⟩
          · rw [if_neg q2]
            exact Or.inr ⟨fun w => by omega, rfl⟩
        · rw [if_neg a1]
          exact Or.inr ⟨fun w => a1 w.2.2.1, rfl⟩
      · rw [if_neg q1]
        exact Or.inr ⟨fun w => by omega, rfl⟩
    · rw [if_neg a0]
      exact Or.inr ⟨fun w => a0 w.2.1, rfl⟩
  · rw [if_neg q0]
    exact Or.inr ⟨fun w => by omega, rfl⟩
theorem lM_39 (hl : nl X Yn N) (h : tx C M n p) : ∀ (f : Nat) (x3 : Int32) (j : Nat), x3.toInt = j → j ≤ N → N - j < f → (∀ i, i < j → ¬ (p + 3 ≤ n ∧ nm C p X i)) → (∃ (x : Int32) (j' : Nat), j' < N ∧ p + 3 ≤ n ∧ nm C p X j' ∧ (∀ i, i < j' → ¬ nm C p X i) ∧ x.toInt = ((j' + 1 : Nat) : Int) ∧ L_M_value_39 f x1 Yn x3 M = some (.inl x, w_i M 215 7 (M.1 215 7 + 3))) ∨ ((∀ i, i < N → ¬ (p + 3 ≤ n ∧ nm C p X i)) ∧ L_M_value_39 f x1 Yn x3 M = some (.inr 12, w_i M 215 3 (M.1 215 7))) := by
  obtain ⟨n1, n2, n3⟩ := nl_n hl
  intro f
  induction f with
  | zero => intro x3 j _ _ q; omega
  | succ f ih =>
    intro x3 j h3 hj hf hno
    unfold L_M_value_39
    rw [n3]
    have hN : (Int32.ofNat N).toInt = N := Int32.toInt_ofNat_of_lt (by omega)
    by_cases e : j = N
    · rw [if_pos (Int32.le_iff_toInt_le.mpr (by rw [hN, h3]; omega)), fM_bad, jxv_1]
      exact Or.inr ⟨e ▸ hno, rfl⟩
    · rw [if_neg (fun w => by have := Int32.le_iff_toInt_le.mp w; rw [hN, h3] at this; omega)]
      rcases lM_51 (x1 := x1) (kt := L_M_value_39 f) hl h h3 (by omega) with ⟨q1, q2, q3⟩ | ⟨q1, q2⟩
      · refine Or.inl ⟨x3 + 1, j, by omega, q1, q2, fun i hi w => hno i hi ⟨q1, w⟩, p1I h3 (by omega), q3⟩
      · rw [q2]
        refine ih (x3 + 1) (j + 1) (p1I h3 (by omega)) (by omega) (by omega) (fun i hi => ?_)
        by_cases v : i < j
        · exact hno i v
        · rw [show i = j by omega]; exact q1
end JZ_1
