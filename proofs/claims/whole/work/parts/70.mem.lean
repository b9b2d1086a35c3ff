section JG
/-! the heap of the law's loop as a memory: ints, longs and addresses by cell and place -/
abbrev jS : Type := (Nat → Nat → Int32) × (Nat → Nat → Int64) × (Nat → Nat → Nat)
abbrev jR : Type := Option Value ⊕ Nat
def w_i (S : jS) (a k : Nat) (v : Int32) : jS := (fun b => if b = a then upd (S.1 b) k v else S.1 b, S.2)
def w_l (S : jS) (a k : Nat) (v : Int64) : jS := (S.1, fun b => if b = a then vp_updL (S.2.1 b) k v else S.2.1 b, S.2.2)
def w_r (S : jS) (a k v : Nat) : jS := (S.1, S.2.1, fun b => if b = a then va_up (S.2.2 b) k v else S.2.2 b)
def cp_f (sp dp n : Nat) (f : Nat → Int32) : Nat → Int32 := fun j => if dp ≤ j ∧ j < dp + n then f (j - dp + sp) else f j
def w_c (S : jS) (a sp dp n : Nat) : jS := (fun b => if b = a then cp_f sp dp n (S.1 b) else S.1 b, S.2)
def jz_ (a : Nat) : Bool := decide (a = 35) || decide (a = 40) || (decide (51 ≤ a) && decide (a < 75) && decide (a % 3 = 0))
def jy_ (a : Nat) : Bool := decide (a = 36) || decide (a = 37) || decide (a = 41) || decide (a = 42) || (decide (51 ≤ a) && decide (a < 75) && !decide (a % 3 = 0))
def jc_ (a : Nat) : Bool := decide (a = 33) || decide (a = 43) || (decide (75 ≤ a) && decide (a < 107) && decide (a % 2 = 1))
def jh_ (a : Nat) : Bool := decide (a = 30) || decide (a = 38) || (decide (107 ≤ a) && decide (a < 115) && decide (a % 2 = 1))
def jb_ (a : Nat) : Bool := decide (115 ≤ a) && decide (a < 215)
/-- the room of a calendar's days -/
def hn_ (a : Nat) : Nat := if a < 100 then 0 else 200
def lz_ (a : Nat) (i : Nat → Int32) (l : Nat → Int64) : Nat × List Value := (2, [.int (i 0), .int (i 1), .ref (a + 1), .ref (a + 2), .long (l 4), .long (l 5), .int (i 6)])
def ly_ (i : Nat → Int32) : Nat × List Value := (3, [.int (i 0), .int (i 1), .int (i 2), .int (i 3)])
def lc_ (a : Nat) (i : Nat → Int32) : Nat × List Value := (4, [.ref (a + 1), .int (i 1), .int (i 2), .int (i 3)])
def lh_ (a : Nat) (i : Nat → Int32) : Nat × List Value := (5, [.ref (a + 1), .int (i 1)])
def lb_ (i : Nat → Int32) (l : Nat → Int64) : Nat × List Value := (7, [.int (i 0), .int (i 1), .int (i 2), .int (i 3), .long (l 4), .long (l 5), .long (l 6), .long (l 7), .int (i 8), .int (i 9), .int (i 10), .int (i 11), .int (i 12), .int (i 13)])
def l0_ (i : Nat → Int32) (l : Nat → Int64) (r : Nat → Nat) : Nat × List Value := (0, [.ref 25, .ref 27, .ref 28, .ref 29, .ref 30, .ref 32, .ref (r 6), .ref (r 7), .long (l 8), .ref 45, .int (i 10), .int (i 11), .int (i 12), .ref 46, .int (i 14), .int (i 15), .int (i 16), .ref 47])
def l9_ (i : Nat → Int32) (l : Nat → Int64) : Nat × List Value := (9, [.int (i 0), .ref 216, .int (i 2), .int (i 3), .int (i 4), .int (i 5), .int (i 6), .int (i 7), .ref 217, .ref 218, .ref 219, .ref 228, .ref 237, .ref 238, .ref 239, .ref 368, .ref 376, .ref 377, .ref 394, .ref 411, .int (i 20), .int (i 21), .int (i 22), .ref 428, .ref 429, .ref 430, .ref 435, .ref 436, .ref 437, .ref 438, .ref 439, .ref 440, .ref 441, .ref 442, .ref 443, .ref 444, .ref 445, .ref 446, .ref 447, .ref 448, .ref 449, .long (l 41), .int (i 42), .long (l 43), .long (l 44), .int (i 45), .ref 450, .ref 451, .ref 452, .int (i 49)])
def l1_ (a : Nat) (i : Nat → Int32) (l : Nat → Int64) (r : Nat → Nat) : Nat × List Value :=
  if a = 24 then l0_ i l r else if a = 25 then (1, [.ref 26, .int (i 1), .int (i 2), .int (i 3)]) else if a = 26 then (100, jx_vi 400 i)
  else if a = 27 then (104, jx_vr 8 r) else if a = 28 then (105, jx_vr 16 r) else if a = 29 then (106, jx_vr 4 (fun j => 107 + 2 * j))
  else if a = 32 then (6, [.ref (r 0), .ref (r 1), .ref (r 2)]) else if a = 45 then (107, jx_vr 100 (fun j => 115 + j)) else if a = 46 then (102, jx_vi 8 i)
  else if a = 47 then (8, [.ref 48, .ref 49, .ref 50, .int (i 3), .long (l 4)]) else if a = 49 then (102, jx_vi 500 i) else (103, jx_vl 500 l)
def l2_ (a : Nat) (i : Nat → Int32) (l : Nat → Int64) : Nat × List Value :=
  if a = 215 then l9_ i l else if a = 216 then (100, jx_vi 400 i) else if a < 219 then (102, jx_vi 8 i) else if a = 219 then (109, jx_vr 8 (fun j => 220 + j))
  else if a < 228 then (103, jx_vl 660 l) else if a = 228 then (110, jx_vr 8 (fun j => 229 + j)) else if a < 237 then (101, jx_vi 660 i) else if a < 239 then (102, jx_vi 8 i)
  else if a = 239 then (111, jx_vr 16 (fun j => 240 + j * 8)) else if a < 368 then (if a % 8 = 0 then (110, jx_vr 7 (fun j => a + 1 + j)) else (101, jx_vi 330 i))
  else if a = 368 then (110, jx_vr 7 (fun j => 369 + j)) else if a < 376 then (101, jx_vi 330 i) else if a = 376 then (101, jx_vi 16 i)
  else if a = 377 then (112, jx_vr 16 (fun j => 378 + j)) else if a < 394 then (102, jx_vi 2 i) else if a = 394 then (112, jx_vr 16 (fun j => 395 + j)) else if a < 411 then (102, jx_vi 2 i)
  else if a = 411 then (112, jx_vr 16 (fun j => 412 + j)) else if a < 428 then (102, jx_vi 2 i) else if a = 428 then (108, jx_vr 12 (fun j => 5 + j)) else if a = 429 then (108, jx_vr 7 (fun j => 17 + j))
  else if a = 430 then (110, jx_vr 4 (fun j => 431 + j)) else if a < 435 then (101, jx_vi 120530 i) else if a = 435 then (102, jx_vi 4 i) else if a < 438 then (102, jx_vi 100 i)
  else if a < 444 then (103, jx_vl 100 l) else if a < 450 then (102, jx_vi 100 i) else if a = 451 then (102, jx_vi 500 i) else (103, jx_vl 500 l)
def j_cl (a : Nat) (i : Nat → Int32) (l : Nat → Int64) (r : Nat → Nat) : Nat × List Value :=
  if jz_ a = true then lz_ a i l else if jy_ a = true then ly_ i else if jc_ a = true then lc_ a i else if jc_ (a - 1) = true then (103, jx_vl 12 l) else if jh_ a = true then lh_ a i
  else if jh_ (a - 1) = true then (102, jx_vi (hn_ a) i) else if jb_ a = true then lb_ i l else if a < 51 then l1_ a i l r else l2_ a i l
/-- the heap is this memory (q: an array of six ints beside it, or 0) -/
def mm (q : Nat) (S : jS) (M : jx_H) : Prop := 453 < M.length ∧ (∀ a, 24 ≤ a → a < 453 → M[a]? = some (j_cl a (S.1 a) (S.2.1 a) (S.2.2 a))) ∧ (∀ a, 1 ≤ a → a < 24 → M[a]? = (jx_M0 0 (fun _ => 0))[a]?) ∧ (q = 0 ∨ (453 < q ∧ M[q]? = some (102, jx_vi 6 (S.1 453))))
def fx (q : Nat) (M M' : jx_H) : Prop := M.length ≤ M'.length ∧ ∀ a, a < M.length → (a < 24 ∨ (453 ≤ a ∧ a ≠ q)) → M'[a]? = M[a]?
def jo (z : jR) (o : Option Value ⊕ Nat) (M : jx_H) : Prop := match z with
  | .inl v => o = .inl v
  | .inr ci => ∃ a, o = .inr a ∧ M[a]? = some (ci, [])
def jn_x : jR → Nat
  | .inl _ => 0
  | .inr _ => 1
/-- from here the small machine does what E says -/
def jg {ρ : Type} (q : Nat) (me : jx_Me) (rF rL pc : Nat) (lv : List (Nat × Value)) (st : List Value) (S : jS) (n : Nat) (φ : ρ → jR × jS) (E : Option ρ) : Prop :=
  ∀ M, mm q S M → ∀ z, E = some z → ∀ dc ds, ∃ o M' c s, jt me rF rL pc lv st M dc ds (o, M', c, s) ∧ mm q (φ z).2 M' ∧ fx q M M' ∧ jo (φ z).1 o M' ∧ c ≤ dc + (n + jn_x (φ z).1) ∧ s ≤ ds + 8 * (n + jn_x (φ z).1)
/-- what lies at an address -/
def ka (a : Nat) (f : (Nat → Int32) → (Nat → Int64) → (Nat → Nat) → Nat × List Value) : Prop := 24 ≤ a ∧ a < 453 ∧ ∀ i l r, j_cl a i l r = f i l r
def j_q {α : Type} (b : Bool) (E : Option α) : Option α := match b with
  | true => E
  | false => none
def j_l {α β : Type} (x : α) (f : α → β) : β := f x
def j_in (i : Int32) (n : Nat) : Bool := !decide (i < 0) && decide (i.toNatClampNeg < n)
theorem j_in_ok {i : Int32} {n : Nat} (h : j_in i n = true) : vp_in i n := by
  simp only [j_in, Bool.and_eq_true, Bool.not_eq_true', decide_eq_false_iff_not, decide_eq_true_eq] at h
  intro q
  rcases q with q | q
  · exact h.1 q
  · exact absurd h.2 (Nat.not_lt.mpr q)
def p_I (S : jS) (v : Int32) : jR × jS := (.inl (some (.int v)), S)
def p_L (S : jS) (v : Int64) : jR × jS := (.inl (some (.long v)), S)
def p_A (S : jS) (v : Nat) : jR × jS := (.inl (some (.ref v)), S)
def s_I (z : Int32 × jS) : jR × jS := (.inl (some (.int z.1)), z.2)
def s_L (z : Int64 × jS) : jR × jS := (.inl (some (.long z.1)), z.2)
def s_V (S : jS) : jR × jS := (.inl none, S)
def x_I (z : (Int32 ⊕ Nat) × jS) : jR × jS := (match z.1 with | .inl v => .inl (some (.int v)) | .inr c => .inr c, z.2)
def x_L (z : (Int64 ⊕ Nat) × jS) : jR × jS := (match z.1 with | .inl v => .inl (some (.long v)) | .inr c => .inr c, z.2)
def x_A (z : (Nat ⊕ Nat) × jS) : jR × jS := (match z.1 with | .inl v => .inl (some (.ref v)) | .inr c => .inr c, z.2)
def x_V (z : Option Nat × jS) : jR × jS := (match z.1 with | none => .inl none | some c => .inr c, z.2)
def j_x {ρ τ : Type} (E : Option ((τ ⊕ Nat) × jS)) (X : Nat → jS → ρ) (K : τ → jS → Option ρ) : Option ρ := match E with
  | none => none
  | some (.inl v, S) => K v S
  | some (.inr c, S) => some (X c S)
def j_xv {ρ : Type} (E : Option (Option Nat × jS)) (X : Nat → jS → ρ) (K : jS → Option ρ) : Option ρ := match E with
  | none => none
  | some (none, S) => K S
  | some (some c, S) => some (X c S)
/-- the letter of a constant text -/
def sl_ (a : Nat) : Nat := (jx_byt.getD (a - 3) []).length
def sc_ (a i : Nat) : Int32 := (jx_byt.getD (a - 3) []).getD i 0
def js_ (a : Nat) : Bool := decide (3 ≤ a) && decide (a < 24)
end JG
section JG2
theorem fx_rf {q : Nat} {M : jx_H} : fx q M M := ⟨Nat.le_refl _, fun _ _ _ => rfl⟩
theorem fx_tr {q : Nat} {M M1 M2 : jx_H} (h : fx q M M1) (g : fx q M1 M2) : fx q M M2 := ⟨Nat.le_trans h.1 g.1, fun a h1 h2 => (g.2 a (Nat.lt_of_lt_of_le h1 h.1) h2).trans (h.2 a h1 h2)⟩
theorem jz_b {a : Nat} (h : jz_ a = true) : a = 35 ∨ a = 40 ∨ (51 ≤ a ∧ a < 75 ∧ a % 3 = 0) := by
  simp only [jz_, Bool.or_eq_true, Bool.and_eq_true, decide_eq_true_eq] at h
  omega
theorem jy_b {a : Nat} (h : jy_ a = true) : a = 36 ∨ a = 37 ∨ a = 41 ∨ a = 42 ∨ (51 ≤ a ∧ a < 75 ∧ ¬ a % 3 = 0) := by
  simp only [jy_, Bool.or_eq_true, Bool.and_eq_true, decide_eq_true_eq, Bool.not_eq_true', decide_eq_false_iff_not] at h
  omega
theorem jc_b {a : Nat} (h : jc_ a = true) : a = 33 ∨ a = 43 ∨ (75 ≤ a ∧ a < 107 ∧ a % 2 = 1) := by
  simp only [jc_, Bool.or_eq_true, Bool.and_eq_true, decide_eq_true_eq] at h
  omega
theorem jh_b {a : Nat} (h : jh_ a = true) : a = 30 ∨ a = 38 ∨ (107 ≤ a ∧ a < 115 ∧ a % 2 = 1) := by
  simp only [jh_, Bool.or_eq_true, Bool.and_eq_true, decide_eq_true_eq] at h
  omega
theorem jb_b {a : Nat} (h : jb_ a = true) : 115 ≤ a ∧ a < 215 := by
  simp only [jb_, Bool.and_eq_true, decide_eq_true_eq] at h
  exact h
theorem jz_n {a : Nat} (h : ¬ (a = 35 ∨ a = 40 ∨ (51 ≤ a ∧ a < 75 ∧ a % 3 = 0))) : ¬ jz_ a = true := fun q => h (jz_b q)
theorem jy_n {a : Nat} (h : ¬ (a = 36 ∨ a = 37 ∨ a = 41 ∨ a = 42 ∨ (51 ≤ a ∧ a < 75 ∧ ¬ a % 3 = 0))) : ¬ jy_ a = true := fun q => h (jy_b q)
theorem jc_n {a : Nat} (h : ¬ (a = 33 ∨ a = 43 ∨ (75 ≤ a ∧ a < 107 ∧ a % 2 = 1))) : ¬ jc_ a = true := fun q => h (jc_b q)
theorem jh_n {a : Nat} (h : ¬ (a = 30 ∨ a = 38 ∨ (107 ≤ a ∧ a < 115 ∧ a % 2 = 1))) : ¬ jh_ a = true := fun q => h (jh_b q)
theorem jb_n {a : Nat} (h : ¬ (115 ≤ a ∧ a < 215)) : ¬ jb_ a = true := fun q => h (jb_b q)
theorem kc_Z {a : Nat} (h : jz_ a = true) : ka a (fun i l _ => lz_ a i l) := by
  have := jz_b h
  exact ⟨by omega, by omega, fun i l r => by unfold j_cl; rw [if_pos h]⟩
theorem kc_Y {a : Nat} (h : jy_ a = true) : ka a (fun i _ _ => ly_ i) := by
  have := jy_b h
  exact ⟨by omega, by omega, fun i l r => by unfold j_cl; rw [if_neg (jz_n (by omega)), if_pos h]⟩
theorem kc_C {a : Nat} (h : jc_ a = true) : ka a (fun i _ _ => lc_ a i) := by
  have := jc_b h
  exact ⟨by omega, by omega, fun i l r => by unfold j_cl; rw [if_neg (jz_n (by omega)), if_neg (jy_n (by omega)), if_pos h]⟩
theorem kc_CA {a : Nat} (h : jc_ a = true) : ka (a + 1) (fun _ l _ => (103, jx_vl 12 l)) := by
  have := jc_b h
  exact ⟨by omega, by omega, fun i l r => by unfold j_cl; rw [if_neg (jz_n (by omega)), if_neg (jy_n (by omega)), if_neg (jc_n (by omega)), if_pos (by rw [Nat.add_sub_cancel]; exact h)]⟩
theorem kc_H {a : Nat} (h : jh_ a = true) : ka a (fun i _ _ => lh_ a i) := by
  have := jh_b h
  exact ⟨by omega, by omega, fun i l r => by unfold j_cl; rw [if_neg (jz_n (by omega)), if_neg (jy_n (by omega)), if_neg (jc_n (by omega)), if_neg (jc_n (by omega)), if_pos h]⟩
theorem kc_HA {a : Nat} (h : jh_ a = true) : ka (a + 1) (fun i _ _ => (102, jx_vi (hn_ a) i)) := by
  have := jh_b h
  have e : hn_ (a + 1) = hn_ a := by unfold hn_; split <;> split <;> omega
  exact ⟨by omega, by omega, fun i l r => by unfold j_cl; rw [if_neg (jz_n (by omega)), if_neg (jy_n (by omega)), if_neg (jc_n (by omega)), if_neg (jc_n (by omega)), if_neg (jh_n (by omega)), if_pos (by rw [Nat.add_sub_cancel]; exact h), e]⟩
theorem kc_B {a : Nat} (h : jb_ a = true) : ka a (fun i l _ => lb_ i l) := by
  have := jb_b h
  exact ⟨by omega, by omega, fun i l r => by unfold j_cl; rw [if_neg (jz_n (by omega)), if_neg (jy_n (by omega)), if_neg (jc_n (by omega)), if_neg (jc_n (by omega)), if_neg (jh_n (by omega)), if_neg (jh_n (by omega)), if_pos h]⟩
theorem kc_2 {a : Nat} (h : 215 ≤ a) (i : Nat → Int32) (l : Nat → Int64) (r : Nat → Nat) : j_cl a i l r = l2_ a i l := by
  unfold j_cl
  rw [if_neg (jz_n (by omega)), if_neg (jy_n (by omega)), if_neg (jc_n (by omega)), if_neg (jc_n (by omega)), if_neg (jh_n (by omega)), if_neg (jh_n (by omega)), if_neg (jb_n (by omega)), if_neg (by omega)]
def jr_ (lo n a : Nat) : Bool := decide (lo ≤ a) && decide (a < lo + n)
theorem jr_b {lo n a : Nat} (h : jr_ lo n a = true) : lo ≤ a ∧ a < lo + n := by
  simp only [jr_, Bool.and_eq_true, decide_eq_true_eq] at h
  exact h
theorem jr_m {lo n : Nat} {i : Int32} (h : j_in i n = true) : jr_ lo n (lo + i.toNatClampNeg) = true := by
  simp only [j_in, Bool.and_eq_true, Bool.not_eq_true', decide_eq_false_iff_not, decide_eq_true_eq] at h
  simp only [jr_, Bool.and_eq_true, decide_eq_true_eq]
  omega
theorem jb_m {i : Int32} (h : j_in i 100 = true) : jb_ (115 + i.toNatClampNeg) = true := by
  simp only [j_in, Bool.and_eq_true, Bool.not_eq_true', decide_eq_false_iff_not, decide_eq_true_eq] at h
  simp only [jb_, Bool.and_eq_true, decide_eq_true_eq]
  omega
theorem jh_m {i : Int32} (h : j_in i 4 = true) : jh_ (107 + 2 * i.toNatClampNeg) = true := by
  simp only [j_in, Bool.and_eq_true, Bool.not_eq_true', decide_eq_false_iff_not, decide_eq_true_eq] at h
  simp only [jh_, Bool.or_eq_true, Bool.and_eq_true, decide_eq_true_eq]
  omega
theorem jy_1 {a : Nat} (h : jz_ a = true) : jy_ (a + 1) = true := by
  have := jz_b h
  simp only [jy_, Bool.or_eq_true, Bool.and_eq_true, decide_eq_true_eq, Bool.not_eq_true', decide_eq_false_iff_not]
  omega
theorem jy_2 {a : Nat} (h : jz_ a = true) : jy_ (a + 2) = true := by
  have := jz_b h
  simp only [jy_, Bool.or_eq_true, Bool.and_eq_true, decide_eq_true_eq, Bool.not_eq_true', decide_eq_false_iff_not]
  omega
/-- a row of the crons' sets -/
def jk_ (a : Nat) : Bool := decide (240 ≤ a) && decide (a < 368) && decide (a % 8 = 0)
theorem jk_b {a : Nat} (h : jk_ a = true) : 240 ≤ a ∧ a < 368 ∧ a % 8 = 0 := by
  simp only [jk_, Bool.and_eq_true, decide_eq_true_eq] at h
  exact ⟨h.1.1, h.1.2, h.2⟩
theorem jk_m {i : Int32} (h : j_in i 16 = true) : jk_ (240 + i.toNatClampNeg * 8) = true := by
  simp only [j_in, Bool.and_eq_true, Bool.not_eq_true', decide_eq_false_iff_not, decide_eq_true_eq] at h
  simp only [jk_, Bool.and_eq_true, decide_eq_true_eq]
  omega
def jf_ (a : Nat) : Bool := decide (240 ≤ a) && decide (a < 368) && !decide (a % 8 = 0)
theorem jf_b {a : Nat} (h : jf_ a = true) : 240 ≤ a ∧ a < 368 ∧ ¬ a % 8 = 0 := by
  simp only [jf_, Bool.and_eq_true, Bool.not_eq_true', decide_eq_false_iff_not, decide_eq_true_eq] at h
  exact ⟨h.1.1, h.1.2, h.2⟩
theorem jf_m {a : Nat} {i : Int32} (g : jk_ a = true) (h : j_in i 7 = true) : jf_ (a + 1 + i.toNatClampNeg) = true := by
  have := jk_b g
  simp only [j_in, Bool.and_eq_true, Bool.not_eq_true', decide_eq_false_iff_not, decide_eq_true_eq] at h
  simp only [jf_, Bool.and_eq_true, Bool.not_eq_true', decide_eq_false_iff_not, decide_eq_true_eq]
  omega
theorem kc_ev {a : Nat} (h : jr_ 220 8 a = true) : ka a (fun _ l _ => (103, jx_vl 660 l)) := by
  have := jr_b h
  exact ⟨by omega, by omega, fun i l r => by rw [kc_2 (by omega)]; unfold l2_; simp only [show ¬ a = 215 by omega, show ¬ a = 216 by omega, show ¬ a < 219 by omega, show ¬ a = 219 by omega, show a < 228 by omega, if_false, if_true]⟩
theorem kc_bg {a : Nat} (h : jr_ 229 8 a = true) : ka a (fun i _ _ => (101, jx_vi 660 i)) := by
  have := jr_b h
  exact ⟨by omega, by omega, fun i l r => by rw [kc_2 (by omega)]; unfold l2_; simp only [show ¬ a = 215 by omega, show ¬ a = 216 by omega, show ¬ a < 219 by omega, show ¬ a = 219 by omega, show ¬ a < 228 by omega, show ¬ a = 228 by omega, show a < 237 by omega, if_false, if_true]⟩
theorem kc_sk {a : Nat} (h : jk_ a = true) : ka a (fun _ _ _ => (110, jx_vr 7 (fun j => a + 1 + j))) := by
  have := jk_b h
  exact ⟨by omega, by omega, fun i l r => by rw [kc_2 (by omega)]; unfold l2_; simp only [show ¬ a = 215 by omega, show ¬ a = 216 by omega, show ¬ a < 219 by omega, show ¬ a = 219 by omega, show ¬ a < 228 by omega, show ¬ a = 228 by omega, show ¬ a < 237 by omega, show ¬ a < 239 by omega, show ¬ a = 239 by omega, show a < 368 by omega, show a % 8 = 0 by omega, if_false, if_true]⟩
theorem kc_sb {a : Nat} (h : jf_ a = true) : ka a (fun i _ _ => (101, jx_vi 330 i)) := by
  have := jf_b h
  exact ⟨by omega, by omega, fun i l r => by rw [kc_2 (by omega)]; unfold l2_; simp only [show ¬ a = 215 by omega, show ¬ a = 216 by omega, show ¬ a < 219 by omega, show ¬ a = 219 by omega, show ¬ a < 228 by omega, show ¬ a = 228 by omega, show ¬ a < 237 by omega, show ¬ a < 239 by omega, show ¬ a = 239 by omega, show a < 368 by omega, show ¬ a % 8 = 0 by omega, if_false, if_true]⟩
theorem kc_tr {a : Nat} (h : jr_ 369 7 a = true) : ka a (fun i _ _ => (101, jx_vi 330 i)) := by
  have := jr_b h
  exact ⟨by omega, by omega, fun i l r => by rw [kc_2 (by omega)]; unfold l2_; simp only [show ¬ a = 215 by omega, show ¬ a = 216 by omega, show ¬ a < 219 by omega, show ¬ a = 219 by omega, show ¬ a < 228 by omega, show ¬ a = 228 by omega, show ¬ a < 237 by omega, show ¬ a < 239 by omega, show ¬ a = 239 by omega, show ¬ a < 368 by omega, show ¬ a = 368 by omega, show a < 376 by omega, if_false, if_true]⟩
theorem kc_w2 {a : Nat} (h : jr_ 378 16 a = true) : ka a (fun i _ _ => (102, jx_vi 2 i)) := by
  have := jr_b h
  exact ⟨by omega, by omega, fun i l r => by rw [kc_2 (by omega)]; unfold l2_; simp only [show ¬ a = 215 by omega, show ¬ a = 216 by omega, show ¬ a < 219 by omega, show ¬ a = 219 by omega, show ¬ a < 228 by omega, show ¬ a = 228 by omega, show ¬ a < 237 by omega, show ¬ a < 239 by omega, show ¬ a = 239 by omega, show ¬ a < 368 by omega, show ¬ a = 368 by omega, show ¬ a < 376 by omega, show ¬ a = 376 by omega, show ¬ a = 377 by omega, show a < 394 by omega, if_false, if_true]⟩
theorem kc_f2 {a : Nat} (h : jr_ 395 16 a = true) : ka a (fun i _ _ => (102, jx_vi 2 i)) := by
  have := jr_b h
  exact ⟨by omega, by omega, fun i l r => by rw [kc_2 (by omega)]; unfold l2_; simp only [show ¬ a = 215 by omega, show ¬ a = 216 by omega, show ¬ a < 219 by omega, show ¬ a = 219 by omega, show ¬ a < 228 by omega, show ¬ a = 228 by omega, show ¬ a < 237 by omega, show ¬ a < 239 by omega, show ¬ a = 239 by omega, show ¬ a < 368 by omega, show ¬ a = 368 by omega, show ¬ a < 376 by omega, show ¬ a = 376 by omega, show ¬ a = 377 by omega, show ¬ a < 394 by omega, show ¬ a = 394 by omega, show a < 411 by omega, if_false, if_true]⟩
theorem kc_s2 {a : Nat} (h : jr_ 412 16 a = true) : ka a (fun i _ _ => (102, jx_vi 2 i)) := by
  have := jr_b h
  exact ⟨by omega, by omega, fun i l r => by rw [kc_2 (by omega)]; unfold l2_; simp only [show ¬ a = 215 by omega, show ¬ a = 216 by omega, show ¬ a < 219 by omega, show ¬ a = 219 by omega, show ¬ a < 228 by omega, show ¬ a = 228 by omega, show ¬ a < 237 by omega, show ¬ a < 239 by omega, show ¬ a = 239 by omega, show ¬ a < 368 by omega, show ¬ a = 368 by omega, show ¬ a < 376 by omega, show ¬ a = 376 by omega, show ¬ a = 377 by omega, show ¬ a < 394 by omega, show ¬ a = 394 by omega, show ¬ a < 411 by omega, show ¬ a = 411 by omega, show a < 428 by omega, if_false, if_true]⟩
theorem kc_hr {a : Nat} (h : jr_ 431 4 a = true) : ka a (fun i _ _ => (101, jx_vi 120530 i)) := by
  have := jr_b h
  exact ⟨by omega, by omega, fun i l r => by rw [kc_2 (by omega)]; unfold l2_; simp only [show ¬ a = 215 by omega, show ¬ a = 216 by omega, show ¬ a < 219 by omega, show ¬ a = 219 by omega, show ¬ a < 228 by omega, show ¬ a = 228 by omega, show ¬ a < 237 by omega, show ¬ a < 239 by omega, show ¬ a = 239 by omega, show ¬ a < 368 by omega, show ¬ a = 368 by omega, show ¬ a < 376 by omega, show ¬ a = 376 by omega, show ¬ a = 377 by omega, show ¬ a < 394 by omega, show ¬ a = 394 by omega, show ¬ a < 411 by omega, show ¬ a = 411 by omega, show ¬ a < 428 by omega, show ¬ a = 428 by omega, show ¬ a = 429 by omega, show ¬ a = 430 by omega, show a < 435 by omega, if_false, if_true]⟩
/-- the names of the months or of the weekdays -/
def jm_ (a : Nat) : Bool := decide (a = 428) || decide (a = 429)
def ml_ (a : Nat) : Nat := if a = 428 then 12 else 7
def me_ (a j : Nat) : Nat := if a = 428 then 5 + j else 17 + j
theorem kc_SA {a : Nat} (h : jm_ a = true) : ka a (fun _ _ _ => (108, jx_vr (ml_ a) (me_ a))) := by
  simp only [jm_, Bool.or_eq_true, decide_eq_true_eq] at h
  rcases h with rfl | rfl
  · exact ⟨by omega, by omega, fun _ _ _ => rfl⟩
  · exact ⟨by omega, by omega, fun _ _ _ => rfl⟩
theorem js_m {a : Nat} {i : Int32} (g : jm_ a = true) (h : j_in i (ml_ a) = true) : js_ (me_ a i.toNatClampNeg) = true := by
  simp only [j_in, Bool.and_eq_true, Bool.not_eq_true', decide_eq_false_iff_not, decide_eq_true_eq] at h
  simp only [jm_, Bool.or_eq_true, decide_eq_true_eq] at g
  unfold ml_ at h
  unfold me_
  simp only [js_, Bool.and_eq_true, decide_eq_true_eq]
  rcases g with rfl | rfl <;> simp at h ⊢ <;> omega
end JG2
