section JR_1
variable {S T : jS}
/-- one byte behind the others: in cell r, with the length in cell l at q -/
def ap (l q r : Nat) (S : jS) (n : Nat) (b : Int32) : jS := w_i (w_i S r n b) l q ((w_i S r n b).1 l q + 1)
def apL (l q r : Nat) : jS → Nat → List Int32 → jS
  | S, _, [] => S
  | S, n, b :: bs => apL l q r (ap l q r S n b) (n + 1) bs
theorem ap_l {l q r n : Nat} {b : Int32} (hr : r ≠ l) (h : (S.1 l q).toInt = n) (hn : n < 400) : ((ap l q r S n b).1 l q).toInt = ((n + 1 : Nat) : Int) := by
  unfold ap
  rw [w_ir, if_pos ⟨rfl, rfl⟩, w_ir, if_neg (fun w => hr w.1.symm)]
  exact p1I h (by omega)
theorem ap_r {l q r n j : Nat} {b : Int32} (hr : r ≠ l) : (ap l q r S n b).1 r j = if j = n then b else S.1 r j := by
  unfold ap
  rw [w_ir, if_neg (fun w => hr w.1), w_ir]
  by_cases e : j = n
  · rw [if_pos ⟨rfl, e⟩, if_pos e]
  · rw [if_neg (fun w => e w.2), if_neg e]
theorem ap_o {l q r n c j : Nat} {b : Int32} (h1 : ¬ (c = l ∧ j = q)) (h2 : c ≠ r) : (ap l q r S n b).1 c j = S.1 c j := by
  unfold ap
  rw [w_ir, if_neg h1, w_ir, if_neg (fun w => h2 w.1)]
theorem ap_2 {l q r n : Nat} {b : Int32} : (ap l q r S n b).2 = S.2 := rfl
theorem apL_p {l q r : Nat} (hr : r ≠ l) : ∀ (bs : List Int32) (S : jS) (n : Nat), (S.1 l q).toInt = n → n + bs.length ≤ 400 → ((apL l q r S n bs).1 l q).toInt = ((n + bs.length : Nat) : Int) ∧ (∀ i, i < bs.length → (apL l q r S n bs).1 r (n + i) = bs.getD i 0) ∧ (∀ j, j < n → (apL l q r S n bs).1 r j = S.1 r j) ∧ (∀ c j, ¬ (c = l ∧ j = q) → c ≠ r → (apL l q r S n bs).1 c j = S.1 c j) ∧ (apL l q r S n bs).2 = S.2
  | [], S, n, h, _ => ⟨h, fun i hi => absurd hi (Nat.not_lt_zero i), fun _ _ => rfl, fun _ _ _ _ => rfl, rfl⟩
  | b :: bs, S, n, h, hl => by
    have hl' : n + 1 + bs.length ≤ 400 := by simp only [List.length_cons] at hl; omega
    obtain ⟨h1, h2, h3, h4, h5⟩ := apL_p hr bs (ap l q r S n b) (n + 1) (ap_l hr h (by omega)) hl'
    unfold apL
    refine ⟨?_, fun i hi => ?_, fun j hj => ?_, fun c j g1 g2 => ?_, ?_⟩
    · rw [h1]
      simp only [List.length_cons]
      omega
    · cases i with
      | zero =>
        exact (h3 n (by omega)).trans (by rw [ap_r hr, if_pos rfl]; rfl)
      | succ i =>
        rw [show n + (i + 1) = n + 1 + i by omega, h2 i (by simp only [List.length_cons] at hi; omega)]
        rfl
    · rw [h3 j (by omega), ap_r hr, if_neg (by omega)]
    · rw [h4 c j g1 g2, ap_o g1 g2]
    · rw [h5, ap_2]
theorem apL_a {l q r : Nat} : ∀ (as bs : List Int32) (S : jS) (n : Nat), apL l q r (apL l q r S n as) (n + as.length) bs = apL l q r S n (as ++ bs)
  | [], bs, S, n => rfl
  | a :: as, bs, S, n => by
    simp only [List.cons_append, apL, List.length_cons]
    rw [← apL_a as bs (ap l q r S n a) (n + 1), show n + (as.length + 1) = n + 1 + as.length by omega]
/-- a byte of a word -/
def byt (p s : Int32) : Int32 := vp_nar .byte (((p : Int32) >>> (s &&& 31) : Int32).toInt8.toInt32)
def w4 (p : Int32) : List Int32 := [byt p 24, byt p 16, byt p 8, byt p 0]
theorem aw1 {f n : Nat} {x1 x2 : Int32} (h2 : ¬ x2 < 0) (h : (S.1 25 1).toInt = n) (hn : n < 400) : L_T_addWord_3 (f + 1) x1 x2 S = L_T_addWord_3 f x1 (x2 + -8) (ap 25 1 26 S n (byt x1 x2)) := by
  conv => lhs; unfold L_T_addWord_3
  rw [if_neg h2, if_neg (by rw [geI (k := 400) (n := 400) rfl]; omega), j_qi (by omega) (by omega), jl_, jl_, clN h]
  rfl
theorem aw {p : Int32} {n : Nat} (h : (S.1 25 1).toInt = n) (hn : n + 4 ≤ 400) : F_T_addWord p S = some (apL 25 1 26 S n (w4 p)) := by
  unfold F_T_addWord
  have e0 := h
  have e1 := ap_l (l := 25) (q := 1) (r := 26) (b := byt p 24) (by omega) e0 (by omega)
  have e2 := ap_l (l := 25) (q := 1) (r := 26) (b := byt p 16) (by omega) e1 (by omega)
  have e3 := ap_l (l := 25) (q := 1) (r := 26) (b := byt p 8) (by omega) e2 (by omega)
  rw [show ju_ = 999995 + 1 + 1 + 1 + 1 + 1 from rfl, aw1 (by decide) e0 (by omega), show (24 + -8 : Int32) = 16 from rfl, aw1 (by decide) e1 (by omega), show (16 + -8 : Int32) = 8 from rfl, aw1 (by decide) e2 (by omega), show (8 + -8 : Int32) = 0 from rfl, aw1 (by decide) e3 (by omega)]
  unfold L_T_addWord_3
  rw [if_pos (by decide)]
  rfl
end JR_1
