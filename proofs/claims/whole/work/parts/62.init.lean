section JI
/-- the cells whose rows are big: nobody looks at them while the reference is made -/
def jx_SS (b : Nat) : Bool := decide (b = 0) || (decide (220 ≤ b) && decide (b ≤ 227)) || (decide (229 ≤ b) && decide (b ≤ 236)) || (decide (241 ≤ b) && decide (b ≤ 367) && decide ((b - 240) % 8 ≠ 0)) || (decide (431 ≤ b) && decide (b ≤ 434))
def jx_C (z : Nat × List Value) (b : Nat) : Option (Nat × List Value) := if b = 0 then some z else if b ≤ 227 then some (103, List.replicate 660 (.long 0)) else if b ≤ 236 then some (101, List.replicate 660 (.int 0)) else if b ≤ 367 then some (101, List.replicate 330 (.int 0)) else some (101, List.replicate 120530 (.int 0))
def jx_fq (C : Nat → Option (Nat × List Value)) (M M' : jx_H) : Prop := jx_fr (fun b => jx_SS b && decide (b < M.length)) C M M'
variable {C : Nat → Option (Nat × List Value)} {M M' : jx_H}
def jx_p2 (a n1 t1 : Nat) : jx_H := (100 + t1, (List.range n1).map (fun i => .ref (a + 1 + i))) :: List.replicate n1 (999, [])
def jx_p3 (a n2 t2 : Nat) : Nat → jx_H
  | 0 => []
  | n + 1 => jx_p2 a n2 t2 ++ jx_p3 (a + 1 + n2) n2 t2 n
theorem jx_fq_m2 {a n1 n2 t1 t2 : Nat} (h : jx_fq C M M') (hl : M.length = a) (h0 : jx_SS a = false) (h1 : ∀ i, i < n1 → jx_SS (a + 1 + i) = true ∧ C (a + 1 + i) = some (100 + t2, List.replicate n2 (jx_el t2))) : jx_fq C (M ++ jx_p2 a n1 t1) (M' ++ jx_m2 a n1 n2 t1 t2) := by
  have hl' : M'.length = a := h.1.trans hl
  have hA : (M ++ jx_p2 a n1 t1).length = a + 1 + n1 := by simp [jx_p2, hl]; omega
  refine ⟨by simp [jx_p2, jx_m2, hl, hl'], fun b hb => ?_, fun b hb => ?_⟩
  · rw [hA] at hb
    by_cases e : b < a
    · rw [List.getElem?_append_left (by omega), List.getElem?_append_left (by omega)]
      refine h.2.1 b ?_
      rw [hl]
      simp only [Bool.and_eq_false_iff, decide_eq_false_iff_not] at hb ⊢
      rcases hb with hb | hb
      · exact Or.inl hb
      · omega
    · rw [List.getElem?_append_right (by omega), List.getElem?_append_right (by omega), hl, hl']
      by_cases e2 : b = a
      · subst e2
        simp [jx_p2, jx_m2]
      · by_cases e3 : b < a + 1 + n1
        · have h2 := (h1 (b - (a + 1)) (by omega)).1
          rw [show a + 1 + (b - (a + 1)) = b by omega] at h2
          simp [h2, e3] at hb
        · rw [List.getElem?_eq_none (by simp [jx_m2]; omega), List.getElem?_eq_none (by simp [jx_p2]; omega)]
  · rw [hA] at hb
    simp only [Bool.and_eq_true, decide_eq_true_eq] at hb
    by_cases e : b < a
    · rw [List.getElem?_append_left (by omega), List.getElem?_append_left (by omega)]
      refine h.2.2 b ?_
      rw [hl]
      simp [hb.1, e]
    · have e2 : b ≠ a := fun q => by subst q; rw [h0] at hb; exact Bool.noConfusion hb.1
      obtain ⟨i, rfl⟩ : ∃ i, b = a + 1 + i := ⟨b - (a + 1), by omega⟩
      have hi : i < n1 := by omega
      rw [List.getElem?_append_right (by omega), List.getElem?_append_right (by omega), hl, hl', show a + 1 + i - a = i + 1 by omega]
      refine ⟨?_, ?_⟩
      · simp [jx_p2, List.getElem?_replicate, hi]
      · rw [(h1 i hi).2]
        simp [jx_m2, List.getElem?_replicate, hi]
theorem jx_fq_one (h : jx_fq C M M') (c : Nat × List Value) (h0 : jx_SS M.length = false) : jx_fq C (M ++ [c]) (M' ++ [c]) := by
  have := jx_fr_app h [c]
  have e : (fun b => jx_SS b && decide (b < (M ++ [c]).length)) = (fun b => jx_SS b && decide (b < M.length)) := by
    funext b
    by_cases q : b = M.length
    · subst q; simp [h0]
    · have : (b < (M ++ [c]).length) ↔ (b < M.length) := by simp; omega
      simp only [this]
  unfold jx_fq
  rw [e]
  exact this
theorem jx_fq_m3 {n2 n3 t2 t3 : Nat} : ∀ (n a : Nat) {M M' : jx_H} (_ : jx_fq C M M') (_ : M.length = a) (_ : ∀ j, j < n → jx_SS (a + j * (1 + n2)) = false ∧ ∀ i, i < n2 → jx_SS (a + j * (1 + n2) + 1 + i) = true ∧ C (a + j * (1 + n2) + 1 + i) = some (100 + t3, List.replicate n3 (jx_el t3))), jx_fq C (M ++ jx_p3 a n2 t2 n) (M' ++ jx_m3 a n2 n3 t2 t3 n)
  | 0, _, _, _, h, _, _ => by simpa [jx_p3, jx_m3] using h
  | n + 1, a, M, M', h, hl, hj => by
    have h0 := hj 0 (by omega)
    rw [Nat.zero_mul, Nat.add_zero] at h0
    have h1 := jx_fq_m2 (t1 := t2) h hl h0.1 h0.2
    have h2 := jx_fq_m3 (t2 := t2) n (a + 1 + n2) h1 (by simp [jx_p2, hl]; omega) (fun j q => by
      have := hj (j + 1) (by omega)
      rw [show a + (j + 1) * (1 + n2) = a + 1 + n2 + j * (1 + n2) by rw [Nat.add_mul]; omega] at this
      exact this)
    rw [List.append_assoc, List.append_assoc] at h2
    exact h2
theorem jx_fq_sg {me : jx_Me} (hme : jx_cln [me] = true) : ∀ (n : Nat) {pc pc1 dc ds dc1 ds1 : Nat} {lv lv1 : List (Nat × Value)} {st st1 : List Value} {S : Nat → Bool} {M M' M1 : jx_H} (_ : jx_fr S C M M') (_ : jx_sg me n pc lv st M dc ds = some (pc1, lv1, st1, M1, dc1, ds1)), ∃ M1', jx_sg me n pc lv st M' dc ds = some (pc1, lv1, st1, M1', dc1, ds1) ∧ jx_fr S C M1 M1'
  | 0, _, _, _, _, _, _, _, _, _, _, _, _, M', _, h, hs => by
    cases hs
    exact ⟨M', rfl, h⟩
  | n + 1, pc, _, dc, ds, _, _, lv, _, st, _, S, M, M', M1, h, hs => by
    unfold jx_sg at hs ⊢
    cases hat : jx_at pc me.2.2.2.2.2 with
    | none => rw [hat] at hs; cases hs
    | some q =>
      obtain ⟨i, len, x, va⟩ := q
      rw [hat] at hs
      dsimp only at hs ⊢
      have hx : x.contains 999 = false := by
        have h1 := jx_at_mem hat
        simp only [jx_cln, List.all_cons, List.all_nil, Bool.and_true] at hme
        have h2 := List.all_eq_true.mp hme _ h1
        simpa using h2
      cases hst : jx_step jx_df me.2.2.1 me.2.2.2.1 (me.1.name == "<init>") i x va pc lv st M dc ds with
      | none => rw [hst] at hs; cases hs
      | some r =>
        rw [hst] at hs
        obtain ⟨r', h1, h2⟩ := jx_step_g hx h hst
        rw [h1]
        rcases r with ⟨a, b, c, d, e, f⟩ | r
        · rcases r' with ⟨a', b', c', d', e', f'⟩ | q'
          · obtain ⟨rfl, rfl, rfl, h3, h4⟩ := h2
            cases h4
            exact jx_fq_sg hme n h3 hs
          · exact h2.elim
        · cases hs
theorem jx_fq_up {n m : Nat} {M1 M1' : jx_H} (hn : M.length = n) (h : jx_fr (fun b => jx_SS b && decide (b < M.length)) C M1 M1') (hm : M1.length = m) (hq : ∀ b, n ≤ b → b < m → jx_SS b = false) (hnm : n ≤ m) : jx_fq C M1 M1' := by
  have e : (fun b => jx_SS b && decide (b < M1.length)) = (fun b => jx_SS b && decide (b < M.length)) := by
    funext b
    rw [hn, hm]
    by_cases q : b < n
    · have q2 : b < m := by omega
      simp [q, q2]
    · by_cases q2 : b < m
      · rw [hq b (by omega) q2]
        rfl
      · simp [q, q2]
  unfold jx_fq
  rw [e]
  exact h
def ja_ck (x : Option jx_N) (pc : Nat) (lv : List (Nat × Value)) (st : List Value) (M : jx_H) (dc ds : Nat) : Bool := match x with
  | some (a, b, c, d, e, f) => decide (a = pc) && (decide (b = lv) && (decide (c = st) && (decide (d = M) && (decide (e = dc) && decide (f = ds)))))
  | none => false
theorem ja_ok {x : Option jx_N} {pc : Nat} {lv : List (Nat × Value)} {st : List Value} {M : jx_H} {dc ds : Nat} (h : ja_ck x pc lv st M dc ds = true) : x = some (pc, lv, st, M, dc, ds) := by
  unfold ja_ck at h
  split at h
  next a b c d e f =>
    simp only [Bool.and_eq_true, decide_eq_true_eq] at h
    obtain ⟨rfl, rfl, rfl, rfl, rfl, rfl⟩ := h
    rfl
  next => cases h
theorem jx_mu2 {pc q n1 n2 t1 t2 dc ds dc1 ds1 : Nat} {lv : List (Nat × Value)} {a b : Int32} {r : List Value} (hl : M.length = q) (h : ¬ (a < 0 ∨ b < 0 ∨ 1000 < a.toNatClampNeg ∨ 1000000 < b.toNatClampNeg)) (ha : a.toNatClampNeg = n1) (hb : b.toNatClampNeg = n2) (hd : dc + (1 + n1) = dc1) (hs : ds + (n1 + n1 * n2) = ds1) : jx_mu pc lv M dc ds [t1, t2] (.int b :: .int a :: r) = some (.inl (pc + 4, lv, .ref q :: r, M ++ jx_m2 q n1 n2 t1 t2, dc1, ds1)) := by
  subst hl ha hb hd hs
  simp only [jx_mu]
  rw [if_neg h]
theorem jx_mu3 {pc q n1 n2 n3 t1 t2 t3 dc ds dc1 ds1 : Nat} {lv : List (Nat × Value)} {a b c : Int32} {r : List Value} (hl : M.length = q) (h : ¬ (a < 0 ∨ b < 0 ∨ c < 0 ∨ 1000 < a.toNatClampNeg ∨ 1000 < b.toNatClampNeg ∨ 1000000 < c.toNatClampNeg)) (ha : a.toNatClampNeg = n1) (hb : b.toNatClampNeg = n2) (hc : c.toNatClampNeg = n3) (hd : dc + (1 + n1 + n1 * n2) = dc1) (hs : ds + (n1 + n1 * n2 + n1 * n2 * n3) = ds1) : jx_mu pc lv M dc ds [t1, t2, t3] (.int c :: .int b :: .int a :: r) = some (.inl (pc + 4, lv, .ref q :: r, (M ++ [(100 + t1, (List.range n1).map (fun i => .ref (q + 1 + i * (1 + n2))))]) ++ jx_m3 (q + 1) n2 n3 t2 t3 n1, dc1, ds1)) := by
  subst hl ha hb hc hd hs
  simp only [jx_mu]
  rw [if_neg h, List.append_assoc]
  rfl
theorem jt_mu2 {me : jx_Me} {fr lo i j len : Nat} {va : Value} {o : jx_O} {pc q n1 n2 t1 t2 dc ds dc1 ds1 : Nat} {lv : List (Nat × Value)} {a b : Int32} {r : List Value} (hi : jx_at pc me.2.2.2.2.2 = some (.multianewarray i j, len, [t1, t2], va)) (hl : M.length = q) (h : ¬ (a < 0 ∨ b < 0 ∨ 1000 < a.toNatClampNeg ∨ 1000000 < b.toNatClampNeg)) (ha : a.toNatClampNeg = n1) (hb : b.toNatClampNeg = n2) (hd : dc + (1 + n1) = dc1) (hs : ds + (n1 + n1 * n2) = ds1) (k : jt me fr lo (pc + 4) lv (.ref q :: r) (M ++ jx_m2 q n1 n2 t1 t2) dc1 ds1 o) : jt me fr lo pc lv (.int b :: .int a :: r) M dc ds o := jt_go hi (jx_mu2 hl h ha hb hd hs) k
theorem jt_mu3 {me : jx_Me} {fr lo i j len : Nat} {va : Value} {o : jx_O} {pc q n1 n2 n3 t1 t2 t3 dc ds dc1 ds1 : Nat} {lv : List (Nat × Value)} {a b c : Int32} {r : List Value} (hi : jx_at pc me.2.2.2.2.2 = some (.multianewarray i j, len, [t1, t2, t3], va)) (hl : M.length = q) (h : ¬ (a < 0 ∨ b < 0 ∨ c < 0 ∨ 1000 < a.toNatClampNeg ∨ 1000 < b.toNatClampNeg ∨ 1000000 < c.toNatClampNeg)) (ha : a.toNatClampNeg = n1) (hb : b.toNatClampNeg = n2) (hc : c.toNatClampNeg = n3) (hd : dc + (1 + n1 + n1 * n2) = dc1) (hs : ds + (n1 + n1 * n2 + n1 * n2 * n3) = ds1) (k : jt me fr lo (pc + 4) lv (.ref q :: r) ((M ++ [(100 + t1, (List.range n1).map (fun i => .ref (q + 1 + i * (1 + n2))))]) ++ jx_m3 (q + 1) n2 n3 t2 t3 n1) dc1 ds1 o) : jt me fr lo pc lv (.int c :: .int b :: .int a :: r) M dc ds o := jt_go hi (jx_mu3 hl h ha hb hc hd hs) k
def ja_h0 : jx_H := jx_bad0 ++ jx_HJ ++ [(9, [.int 0, .null, .int 0, .int 0, .int 0, .int 0, .int 0, .int 0, .null, .null, .null, .null, .null, .null, .null, .null, .null, .null, .null, .null, .int 0, .int 0, .int 0, .null, .null, .null, .null, .null, .null, .null, .null, .null, .null, .null, .null, .null, .null, .null, .null, .null, .null, .long 0, .int 0, .long 0, .long 0, .int 0, .null, .null, .null, .int 0])]
theorem ja_n1 : ja_h0.length = 216 := by decide +kernel
def ja_h1 : jx_H := jx_bad0 ++ jx_HJ ++ [(9, [.int 0, .ref 216, .int 0, .int (-1), .int 0, .int 0, .int 0, .int 0, .ref 217, .ref 218, .null, .null, .null, .null, .null, .null, .null, .null, .null, .null, .int 0, .int 0, .int 0, .null, .null, .null, .null, .null, .null, .null, .null, .null, .null, .null, .null, .null, .null, .null, .null, .null, .null, .long 0, .int 0, .long 0, .long 0, .int 0, .null, .null, .null, .int 0]), (100, List.replicate 400 (.int 0)), (102, List.replicate 8 (.int 0)), (102, List.replicate 8 (.int 0))]
set_option maxRecDepth 100000 in
theorem ja_s1 : jx_sg jp_M_init 18 4 [(0, .ref 215)] [] (ja_h0) 0 0 = some (40, [(0, .ref 215)], [.int 660, .int 8, .ref 215], ja_h1, 3, 416) := ja_ok (by decide +kernel)
theorem ja_l1 : ja_h1.length = 219 := by decide +kernel
theorem ja_w1 {z : Nat × List Value} {N : jx_H} (f : jx_fq (jx_C z) ja_h1 N) : jx_fq (jx_C z) (ja_h1 ++ jx_p2 219 8 9) (N ++ jx_m2 219 8 660 9 3) := jx_fq_m2 f ja_l1 rfl (fun i hi => ⟨by simp only [jx_SS, Bool.or_eq_true, Bool.and_eq_true, decide_eq_true_eq]; omega, by unfold jx_C; simp only [if_neg (show ¬ (219 + 1 + i = 0) by omega), if_pos (show 219 + 1 + i ≤ 227 by omega)]; rfl⟩)
theorem ja_n2 : (ja_h1 ++ jx_p2 219 8 9).length = 228 := by decide +kernel
def ja_h2 : jx_H := jx_bad0 ++ jx_HJ ++ [(9, [.int 0, .ref 216, .int 0, .int (-1), .int 0, .int 0, .int 0, .int 0, .ref 217, .ref 218, .ref 219, .null, .null, .null, .null, .null, .null, .null, .null, .null, .int 0, .int 0, .int 0, .null, .null, .null, .null, .null, .null, .null, .null, .null, .null, .null, .null, .null, .null, .null, .null, .null, .null, .long 0, .int 0, .long 0, .long 0, .int 0, .null, .null, .null, .int 0]), (100, List.replicate 400 (.int 0)), (102, List.replicate 8 (.int 0)), (102, List.replicate 8 (.int 0)), (109, [.ref 220, .ref 221, .ref 222, .ref 223, .ref 224, .ref 225, .ref 226, .ref 227]), (999, []), (999, []), (999, []), (999, []), (999, []), (999, []), (999, []), (999, [])]
set_option maxRecDepth 100000 in
theorem ja_s2 : jx_sg jp_M_init 4 44 [(0, .ref 215)] [.ref 219, .ref 215] (ja_h1 ++ jx_p2 219 8 9) 12 5704 = some (53, [(0, .ref 215)], [.int 660, .int 8, .ref 215], ja_h2, 12, 5704) := ja_ok (by decide +kernel)
theorem ja_l2 : ja_h2.length = 228 := by decide +kernel
theorem ja_w2 {z : Nat × List Value} {N : jx_H} (f : jx_fq (jx_C z) ja_h2 N) : jx_fq (jx_C z) (ja_h2 ++ jx_p2 228 8 10) (N ++ jx_m2 228 8 660 10 1) := jx_fq_m2 f ja_l2 rfl (fun i hi => ⟨by simp only [jx_SS, Bool.or_eq_true, Bool.and_eq_true, decide_eq_true_eq]; omega, by unfold jx_C; simp only [if_neg (show ¬ (228 + 1 + i = 0) by omega), if_neg (show ¬ (228 + 1 + i ≤ 227) by omega), if_pos (show 228 + 1 + i ≤ 236 by omega)]; rfl⟩)
theorem ja_n3 : (ja_h2 ++ jx_p2 228 8 10).length = 237 := by decide +kernel
def ja_h3 : jx_H := jx_bad0 ++ jx_HJ ++ [(9, [.int 0, .ref 216, .int 0, .int (-1), .int 0, .int 0, .int 0, .int 0, .ref 217, .ref 218, .ref 219, .ref 228, .ref 237, .ref 238, .null, .null, .null, .null, .null, .null, .int 0, .int 0, .int 0, .null, .null, .null, .null, .null, .null, .null, .null, .null, .null, .null, .null, .null, .null, .null, .null, .null, .null, .long 0, .int 0, .long 0, .long 0, .int 0, .null, .null, .null, .int 0]), (100, List.replicate 400 (.int 0)), (102, List.replicate 8 (.int 0)), (102, List.replicate 8 (.int 0)), (109, [.ref 220, .ref 221, .ref 222, .ref 223, .ref 224, .ref 225, .ref 226, .ref 227]), (999, []), (999, []), (999, []), (999, []), (999, []), (999, []), (999, []), (999, []), (110, [.ref 229, .ref 230, .ref 231, .ref 232, .ref 233, .ref 234, .ref 235, .ref 236]), (999, []), (999, []), (999, []), (999, []), (999, []), (999, []), (999, []), (999, []), (102, List.replicate 8 (.int 0)), (102, List.replicate 8 (.int 0))]
set_option maxRecDepth 100000 in
theorem ja_s3 : jx_sg jp_M_init 13 57 [(0, .ref 215)] [.ref 228, .ref 215] (ja_h2 ++ jx_p2 228 8 10) 21 10992 = some (84, [(0, .ref 215)], [.int 330, .int 7, .int 16, .ref 215], ja_h3, 23, 11008) := ja_ok (by decide +kernel)
theorem ja_l3 : ja_h3.length = 239 := by decide +kernel
theorem ja_w3 {z : Nat × List Value} {N : jx_H} (f : jx_fq (jx_C z) ja_h3 N) : jx_fq (jx_C z) ((ja_h3 ++ [(111, (List.range 16).map (fun i => Value.ref (239 + 1 + i * (1 + 7))))]) ++ jx_p3 240 7 10 16) ((N ++ [(111, (List.range 16).map (fun i => Value.ref (239 + 1 + i * (1 + 7))))]) ++ jx_m3 240 7 330 10 1 16) := jx_fq_m3 16 240 (jx_fq_one f _ (by rw [ja_l3]; rfl)) (by rw [List.length_append, ja_l3]; rfl) (fun j hj => ⟨by simp only [jx_SS, Bool.or_eq_false_iff, Bool.and_eq_false_iff, decide_eq_false_iff_not]; omega, fun i hi => ⟨by simp only [jx_SS, Bool.or_eq_true, Bool.and_eq_true, decide_eq_true_eq]; omega, by unfold jx_C; rw [if_neg (by omega), if_neg (by omega), if_neg (by omega), if_pos (by omega)]; rfl⟩⟩)
theorem ja_n4 : ((ja_h3 ++ [(111, (List.range 16).map (fun i => Value.ref (239 + 1 + i * (1 + 7))))]) ++ jx_p3 240 7 10 16).length = 368 := by decide +kernel
def ja_h4 : jx_H := jx_bad0 ++ jx_HJ ++ [(9, [.int 0, .ref 216, .int 0, .int (-1), .int 0, .int 0, .int 0, .int 0, .ref 217, .ref 218, .ref 219, .ref 228, .ref 237, .ref 238, .ref 239, .ref 368, .ref 376, .ref 377, .ref 394, .ref 411, .int 0, .int 0, .int 0, .ref 428, .ref 429, .null, .null, .null, .null, .null, .null, .null, .null, .null, .null, .null, .null, .null, .null, .null, .null, .long 0, .int 0, .long 0, .long 0, .int 0, .null, .null, .null, .int 0]), (100, List.replicate 400 (.int 0)), (102, List.replicate 8 (.int 0)), (102, List.replicate 8 (.int 0)), (109, [.ref 220, .ref 221, .ref 222, .ref 223, .ref 224, .ref 225, .ref 226, .ref 227]), (999, []), (999, []), (999, []), (999, []), (999, []), (999, []), (999, []), (999, []), (110, [.ref 229, .ref 230, .ref 231, .ref 232, .ref 233, .ref 234, .ref 235, .ref 236]), (999, []), (999, []), (999, []), (999, []), (999, []), (999, []), (999, []), (999, []), (102, List.replicate 8 (.int 0)), (102, List.replicate 8 (.int 0)), (111, [.ref 240, .ref 248, .ref 256, .ref 264, .ref 272, .ref 280, .ref 288, .ref 296, .ref 304, .ref 312, .ref 320, .ref 328, .ref 336, .ref 344, .ref 352, .ref 360]), (110, [.ref 241, .ref 242, .ref 243, .ref 244, .ref 245, .ref 246, .ref 247]), (999, []), (999, []), (999, []), (999, []), (999, []), (999, []), (999, []), (110, [.ref 249, .ref 250, .ref 251, .ref 252, .ref 253, .ref 254, .ref 255]), (999, []), (999, []), (999, []), (999, []), (999, []), (999, []), (999, []), (110, [.ref 257, .ref 258, .ref 259, .ref 260, .ref 261, .ref 262, .ref 263]), (999, []), (999, []), (999, []), (999, []), (999, []), (999, []), (999, []), (110, [.ref 265, .ref 266, .ref 267, .ref 268, .ref 269, .ref 270, .ref 271]), (999, []), (999, []), (999, []), (999, []), (999, []), (999, []), (999, []), (110, [.ref 273, .ref 274, .ref 275, .ref 276, .ref 277, .ref 278, .ref 279]), (999, []), (999, []), (999, []), (999, []), (999, []), (999, []), (999, []), (110, [.ref 281, .ref 282, .ref 283, .ref 284, .ref 285, .ref 286, .ref 287]), (999, []), (999, []), (999, []), (999, []), (999, []), (999, []), (999, []), (110, [.ref 289, .ref 290, .ref 291, .ref 292, .ref 293, .ref 294, .ref 295]), (999, []), (999, []), (999, []), (999, []), (999, []), (999, []), (999, []), (110, [.ref 297, .ref 298, .ref 299, .ref 300, .ref 301, .ref 302, .ref 303]), (999, []), (999, []), (999, []), (999, []), (999, []), (999, []), (999, []), (110, [.ref 305, .ref 306, .ref 307, .ref 308, .ref 309, .ref 310, .ref 311]), (999, []), (999, []), (999, []), (999, []), (999, []), (999, []), (999, []), (110, [.ref 313, .ref 314, .ref 315, .ref 316, .ref 317, .ref 318, .ref 319]), (999, []), (999, []), (999, []), (999, []), (999, []), (999, []), (999, []), (110, [.ref 321, .ref 322, .ref 323, .ref 324, .ref 325, .ref 326, .ref 327]), (999, []), (999, []), (999, []), (999, []), (999, []), (999, []), (999, []), (110, [.ref 329, .ref 330, .ref 331, .ref 332, .ref 333, .ref 334, .ref 335]), (999, []), (999, []), (999, []), (999, []), (999, []), (999, []), (999, []), (110, [.ref 337, .ref 338, .ref 339, .ref 340, .ref 341, .ref 342, .ref 343]), (999, []), (999, []), (999, []), (999, []), (999, []), (999, []), (999, []), (110, [.ref 345, .ref 346, .ref 347, .ref 348, .ref 349, .ref 350, .ref 351]), (999, []), (999, []), (999, []), (999, []), (999, []), (999, []), (999, []), (110, [.ref 353, .ref 354, .ref 355, .ref 356, .ref 357, .ref 358, .ref 359]), (999, []), (999, []), (999, []), (999, []), (999, []), (999, []), (999, []), (110, [.ref 361, .ref 362, .ref 363, .ref 364, .ref 365, .ref 366, .ref 367]), (999, []), (999, []), (999, []), (999, []), (999, []), (999, []), (999, []), (110, [.ref 369, .ref 370, .ref 371, .ref 372, .ref 373, .ref 374, .ref 375]), (101, List.replicate 330 (.int 0)), (101, List.replicate 330 (.int 0)), (101, List.replicate 330 (.int 0)), (101, List.replicate 330 (.int 0)), (101, List.replicate 330 (.int 0)), (101, List.replicate 330 (.int 0)), (101, List.replicate 330 (.int 0)), (101, List.replicate 16 (.int 0)), (112, [.ref 378, .ref 379, .ref 380, .ref 381, .ref 382, .ref 383, .ref 384, .ref 385, .ref 386, .ref 387, .ref 388, .ref 389, .ref 390, .ref 391, .ref 392, .ref 393]), (102, List.replicate 2 (.int 0)), (102, List.replicate 2 (.int 0)), (102, List.replicate 2 (.int 0)), (102, List.replicate 2 (.int 0)), (102, List.replicate 2 (.int 0)), (102, List.replicate 2 (.int 0)), (102, List.replicate 2 (.int 0)), (102, List.replicate 2 (.int 0)), (102, List.replicate 2 (.int 0)), (102, List.replicate 2 (.int 0)), (102, List.replicate 2 (.int 0)), (102, List.replicate 2 (.int 0)), (102, List.replicate 2 (.int 0)), (102, List.replicate 2 (.int 0)), (102, List.replicate 2 (.int 0)), (102, List.replicate 2 (.int 0)), (112, [.ref 395, .ref 396, .ref 397, .ref 398, .ref 399, .ref 400, .ref 401, .ref 402, .ref 403, .ref 404, .ref 405, .ref 406, .ref 407, .ref 408, .ref 409, .ref 410]), (102, List.replicate 2 (.int 0)), (102, List.replicate 2 (.int 0)), (102, List.replicate 2 (.int 0)), (102, List.replicate 2 (.int 0)), (102, List.replicate 2 (.int 0)), (102, List.replicate 2 (.int 0)), (102, List.replicate 2 (.int 0)), (102, List.replicate 2 (.int 0)), (102, List.replicate 2 (.int 0)), (102, List.replicate 2 (.int 0)), (102, List.replicate 2 (.int 0)), (102, List.replicate 2 (.int 0)), (102, List.replicate 2 (.int 0)), (102, List.replicate 2 (.int 0)), (102, List.replicate 2 (.int 0)), (102, List.replicate 2 (.int 0)), (112, [.ref 412, .ref 413, .ref 414, .ref 415, .ref 416, .ref 417, .ref 418, .ref 419, .ref 420, .ref 421, .ref 422, .ref 423, .ref 424, .ref 425, .ref 426, .ref 427]), (102, List.replicate 2 (.int 0)), (102, List.replicate 2 (.int 0)), (102, List.replicate 2 (.int 0)), (102, List.replicate 2 (.int 0)), (102, List.replicate 2 (.int 0)), (102, List.replicate 2 (.int 0)), (102, List.replicate 2 (.int 0)), (102, List.replicate 2 (.int 0)), (102, List.replicate 2 (.int 0)), (102, List.replicate 2 (.int 0)), (102, List.replicate 2 (.int 0)), (102, List.replicate 2 (.int 0)), (102, List.replicate 2 (.int 0)), (102, List.replicate 2 (.int 0)), (102, List.replicate 2 (.int 0)), (102, List.replicate 2 (.int 0)), (108, [.ref 5, .ref 6, .ref 7, .ref 8, .ref 9, .ref 10, .ref 11, .ref 12, .ref 13, .ref 14, .ref 15, .ref 16]), (108, [.ref 17, .ref 18, .ref 19, .ref 20, .ref 21, .ref 22, .ref 23])]
set_option maxRecDepth 100000 in
theorem ja_s4 : jx_sg jp_M_init 112 88 [(0, .ref 215)] [.ref 239, .ref 215] ((ja_h3 ++ [(111, (List.range 16).map (fun i => Value.ref (239 + 1 + i * (1 + 7))))]) ++ jx_p3 240 7 10 16) 152 48096 = some (269, [(0, .ref 215)], [.int 120530, .int 4, .ref 215], ja_h4, 214, 50592) := ja_ok (by decide +kernel)
theorem ja_l4 : ja_h4.length = 430 := by decide +kernel
theorem ja_w4 {z : Nat × List Value} {N : jx_H} (f : jx_fq (jx_C z) ja_h4 N) : jx_fq (jx_C z) (ja_h4 ++ jx_p2 430 4 10) (N ++ jx_m2 430 4 120530 10 1) := jx_fq_m2 f ja_l4 rfl (fun i hi => ⟨by simp only [jx_SS, Bool.or_eq_true, Bool.and_eq_true, decide_eq_true_eq]; omega, by unfold jx_C; simp only [if_neg (show ¬ (430 + 1 + i = 0) by omega), if_neg (show ¬ (430 + 1 + i ≤ 227) by omega), if_neg (show ¬ (430 + 1 + i ≤ 236) by omega), if_neg (show ¬ (430 + 1 + i ≤ 367) by omega)]; rfl⟩)
theorem ja_n5 : (ja_h4 ++ jx_p2 430 4 10).length = 435 := by decide +kernel
def ja_h5 : jx_H := jx_bad0 ++ jx_HJ ++ [(9, [.int 0, .ref 216, .int 0, .int (-1), .int 0, .int 0, .int 0, .int 0, .ref 217, .ref 218, .ref 219, .ref 228, .ref 237, .ref 238, .ref 239, .ref 368, .ref 376, .ref 377, .ref 394, .ref 411, .int 0, .int 0, .int 0, .ref 428, .ref 429, .ref 430, .ref 435, .ref 436, .ref 437, .ref 438, .ref 439, .ref 440, .ref 441, .ref 442, .ref 443, .ref 444, .ref 445, .ref 446, .ref 447, .ref 448, .ref 449, .long 0, .int 4, .long 0, .long 0, .int 0, .ref 450, .ref 451, .ref 452, .int 0]), (100, List.replicate 400 (.int 0)), (102, List.replicate 8 (.int 0)), (102, List.replicate 8 (.int 0)), (109, [.ref 220, .ref 221, .ref 222, .ref 223, .ref 224, .ref 225, .ref 226, .ref 227]), (999, []), (999, []), (999, []), (999, []), (999, []), (999, []), (999, []), (999, []), (110, [.ref 229, .ref 230, .ref 231, .ref 232, .ref 233, .ref 234, .ref 235, .ref 236]), (999, []), (999, []), (999, []), (999, []), (999, []), (999, []), (999, []), (999, []), (102, List.replicate 8 (.int 0)), (102, List.replicate 8 (.int 0)), (111, [.ref 240, .ref 248, .ref 256, .ref 264, .ref 272, .ref 280, .ref 288, .ref 296, .ref 304, .ref 312, .ref 320, .ref 328, .ref 336, .ref 344, .ref 352, .ref 360]), (110, [.ref 241, .ref 242, .ref 243, .ref 244, .ref 245, .ref 246, .ref 247]), (999, []), (999, []), (999, []), (999, []), (999, []), (999, []), (999, []), (110, [.ref 249, .ref 250, .ref 251, .ref 252, .ref 253, .ref 254, .ref 255]), (999, []), (999, []), (999, []), (999, []), (999, []), (999, []), (999, []), (110, [.ref 257, .ref 258, .ref 259, .ref 260, .ref 261, .ref 262, .ref 263]), (999, []), (999, []), (999, []), (999, []), (999, []), (999, []), (999, []), (110, [.ref 265, .ref 266, .ref 267, .ref 268, .ref 269, .ref 270, .ref 271]), (999, []), (999, []), (999, []), (999, []), (999, []), (999, []), (999, []), (110, [.ref 273, .ref 274, .ref 275, .ref 276, .ref 277, .ref 278, .ref 279]), (999, []), (999, []), (999, []), (999, []), (999, []), (999, []), (999, []), (110, [.ref 281, .ref 282, .ref 283, .ref 284, .ref 285, .ref 286, .ref 287]), (999, []), (999, []), (999, []), (999, []), (999, []), (999, []), (999, []), (110, [.ref 289, .ref 290, .ref 291, .ref 292, .ref 293, .ref 294, .ref 295]), (999, []), (999, []), (999, []), (999, []), (999, []), (999, []), (999, []), (110, [.ref 297, .ref 298, .ref 299, .ref 300, .ref 301, .ref 302, .ref 303]), (999, []), (999, []), (999, []), (999, []), (999, []), (999, []), (999, []), (110, [.ref 305, .ref 306, .ref 307, .ref 308, .ref 309, .ref 310, .ref 311]), (999, []), (999, []), (999, []), (999, []), (999, []), (999, []), (999, []), (110, [.ref 313, .ref 314, .ref 315, .ref 316, .ref 317, .ref 318, .ref 319]), (999, []), (999, []), (999, []), (999, []), (999, []), (999, []), (999, []), (110, [.ref 321, .ref 322, .ref 323, .ref 324, .ref 325, .ref 326, .ref 327]), (999, []), (999, []), (999, []), (999, []), (999, []), (999, []), (999, []), (110, [.ref 329, .ref 330, .ref 331, .ref 332, .ref 333, .ref 334, .ref 335]), (999, []), (999, []), (999, []), (999, []), (999, []), (999, []), (999, []), (110, [.ref 337, .ref 338, .ref 339, .ref 340, .ref 341, .ref 342, .ref 343]), (999, []), (999, []), (999, []), (999, []), (999, []), (999, []), (999, []), (110, [.ref 345, .ref 346, .ref 347, .ref 348, .ref 349, .ref 350, .ref 351]), (999, []), (999, []), (999, []), (999, []), (999, []), (999, []), (999, []), (110, [.ref 353, .ref 354, .ref 355, .ref 356, .ref 357, .ref 358, .ref 359]), (999, []), (999, []), (999, []), (999, []), (999, []), (999, []), (999, []), (110, [.ref 361, .ref 362, .ref 363, .ref 364, .ref 365, .ref 366, .ref 367]), (999, []), (999, []), (999, []), (999, []), (999, []), (999, []), (999, []), (110, [.ref 369, .ref 370, .ref 371, .ref 372, .ref 373, .ref 374, .ref 375]), (101, List.replicate 330 (.int 0)), (101, List.replicate 330 (.int 0)), (101, List.replicate 330 (.int 0)), (101, List.replicate 330 (.int 0)), (101, List.replicate 330 (.int 0)), (101, List.replicate 330 (.int 0)), (101, List.replicate 330 (.int 0)), (101, List.replicate 16 (.int 0)), (112, [.ref 378, .ref 379, .ref 380, .ref 381, .ref 382, .ref 383, .ref 384, .ref 385, .ref 386, .ref 387, .ref 388, .ref 389, .ref 390, .ref 391, .ref 392, .ref 393]), (102, List.replicate 2 (.int 0)), (102, List.replicate 2 (.int 0)), (102, List.replicate 2 (.int 0)), (102, List.replicate 2 (.int 0)), (102, List.replicate 2 (.int 0)), (102, List.replicate 2 (.int 0)), (102, List.replicate 2 (.int 0)), (102, List.replicate 2 (.int 0)), (102, List.replicate 2 (.int 0)), (102, List.replicate 2 (.int 0)), (102, List.replicate 2 (.int 0)), (102, List.replicate 2 (.int 0)), (102, List.replicate 2 (.int 0)), (102, List.replicate 2 (.int 0)), (102, List.replicate 2 (.int 0)), (102, List.replicate 2 (.int 0)), (112, [.ref 395, .ref 396, .ref 397, .ref 398, .ref 399, .ref 400, .ref 401, .ref 402, .ref 403, .ref 404, .ref 405, .ref 406, .ref 407, .ref 408, .ref 409, .ref 410]), (102, List.replicate 2 (.int 0)), (102, List.replicate 2 (.int 0)), (102, List.replicate 2 (.int 0)), (102, List.replicate 2 (.int 0)), (102, List.replicate 2 (.int 0)), (102, List.replicate 2 (.int 0)), (102, List.replicate 2 (.int 0)), (102, List.replicate 2 (.int 0)), (102, List.replicate 2 (.int 0)), (102, List.replicate 2 (.int 0)), (102, List.replicate 2 (.int 0)), (102, List.replicate 2 (.int 0)), (102, List.replicate 2 (.int 0)), (102, List.replicate 2 (.int 0)), (102, List.replicate 2 (.int 0)), (102, List.replicate 2 (.int 0)), (112, [.ref 412, .ref 413, .ref 414, .ref 415, .ref 416, .ref 417, .ref 418, .ref 419, .ref 420, .ref 421, .ref 422, .ref 423, .ref 424, .ref 425, .ref 426, .ref 427]), (102, List.replicate 2 (.int 0)), (102, List.replicate 2 (.int 0)), (102, List.replicate 2 (.int 0)), (102, List.replicate 2 (.int 0)), (102, List.replicate 2 (.int 0)), (102, List.replicate 2 (.int 0)), (102, List.replicate 2 (.int 0)), (102, List.replicate 2 (.int 0)), (102, List.replicate 2 (.int 0)), (102, List.replicate 2 (.int 0)), (102, List.replicate 2 (.int 0)), (102, List.replicate 2 (.int 0)), (102, List.replicate 2 (.int 0)), (102, List.replicate 2 (.int 0)), (102, List.replicate 2 (.int 0)), (102, List.replicate 2 (.int 0)), (108, [.ref 5, .ref 6, .ref 7, .ref 8, .ref 9, .ref 10, .ref 11, .ref 12, .ref 13, .ref 14, .ref 15, .ref 16]), (108, [.ref 17, .ref 18, .ref 19, .ref 20, .ref 21, .ref 22, .ref 23]), (110, [.ref 431, .ref 432, .ref 433, .ref 434]), (999, []), (999, []), (999, []), (999, []), (102, List.replicate 4 (.int 0)), (102, List.replicate 100 (.int 0)), (102, List.replicate 100 (.int 0)), (103, List.replicate 100 (.long 0)), (103, List.replicate 100 (.long 0)), (103, List.replicate 100 (.long 0)), (103, List.replicate 100 (.long 0)), (103, List.replicate 100 (.long 0)), (103, List.replicate 100 (.long 0)), (102, List.replicate 100 (.int 0)), (102, List.replicate 100 (.int 0)), (102, List.replicate 100 (.int 0)), (102, List.replicate 100 (.int 0)), (102, List.replicate 100 (.int 0)), (102, List.replicate 100 (.int 0)), (103, List.replicate 500 (.long 0)), (102, List.replicate 500 (.int 0)), (103, List.replicate 500 (.long 0))]
set_option maxRecDepth 100000 in
theorem ja_s5 : jx_sg jp_M_init 161 273 [(0, .ref 215)] [.ref 430, .ref 215] (ja_h4 ++ jx_p2 430 4 10) 219 532716 = some (448, [(1, .int 8), (0, .ref 215)], [], ja_h5, 237, 535620) := ja_ok (by decide +kernel)
theorem ja_l5 : ja_h5.length = 453 := by decide +kernel
set_option maxRecDepth 100000 in
theorem jx_M_init {z : Nat × List Value} {N : jx_H} (h : jx_fq (jx_C z) ja_h0 N) (rF rL : Nat) (hf : 6 ≤ rF) (hl : 150 ≤ rL) : ∃ N1, jt jp_M_init rF rL 0 [(0, .ref 215)] [] N 0 0 (.inl none, N1, 237, 535620) ∧ jx_fq (jx_C z) ja_h5 N1 := by
  have hme : jx_cln [jp_M_init] = true := by decide +kernel
  obtain ⟨N1, g1, e1⟩ := jx_fq_sg hme 18 h ja_s1
  have f1 := jx_fq_up ja_n1 e1 ja_l1 (fun b h1 h2 => by simp only [jx_SS, Bool.or_eq_false_iff, Bool.and_eq_false_iff, decide_eq_false_iff_not]; omega) (by omega)
  have N1l : N1.length = 219 := f1.1.trans ja_l1
  have w1 := ja_w1 f1
  obtain ⟨N2, g2, e2⟩ := jx_fq_sg hme 4 w1 ja_s2
  have f2 := jx_fq_up ja_n2 e2 ja_l2 (fun b h1 h2 => by simp only [jx_SS, Bool.or_eq_false_iff, Bool.and_eq_false_iff, decide_eq_false_iff_not]; omega) (by omega)
  have N2l : N2.length = 228 := f2.1.trans ja_l2
  have w2 := ja_w2 f2
  obtain ⟨N3, g3, e3⟩ := jx_fq_sg hme 13 w2 ja_s3
  have f3 := jx_fq_up ja_n3 e3 ja_l3 (fun b h1 h2 => by simp only [jx_SS, Bool.or_eq_false_iff, Bool.and_eq_false_iff, decide_eq_false_iff_not]; omega) (by omega)
  have N3l : N3.length = 239 := f3.1.trans ja_l3
  have w3 := ja_w3 f3
  obtain ⟨N4, g4, e4⟩ := jx_fq_sg hme 112 w3 ja_s4
  have f4 := jx_fq_up ja_n4 e4 ja_l4 (fun b h1 h2 => by simp only [jx_SS, Bool.or_eq_false_iff, Bool.and_eq_false_iff, decide_eq_false_iff_not]; omega) (by omega)
  have N4l : N4.length = 430 := f4.1.trans ja_l4
  have w4 := ja_w4 f4
  obtain ⟨N5, g5, e5⟩ := jx_fq_sg hme 161 w4 ja_s5
  have f5 := jx_fq_up ja_n5 e5 ja_l5 (fun b h1 h2 => by simp only [jx_SS, Bool.or_eq_false_iff, Bool.and_eq_false_iff, decide_eq_false_iff_not]; omega) (by omega)
  refine ⟨N5, ?_, f5⟩
  refine jt_sg 1 (pc1 := 1) rfl ?_
  refine jt_prim (k := 9003) (As := [.ref 215]) (r := []) (v := none) (M1 := N) rfl rfl rfl hf hl rfl ?_
  refine jt_sg 18 g1 ?_
  refine jt_mu2 (n1 := 8) (n2 := 660) (dc1 := 12) (ds1 := 5704) rfl N1l (by decide) rfl rfl rfl rfl ?_
  refine jt_sg 4 g2 ?_
  refine jt_mu2 (n1 := 8) (n2 := 660) (dc1 := 21) (ds1 := 10992) rfl N2l (by decide) rfl rfl rfl rfl ?_
  refine jt_sg 13 g3 ?_
  refine jt_mu3 (n1 := 16) (n2 := 7) (n3 := 330) (dc1 := 152) (ds1 := 48096) rfl N3l (by decide) rfl rfl rfl rfl rfl ?_
  refine jt_sg 112 g4 ?_
  refine jt_mu2 (n1 := 4) (n2 := 120530) (dc1 := 219) (ds1 := 532716) rfl N4l (by decide) rfl rfl rfl rfl ?_
  refine jt_sg 161 g5 ?_
  exact jt_vret rfl rfl rfl
end JI
