section JC1
/-! the reference's events: one put into its place -/
def wE (S : jS) (a : Nat) (g : Nat → Int64) : jS := (S.1, fun b => if b = a then g else S.2.1 b, S.2.2)
def wB (S : jS) (a : Nat) (g : Nat → Int32) : jS := (fun b => if b = a then g else S.1 b, S.2)
def hol {α : Type} (E : Nat → α) (k n : Nat) : Nat → α := fun j => if k < j ∧ j ≤ n then E (j - 1) else E j
theorem hol_n {α : Type} {E : Nat → α} {n : Nat} : hol E n n = E := by
  funext j
  unfold hol
  rw [if_neg (by omega)]
theorem wE_id {S : jS} {a : Nat} : wE S a (S.2.1 a) = S := by
  apply S_ext
  · intro b j; rfl
  · intro b j
    unfold wE
    by_cases h : b = a
    · simp [h]
    · simp [h]
  · intro b j; rfl
theorem wB_id {S : jS} {a : Nat} : wB S a (S.1 a) = S := by
  apply S_ext
  · intro b j
    unfold wB
    by_cases h : b = a
    · simp [h]
    · simp [h]
  · intro b j; rfl
  · intro b j; rfl
theorem wE_w {S : jS} {a k : Nat} {g : Nat → Int64} {v : Int64} : w_l (wE S a g) a k v = wE S a (vp_updL g k v) := by
  unfold w_l wE
  congr 2
  funext b
  by_cases h : b = a <;> simp [h]
theorem wB_w {S : jS} {a k : Nat} {g : Nat → Int32} {v : Int32} : w_i (wB S a g) a k v = wB S a (upd g k v) := by
  unfold w_i wB
  congr 1
  funext b
  by_cases h : b = a <;> simp [h]
theorem wEB {S : jS} {a b k : Nat} {g : Nat → Int64} {v : Int32} : w_i (wE S a g) b k v = wE (w_i S b k v) a g := rfl
theorem wE_1 {S : jS} {a : Nat} {g : Nat → Int64} : (wE S a g).1 = S.1 := rfl
theorem wE_r {S : jS} {a : Nat} {g : Nat → Int64} : (wE S a g).2.1 a = g := by simp [wE]
theorem wB_r {S : jS} {a : Nat} {g : Nat → Int32} : (wB S a g).1 a = g := by simp [wB]
theorem wB_n {S : jS} {a b : Nat} {g : Nat → Int32} (h : b ≠ a) : (wB S a g).1 b = S.1 b := by simp [wB, h]
theorem hol_up {E : Nat → Int64} {k n : Nat} (h1 : 0 < k) (h2 : k ≤ n) : vp_updL (hol E k n) k (hol E k n (k - 1)) = hol E (k - 1) n := by
  funext j
  unfold vp_updL hol
  by_cases e : j = k
  · rw [if_pos e, if_neg (by omega), if_pos (by omega), e]
  · rw [if_neg e]
    by_cases c : k < j ∧ j ≤ n
    · rw [if_pos c, if_pos (by omega)]
    · rw [if_neg c, if_neg (by omega)]
theorem hol_ub {E : Nat → Int32} {k n : Nat} (h1 : 0 < k) (h2 : k ≤ n) : upd (hol E k n) k (hol E k n (k - 1)) = hol E (k - 1) n := by
  funext j
  unfold upd hol
  by_cases e : j = k
  · rw [if_pos e, if_neg (by omega), if_pos (by omega), e]
  · rw [if_neg e]
    by_cases c : k < j ∧ j ≤ n
    · rw [if_pos c, if_pos (by omega)]
    · rw [if_neg c, if_neg (by omega)]
theorem hol_p {α : Type} {E : Nat → α} {k n : Nat} (h : 0 < k) : hol E k n (k - 1) = E (k - 1) := by
  unfold hol
  rw [if_neg (by omega)]
def bol (b : Int32) : Prop := b = 0 ∨ b = 1
theorem nar_b {b : Int32} (h : bol b) : vp_nar .boolean b = b := by
  rcases h with rfl | rfl <;> rfl
/-- it lies behind the new one -/
def bhd (w : Int64) (bg : Int32) (e : Int64) (b : Int32) : Prop := w < e ∨ (e = w ∧ ¬ bg = 0 ∧ b = 0)
variable {x1 bg : Int32} {w : Int64} {S : jS} {n : Nat} {E : Nat → Int64} {B : Nat → Int32}
def eS (S : jS) (x1 : Int32) (E : Nat → Int64) (B : Nat → Int32) : jS := wE (wB S (229 + x1.toNatClampNeg) B) (220 + x1.toNatClampNeg) E
theorem eS_e : (eS S x1 E B).2.1 (220 + x1.toNatClampNeg) = E := wE_r
theorem eS_b : (eS S x1 E B).1 (229 + x1.toNatClampNeg) = B := wB_r
theorem lM_ev (z1 : 0 ≤ x1.toInt) (z2 : x1.toInt < 8) (hn : n < 660) (hb : ∀ j, bol (B j)) : ∀ (f : Nat) (x5 : Int32) (k : Nat), x5.toInt = k → k ≤ n → k < f → (∀ j, k ≤ j → j < n → bhd w bg (E j) (B j)) → ∃ (y5 : Int32) (m : Nat), y5.toInt = m ∧ m ≤ n ∧ (∀ j, m ≤ j → j < n → bhd w bg (E j) (B j)) ∧ (0 < m → ¬ bhd w bg (E (m - 1)) (B (m - 1))) ∧ L_M_event_8 f x1 w bg x5 (eS S x1 (hol E k n) (hol B k n)) = J_M_event_110 x1 w bg y5 (eS S x1 (hol E m n) (hol B m n)) := by
  intro f
  induction f with
  | zero => intro x5 k _ _ h; omega
  | succ f ih =>
    intro x5 k hk h1 h2 h3
    rw [L_M_event_8]
    by_cases c0 : k = 0
    · rw [if_pos (show x5 ≤ 0 from Int32.le_iff_toInt_le.mpr (by simp only [Int32.reduceToInt]; omega))]
      exact ⟨x5, k, hk, h1, h3, by omega, rfl⟩
    · rw [if_neg (fun q : x5 ≤ 0 => by rw [Int32.le_iff_toInt_le] at q; simp only [Int32.reduceToInt] at q; omega)]
      have e1 : (x5 - 1).toInt = (k - 1 : Nat) := by
        rw [Int32.toInt_sub, hk, bs32 (by simp only [Int32.reduceToInt]; omega) (by simp only [Int32.reduceToInt]; omega)]
        simp only [Int32.reduceToInt]; omega
      have e2 : (x5 - 1).toNatClampNeg = k - 1 := by rw [Int32.toNatClampNeg, e1]; omega
      have e3 : x5.toNatClampNeg = k := by rw [Int32.toNatClampNeg, hk]; omega
      have q8 : ∀ {α : Type} {X : Option α}, j_q (j_in x1 8) X = X := fun {α X} => j_qi z1 z2
      have q1 : ∀ {α : Type} {X : Option α}, j_q (j_in (x5 - 1) 660) X = X := fun {α X} => j_qi (by rw [e1]; omega) (by rw [e1]; omega)
      have q2 : ∀ {α : Type} {X : Option α}, j_q (j_in x5 660) X = X := fun {α X} => j_qi (by rw [hk]; omega) (by rw [hk]; omega)
      rw [q8, q1, q8, q1, q8, q1, e2, eS_e, eS_b, hol_p (by omega), hol_p (by omega)]
      have step : J_M_event_64 (L_M_event_8 f) x1 w bg x5 (eS S x1 (hol E k n) (hol B k n)) = L_M_event_8 f x1 w bg (x5 + -1) (eS S x1 (hol E (k - 1) n) (hol B (k - 1) n)) := by
        unfold J_M_event_64
        simp only [q8, q1, q2, jl_, e2, e3]
        congr 1
        unfold eS
        rw [wE_w, wE_r, hol_up (by omega) h1, wEB, wB_w, wE_1, wB_r, nar_b (by unfold hol; split <;> exact hb _), hol_ub (by omega) h1]
      have e4 : (x5 + -1).toInt = (k - 1 : Nat) := by
        rw [Int32.toInt_add, hk, bs32 (by simp only [Int32.reduceToInt]; omega) (by simp only [Int32.reduceToInt]; omega)]
        simp only [Int32.reduceToInt]; omega
      have go : bhd w bg (E (k - 1)) (B (k - 1)) → ∃ (y5 : Int32) (m : Nat), y5.toInt = m ∧ m ≤ n ∧ (∀ j, m ≤ j → j < n → bhd w bg (E j) (B j)) ∧ (0 < m → ¬ bhd w bg (E (m - 1)) (B (m - 1))) ∧ J_M_event_64 (L_M_event_8 f) x1 w bg x5 (eS S x1 (hol E k n) (hol B k n)) = J_M_event_110 x1 w bg y5 (eS S x1 (hol E m n) (hol B m n)) := fun hg => by
        rw [step]
        refine ih _ (k - 1) e4 (by omega) (by omega) (fun j j1 j2 => ?_)
        by_cases e : j = k - 1
        · rw [e]; exact hg
        · exact h3 j (by omega) j2
      have stay : ¬ bhd w bg (E (k - 1)) (B (k - 1)) → ∃ (y5 : Int32) (m : Nat), y5.toInt = m ∧ m ≤ n ∧ (∀ j, m ≤ j → j < n → bhd w bg (E j) (B j)) ∧ (0 < m → ¬ bhd w bg (E (m - 1)) (B (m - 1))) ∧ J_M_event_110 x1 w bg x5 (eS S x1 (hol E k n) (hol B k n)) = J_M_event_110 x1 w bg y5 (eS S x1 (hol E m n) (hol B m n)) := fun hg => ⟨x5, k, hk, h1, h3, fun _ => hg, rfl⟩
      by_cases c1 : w < E (k - 1)
      · rw [if_pos c1]
        exact go (Or.inl c1)
      · rw [if_neg c1]
        by_cases c2 : E (k - 1) = w
        · rw [if_pos c2]
          by_cases c3 : bg = 0
          · rw [if_pos c3]
            exact stay (fun q => by rcases q with q | ⟨-, q, -⟩; exact c1 q; exact q c3)
          · rw [if_neg c3]
            by_cases c4 : B (k - 1) = 0
            · rw [if_pos c4]
              exact go (Or.inr ⟨c2, c3, c4⟩)
            · rw [if_neg c4]
              exact stay (fun q => by rcases q with q | ⟨-, -, q⟩; exact c1 q; exact c4 q)
        · rw [if_neg c2]
          exact stay (fun q => by rcases q with q | ⟨q, -⟩; exact c1 q; exact c2 q)
/-- one put in at k -/
def ins {α : Type} (E : Nat → α) (k n : Nat) (v : α) : Nat → α := fun j => if j = k then v else if k < j ∧ j ≤ n then E (j - 1) else E j
theorem jM_110 {y5 : Int32} {m : Nat} (z1 : 0 ≤ x1.toInt) (z2 : x1.toInt < 8) (hm : y5.toInt = m) (hm2 : m ≤ n) (hn : n < 660) (hg : bol bg) : J_M_event_110 x1 w bg y5 (eS S x1 (hol E m n) (hol B m n)) = some (w_i (eS S x1 (ins E m n w) (ins B m n bg)) 237 x1.toNatClampNeg (S.1 237 x1.toNatClampNeg + 1)) := by
  have q8 : ∀ {α : Type} {X : Option α}, j_q (j_in x1 8) X = X := fun {α X} => j_qi z1 z2
  have q2 : ∀ {α : Type} {X : Option α}, j_q (j_in y5 660) X = X := fun {α X} => j_qi (by rw [hm]; omega) (by rw [hm]; omega)
  have e3 : y5.toNatClampNeg = m := by rw [Int32.toNatClampNeg, hm]; omega
  have hz : x1.toNatClampNeg < 8 := by rw [Int32.toNatClampNeg]; omega
  unfold J_M_event_110
  simp only [q8, q2, jl_, e3]
  unfold eS
  rw [wE_w, wEB, wB_w, nar_b hg]
  have r : (wE (wB S (229 + x1.toNatClampNeg) (upd (hol B m n) m bg)) (220 + x1.toNatClampNeg) (vp_updL (hol E m n) m w)).1 237 x1.toNatClampNeg = S.1 237 x1.toNatClampNeg := by
    rw [wE_1, wB_n (by omega)]
  rw [r]
  congr 3
theorem ins_l {α : Type} {E : Nat → α} {k n j : Nat} {v : α} (h : j < k) : ins E k n v j = E j := by
  unfold ins; rw [if_neg (by omega), if_neg (by omega)]
theorem ins_e {α : Type} {E : Nat → α} {k n : Nat} {v : α} : ins E k n v k = v := by
  unfold ins; rw [if_pos rfl]
theorem ins_g {α : Type} {E : Nat → α} {k n j : Nat} {v : α} (h : k < j) (h2 : j ≤ n) : ins E k n v j = E (j - 1) := by
  unfold ins; rw [if_neg (by omega), if_pos ⟨h, h2⟩]
/-- in order: by time, of one time beginnings first -/
def evs (n : Nat) (E : Nat → Int64) (B : Nat → Int32) : Prop := ∀ i j, i < j → j < n → E i < E j ∨ (E i = E j ∧ (B i = 0 → B j = 0))
def evp (n : Nat) (E : Nat → Int64) (B : Nat → Int32) (P : Int64 → Int32 → Prop) : Prop := (∀ i, i < n → P (E i) (B i)) ∧ ∀ e b, P e b → ∃ i, i < n ∧ E i = e ∧ B i = b
theorem ins_s {m : Nat} (hb : ∀ j, bol (B j)) (hg : bol bg) (hs : evs n E B) (h2 : m ≤ n) (h3 : ∀ j, m ≤ j → j < n → bhd w bg (E j) (B j)) (h4 : 0 < m → ¬ bhd w bg (E (m - 1)) (B (m - 1))) : evs (n + 1) (ins E m n w) (ins B m n bg) := by
  have low : ∀ j, j < m → E j < w ∨ (E j = w ∧ (B j = 0 → bg = 0)) := by
    have last : 0 < m → E (m - 1) < w ∨ (E (m - 1) = w ∧ (B (m - 1) = 0 → bg = 0)) := fun hm => by
      have := h4 hm
      unfold bhd at this
      by_cases c : E (m - 1) = w
      · refine Or.inr ⟨c, fun q => ?_⟩
        by_cases d : bg = 0
        · exact d
        · exact absurd (Or.inr ⟨c, d, q⟩) this
      · left
        have h5 : ¬ w < E (m - 1) := fun q => this (Or.inl q)
        rw [Int64.lt_iff_toInt_lt] at h5 ⊢
        rw [eqL] at c
        omega
    intro j hj
    by_cases e : j = m - 1
    · rw [e]; exact last (by omega)
    · have l1 := last (by omega)
      have l2 := hs j (m - 1) (by omega) (by omega)
      simp only [Int64.lt_iff_toInt_lt, eqL] at l1 l2 ⊢
      rcases l1 with l1 | ⟨l1, l1'⟩
      · rcases l2 with l2 | ⟨l2, l2'⟩
        · left; omega
        · left; omega
      · rcases l2 with l2 | ⟨l2, l2'⟩
        · left; omega
        · right; exact ⟨by omega, fun q => l1' (l2' q)⟩
  intro i j hij hj
  by_cases c1 : j < m
  · rw [ins_l c1, ins_l c1, ins_l (by omega), ins_l (by omega)]
    exact hs i j hij (by omega)
  · by_cases c2 : j = m
    · rw [c2, ins_e, ins_e, ins_l (by omega), ins_l (by omega)]
      exact low i (by omega)
    · rw [ins_g (j := j) (by omega) (by omega), ins_g (j := j) (by omega) (by omega)]
      by_cases c3 : i < m
      · rw [ins_l c3, ins_l c3]
        exact hs i (j - 1) (by omega) (by omega)
      · by_cases c4 : i = m
        · rw [c4, ins_e, ins_e]
          rcases h3 (j - 1) (by omega) (by omega) with q | ⟨q1, q2, q3⟩
          · exact Or.inl q
          · exact Or.inr ⟨q1.symm, fun _ => q3⟩
        · rw [ins_g (j := i) (by omega) (by omega), ins_g (j := i) (by omega) (by omega)]
          exact hs (i - 1) (j - 1) (by omega) (by omega)
theorem ins_p {m : Nat} {P : Int64 → Int32 → Prop} (h2 : m ≤ n) (hp : evp n E B P) : evp (n + 1) (ins E m n w) (ins B m n bg) (fun e b => P e b ∨ (e = w ∧ b = bg)) := by
  constructor
  · intro i hi
    by_cases c1 : i < m
    · rw [ins_l c1, ins_l c1]
      exact Or.inl (hp.1 i (by omega))
    · by_cases c2 : i = m
      · rw [c2, ins_e, ins_e]
        exact Or.inr ⟨rfl, rfl⟩
      · rw [ins_g (by omega) (by omega), ins_g (by omega) (by omega)]
        exact Or.inl (hp.1 (i - 1) (by omega))
  · intro e b h
    rcases h with h | ⟨rfl, rfl⟩
    · obtain ⟨i, i1, i2, i3⟩ := hp.2 e b h
      by_cases c : i < m
      · exact ⟨i, by omega, by rw [ins_l c]; exact i2, by rw [ins_l c]; exact i3⟩
      · exact ⟨i + 1, by omega, by rw [ins_g (by omega) (by omega)]; exact i2, by rw [ins_g (by omega) (by omega)]; exact i3⟩
    · exact ⟨m, by omega, ins_e, ins_e⟩
theorem fM_ev {P : Int64 → Int32 → Prop} (z1 : 0 ≤ x1.toInt) (z2 : x1.toInt < 8) (hn : n < 660) (hc : (S.1 237 x1.toNatClampNeg).toInt = n) (hb : ∀ j, bol (S.1 (229 + x1.toNatClampNeg) j)) (hg : bol bg) (hs : evs n (S.2.1 (220 + x1.toNatClampNeg)) (S.1 (229 + x1.toNatClampNeg))) (hp : evp n (S.2.1 (220 + x1.toNatClampNeg)) (S.1 (229 + x1.toNatClampNeg)) P) : ∃ E B, F_M_event x1 w bg S = some (w_i (eS S x1 E B) 237 x1.toNatClampNeg (Int32.ofInt (n + 1))) ∧ (∀ j, bol (B j)) ∧ evs (n + 1) E B ∧ evp (n + 1) E B (fun e b => P e b ∨ (e = w ∧ b = bg)) := by
  obtain ⟨y5, m, e1, e2, e3, e4, e5⟩ := lM_ev (S := S) (w := w) (bg := bg) (n := n) (E := S.2.1 (220 + x1.toNatClampNeg)) (B := S.1 (229 + x1.toNatClampNeg)) z1 z2 hn hb ju_ (S.1 237 x1.toNatClampNeg) n hc (Nat.le_refl _) (by show n < 1000000; omega) (fun j j1 j2 => by omega)
  have e0 : eS S x1 (S.2.1 (220 + x1.toNatClampNeg)) (S.1 (229 + x1.toNatClampNeg)) = S := by
    unfold eS
    rw [wB_id, wE_id]
  refine ⟨_, _, ?_, ?_, ins_s hb hg hs e2 e3 e4, ins_p e2 hp⟩
  · unfold F_M_event
    rw [j_qi z1 z2, jl_]
    rw [hol_n, hol_n, e0] at e5
    rw [e5, jM_110 z1 z2 e1 e2 hn hg]
    congr 2
    refine ofI ?_
    rw [Int32.toInt_add, hc]
    exact bs32 (by simp only [Int32.reduceToInt]; omega) (by simp only [Int32.reduceToInt]; omega)
  · intro j
    unfold ins
    split
    · exact hg
    · split <;> exact hb _
end JC1
