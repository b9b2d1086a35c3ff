section JV_7
variable {S T U C C' M Y D : jS} {A A' : Nat → Nat → Int} {b j i k n x y c f g : Nat} {p0 p1 p2 p4 p5 p6 x5 : Int32} {p3 x3 : Int64} {RB : jS → Prop}
/-- the first free slot -/
def fs (A : Nat → Nat → Int) (j : Nat) : Prop := j < 100 ∧ A j 0 = 0 ∧ ∀ i, i < j → A i 0 ≠ 0
theorem fs_u {j' : Nat} (h1 : fs A j) (h2 : fs A j') : j = j' := by
  obtain ⟨a1, a2, a3⟩ := h1
  obtain ⟨b1, b2, b3⟩ := h2
  rcases Nat.lt_trichotomy j j' with q | q | q
  · exact absurd a2 (b3 j q)
  · exact q
  · exact absurd b2 (a3 j' q)
theorem lJ_fs (h : bB aiP alP C A) : ∀ (f : Nat) (x1 : Int32) (m : Nat), x1.toInt = m → m ≤ 100 → 100 - m < f → (∀ i, i < m → A i 0 ≠ 0) → (∃ (x : Int32) (j : Nat), L_J_freeSlot_2 f x1 C = some (.inl x, C) ∧ x.toInt = j ∧ fs A j) ∨ (L_J_freeSlot_2 f x1 C = some (.inr 10, C) ∧ ∀ i, i < 100 → A i 0 ≠ 0) := by
  intro f
  induction f with
  | zero => intro x1 m _ _ q; omega
  | succ f ih =>
    intro x1 m h1 hm hf hx
    unfold L_J_freeSlot_2
    by_cases e : m = 100
    · rw [if_pos (by rw [geI (k := 100) (n := 100) rfl]; omega)]
      exact Or.inr ⟨rfl, e ▸ hx⟩
    · rw [if_neg (by rw [geI (k := 100) (n := 100) rfl]; omega), j_qN h1 (by omega), clN h1]
      by_cases q : A m 0 = 0
      · rw [if_pos (eqI.mpr (by rw [cs0 h (j := m) (by omega), q]; rfl))]
        exact Or.inl ⟨x1, m, rfl, h1, by omega, q, hx⟩
      · rw [if_neg (fun w => q (by have := eqI.mp w; rw [cs0 h (j := m) (by omega)] at this; exact this))]
        refine ih (x1 + 1) (m + 1) (p1I h1 (by omega)) (by omega) (by omega) (fun i hi => ?_)
        by_cases w : i < m
        · exact hx i w
        · rw [show i = m by omega]; exact q
theorem lM_en (h : bB biP blP M A) {q1 q8 q9 q10 : Int32} {q2 q4 q6 : Int64} : ∀ (f : Nat) (x1 : Int32) (m : Nat), x1.toInt = m → m ≤ 100 → 100 - m < f → (∀ i, i < m → A i 0 ≠ 0) → (∃ (x : Int32) (j : Nat), L_M_enter_3 f q1 q2 q4 q6 q8 q9 q10 x1 M = J_M_enter_26 q1 q2 q4 q6 q8 q9 q10 x M ∧ x.toInt = j ∧ fs A j) ∨ (L_M_enter_3 f q1 q2 q4 q6 q8 q9 q10 x1 M = some (-1, M) ∧ ∀ i, i < 100 → A i 0 ≠ 0) := by
  intro f
  induction f with
  | zero => intro x1 m _ _ q; omega
  | succ f ih =>
    intro x1 m h1 hm hf hx
    unfold L_M_enter_3
    by_cases e : m = 100
    · rw [if_pos (by rw [geI (k := 100) (n := 100) rfl]; omega)]
      refine Or.inr ⟨?_, e ▸ hx⟩
      unfold J_M_enter_26
      rw [if_pos (eqI.mpr (by rw [h1, e]; rfl))]
    · rw [if_neg (by rw [geI (k := 100) (n := 100) rfl]; omega), j_qN h1 (by omega), clN h1]
      by_cases q : A m 0 = 0
      · rw [if_pos (eqI.mpr (by rw [ms0 h (j := m) (by omega), q]; rfl))]
        exact Or.inl ⟨x1, m, rfl, h1, by omega, q, hx⟩
      · rw [if_neg (fun w => q (by have := eqI.mp w; rw [ms0 h (j := m) (by omega)] at this; exact this))]
        refine ih (x1 + 1) (m + 1) (p1I h1 (by omega)) (by omega) (by omega) (fun i hi => ?_)
        by_cases w : i < m
        · exact hx i w
        · rw [show i = m by omega]; exact q
/-- the numbers of a new job -/
def mkF (kind ord nom per dur pri pol fai c1 c2 c3 : Int) (k : Nat) : Int := if k = 0 then 1 else if k = 1 then kind else if k = 2 then ord else if k = 3 then 0 else if k = 4 then nom else if k = 6 then per else if k = 7 then dur else if k = 8 then pri else if k = 9 then pol else if k = 10 then fai else if k = 11 then c1 else if k = 12 then c2 else c3
/-- a new job -/
def aMk (A : Nat → Nat → Int) (j : Nat) (F : Nat → Int) : Nat → Nat → Int := fun b k => if b = j ∧ k < 14 ∧ k ≠ 5 then F k else if b = 100 ∧ k = 4 then A 100 4 + 1 else A b k
theorem aMk_j {F : Nat → Int} (h1 : k < 14) (h2 : k ≠ 5) : aMk A j F j k = F k := by unfold aMk; rw [if_pos ⟨rfl, h1, h2⟩]
theorem aMk_n {F : Nat → Int} {j' : Nat} (h1 : j' ≠ j) (h2 : j' < 100) : aMk A j F j' k = A j' k := by unfold aMk; rw [if_neg (by omega), if_neg (by omega)]
theorem aMk_4 {F : Nat → Int} (h1 : j < 100) : aMk A j F 100 4 = A 100 4 + 1 := by unfold aMk; rw [if_neg (by omega), if_pos ⟨rfl, rfl⟩]
theorem aMk_g {F : Nat → Int} (h1 : j < 100) (hk : k ≠ 4) : aMk A j F 100 k = A 100 k := by unfold aMk; rw [if_neg (by omega), if_neg (by omega)]
theorem ca_6 {w : Int} (h : bB aiP alP S A) (hj : j < 100) : bB aiP alP S (up A j 6 w) := by
  refine ⟨fun b i x y q => ?_, fun b i x y q => ?_⟩
  · rw [up_r, if_neg (by unfold aiP at q; omega)]; exact h.1 _ _ _ _ q
  · rw [up_r, if_neg (by unfold alP at q; omega)]; exact h.2 _ _ _ _ q
theorem mk_c {kind ord nom per dur pri pol fai : Int} (hj : j < 100) (ho : ord = A 100 4) (x y : Nat) : aMk A j (mkF kind ord nom per dur pri pol fai (A j 11) (A j 12) (A j 13)) x y = up (up (up (up (up (up (up (up (up (up (up A j 0 1) j 7 dur) j 8 pri) j 9 pol) j 10 fai) j 3 0) j 2 ord) 100 4 (ord + 1)) j 1 kind) j 6 per) j 4 nom x y := by
  unfold aMk mkF
  simp only [up_r]
  by_cases e : x = j
  · subst e
    have n : ¬ x = 100 := by omega
    rcases (by omega : y = 0 ∨ y = 1 ∨ y = 2 ∨ y = 3 ∨ y = 4 ∨ y = 5 ∨ y = 6 ∨ y = 7 ∨ y = 8 ∨ y = 9 ∨ y = 10 ∨ y = 11 ∨ y = 12 ∨ y = 13 ∨ 14 ≤ y) with rfl | rfl | rfl | rfl | rfl | rfl | rfl | rfl | rfl | rfl | rfl | rfl | rfl | rfl | hy
    all_goals first
      | (simp [n]; done)
      | (repeat rw [if_neg (by omega)])
  · simp [e, ho]
theorem mk_m {kind ord nom per dur pri pol fai : Int} (hj : j < 100) (ho : ord = A 100 4) (x y : Nat) : aMk A j (mkF kind ord nom per dur pri pol fai (A j 11) (A j 12) (A j 13)) x y = up (up (up (up (up (up (up (up (up (up (up A j 0 1) j 1 kind) j 4 nom) j 6 per) j 7 dur) j 8 pri) j 9 pol) j 10 fai) j 3 0) j 2 ord) 100 4 (ord + 1) x y := by
  unfold aMk mkF
  simp only [up_r]
  by_cases e : x = j
  · subst e
    have n : ¬ x = 100 := by omega
    rcases (by omega : y = 0 ∨ y = 1 ∨ y = 2 ∨ y = 3 ∨ y = 4 ∨ y = 5 ∨ y = 6 ∨ y = 7 ∨ y = 8 ∨ y = 9 ∨ y = 10 ∨ y = 11 ∨ y = 12 ∨ y = 13 ∨ 14 ≤ y) with rfl | rfl | rfl | rfl | rfl | rfl | rfl | rfl | rfl | rfl | rfl | rfl | rfl | rfl | hy
    all_goals first
      | (simp [n]; done)
      | (repeat rw [if_neg (by omega)])
  · simp [e, ho]
theorem mk_k {kind ord nom per dur pri pol fai c1 c2 c3 : Int} (hj : j < 100) (x y : Nat) : aMk A j (mkF kind ord nom per dur pri pol fai c1 c2 c3) x y = up (up (up (aMk A j (mkF kind ord nom per dur pri pol fai (A j 11) (A j 12) (A j 13))) j 11 c1) j 12 c2) j 13 c3 x y := by
  unfold aMk mkF
  simp only [up_r]
  by_cases e : x = j
  · subst e
    have n : ¬ x = 100 := by omega
    rcases (by omega : y = 0 ∨ y = 1 ∨ y = 2 ∨ y = 3 ∨ y = 4 ∨ y = 5 ∨ y = 6 ∨ y = 7 ∨ y = 8 ∨ y = 9 ∨ y = 10 ∨ y = 11 ∨ y = 12 ∨ y = 13 ∨ 14 ≤ y) with rfl | rfl | rfl | rfl | rfl | rfl | rfl | rfl | rfl | rfl | rfl | rfl | rfl | rfl | hy
    all_goals first
      | (simp [n]; done)
      | (repeat rw [if_neg (by omega)])
  · simp [e]
/-- the model enters a job -/
theorem fM_en (h : mA M A) (hI : 0 ≤ A 100 4 ∧ A 100 4 < 2000000000) {q1 q8 q9 q10 x : Int32} {q2 q4 q6 : Int64} (i0 : x.toInt = j) (hj : j < 100) : ∃ M', J_M_enter_26 q1 q2 q4 q6 q8 q9 q10 x M = some (x, M') ∧ mA M' (aMk A j (mkF q1.toInt (A 100 4) q2.toInt q4.toInt q6.toInt q8.toInt q9.toInt q10.toInt (A j 11) (A j 12) (A j 13))) ∧ fm M M' := by
  have jq : ∀ {α : Type} {X : Option α}, j_q (j_in x 100) X = X := fun {α X} => j_qN i0 hj
  have g43 := fun (_ : Unit) => mg4 h
  refine ⟨w_l (w_l (w_l (w_i (w_i (w_i (w_l (w_l (w_l (w_i (w_i M 436 j 1) 437 j q1) 438 j q2) 442 j q4) 443 j q6) 444 j q8) 445 j q9) 446 j q10) 440 j 0) 441 j (M.2.1 215 43)) 215 43 (M.2.1 215 43 + 1), ?_, ?_, ?_⟩
  · unfold J_M_enter_26
    rw [if_neg (fun w => by have := eqI.mp w; rw [i0] at this; simp only [Int32.reduceToInt] at this; omega)]
    simp only [jq, clN i0, jl_, w_lr, w_i2, Nat.reduceEqDiff, false_and, if_false]
  · refine bB_c ?_ (mk_m hj rfl)
    exact ma_l (ma_l (ma_l (ma_i (ma_i (ma_i (ma_l (ma_l (ma_l (ma_i (ma_i h (pm0 hj) rfl) (pm1 hj) rfl) (pm4 hj) rfl) (pm6 hj) rfl) (pm7 hj) rfl) (pm8 hj) rfl) (pm9 hj) rfl) (pm10 hj) rfl) (pm3 hj) rfl) (pm2 hj) (mg4 h)) pq4 (adL (mg4 h) rfl (by omega) (by omega))
  · exact fm_l (fm_l (fm_l (fm_i (fm_i (fm_i (fm_l (fm_l (fm_l (fm_i (fm_i fm_r (by omega)) (by omega)) (by omega)) (by omega)) (by omega)) (by omega)) (by omega)) (by omega)) (by omega)) (by omega)) (by omega)
end JV_7
