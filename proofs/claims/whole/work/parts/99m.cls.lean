section JU_2
variable {S T U C : jS} {A A' : Nat → Nat → Int} {b j i k n x y : Nat} {p0 : Int32}
/-- the periods of the class -/
def cP (C : jS) (A : Nat → Nat → Int) : Prop := ∀ j, j < 100 → A j 1 ≠ 3 → (C.2.1 (115 + j) 6).toInt = A j 6
/-- what only the class counts: slots used, jobs, the running ones -/
def cS (C : jS) (A : Nat → Nat → Int) : Prop := (0 ≤ (C.1 24 10).toInt ∧ (C.1 24 10).toInt ≤ 100 ∧ ∀ j : Nat, j < 100 → (C.1 24 10).toInt ≤ j → A j 0 = 0) ∧ (C.1 24 11).toInt = cN A 0 100 ∧ (C.1 24 14).toInt = cN A 1 100 ∧ cN A 1 100 ≤ 8 ∧ (∀ i, i < cN A 1 100 → ∃ j : Nat, j < 100 ∧ (C.1 46 i).toInt = j ∧ 2 ≤ A j 0) ∧ (∀ j : Nat, j < 100 → 2 ≤ A j 0 → ∃ i, i < cN A 1 100 ∧ (C.1 46 i).toInt = j) ∧ (∀ i i', i < cN A 1 100 → i' < cN A 1 100 → C.1 46 i = C.1 46 i' → i = i')
def cA (C : jS) (A : Nat → Nat → Int) : Prop := bB aiP alP C A ∧ cP C A ∧ cS C A
def mA (M : jS) (A : Nat → Nat → Int) : Prop := bB biP blP M A
/-- what holds of the numbers themselves -/
def jI (B : Int) (A : Nat → Nat → Int) (j : Nat) : Prop := 0 ≤ A j 0 ∧ A j 0 ≤ 3 ∧ (A j 0 ≠ 0 → (0 ≤ A j 1 ∧ A j 1 ≤ 3) ∧ (A j 1 = 3 → 0 ≤ A j 11 ∧ A j 11 ≤ 15 ∧ 0 ≤ A j 12 ∧ A j 12 ≤ 7 ∧ -1 ≤ A j 13 ∧ A j 13 ≤ 3) ∧ (A j 1 = 1 ∨ A j 1 = 2 → 1 ≤ A j 6 ∧ A j 6 ≤ 1099511627776) ∧ (0 ≤ A j 4 ∧ A j 4 ≤ 10413791999999) ∧ (0 ≤ A j 7 ∧ A j 7 ≤ 1099511627776) ∧ (0 ≤ A j 9 ∧ A j 9 ≤ 2) ∧ 0 ≤ A j 10 ∧ (0 ≤ A j 3 ∧ A j 3 ≤ B) ∧ (0 ≤ A j 2 ∧ A j 2 < A 100 4) ∧ (2 ≤ A j 0 → 1 ≤ A j 3 ∧ A j 4 ≤ A 100 0))
def iA (B : Int) (A : Nat → Nat → Int) : Prop := (∀ j, j < 100 → jI B A j) ∧ (∀ j j', j < 100 → j' < 100 → A j 0 ≠ 0 → A j' 0 ≠ 0 → A j 2 = A j' 2 → j = j') ∧ (0 ≤ A 100 0 ∧ A 100 0 ≤ 10413791999999) ∧ (0 ≤ A 100 1 ∧ A 100 1 ≤ 8) ∧ (0 ≤ A 100 2 ∧ A 100 2 ≤ 500) ∧ (0 ≤ A 100 3 ∧ A 100 3 ≤ B) ∧ (0 ≤ A 100 4 ∧ A 100 4 ≤ B)
theorem cA_m (h : fm S T) (hc : cA S A) : cA T A := by
  obtain ⟨h1, h2, h3⟩ := hc
  have e : ∀ b j, b < 215 → T.1 b j = S.1 b j := fun b j q => h.1 b j (by omega) (by omega)
  refine ⟨fm_a h h1, fun j hj q => ?_, ?_⟩
  · rw [h.2.1 _ _ (by omega) (by omega)]
    exact h2 j hj q
  · unfold cS
    simp only [e 24 _ (by omega), e 46 _ (by omega)]
    exact h3
/-- the class's rows of jobs are left alone -/
theorem cA_k (e1 : ∀ b j, jr b → T.1 b j = S.1 b j) (e2 : ∀ b j, jr b → T.2.1 b j = S.2.1 b j) (hc : cA S A) : cA T A := by
  obtain ⟨h1, h2, h3⟩ := hc
  refine ⟨⟨fun b j x y q => ?_, fun b j x y q => ?_⟩, fun j hj q => ?_, ?_⟩
  · rw [e1 _ _ (by unfold jr; unfold aiP at q; omega)]; exact h1.1 _ _ _ _ q
  · rw [e2 _ _ (by unfold jr; unfold alP at q; omega)]; exact h1.2 _ _ _ _ q
  · rw [e2 _ _ (by unfold jr; omega)]; exact h2 j hj q
  · unfold cS
    simp only [e1 24 _ (Or.inl rfl), e1 46 _ (Or.inr (Or.inl (by omega)))]
    exact h3
theorem cS_c (h : cS S A) (e1 : ∀ i, T.1 24 i = S.1 24 i) (e2 : ∀ i, T.1 46 i = S.1 46 i) (e : ∀ j, j < 100 → A' j 0 = A j 0) : cS T A' := by
  have q : ∀ k, cN A' k 100 = cN A k 100 := fun k => cN_e 100 (fun j hj => by rw [e j hj])
  unfold cS at h ⊢
  simp only [e1, e2, q]
  obtain ⟨⟨a1, a2, a3⟩, h2, h3, h4, h5, h6, h7⟩ := h
  refine ⟨⟨a1, a2, fun j hj w => by rw [e j hj]; exact a3 j hj w⟩, h2, h3, h4, fun i hi => ?_, fun j hj w => h6 j hj (by rw [← e j hj]; exact w), h7⟩
  obtain ⟨j, j1, j2, j3⟩ := h5 i hi
  exact ⟨j, j1, j2, by rw [e j j1]; exact j3⟩
theorem cP_c (h : cP S A) (e : ∀ j, j < 100 → T.2.1 (115 + j) 6 = S.2.1 (115 + j) 6) (e1 : ∀ j, j < 100 → A' j 1 = A j 1 ∧ A' j 6 = A j 6) : cP T A' := by
  intro j hj q
  rw [e j hj, (e1 j hj).2]
  rw [(e1 j hj).1] at q
  exact h j hj q
/-- the class's clock is set -/
theorem cA_clk {v : Int64} {t : Int} (h : cA C A) (hv : v.toInt = t) : cA (w_l C 24 8 v) (up A 100 0 t) := by
  obtain ⟨h1, h2, h3⟩ := h
  refine ⟨ca_l h1 (by unfold alP; omega) hv, ?_, ?_⟩
  · exact cP_c h2 (fun j hj => by rw [w_lr, if_neg (by omega)]) (fun j hj => by simp only [up_r]; rw [if_neg (by omega), if_neg (by omega)]; exact ⟨rfl, rfl⟩)
  · exact cS_c h3 (fun i => rfl) (fun i => rfl) (fun j hj => by rw [up_r, if_neg (by omega)])
/-- a job is begun -/
def aBeg (A : Nat → Nat → Int) (j : Nat) : Nat → Nat → Int := up (up (up (up (up (up (up (up A j 0 2) j 3 (A j 3 + 1)) j 5 (A 100 0 + A j 7)) (101 + (A 100 2).toNat) 0 (A 100 0)) (101 + (A 100 2).toNat) 1 j) (101 + (A 100 2).toNat) 2 (A j 4)) 100 2 (A 100 2 + 1)) 100 3 (A 100 3 + 1)
/-- a job is freed: r is its next time -/
def aFre (A : Nat → Nat → Int) (j : Nat) (r : Int) : Nat → Nat → Int := if 0 ≤ r ∧ r ≤ 10413791999999 then up (up A j 4 r) j 0 1 else up A j 0 0
theorem aBeg_j (hj : j < 100) : aBeg A j j 0 = 2 ∧ aBeg A j j 3 = A j 3 + 1 ∧ aBeg A j j 5 = A 100 0 + A j 7 ∧ ∀ i, i ≠ 0 → i ≠ 3 → i ≠ 5 → aBeg A j j i = A j i := by
  unfold aBeg
  simp only [up_r]
  refine ⟨?_, ?_, ?_, fun i h1 h2 h3 => ?_⟩
  · repeat rw [if_neg (by omega)]
    rw [if_pos ⟨by trivial, by trivial⟩]
  · repeat rw [if_neg (by omega)]
    rw [if_pos ⟨by trivial, by trivial⟩]
  · repeat rw [if_neg (by omega)]
    rw [if_pos ⟨by trivial, by trivial⟩]
  · repeat rw [if_neg (by omega)]
theorem aBeg_n {j' : Nat} (hj : j < 100) (hj' : j' < 100) (hn : j' ≠ j) (i : Nat) : aBeg A j j' i = A j' i := by
  unfold aBeg
  simp only [up_r]
  repeat rw [if_neg (by omega)]
theorem aBeg_g (hj : j < 100) : aBeg A j 100 2 = A 100 2 + 1 ∧ aBeg A j 100 3 = A 100 3 + 1 ∧ ∀ i, i ≠ 2 → i ≠ 3 → aBeg A j 100 i = A 100 i := by
  unfold aBeg
  simp only [up_r]
  refine ⟨?_, ?_, fun i h1 h2 => ?_⟩
  · rw [if_neg (by omega), if_pos ⟨by trivial, by trivial⟩]
  · rw [if_pos ⟨by trivial, by trivial⟩]
  · repeat rw [if_neg (by omega)]
theorem aFre_n {j' : Nat} {r : Int} (hn : j' ≠ j) (i : Nat) : aFre A j r j' i = A j' i := by
  unfold aFre
  split
  · rw [up_r, if_neg (by omega), up_r, if_neg (by omega)]
  · rw [up_r, if_neg (by omega)]
theorem aFre_j {r : Int} : (0 ≤ r ∧ r ≤ 10413791999999 ∧ aFre A j r j 0 = 1 ∧ aFre A j r j 4 = r ∧ ∀ i, i ≠ 0 → i ≠ 4 → aFre A j r j i = A j i) ∨ (¬ (0 ≤ r ∧ r ≤ 10413791999999) ∧ aFre A j r j 0 = 0 ∧ ∀ i, i ≠ 0 → aFre A j r j i = A j i) := by
  unfold aFre
  by_cases q : 0 ≤ r ∧ r ≤ 10413791999999
  · rw [if_pos q]
    refine Or.inl ⟨q.1, q.2, ?_, ?_, fun i h1 h2 => ?_⟩
    · rw [up_r, if_pos ⟨by trivial, by trivial⟩]
    · rw [up_r, if_neg (by omega), up_r, if_pos ⟨by trivial, by trivial⟩]
    · rw [up_r, if_neg (by omega), up_r, if_neg (by omega)]
  · rw [if_neg q]
    refine Or.inr ⟨q, ?_, fun i h1 => ?_⟩
    · rw [up_r, if_pos ⟨by trivial, by trivial⟩]
    · rw [up_r, if_neg (by omega)]
theorem adL {x y : Int64} {a b : Int} (h1 : x.toInt = a) (h2 : y.toInt = b) (c1 : -9223372036854775808 ≤ a + b) (c2 : a + b < 9223372036854775808) : (x + y).toInt = a + b := by
  rw [Int64.toInt_add, h1, h2]
  exact bs64 c1 c2
theorem adJ {x y : Int32} {a b : Int} (h1 : x.toInt = a) (h2 : y.toInt = b) (c1 : -2147483648 ≤ a + b) (c2 : a + b < 2147483648) : (x + y).toInt = a + b := by
  rw [Int32.toInt_add, h1, h2]
  exact bs32 c1 c2
theorem suJ {x y : Int32} {a b : Int} (h1 : x.toInt = a) (h2 : y.toInt = b) (c1 : -2147483648 ≤ a - b) (c2 : a - b < 2147483648) : (x - y).toInt = a - b := by
  rw [Int32.toInt_sub, h1, h2]
  exact bs32 c1 c2
/-- the class begins a job -/
theorem fJ_beg {B : Int} (h : cA C A) (hI : iA B A) (hB : B < 2000000000) (i0 : p0.toInt = j) (hj : j < 100) (hs : A j 0 = 1) (hn : cN A 1 100 < 8) (h5 : A 100 2 < 500) : ∃ C', F_J_begin p0 C = some C' ∧ cA C' (aBeg A j) ∧ f0 C C' := by
  obtain ⟨h1, h2, h3⟩ := h
  obtain ⟨I1, -, I3, -, I5, I6, -⟩ := hI
  obtain ⟨-, -, J3⟩ := I1 j hj
  obtain ⟨-, -, -, J4, J7, -, -, J8, -⟩ := J3 (by omega)
  obtain ⟨⟨s1, s2, s3⟩, s4, s5, s6, s7, s8, s9⟩ := h3
  generalize hN : cN A 1 100 = N at *
  have g3 := (cs3 h1 (j := j) (by omega))
  have g4 := (cs4 h1 (j := j) (by omega))
  have g7 := (cs7 h1 (j := j) (by omega))
  have g8 := (cg0 h1)
  have gz := (cg2 h1)
  have gt := (cg3 h1)
  obtain ⟨s, hz⟩ : ∃ s : Nat, A 100 2 = s := ⟨(A 100 2).toNat, by omega⟩
  have hz' : (A 100 2).toNat = s := by omega
  rw [hz] at gz
  refine ⟨w_l (w_i (w_l (w_i (w_l (w_i (w_i (w_l (w_i (w_i C (115 + j) 0 2) (115 + j) 3 (C.1 (115 + j) 3 + 1)) (115 + j) 5 (C.2.1 24 8 + C.2.1 (115 + j) 7)) 46 N p0) 24 14 (C.1 24 14 + 1)) 48 s (C.2.1 24 8)) 49 s p0) 50 s (C.2.1 (115 + j) 4)) 47 3 (C.1 47 3 + 1)) 47 4 (C.2.1 47 4 + 1), ?_, ⟨?_, ?_, ?_⟩, ?_⟩
  · unfold F_J_begin
    rw [j_qi (by omega) (by omega), clN i0]
    simp only [jl_]
    have e3 : (w_i C (115 + j) 0 2).1 (115 + j) 3 = C.1 (115 + j) 3 := by rw [w_ir, if_neg (by omega)]
    have e14 : ∀ v w u, (w_l (w_i (w_i C (115 + j) 0 2) (115 + j) 3 v) (115 + j) 5 w).1 24 u = C.1 24 u := fun v w u => by rw [w_l1, w_ir, if_neg (by omega), w_ir, if_neg (by omega)]
    rw [e3]
    simp only [w_i2, e14]
    rw [if_neg (by rw [geI (k := 8) (n := 8) rfl]; omega), j_qi (by omega) (by omega), clN s5]
    have e14' : ∀ v w u, (w_i (w_l (w_i (w_i C (115 + j) 0 2) (115 + j) 3 v) (115 + j) 5 w) 46 N u).1 24 14 = C.1 24 14 := fun v w u => by rw [w_ir, if_neg (by omega), e14]
    rw [e14']
    unfold J_J_begin_64
    have l8 : ∀ v, (w_l (w_i (w_i C (115 + j) 0 2) (115 + j) 3 (C.1 (115 + j) 3 + 1)) (115 + j) 5 v).2.1 24 8 = C.2.1 24 8 := fun v => by rw [w_lr, if_neg (by omega)]; rfl
    have l4 : ∀ v, (w_l (w_i (w_i C (115 + j) 0 2) (115 + j) 3 (C.1 (115 + j) 3 + 1)) (115 + j) 5 v).2.1 (115 + j) 4 = C.2.1 (115 + j) 4 := fun v => by rw [w_lr, if_neg (by omega)]; rfl
    simp only [w_i2, l8, l4]
    have z3 : ∀ v w, (w_i (w_i (w_l (w_i (w_i C (115 + j) 0 2) (115 + j) 3 (C.1 (115 + j) 3 + 1)) (115 + j) 5 v) 46 N p0) 24 14 w).1 47 3 = C.1 47 3 := fun v w => by rw [w_ir, if_neg (by omega), w_ir, if_neg (by omega), w_l1, w_ir, if_neg (by omega), w_ir, if_neg (by omega)]
    unfold F_L_add
    rw [z3, if_neg (by rw [geI (k := 500) (n := 500) rfl]; omega), j_qi (by omega) (by omega), clN gz]
    simp only [jl_, w_l1]
    rw [z3, j_qi (by omega) (by omega), clN gz]
    have z4 : ∀ v w, (w_i (w_l (w_i (w_i (w_l (w_i (w_i C (115 + j) 0 2) (115 + j) 3 (C.1 (115 + j) 3 + 1)) (115 + j) 5 v) 46 N p0) 24 14 w) 48 s (C.2.1 24 8)) 49 s p0).1 47 3 = C.1 47 3 := fun v w => by rw [w_ir, if_neg (by omega), w_l1, z3]
    rw [z4, j_qi (by omega) (by omega), clN gz]
    have t4 : ∀ v w, (w_l (w_i (w_l (w_i (w_i (w_l (w_i (w_i C (115 + j) 0 2) (115 + j) 3 (C.1 (115 + j) 3 + 1)) (115 + j) 5 v) 46 N p0) 24 14 w) 48 s (C.2.1 24 8)) 49 s p0) 50 s (C.2.1 (115 + j) 4)).2.1 47 4 = C.2.1 47 4 := fun v w => by rw [w_lr, if_neg (by omega), w_i2, w_lr, if_neg (by omega), w_i2, w_i2, w_lr, if_neg (by omega)]; rfl
    simp only [w_i2, t4, ob_]
  · unfold aBeg
    rw [hz']
    refine ca_l (ca_i (ca_l (ca_i (ca_l (ca_o (ca_o (ca_l (ca_i (ca_i h1 ?_ rfl) ?_ ?_) ?_ ?_) ?_) ?_) ?_ g8) ?_ i0) ?_ g4) ?_ ?_) ?_ ?_
    all_goals first
      | (unfold aiP; omega)
      | (unfold alP; omega)
      | (intro x y; unfold aiP; omega)
      | skip
    · exact adJ g3 rfl (by omega) (by omega)
    · exact adL g8 g7 (by omega) (by omega)
    · rw [hz]; exact adJ gz rfl (by omega) (by omega)
    · exact adL gt rfl (by omega) (by omega)
  · refine cP_c h2 (fun j' hj' => ?_) (fun j' hj' => ?_)
    · simp only [w_lr, w_i2]
      repeat rw [if_neg (by omega)]
    · by_cases e : j' = j
      · subst e
        obtain ⟨-, -, -, q⟩ := aBeg_j (A := A) hj
        exact ⟨q 1 (by omega) (by omega) (by omega), q 6 (by omega) (by omega) (by omega)⟩
      · exact ⟨aBeg_n hj hj' e 1, aBeg_n hj hj' e 6⟩
  · obtain ⟨b0, -⟩ := aBeg_j (A := A) hj
    have c0 : cN (aBeg A j) 0 100 = cN A 0 100 := by
      have := cN_u (A := A) (A' := aBeg A j) (k := 0) 100 j hj (fun i hi hn => by rw [aBeg_n hj hi hn])
      rw [b0, hs, if_neg (by omega), if_neg (by omega)] at this
      omega
    have c1 : cN (aBeg A j) 1 100 = N + 1 := by
      have := cN_u (A := A) (A' := aBeg A j) (k := 1) 100 j hj (fun i hi hn => by rw [aBeg_n hj hi hn])
      rw [b0, hs, if_pos (by omega), if_neg (by omega), hN] at this
      omega
    unfold cS
    rw [c0, c1]
    have r46 : ∀ i, (w_l (w_i (w_l (w_i (w_l (w_i (w_i (w_l (w_i (w_i C (115 + j) 0 2) (115 + j) 3 (C.1 (115 + j) 3 + 1)) (115 + j) 5 (C.2.1 24 8 + C.2.1 (115 + j) 7)) 46 N p0) 24 14 (C.1 24 14 + 1)) 48 s (C.2.1 24 8)) 49 s p0) 50 s (C.2.1 (115 + j) 4)) 47 3 (C.1 47 3 + 1)) 47 4 (C.2.1 47 4 + 1)).1 46 i = if i = N then p0 else C.1 46 i := by
      intro i
      simp only [w_l1, w_ir]
      rw [if_neg (by omega), if_neg (by omega), if_neg (by omega)]
      by_cases e : i = N
      · rw [if_pos ⟨by trivial, e⟩, if_pos e]
      · rw [if_neg (by omega), if_neg (by omega), if_neg (by omega), if_neg e]
    have r24 : ∀ i, (w_l (w_i (w_l (w_i (w_l (w_i (w_i (w_l (w_i (w_i C (115 + j) 0 2) (115 + j) 3 (C.1 (115 + j) 3 + 1)) (115 + j) 5 (C.2.1 24 8 + C.2.1 (115 + j) 7)) 46 N p0) 24 14 (C.1 24 14 + 1)) 48 s (C.2.1 24 8)) 49 s p0) 50 s (C.2.1 (115 + j) 4)) 47 3 (C.1 47 3 + 1)) 47 4 (C.2.1 47 4 + 1)).1 24 i = if i = 14 then C.1 24 14 + 1 else C.1 24 i := by
      intro i
      simp only [w_l1, w_ir]
      rw [if_neg (by omega), if_neg (by omega)]
      by_cases e : i = 14
      · rw [if_pos ⟨by trivial, e⟩, if_pos e]
      · rw [if_neg (by omega), if_neg (by omega), if_neg (by omega), if_neg (by omega), if_neg e]
    simp only [r46, r24]
    rw [if_neg (by omega), if_neg (by omega), if_pos (by trivial)]
    refine ⟨⟨s1, s2, fun j' hj' q => ?_⟩, s4, ?_, by omega, fun i hi => ?_, fun j' hj' q => ?_, fun i i' hi hi' q => ?_⟩
    · by_cases e : j' = j
      · subst e
        have := s3 j' hj' q
        omega
      · rw [aBeg_n hj hj' e]; exact s3 j' hj' q
    · rw [adJ s5 (b := 1) rfl (by omega) (by omega)]; omega
    · by_cases e : i = N
      · rw [if_pos e]
        exact ⟨j, hj, i0, by rw [b0]; omega⟩
      · rw [if_neg e]
        obtain ⟨j', q1, q2, q3⟩ := s7 i (by omega)
        refine ⟨j', q1, q2, ?_⟩
        rw [aBeg_n hj q1 (fun w => by rw [w] at q3; omega)]
        exact q3
    · by_cases e : j' = j
      · exact ⟨N, by omega, by rw [if_pos rfl, i0, e]⟩
      · rw [aBeg_n hj hj' e] at q
        obtain ⟨i, q1, q2⟩ := s8 j' hj' q
        exact ⟨i, by omega, by rw [if_neg (by omega)]; exact q2⟩
    · have na : ∀ i, i < N → ¬ C.1 46 i = p0 := by
        intro i hi w
        obtain ⟨j', q1, q2, q3⟩ := s7 i hi
        rw [w, i0] at q2
        rw [show j' = j by omega] at q3
        omega
      by_cases e : i = N
      · by_cases e' : i' = N
        · omega
        · rw [if_pos e, if_neg e'] at q
          exact absurd q.symm (na i' (by omega))
      · by_cases e' : i' = N
        · rw [if_neg e, if_pos e'] at q
          exact absurd q (na i (by omega))
        · rw [if_neg e, if_neg e'] at q
          exact s9 i i' (by omega) (by omega) q
  · refine f0_l (f0_i (f0_l (f0_i (f0_l (f0_i (f0_i (f0_l (f0_i (f0_i f0_r ?_) ?_) ?_) ?_) ?_) ?_) ?_) ?_) ?_) ?_ <;> (unfold jr; omega)
end JU_2
