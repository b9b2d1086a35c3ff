section JV_6
variable {S T U C C' M Y D : jS} {A A' : Nat → Nat → Int} {b j i k n x y c f g : Nat} {p0 x5 : Int32} {p1 x3 : Int64} {RB : jS → Prop} {x1 x2 : Int32}
/-- the state of a job after a close -/
def nst (A : Nat → Nat → Int) (x1 x2 : Int32) (b : Nat) : Int := if A b 0 = 1 then (if (if A b 1 = 0 then x1 else x2) = 0 then 1 else 0) else if A b 0 = 2 then (if A b 1 = 0 then 2 else if x2 = 0 then 2 else 3) else A b 0
/-- the first m jobs are closed -/
def aC (A : Nat → Nat → Int) (x1 x2 : Int32) (m : Nat) : Nat → Nat → Int := fun b k => if k = 0 ∧ b < m then nst A x1 x2 b else A b k
theorem aC_n {m : Nat} (h : ¬ (k = 0 ∧ b < m)) : aC A x1 x2 m b k = A b k := by unfold aC; rw [if_neg h]
theorem aC_s {m : Nat} : aC A x1 x2 (m + 1) = up (aC A x1 x2 m) m 0 (nst A x1 x2 m) := by
  funext b k
  rw [up_r]
  unfold aC
  by_cases q : b = m ∧ k = 0
  · rw [if_pos q, if_pos (by omega), q.1]
  · rw [if_neg q]
    by_cases w : k = 0 ∧ b < m
    · rw [if_pos w, if_pos (by omega)]
    · rw [if_neg w, if_neg (by omega)]
theorem aC_e {m : Nat} (h : nst A x1 x2 m = A m 0) : aC A x1 x2 (m + 1) = aC A x1 x2 m := by
  rw [aC_s, h]
  funext b k
  rw [up_r]
  by_cases q : b = m ∧ k = 0
  · rw [if_pos q, q.1, q.2, aC_n (by omega)]
  · rw [if_neg q]
theorem lJ_cl {u : Nat} (hu1 : u ≤ 100) : ∀ (f : Nat) (x3 : Int32) (m : Nat) (C : jS), cA C (aC A x1 x2 m) → (C.1 24 10).toInt = u → x3.toInt = m → m ≤ u → u - m < f → ∃ C', L_J_close_11 f x1 x2 x3 C = some (.inl (C'.1 24 11), C') ∧ cA C' (aC A x1 x2 u) ∧ f0 C C' := by
  intro f
  induction f with
  | zero => intro x3 m C _ _ _ _ q; omega
  | succ f ih =>
    intro x3 m C h hu h3 hm hf
    by_cases e : m = u
    · refine ⟨C, ?_, e ▸ h, f0_r⟩
      unfold L_J_close_11
      rw [if_pos (Int32.le_iff_toInt_le.mpr (by omega))]
    · skip
      have hm1 : m < 100 := by omega
      have g0 := (cs0 h.1 (j := m) (by omega))
      have g1 := (cs1 h.1 (j := m) (by omega))
      rw [aC_n (by omega)] at g0 g1
      have e0 : ∀ (v : Int32) (w : Int), v.toInt = w → (C.1 (115 + m) 0 = v) = (A m 0 = w) := fun v w q => by rw [eqI, g0, q]
      have e1 : (C.1 (115 + m) 1 = 0) = (A m 1 = 0) := by rw [eqI, g1]; rfl
      have red : L_J_close_11 (f + 1) x1 x2 x3 C = if A m 1 = 0 then J_J_close_40 (L_J_close_11 f) x1 x2 x3 (115 + m) x1 C else J_J_close_40 (L_J_close_11 f) x1 x2 x3 (115 + m) x2 C := by
        conv => lhs; unfold L_J_close_11
        rw [if_neg (fun w => by have := Int32.le_iff_toInt_le.mp w; omega), j_qi (by omega) (by omega), clN h3, jl_]
        simp only [e1]
      have r65 : ∀ y, J_J_close_65 (L_J_close_11 f) x1 x2 x3 (115 + m) y C = if y = 0 then L_J_close_11 f x1 x2 (x3 + 1) C else if A m 0 = 2 then (if A m 1 = 0 then L_J_close_11 f x1 x2 (x3 + 1) C else L_J_close_11 f x1 x2 (x3 + 1) (w_i C (115 + m) 0 3)) else L_J_close_11 f x1 x2 (x3 + 1) C := by
        intro y
        unfold J_J_close_65
        simp only [jl_, e1, e0 2 2 rfl]
      have r40 : ∀ y, J_J_close_40 (L_J_close_11 f) x1 x2 x3 (115 + m) y C = if y = 0 then L_J_close_11 f x1 x2 (x3 + 1) C else if A m 0 = 1 then (F_J_remove (115 + m) C).bind (fun z13 => L_J_close_11 f x1 x2 (x3 + 1) z13) else if A m 0 = 2 then (if A m 1 = 0 then L_J_close_11 f x1 x2 (x3 + 1) C else L_J_close_11 f x1 x2 (x3 + 1) (w_i C (115 + m) 0 3)) else L_J_close_11 f x1 x2 (x3 + 1) C := by
        intro y
        unfold J_J_close_40
        simp only [r65, e0 1 1 rfl]
        by_cases q : y = 0
        · rw [if_pos q, if_pos q, if_pos q]
        · rw [if_neg q, if_neg q, if_neg q]
      have no : nst A x1 x2 m = A m 0 → ∃ C', L_J_close_11 f x1 x2 (x3 + 1) C = some (.inl (C'.1 24 11), C') ∧ cA C' (aC A x1 x2 u) ∧ f0 C C' := by
        intro q
        exact ih (x3 + 1) (m + 1) C (by rw [aC_e q]; exact h) hu (p1I h3 (by omega)) (by omega) (by omega)
      have yes : ∀ D, cA D (aC A x1 x2 (m + 1)) → f0 C D → D.1 24 10 = C.1 24 10 → ∃ C', L_J_close_11 f x1 x2 (x3 + 1) D = some (.inl (C'.1 24 11), C') ∧ cA C' (aC A x1 x2 u) ∧ f0 C C' := by
        intro D d1 d2 d3
        obtain ⟨C', c1, c2, c3⟩ := ih (x3 + 1) (m + 1) D d1 (by rw [d3]; exact hu) (p1I h3 (by omega)) (by omega) (by omega)
        exact ⟨C', c1, c2, f0_tt d2 c3⟩
      have rem : A m 0 = 1 → nst A x1 x2 m = 0 → ∃ C', (F_J_remove (115 + m) C).bind (fun z13 => L_J_close_11 f x1 x2 (x3 + 1) z13) = some (.inl (C'.1 24 11), C') ∧ cA C' (aC A x1 x2 u) ∧ f0 C C' := by
        intro q1 q2
        obtain ⟨D, d1, d2, d3⟩ := fJ_rem h hm1 (by rw [aC_n (by omega)]; exact q1)
        rw [d1, ob_]
        refine yes D (by rw [aC_s, q2]; exact d2) d3 ?_
        unfold F_J_remove at d1
        rw [jl_, jl_] at d1
        rw [← Option.some.inj d1, w_ir, if_neg (by omega), w_ir, if_neg (by omega)]
      have stp : A m 0 = 2 → nst A x1 x2 m = 3 → ∃ C', L_J_close_11 f x1 x2 (x3 + 1) (w_i C (115 + m) 0 3) = some (.inl (C'.1 24 11), C') ∧ cA C' (aC A x1 x2 u) ∧ f0 C C' := by
        intro q1 q2
        obtain ⟨d2, d3⟩ := cA_stop h hm1 (by rw [aC_n (by omega), q1]; omega)
        exact yes _ (by rw [aC_s, q2]; exact d2) d3 (by rw [w_ir, if_neg (by omega)])
      rw [red]
      simp only [r40]
      unfold nst at no rem stp
      by_cases k0 : A m 1 = 0
      · simp only [if_pos k0] at no rem stp ⊢
        by_cases y0 : x1 = 0
        · simp only [if_pos y0] at no ⊢
          refine no ?_
          by_cases q1 : A m 0 = 1
          · rw [if_pos q1, q1]
          · rw [if_neg q1]
            by_cases q2 : A m 0 = 2
            · rw [if_pos q2, q2]
            · rw [if_neg q2]
        · simp only [if_neg y0] at no rem ⊢
          by_cases q1 : A m 0 = 1
          · rw [if_pos q1]
            first | exact rem q1 (if_pos q1) | exact rem q1 rfl | exact rem q1 trivial | exact rem q1
          · rw [if_neg q1]
            rw [if_neg q1] at no
            by_cases q2 : A m 0 = 2
            · rw [if_pos q2] at no ⊢
              exact no q2.symm
            · rw [if_neg q2] at no ⊢
              first | exact no rfl | exact no trivial | exact no
      · simp only [if_neg k0] at no rem stp ⊢
        by_cases y0 : x2 = 0
        · simp only [if_pos y0] at no ⊢
          refine no ?_
          by_cases q1 : A m 0 = 1
          · rw [if_pos q1, q1]
          · rw [if_neg q1]
            by_cases q2 : A m 0 = 2
            · rw [if_pos q2, q2]
            · rw [if_neg q2]
        · simp only [if_neg y0] at no rem stp ⊢
          by_cases q1 : A m 0 = 1
          · rw [if_pos q1]
            first | exact rem q1 (if_pos q1) | exact rem q1 rfl | exact rem q1 trivial | exact rem q1
          · rw [if_neg q1]
            rw [if_neg q1] at no stp
            by_cases q2 : A m 0 = 2
            · rw [if_pos q2] at stp ⊢
              first | exact stp q2 rfl | exact stp q2 trivial | exact stp q2
            · rw [if_neg q2] at no ⊢
              first | exact no rfl | exact no trivial | exact no
theorem lM_cl : ∀ (f : Nat) (x3 : Int32) (m : Nat) (C : jS), mA C (aC A x1 x2 m) → x3.toInt = m → m ≤ 100 → 100 - m < f → ∃ C' r, L_M_close_25 f x1 x2 x3 C = some (r, C') ∧ r.toInt = cN (aC A x1 x2 100) 0 100 ∧ mA C' (aC A x1 x2 100) ∧ fm C C' := by
  intro f
  induction f with
  | zero => intro x3 m C _ _ _ q; omega
  | succ f ih =>
    intro x3 m C h h3 hm hf
    by_cases e : m = 100
    · subst e
      obtain ⟨r, r1, r2⟩ := fM_there (S := C)
      refine ⟨C, r, ?_, ?_, h, fm_r⟩
      · unfold L_M_close_25
        rw [if_pos (by rw [geI (k := 100) (n := 100) rfl]; omega), r1, ob_]
      · rw [r2, cN_s (A := aC A x1 x2 100) 100 (fun j hj => (ms0 h (j := j) (by omega)))]
        rfl
    · skip
      have hm1 : m < 100 := by omega
      have g0 := (ms0 h (j := m) (by omega))
      have g1 := (ms1 h (j := m) (by omega))
      rw [aC_n (by omega)] at g0 g1
      have e0 : ∀ (v : Int32) (w : Int), v.toInt = w → (C.1 436 m = v) = (A m 0 = w) := fun v w q => by rw [eqI, g0, q]
      have e1 : (C.1 437 m = 0) = (A m 1 = 0) := by rw [eqI, g1]; rfl
      have jq : ∀ {α : Type} {X : Option α}, j_q (j_in x3 100) X = X := fun {α X} => j_qi (by omega) (by omega)
      have r71 : J_M_close_71 (L_M_close_25 f) x1 x2 x3 C = if A m 0 = 2 then (if A m 1 = 0 then L_M_close_25 f x1 x2 (x3 + 1) C else if x2 = 0 then L_M_close_25 f x1 x2 (x3 + 1) C else L_M_close_25 f x1 x2 (x3 + 1) (w_i C 436 m 3)) else L_M_close_25 f x1 x2 (x3 + 1) C := by
        unfold J_M_close_71
        simp only [jq, jl_, clN h3, e1, e0 2 2 rfl]
      have r61 : J_M_close_61 (L_M_close_25 f) x1 x2 x3 C = L_M_close_25 f x1 x2 (x3 + 1) (w_i C 436 m 0) := by
        unfold J_M_close_61
        simp only [jq, jl_, clN h3]
      have red : L_M_close_25 (f + 1) x1 x2 x3 C = if A m 0 = 1 then (if A m 1 = 0 then (if x1 = 0 then J_M_close_71 (L_M_close_25 f) x1 x2 x3 C else L_M_close_25 f x1 x2 (x3 + 1) (w_i C 436 m 0)) else (if x2 = 0 then J_M_close_71 (L_M_close_25 f) x1 x2 x3 C else L_M_close_25 f x1 x2 (x3 + 1) (w_i C 436 m 0))) else J_M_close_71 (L_M_close_25 f) x1 x2 x3 C := by
        conv => lhs; unfold L_M_close_25
        rw [if_neg (by rw [geI (k := 100) (n := 100) rfl]; omega)]
        simp only [jq, clN h3, e1, e0 1 1 rfl, r61]
      have no : nst A x1 x2 m = A m 0 → ∃ C' r, L_M_close_25 f x1 x2 (x3 + 1) C = some (r, C') ∧ r.toInt = cN (aC A x1 x2 100) 0 100 ∧ mA C' (aC A x1 x2 100) ∧ fm C C' := by
        intro q
        exact ih (x3 + 1) (m + 1) C (by rw [aC_e q]; exact h) (p1I h3 (by omega)) (by omega) (by omega)
      have yes : ∀ (v : Int32), v.toInt = nst A x1 x2 m → ∃ C' r, L_M_close_25 f x1 x2 (x3 + 1) (w_i C 436 m v) = some (r, C') ∧ r.toInt = cN (aC A x1 x2 100) 0 100 ∧ mA C' (aC A x1 x2 100) ∧ fm C C' := by
        intro v q
        obtain ⟨C', r, c1, c2, c3, c4⟩ := ih (x3 + 1) (m + 1) (w_i C 436 m v) (by rw [aC_s]; exact ma_i h (by unfold biP; omega) q) (p1I h3 (by omega)) (by omega) (by omega)
        exact ⟨C', r, c1, c2, c3, fm_t (fm_i fm_r (by omega)) c4⟩
      rw [red, r71]
      unfold nst at no yes
      by_cases q1 : A m 0 = 1
      · have q2 : ¬ A m 0 = 2 := by omega
        simp only [if_pos q1, if_neg q2] at no yes ⊢
        by_cases k0 : A m 1 = 0
        · simp only [if_pos k0] at no yes ⊢
          by_cases y0 : x1 = 0
          · rw [if_pos y0] at no ⊢
            exact no q1.symm
          · rw [if_neg y0] at yes ⊢
            first | exact yes 0 rfl | exact yes 0 (by decide)
        · simp only [if_neg k0] at no yes ⊢
          by_cases y0 : x2 = 0
          · rw [if_pos y0] at no ⊢
            exact no q1.symm
          · rw [if_neg y0] at yes ⊢
            first | exact yes 0 rfl | exact yes 0 (by decide)
      · simp only [if_neg q1] at no yes ⊢
        by_cases q2 : A m 0 = 2
        · simp only [if_pos q2] at no yes ⊢
          by_cases k0 : A m 1 = 0
          · simp only [if_pos k0] at no ⊢
            exact no q2.symm
          · simp only [if_neg k0] at no yes ⊢
            by_cases y0 : x2 = 0
            · rw [if_pos y0] at no ⊢
              exact no q2.symm
            · rw [if_neg y0] at yes ⊢
              first | exact yes 3 rfl | exact yes 3 (by decide)
        · simp only [if_neg q2] at no ⊢
          first | exact no rfl | exact no trivial | exact no
theorem nst_c : nst A x1 x2 b = A b 0 ∨ (A b 0 = 1 ∧ nst A x1 x2 b = 0) ∨ (A b 0 = 2 ∧ nst A x1 x2 b = 3) := by
  unfold nst
  by_cases q1 : A b 0 = 1
  · rw [if_pos q1]
    generalize (if A b 1 = 0 then x1 else x2) = v
    by_cases w : v = 0
    · rw [if_pos w]
      exact Or.inl q1.symm
    · rw [if_neg w]
      exact Or.inr (Or.inl ⟨q1, rfl⟩)
  · rw [if_neg q1]
    by_cases q2 : A b 0 = 2
    · rw [if_pos q2]
      split
      · exact Or.inl q2.symm
      · split
        · exact Or.inl q2.symm
        · exact Or.inr (Or.inr ⟨q2, rfl⟩)
    · rw [if_neg q2]
      exact Or.inl rfl
theorem iA_aC {B : Int} {m : Nat} (h : iA B A) (hm : m ≤ 100) : iA B (aC A x1 x2 m) := by
  induction m with
  | zero =>
    rw [show aC A x1 x2 0 = A from funext fun b => funext fun k => aC_n (by omega)]
    exact h
  | succ m ih =>
    have h' := ih (by omega)
    rcases nst_c (A := A) (x1 := x1) (x2 := x2) (b := m) with q | ⟨-, q⟩ | ⟨q0, q⟩
    · rw [aC_e q]; exact h'
    · rw [aC_s, q]
      exact iA_st h' (by omega) (Or.inl rfl)
    · rw [aC_s, q]
      exact iA_st h' (by omega) (Or.inr ⟨rfl, by rw [aC_n (by omega), q0]; omega⟩)
theorem iA_5 {B v : Int} (h : iA B A) : iA B (up A 100 5 v) := by
  obtain ⟨I1, I2, I3, I4, I5, I6, I7⟩ := h
  have g : ∀ i, i < 100 → ∀ k, up A 100 5 v i k = A i k := fun i hi k => by rw [up_r, if_neg (by omega)]
  have gn : ∀ k, k ≠ 5 → up A 100 5 v 100 k = A 100 k := fun k hk => by rw [up_r, if_neg (by omega)]
  refine ⟨fun j hj => ?_, fun j j' hj hj' => ?_, ?_, ?_, ?_, ?_, ?_⟩
  · have := I1 j hj
    unfold jI at this ⊢
    simp only [g j hj, gn 0 (by omega), gn 4 (by omega)]
    exact this
  · simp only [g j hj, g j' hj']
    exact I2 j j' hj hj'
  · rw [gn 0 (by omega)]; exact I3
  · rw [gn 1 (by omega)]; exact I4
  · rw [gn 2 (by omega)]; exact I5
  · rw [gn 3 (by omega)]; exact I6
  · rw [gn 4 (by omega)]; exact I7
theorem ok_close {m : Nat} (hK : rK RB) : Ok_close (RJ RB m) := by
  intro p0 p1 S _ _ h
  have h' := h
  obtain ⟨hb, A, ha, hma, hI⟩ := h
  obtain ⟨hz, hc, hh⟩ := hK.1 _ hb
  have g5 := (cg5 ha.1)
  have m5 := (mg5 hma)
  by_cases q : A 100 5 = 0
  · have u := ha.2.2.1
    obtain ⟨s1, s2, s3⟩ := u
    obtain ⟨u, hu⟩ : ∃ u : Nat, (S.1 24 10).toInt = u := ⟨(S.1 24 10).toInt.toNat, by omega⟩
    have kC : cA (w_i S 24 16 1) (up A 100 5 1) := by
      refine ⟨ca_i ha.1 (by unfold aiP; omega) rfl, ?_, ?_⟩
      · exact cP_c ha.2.1 (fun j hj => rfl) (fun j hj => by simp only [up_r]; rw [if_neg (by omega), if_neg (by omega)]; exact ⟨rfl, rfl⟩)
      · have e : ∀ j, j < 100 → up A 100 5 1 j 0 = A j 0 := fun j hj => by rw [up_r, if_neg (by omega)]
        refine cS_g ha.2.2 (fun i => by rw [w_ir, if_neg (by omega)]) (by rw [w_ir, if_neg (by omega)]) (by rw [w_ir, if_neg (by omega)]) ?_ (fun j hj => by rw [e j hj]) (fun j hj w => by rw [e j hj]; exact w)
        rw [w_ir, if_neg (by omega), ha.2.2.2.1, cN_e (A := A) (A' := up A 100 5 1) 100 (fun j hj => by rw [e j hj])]
    have z0 : ∀ B, aC B p0 p1 0 = B := fun B => funext fun b => funext fun k => aC_n (by omega)
    obtain ⟨C', c1, c2, c3⟩ := lJ_cl (A := up A 100 5 1) (x1 := p0) (x2 := p1) (u := u) (by omega) ju_ 0 0 (w_i S 24 16 1) (by rw [z0]; exact kC) (by rw [w_ir, if_neg (by omega)]; exact hu) rfl (by omega) (by show _ < 1000000; omega)
    have eu : aC (up A 100 5 1) p0 p1 u = aC (up A 100 5 1) p0 p1 100 := by
      funext b k
      unfold aC
      by_cases w : k = 0 ∧ b < u
      · rw [if_pos w, if_pos (by omega)]
      · rw [if_neg w]
        by_cases w' : k = 0 ∧ b < 100
        · rw [if_pos w', w'.1]
          have z : up A 100 5 1 b 0 = 0 := by
            rw [up_r, if_neg (by omega)]
            exact s3 b w'.2 (by omega)
          unfold nst
          rw [z, if_neg (by omega), if_neg (by omega)]
        · rw [if_neg w']
    rw [eu] at c2
    have fC : f0 S C' := f0_tt (f0_i f0_r (by unfold jr; omega)) c3
    obtain ⟨M', r, d1, d2, d3, d4⟩ := lM_cl (A := up A 100 5 1) (x1 := p0) (x2 := p1) ju_ 0 0 (w_i (w_i C' 215 0 0) 215 45 1) (by rw [z0]; exact ma_i (mA_0 (fc_m (f0_c fC) hma)) (by unfold biP; omega) rfl) rfl (by omega) (by show _ < 1000000; omega)
    have f1 : fm (w_i C' 215 0 0) M' := fm_t (fm_i fm_r (by omega)) d4
    have er : C'.1 24 11 = r := eqI.mpr (by rw [c2.2.2.2.1, d2])
    refine ⟨(.inl (C'.1 24 11), C'), r, M', ?_, ?_, ⟨hK.2 _ _ hb (jf_t (fc_j (f0_c fC)) (jf_t jf_0 (fm_j f1))) (fm_z f1 (rZ_0 (f0_z fC hz))), _, cA_m f1 (cA_0 c2), d3, iA_aC (iA_5 hI) (by omega)⟩, ?_, er⟩
    · unfold F_J_close F_J_checkOpen
      rw [if_pos (eqI.mpr (by rw [g5, q]; rfl)), jxv_0, jl_, c1]
    · show F_M_close p0 p1 C' = _
      have r45 : (w_i C' 215 0 0).1 215 45 = 0 := by
        rw [w_ir, if_neg (by omega), fC.1 215 45 (by unfold jr; omega)]
        exact eqI.mpr (by rw [m5, q]; rfl)
      unfold F_M_close
      rw [jl_, r45, if_pos rfl, jl_, d1]
    · rw [d4.1 215 0 (by omega) (by omega), w_ir, if_neg (by omega), w_ir, if_pos ⟨rfl, rfl⟩]
  · refine ⟨(.inr 13, S), 0, w_i (w_i S 215 0 0) 215 0 1, ?_, ?_, RJ_0 hK (RJ_0 hK h'), ?_⟩
    · unfold F_J_close F_J_checkOpen
      rw [if_neg (fun w => q (by have := eqI.mp w; rw [g5] at this; exact this)), jxv_1]
    · show F_M_close p0 p1 S = _
      have r45 : (w_i S 215 0 0).1 215 45 = S.1 215 45 := by rw [w_ir, if_neg (by omega)]
      unfold F_M_close
      rw [jl_, r45, if_neg (fun w => q (by have := eqI.mp w; rw [m5] at this; exact this)), fail1, ob_]
    · show (13, (w_i (w_i S 215 0 0) 215 0 1).1 215 0) ∈ _
      rw [w_ir, if_pos ⟨rfl, rfl⟩]
      exact List.mem_cons_self
end JV_6
