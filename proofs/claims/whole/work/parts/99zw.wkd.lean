section KA_3
variable {S T C C' M M' D Y : jS} {n p s f a u k g : Nat} {c e v x1 x3 : Int32}
/-- how the day was told, class and what the model keeps -/
def dY (C : jS) (a : Nat) (M : jS) : Prop := (C.1 a 1 = 0 ∧ M.1 453 0 = 0 ∧ kS C a M 3) ∨ (C.1 a 1 = 1 ∧ M.1 453 0 = 1) ∨ (C.1 a 1 = 2 ∧ M.1 453 0 = 2 ∧ C.1 a 3 = M.1 453 1 ∧ 0 ≤ (C.1 a 3).toInt ∧ (C.1 a 3).toInt ≤ 30) ∨ (C.1 a 1 = 3 ∧ M.1 453 0 = 3) ∨ (C.1 a 1 = 4 ∧ M.1 453 0 = 4 ∧ C.1 a 2 = M.1 453 1 ∧ 1 ≤ (C.1 a 2).toInt ∧ (C.1 a 2).toInt ≤ 31)
/-- day and weekday -/
def dW (C : jS) (a : Nat) (M : jS) : Prop := (C.1 a 1 = 0 ∧ M.1 453 0 = 0 ∧ M.1 453 3 = 1 ∧ kS C a M 3) ∨ (C.1 a 1 = 1 ∧ M.1 453 0 = 1 ∧ M.1 453 3 = 0 ∧ kS C a M 5) ∨ (C.1 a 1 = 2 ∧ M.1 453 0 = 2 ∧ M.1 453 3 = 1 ∧ C.1 a 3 = M.1 453 1 ∧ 0 ≤ (C.1 a 3).toInt ∧ (C.1 a 3).toInt ≤ 30) ∨ (C.1 a 1 = 3 ∧ M.1 453 0 = 3 ∧ M.1 453 3 = 1) ∨ (C.1 a 1 = 4 ∧ M.1 453 0 = 4 ∧ M.1 453 3 = 1 ∧ C.1 a 2 = M.1 453 1 ∧ 1 ≤ (C.1 a 2).toInt ∧ (C.1 a 2).toInt ≤ 31) ∨ (C.1 a 1 = 5 ∧ M.1 453 0 = 1 ∧ M.1 453 3 = 5 ∧ C.1 a 2 = M.1 453 4 ∧ 1 ≤ (C.1 a 2).toInt ∧ (C.1 a 2).toInt ≤ 7) ∨ (C.1 a 1 = 6 ∧ M.1 453 0 = 1 ∧ M.1 453 3 = 6 ∧ C.1 a 2 = M.1 453 4 ∧ 1 ≤ (C.1 a 2).toInt ∧ (C.1 a 2).toInt ≤ 7 ∧ C.1 a 3 = M.1 453 5 ∧ 1 ≤ (C.1 a 3).toInt ∧ (C.1 a 3).toInt ≤ 5)
/-- the model keeps what it has at hand -/
def w_3 (M : jS) (x : Nat) : jS := w_i (w_i (w_i M 453 x (M.1 215 20)) 453 (x + 1) (M.1 215 21)) 453 (x + 2) (M.1 215 22)
theorem w3_r {x : Nat} : (w_3 M x).1 453 x = M.1 215 20 ∧ (w_3 M x).1 453 (x + 1) = M.1 215 21 ∧ (w_3 M x).1 453 (x + 2) = M.1 215 22 ∧ (∀ b j, ¬ (b = 453 ∧ x ≤ j ∧ j ≤ x + 2) → (w_3 M x).1 b j = M.1 b j) ∧ (w_3 M x).2 = M.2 := by
  unfold w_3
  refine ⟨?_, ?_, ?_, fun b j q => ?_, rfl⟩
  · rw [w_ir, if_neg (by omega), w_ir, if_neg (by omega), w_ir, if_pos ⟨rfl, rfl⟩]
  · rw [w_ir, if_neg (by omega), w_ir, if_pos ⟨rfl, rfl⟩]
  · rw [w_ir, if_pos ⟨rfl, rfl⟩]
  · rw [w_ir, if_neg (by omega), w_ir, if_neg (by omega), w_ir, if_neg (by omega)]
theorem tx_w {x : Nat} (h : tx C M n p) : tx C (w_3 M x) n p := tx_m (tx_m (tx_m h (by omega) (by omega)) (by omega) (by omega)) (by omega) (by omega)
theorem GX_w {x : Nat} : GX M (w_3 M x) := ⟨fun b j _ _ q => w3_r.2.2.2.1 b j (by omega), w3_r.2.2.2.2⟩
/-- the model's fields of days -/
theorem m116 {kt : Int32 → Int32 → jS → Option (Option Nat × jS)} : J_M_readCron_116 kt x1 3 M = j_xv (F_M_field 3 M) (fun c S => (some c, S)) (fun S43 => J_M_readCron_179 kt x1 3 (w_3 S43 0)) := by
  unfold J_M_readCron_116 J_M_readCron_131 J_M_readCron_142 J_M_readCron_158 J_M_readCron_174
  have e : ∀ S : jS, (w_i S 453 0 (S.1 215 20)).1 215 21 = S.1 215 21 := fun S => by rw [w_ir, if_neg (by omega)]
  have e' : ∀ (S : jS) (v : Int32), (w_i (w_i S 453 0 (S.1 215 20)) 453 1 v).1 215 22 = S.1 215 22 := fun S v => by rw [w_ir, if_neg (by omega), w_ir, if_neg (by omega)]
  simp only [if_true, j_qt (show j_in 0 6 = true by decide), j_qt (show j_in 1 6 = true by decide), j_qt (show j_in 2 6 = true by decide), jl_, show (0 : Int32).toNatClampNeg = 0 from rfl, show (1 : Int32).toNatClampNeg = 1 from rfl, show (2 : Int32).toNatClampNeg = 2 from rfl, e, e']
  rfl
theorem m116w {kt : Int32 → Int32 → jS → Option (Option Nat × jS)} : J_M_readCron_116 kt x1 5 M = j_xv (F_M_field 5 M) (fun c S => (some c, S)) (fun S43 => J_M_readCron_179 kt x1 5 (w_3 S43 3)) := by
  unfold J_M_readCron_116 J_M_readCron_131 J_M_readCron_142 J_M_readCron_158 J_M_readCron_174
  have e : ∀ S : jS, (w_i S 453 3 (S.1 215 20)).1 215 21 = S.1 215 21 := fun S => by rw [w_ir, if_neg (by omega)]
  have e' : ∀ (S : jS) (v : Int32), (w_i (w_i S 453 3 (S.1 215 20)) 453 4 v).1 215 22 = S.1 215 22 := fun S v => by rw [w_ir, if_neg (by omega), w_ir, if_neg (by omega)]
  simp only [if_true, if_neg (show ¬ (5 : Int32) = 3 by decide), j_qt (show j_in 3 6 = true by decide), j_qt (show j_in 4 6 = true by decide), j_qt (show j_in 5 6 = true by decide), jl_, show (3 : Int32).toNatClampNeg = 3 from rfl, show (4 : Int32).toNatClampNeg = 4 from rfl, show (5 : Int32).toNatClampNeg = 5 from rfl, e, e']
  rfl
theorem dX_Y (h : dX C a M) : dY C a (w_3 M 0) := by
  obtain ⟨e0, e1, -, eo, -⟩ := w3_r (M := M) (x := 0)
  have ek : kS C a M 3 → kS C a (w_3 M 0) 3 := fun k => kS_e rfl (fun i => eo (369 + 3) i (by omega)) k
  rcases h with ⟨a1, a2, a3⟩ | ⟨a1, a2⟩ | ⟨a1, a2, a3, a4⟩ | ⟨a1, a2⟩ | ⟨a1, a2, a3, a4⟩
  · exact Or.inl ⟨a1, e0.trans a2, ek a3⟩
  · exact Or.inr (Or.inl ⟨a1, e0.trans a2⟩)
  · exact Or.inr (Or.inr (Or.inl ⟨a1, e0.trans a2, a3.trans e1.symm, a4⟩))
  · exact Or.inr (Or.inr (Or.inr (Or.inl ⟨a1, e0.trans a2⟩)))
  · exact Or.inr (Or.inr (Or.inr (Or.inr ⟨a1, e0.trans a2, a3.trans e1.symm, a4⟩)))
/-- the model sets the seventh weekday -/
theorem lM_167 : ∀ (g : Nat) (x2 : Int32) (k : Nat) (M : jS), x2.toInt = k → k ≤ 330 → 330 - k < g → (∀ i, i < k → M.1 374 i = if i = 6 then 1 else 0) → ∃ M', L_M_field_167 g 5 x2 M = some (none, M') ∧ (∀ b j, b ≠ 374 → M'.1 b j = M.1 b j) ∧ M'.2 = M.2 ∧ ∀ i, i < 330 → M'.1 374 i = if i = 6 then 1 else 0 := by
  intro g
  induction g with
  | zero => intro x2 k M _ _ q; omega
  | succ g ih =>
    intro x2 k M h2 hk hg hz
    by_cases e : k = 330
    · subst e
      refine ⟨M, ?_, fun _ _ _ => rfl, rfl, hz⟩
      unfold L_M_field_167
      rw [if_pos (by rw [geI (k := 330) (n := 330) rfl]; omega)]
    · have n0 : vp_nar .boolean 0 = 0 := nar_b (Or.inl rfl)
      have n1 : vp_nar .boolean 1 = 1 := nar_b (Or.inr rfl)
      have q6 : (x2 = 6) = (k = 6) := by rw [eqI, h2]; simp only [Int32.reduceToInt]; exact propext ⟨fun _ => by omega, fun _ => by omega⟩
      obtain ⟨M', m1, m2, m3, m4⟩ := ih (x2 + 1) (k + 1) (w_i M 374 k (if k = 6 then 1 else 0)) (p1I h2 (by omega)) (by omega) (by omega) (fun i hi => by
        rw [w_ir]
        by_cases w : i = k
        · rw [if_pos ⟨rfl, w⟩, w]
        · rw [if_neg (fun v => w v.2)]; exact hz i (by omega))
      refine ⟨M', ?_, fun b j hb => by rw [m2 b j hb, w_ir, if_neg (by omega)], by rw [m3, w_i2], m4⟩
      conv => lhs; unfold L_M_field_167
      unfold J_M_field_192
      rw [if_neg (by rw [geI (k := 330) (n := 330) rfl]; omega), j_qt (show j_in 5 7 = true by decide), j_qN h2 (by omega), j_qN h2 (by omega), clN h2, show 369 + (5 : Int32).toNatClampNeg = 374 from rfl, n0, n1, jl_, jl_]
      by_cases w : k = 6
      · rw [if_pos (by rw [q6]; exact w)]
        rw [if_pos w] at m1
        exact m1
      · rw [if_neg (by rw [q6]; exact w)]
        rw [if_neg w] at m1
        exact m1
end KA_3
