section JZ_2
variable {S T C C' M M' : jS} {n p s f X Yn N : Nat} {c e lo hi x1 : Int32}
def c_3 (C : jS) : jS := w_i C 25 2 (C.1 25 2 + 3)
def m_3 (M : jS) : jS := w_i M 215 7 (M.1 215 7 + 3)
theorem tx_3 (h : tx C M n p) (hp : p + 3 ≤ n) : tx (c_3 C) (m_3 M) n (p + 3) := by
  obtain ⟨h1, h2, h3, h4, h5, h6, h7, h8⟩ := h
  unfold c_3 m_3
  refine ⟨h1, by omega, ?_, ?_, ?_, ?_, ⟨?_, ?_⟩, fun j hj => ?_⟩
  · rw [w_ir, if_neg (by omega)]; exact h3
  · rw [w_ir, if_neg (by omega)]; exact h4
  · rw [w_ir, if_pos ⟨rfl, rfl⟩]; exact adN h5 rfl (by omega)
  · rw [w_ir, if_pos ⟨rfl, rfl⟩]; exact adN h6 rfl (by omega)
  · rw [w_ir, if_neg (by omega)]; exact h7.1
  · rw [w_ir, if_neg (by omega)]; exact h7.2
  · rw [w_ir, if_neg (by omega), w_ir, if_neg (by omega)]; exact h8 j hj
theorem vl_n (hl : nl X Yn N) (h : tx C M n p) : (∃ (x v : Int32) (j : Nat), F_T_takeName X C = some (x, c_3 C) ∧ x.toInt = j ∧ j < N ∧ L_M_value_39 ju_ x1 Yn 0 M = some (.inl v, m_3 M) ∧ v.toInt = ((j + 1 : Nat) : Int) ∧ p + 3 ≤ n ∧ 65 ≤ (pkv C n p).toInt ∧ (pkv C n p).toInt ≤ 90) ∨ (F_T_takeName X C = some (-1, C) ∧ L_M_value_39 ju_ x1 Yn 0 M = some (.inr 12, w_i M 215 3 (M.1 215 7))) := by
  have h' := h
  obtain ⟨h1, h2, h3, h4, h5, h6, h7, h8⟩ := h'
  obtain ⟨n1, n2, n3⟩ := nl_n hl
  have p3 : (C.1 25 2 + 3).toInt = ((p + 3 : Nat) : Int) := adN h5 rfl (by omega)
  have j25 : J_T_takeName_25 X C = some (-1, C) := by
    unfold J_T_takeName_25
    rw [show ju_ = 999999 + 1 from rfl]
    unfold L_T_takeName_29
    rw [if_pos rfl]
  unfold F_T_takeName
  rw [if_pos h7.1, j25]
  rcases lM_39 (x1 := x1) hl h ju_ 0 0 rfl (by omega) (by show _ < 1000000; omega) (fun i hi => by omega) with ⟨v, j, q1, q2, q3, q4, q5, q6⟩ | ⟨q1, q2⟩
  · rw [if_neg (fun w => by have := Int32.lt_iff_toInt_lt.mp w; rw [h3, p3] at this; omega)]
    rcases lT_tn hl h q2 ju_ 0 0 rfl (by omega) (by show _ < 1000000; omega) (fun i hi => by omega) with ⟨x, j', r1, r2, r3, r4, r5⟩ | ⟨r1, -⟩
    · have ej : j' = j := by
        rcases Nat.lt_trichotomy j' j with w | w | w
        · exact absurd r2 (q4 j' w)
        · exact w
        · exact absurd q3 (r3 j w)
      subst ej
      refine Or.inl ⟨x, v, j', r5, r4, r1, q6, q5, q2, ?_⟩
      have b := nl_b hl (i := 3 * j') (by omega)
      unfold pkv
      rw [if_pos (by omega), q3.1, b.1]
      exact b.2
    · exact absurd q3 (r1 j q1)
  · refine Or.inr ⟨?_, q2⟩
    by_cases w : p + 3 ≤ n
    · rw [if_neg (fun w => by have := Int32.lt_iff_toInt_lt.mp w; rw [h3, p3] at this; omega)]
      rcases lT_tn hl h w ju_ 0 0 rfl (by omega) (by show _ < 1000000; omega) (fun i hi => by omega) with ⟨x, j', r1, r2, -⟩ | ⟨-, r2⟩
      · exact absurd ⟨w, r2⟩ (q1 j' r1)
      · exact r2
    · rw [if_pos (Int32.lt_iff_toInt_lt.mpr (by rw [h3, p3]; omega))]
/-- least and most of a field -/
theorem fl7 (hx : x1.toInt = f) (hf : f < 7) : F_C_lowest x1 S = some (jx_LEAST f) ∧ F_C_highest x1 S = some (jx_MOSTS f) ∧ 0 ≤ (jx_LEAST f).toInt ∧ (jx_LEAST f).toInt ≤ (jx_MOSTS f).toInt ∧ (jx_MOSTS f).toInt ≤ 2299 := by
  rcases (by omega : f = 0 ∨ f = 1 ∨ f = 2 ∨ f = 3 ∨ f = 4 ∨ f = 5 ∨ f = 6) with rfl | rfl | rfl | rfl | rfl | rfl | rfl
  · rw [show x1 = 0 from eqI.mpr (by rw [hx]; rfl)]; exact ⟨rfl, rfl, by decide, by decide, by decide⟩
  · rw [show x1 = 1 from eqI.mpr (by rw [hx]; rfl)]; exact ⟨rfl, rfl, by decide, by decide, by decide⟩
  · rw [show x1 = 2 from eqI.mpr (by rw [hx]; rfl)]; exact ⟨rfl, rfl, by decide, by decide, by decide⟩
  · rw [show x1 = 3 from eqI.mpr (by rw [hx]; rfl)]; exact ⟨rfl, rfl, by decide, by decide, by decide⟩
  · rw [show x1 = 4 from eqI.mpr (by rw [hx]; rfl)]; exact ⟨rfl, rfl, by decide, by decide, by decide⟩
  · rw [show x1 = 5 from eqI.mpr (by rw [hx]; rfl)]; exact ⟨rfl, rfl, by decide, by decide, by decide⟩
  · rw [show x1 = 6 from eqI.mpr (by rw [hx]; rfl)]; exact ⟨rfl, rfl, by decide, by decide, by decide⟩
theorem let_ {z : Int32} : (65 ≤ z.toInt ∧ z.toInt ≤ 90 ∧ F_M_letter z T = some 1) ∨ (¬ (65 ≤ z.toInt ∧ z.toInt ≤ 90) ∧ F_M_letter z T = some 0) := by
  unfold F_M_letter
  by_cases a : z.toInt < 65
  · exact Or.inr ⟨by omega, by rw [if_pos (by rw [ltI (k := 65) (n := 65) rfl]; exact a)]⟩
  · by_cases b : 90 < z.toInt
    · exact Or.inr ⟨by omega, by rw [if_neg (by rw [ltI (k := 65) (n := 65) rfl]; exact a), if_pos (by rw [gtI (k := 90) (n := 90) rfl]; exact b)]⟩
    · exact Or.inl ⟨by omega, by omega, by rw [if_neg (by rw [ltI (k := 65) (n := 65) rfl]; exact a), if_neg (by rw [gtI (k := 90) (n := 90) rfl]; exact b)]⟩
/-- a number on both sides, by field -/
theorem va_n (h : tx C M n p) (hx : x1.toInt = f) (hf : f < 7) : ∃ v C', J_CR_readValue_29 x1 (-1) C = some (v, C') ∧ ((jx_LEAST f).toInt ≤ v.toInt ∧ v.toInt ≤ (jx_MOSTS f).toInt) ∧ oX C M n C' (fun M' => J_M_value_139 x1 M = some (.inl v, M')) (fun M' => J_M_value_139 x1 M = some (.inr 12, M')) := by
  obtain ⟨l1, l2, l3, l4, l5⟩ := fl7 (S := C) hx hf
  obtain ⟨v, C', a1, a2, a3, a4⟩ := fT_nu h l3 l4 l5
  refine ⟨v, C', ?_, a2, a3, ?_⟩
  · unfold J_CR_readValue_29
    rw [l1, ob_, if_neg (by decide), l2, ob_, a1, ob_]
  · unfold J_M_value_139
    rw [j_qN hx hf, j_qN hx hf, clN hx]
    rcases a4 with ⟨M', d, o1, o2, o3⟩ | ⟨M', p', e, o1, o2, o3, o4⟩
    · exact Or.inl ⟨M', d, by rw [o1, jx_0], o2, o3⟩
    · exact Or.inr ⟨M', p', e, by rw [o1, jx_1], o2, o3, o4⟩
theorem va_x (hl : nl X Yn N) (h : tx C M n p) (hx : x1.toInt = f) (hf : f < 7) (hN : (jx_LEAST f).toInt = 1 ∧ (jx_MOSTS f).toInt = N) : ∃ v C', (F_T_takeName X C).bind (fun z2 => J_CR_readValue_29 x1 z2.1 z2.2) = some (v, C') ∧ ((jx_LEAST f).toInt ≤ v.toInt ∧ v.toInt ≤ (jx_MOSTS f).toInt) ∧ oX C M n C' (fun M' => (F_M_letter (pkv C n p) M).bind (fun z3 => if z3 = 0 then (J_M_value_139 x1 M) else L_M_value_39 ju_ x1 Yn 0 M) = some (.inl v, M')) (fun M' => (F_M_letter (pkv C n p) M).bind (fun z3 => if z3 = 0 then (J_M_value_139 x1 M) else L_M_value_39 ju_ x1 Yn 0 M) = some (.inr 12, M')) := by
  obtain ⟨l1, l2, l3, l4, l5⟩ := fl7 (S := c_3 C) hx hf
  obtain ⟨n1, -, -⟩ := nl_n hl
  rcases vl_n (x1 := x1) hl h with ⟨x, v, j, a1, a2, a3, a4, a5, a6, a7, a8⟩ | ⟨a1, a2⟩
  · rw [a1, ob_]
    rcases let_ (T := M) (z := pkv C n p) with ⟨-, -, b⟩ | ⟨b, -⟩
    · rw [b, ob_, if_neg (show ¬ (1 : Int32) = 0 by decide), a4]
      have ev : jx_LEAST f + x = v := eqI.mpr (by rw [Int32.toInt_add, hN.1, a2, a5, bs32 (by omega) (by omega)]; omega)
      refine ⟨v, c_3 C, ?_, by omega, fT_i (Or.inl rfl), Or.inl ⟨m_3 M, 3, rfl, gN_i (Or.inr rfl), by rw [clN h.2.2.2.2.1]; exact tx_3 h a6⟩⟩
      unfold J_CR_readValue_29
      rw [l1, ob_, if_pos (show (0 : Int32) ≤ x by rw [geI (k := 0) (n := 0) rfl]; omega), ev]
    · exact absurd ⟨a7, a8⟩ b
  · rw [a1, ob_]
    obtain ⟨v, C', b1, b2, b3, b4⟩ := va_n h hx hf
    refine ⟨v, C', b1, b2, b3, ?_⟩
    rcases let_ (T := M) (z := pkv C n p) with ⟨c1, c2, b⟩ | ⟨c1, b⟩
    · rw [b, ob_, if_neg (show ¬ (1 : Int32) = 0 by decide), a2]
      have rg : J_M_value_139 x1 M = some (.inr 12, w_i M 215 3 (M.1 215 7)) := by
        unfold J_M_value_139 F_M_ranged
        rw [j_qN hx hf, j_qN hx hf, clN hx, jl_, fM_pk h, ob_]
        rcases dig_ (S := C) (T := M) (z := pkv C n p) with ⟨d1, d2, -⟩ | ⟨-, -, d⟩
        · omega
        · rw [d, ob_, if_pos rfl, fM_bad, jxv_1, jx_1]
      rw [rg] at b4
      exact b4
    · rw [b, ob_, if_pos rfl]
      exact b4
/-- a value on both sides -/
theorem fC_va (h : tx C M n p) (hx : x1.toInt = f) (hf : f < 7) : ∃ v C', F_CR_readValue x1 C = some (v, C') ∧ ((jx_LEAST f).toInt ≤ v.toInt ∧ v.toInt ≤ (jx_MOSTS f).toInt) ∧ oX C M n C' (fun M' => F_M_value x1 M = some (.inl v, M')) (fun M' => F_M_value x1 M = some (.inr 12, M')) := by
  unfold F_CR_readValue F_M_value J_M_value_10
  rw [fM_pk h, ob_]
  by_cases q4 : f = 4
  · subst q4
    have e : x1 = 4 := eqI.mpr (by rw [hx]; rfl)
    subst e
    simp only [if_true]
    exact va_x (Or.inl ⟨rfl, rfl, rfl⟩) h hx hf ⟨rfl, rfl⟩
  have n4 : ¬ x1 = 4 := fun w => q4 (by rw [w] at hx; simp only [Int32.reduceToInt] at hx; omega)
  rw [if_neg n4, if_neg n4]
  by_cases q5 : f = 5
  · subst q5
    have e : x1 = 5 := eqI.mpr (by rw [hx]; rfl)
    subst e
    rw [if_pos rfl, if_pos rfl]
    simp only [if_neg (show ¬ (5 : Int32) = 4 by decide)]
    exact va_x (Or.inr ⟨rfl, rfl, rfl⟩) h hx hf ⟨rfl, rfl⟩
  have n5 : ¬ x1 = 5 := fun w => q5 (by rw [w] at hx; simp only [Int32.reduceToInt] at hx; omega)
  rw [if_neg n5, if_neg n5]
  exact va_n h hx hf
theorem fB_tn (h : bk C n p e) : F_T_takeName X C = some (-1, C) := by
  unfold F_T_takeName J_T_takeName_25
  rw [if_neg (by rw [h.2.2.2.2.1]; exact h.2.2.2.2.2), show ju_ = 999999 + 1 from rfl]
  unfold L_T_takeName_29
  rw [if_pos rfl]
theorem fB_va (h : bk C n p e) (hx : x1.toInt = f) (hf : f < 7) : F_CR_readValue x1 C = some (jx_LEAST f, C) := by
  obtain ⟨l1, l2, l3, l4, l5⟩ := fl7 (S := C) hx hf
  have k : J_CR_readValue_29 x1 (-1) C = some (jx_LEAST f, C) := by
    unfold J_CR_readValue_29
    rw [l1, ob_, if_neg (by decide), l2, ob_, fB_nu h, ob_]
  unfold F_CR_readValue
  rw [fB_tn h, fB_tn h]
  simp only [ob_, k, ite_self]
end JZ_2
