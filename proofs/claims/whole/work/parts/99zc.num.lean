section JX_3
variable {S T C C' M M' : jS} {n p s : Nat} {c e lo hi x3 : Int32}
/-- the number read so far on both sides -/
def vr (c m : Int32) : Prop := 0 ≤ m.toInt ∧ ((c = m ∧ m.toInt < 100000) ∨ (100000 ≤ c.toInt ∧ c.toInt ≤ 1000000 ∧ m.toInt = 100000))
theorem dig_ {z : Int32} : (48 ≤ z.toInt ∧ z.toInt ≤ 57 ∧ F_T_isDigit z S = some 1 ∧ F_M_digit z T = some 1) ∨ (¬ (48 ≤ z.toInt ∧ z.toInt ≤ 57) ∧ F_T_isDigit z S = some 0 ∧ F_M_digit z T = some 0) := by
  unfold F_T_isDigit F_M_digit
  by_cases a : z.toInt < 48
  · exact Or.inr ⟨by omega, by rw [if_pos (by rw [ltI (k := 48) (n := 48) rfl]; exact a)], by rw [if_pos (by rw [ltI (k := 48) (n := 48) rfl]; exact a)]⟩
  · by_cases b : 57 < z.toInt
    · exact Or.inr ⟨by omega, by rw [if_neg (by rw [ltI (k := 48) (n := 48) rfl]; exact a), if_pos (by rw [gtI (k := 57) (n := 57) rfl]; exact b)], by rw [if_neg (by rw [ltI (k := 48) (n := 48) rfl]; exact a), if_pos (by rw [gtI (k := 57) (n := 57) rfl]; exact b)]⟩
    · exact Or.inl ⟨by omega, by omega, by rw [if_neg (by rw [ltI (k := 48) (n := 48) rfl]; exact a), if_neg (by rw [gtI (k := 57) (n := 57) rfl]; exact b)], by rw [if_neg (by rw [ltI (k := 48) (n := 48) rfl]; exact a), if_neg (by rw [gtI (k := 57) (n := 57) rfl]; exact b)]⟩
theorem mnI {x y : Int32} : ∃ w, F_Math_min x y S = some w ∧ ((w = x ∧ x.toInt ≤ y.toInt) ∨ (w = y ∧ y.toInt < x.toInt)) := by
  unfold F_Math_min
  by_cases q : y.toInt < x.toInt
  · exact ⟨y, by rw [if_pos (Int32.lt_iff_toInt_lt.mpr q)], Or.inr ⟨rfl, q⟩⟩
  · exact ⟨x, by rw [if_neg (fun w => q (Int32.lt_iff_toInt_lt.mp w))], Or.inl ⟨rfl, by omega⟩⟩
theorem vr_s {c m z : Int32} (h : vr c m) (h1 : 48 ≤ z.toInt) (h2 : z.toInt ≤ 57) : ∃ c' m', F_Math_min (((c * 10) + z) - 48) 1000000 S = some c' ∧ F_Math_min (((10 * m) + z) - 48) 100000 T = some m' ∧ vr c' m' := by
  obtain ⟨h0, h3⟩ := h
  have hc : 0 ≤ c.toInt ∧ c.toInt ≤ 1000000 ∧ m.toInt ≤ 100000 := by
    rcases h3 with ⟨q1, q2⟩ | q
    · rw [q1]; omega
    · omega
  have ec : ((c * 10 + z) - 48).toInt = c.toInt * 10 + z.toInt - 48 := by
    simp (disch := omega) only [Int32.toInt_sub, Int32.toInt_add, Int32.toInt_mul, Int32.reduceToInt, bs32]
  have em : ((10 * m + z) - 48).toInt = 10 * m.toInt + z.toInt - 48 := by
    simp (disch := omega) only [Int32.toInt_sub, Int32.toInt_add, Int32.toInt_mul, Int32.reduceToInt, bs32]
  obtain ⟨c', c1, c2⟩ := mnI (S := S) (x := c * 10 + z - 48) (y := 1000000)
  obtain ⟨m', m1, m2⟩ := mnI (S := T) (x := 10 * m + z - 48) (y := 100000)
  refine ⟨c', m', c1, m1, ?_⟩
  rw [ec] at c2
  rw [em] at m2
  have c3 : c'.toInt = c.toInt * 10 + z.toInt - 48 ∧ c.toInt * 10 + z.toInt - 48 ≤ 1000000 ∨ c'.toInt = 1000000 ∧ 1000000 < c.toInt * 10 + z.toInt - 48 := by
    rcases c2 with ⟨q1, q2⟩ | ⟨q1, q2⟩
    · exact Or.inl ⟨by rw [q1, ec], q2⟩
    · exact Or.inr ⟨by rw [q1]; rfl, q2⟩
  have m3 : m'.toInt = 10 * m.toInt + z.toInt - 48 ∧ 10 * m.toInt + z.toInt - 48 ≤ 100000 ∨ m'.toInt = 100000 ∧ 100000 < 10 * m.toInt + z.toInt - 48 := by
    rcases m2 with ⟨q1, q2⟩ | ⟨q1, q2⟩
    · exact Or.inl ⟨by rw [q1, em], q2⟩
    · exact Or.inr ⟨by rw [q1]; rfl, q2⟩
  clear c2 m2 ec em c1 m1
  unfold vr
  rw [eqI]
  rcases h3 with ⟨q1, q2⟩ | ⟨q1, q2, q3⟩
  · rw [q1] at c3
    omega
  · omega
/-- the end of a number on both sides: something was read -/
theorem num_e (h : tx C M n p) (hs : x3.toInt = s) (hp : s < p) (h1 : 0 ≤ lo.toInt) (h2 : lo.toInt ≤ hi.toInt) (h3 : hi.toInt ≤ 2299) {m : Int32} (hv : vr c m) : ∃ v C', J_T_number_91 lo hi x3 c C = some (v, C') ∧ (lo.toInt ≤ v.toInt ∧ v.toInt ≤ hi.toInt) ∧ oX C M n C' (fun M' => J_M_ranged_91 lo hi x3 m M = some (.inl v, M')) (fun M' => J_M_ranged_91 lo hi x3 m M = some (.inr 12, M')) := by
  have ne : ¬ C.1 25 2 = x3 := fun w => by
    have := h.2.2.2.2.1
    rw [w, hs] at this
    omega
  have b3 : C.1 25 3 = -1 := h.2.2.2.2.2.2.1.1
  have nx : x3 ≠ -1 := fun w => by rw [w] at hs; simp only [Int32.reduceToInt] at hs; omega
  obtain ⟨br1, br2⟩ := fT_br h nx
  have r103 : J_M_ranged_103 x3 m M = some (.inr 12, w_i M 215 3 x3) := by
    unfold J_M_ranged_103
    rw [fM_bad, jxv_1]
  have r111 : J_T_number_111 lo x3 c C = some (lo, w_i C 25 3 x3) := by
    unfold J_T_number_111 J_T_number_116
    rw [br1, ob_, if_neg (by rw [br2.2.2.2.2.1]; exact nx)]
  unfold J_T_number_91 J_M_ranged_91
  rw [if_neg ne, r111, r103]
  have fail : ∃ v C', (some (lo, w_i C 25 3 x3) : Option (Int32 × jS)) = some (v, C') ∧ (lo.toInt ≤ v.toInt ∧ v.toInt ≤ hi.toInt) ∧ oX C M n C' (fun M' => (some (.inr 12, w_i M 215 3 x3) : Option ((Int32 ⊕ Nat) × jS)) = some (.inl v, M')) (fun M' => (some (.inr 12, w_i M 215 3 x3) : Option ((Int32 ⊕ Nat) × jS)) = some (.inr 12, M')) := ⟨lo, _, rfl, ⟨by omega, h2⟩, fT_i (Or.inr rfl), Or.inr ⟨_, p, x3, rfl, gN_i (Or.inl rfl), br2, by rw [w_ir, if_pos ⟨rfl, rfl⟩]⟩⟩
  obtain ⟨v0, v1⟩ := hv
  by_cases a : m.toInt < lo.toInt
  · have a' : c.toInt < lo.toInt := by
      rcases v1 with ⟨q, -⟩ | q
      · rw [q]; exact a
      · omega
    rw [if_pos (Int32.lt_iff_toInt_lt.mpr a), if_pos (Int32.lt_iff_toInt_lt.mpr a')]
    exact fail
  · have a' : ¬ c.toInt < lo.toInt := by
      rcases v1 with ⟨q, -⟩ | q
      · rw [q]; exact a
      · omega
    rw [if_neg (fun w => a (Int32.lt_iff_toInt_lt.mp w)), if_neg (fun w => a' (Int32.lt_iff_toInt_lt.mp w))]
    by_cases b : m.toInt ≤ hi.toInt
    · obtain ⟨q, -⟩ | q := v1
      · subst q
        rw [if_pos (Int32.le_iff_toInt_le.mpr b), if_pos (Int32.le_iff_toInt_le.mpr b)]
        unfold J_T_number_116
        rw [if_pos b3]
        exact ⟨c, C, rfl, ⟨by omega, b⟩, fT_r, Or.inl ⟨M, 0, rfl, gN_r, by rw [clN h.2.2.2.2.1]; exact h⟩⟩
      · omega
    · have b' : ¬ c.toInt ≤ hi.toInt := by
        rcases v1 with ⟨q, -⟩ | q
        · rw [q]; exact b
        · omega
      rw [if_neg (fun w => b (Int32.le_iff_toInt_le.mp w)), if_neg (fun w => b' (Int32.le_iff_toInt_le.mp w))]
      exact fail
theorem oX_t {D : jS} {Y : jS} {ok bad : jS → Prop} (h : oX D Y n C' ok bad) (h1 : fT C D) (h2 : gN M Y) {k : Nat} (hk : (D.1 25 2).toNatClampNeg = (C.1 25 2).toNatClampNeg + k) : oX C M n C' ok bad := by
  obtain ⟨a, b⟩ := h
  refine ⟨fT_t h1 a, ?_⟩
  rcases b with ⟨M', p', b1, b2, b3⟩ | ⟨M', p', e, b1, b2, b3, b4⟩
  · exact Or.inl ⟨M', k + p', b1, gN_t h2 b2, by rw [← Nat.add_assoc, ← hk]; exact b3⟩
  · exact Or.inr ⟨M', p', e, b1, gN_t h2 b2, b3, b4⟩
theorem lT_num (h1 : 0 ≤ lo.toInt) (h2 : lo.toInt ≤ hi.toInt) (h3 : hi.toInt ≤ 2299) (hs : x3.toInt = s) : ∀ (f g : Nat) (C M : jS) (p : Nat) (c m : Int32), tx C M n p → s < p → vr c m → n - p < f → n - p < g → ∃ v C', L_T_number_24 f lo hi x3 c 0 C = some (v, C') ∧ (lo.toInt ≤ v.toInt ∧ v.toInt ≤ hi.toInt) ∧ oX C M n C' (fun M' => L_M_ranged_48 g lo hi x3 m M = some (.inl v, M')) (fun M' => L_M_ranged_48 g lo hi x3 m M = some (.inr 12, M')) := by
  intro f
  induction f with
  | zero => intro g C M p c m _ _ _ q; omega
  | succ f ih =>
    intro g C M p c m h hp hv hf hg
    obtain ⟨g, rfl⟩ : ∃ k, g = k + 1 := ⟨g - 1, by omega⟩
    unfold L_T_number_24 L_M_ranged_48
    rw [fM_pk h, fT_pk h]
    repeat rw [ob_]
    have le : (C.1 25 1 ≤ C.1 25 2) = ¬ p < n := by
      obtain ⟨a1, a2, a3, a4, a5, a6, a7, a8⟩ := h
      rw [Int32.le_iff_toInt_le, a3, a5]
      exact propext ⟨fun _ => by omega, fun _ => by omega⟩
    by_cases q : p < n
    · rw [if_neg (show ¬ C.1 25 1 ≤ C.1 25 2 by rw [le]; exact fun w => w q)]
      rcases dig_ (S := C) (T := M) (z := pkv C n p) with ⟨d1, d2, d3, d4⟩ | ⟨d1, d3, d4⟩
      · rw [d3, d4]
        repeat rw [ob_]
        rw [if_neg (show ¬ (1 : Int32) = 0 by decide), if_pos (show (0 : Int32) = 0 from rfl), if_neg (show ¬ (1 : Int32) = 0 by decide)]
        unfold J_T_number_58
        rw [fT_pk h]
        repeat rw [ob_]
        obtain ⟨c', m', e1, e2, e3⟩ := vr_s (S := C) (T := M) hv d1 d2
        rw [e1, e2]
        simp only [ob_, jl_]
        obtain ⟨v, C', r1, r2, r3⟩ := ih g (c_1 C) (m_1 M) (p + 1) c' m' (tx_1 h q) (by omega) e3 (by omega) (by omega)
        exact ⟨v, C', r1, r2, oX_t r3 fT_1 gN_1 (c1_p h q)⟩
      · rw [d3, d4]
        repeat rw [ob_]
        rw [if_pos rfl, if_pos rfl]
        exact num_e h hs hp h1 h2 h3 hv
    · rw [if_pos (show C.1 25 1 ≤ C.1 25 2 by rw [le]; exact q)]
      rcases dig_ (S := C) (T := M) (z := pkv C n p) with ⟨d1, -⟩ | ⟨d1, d3, d4⟩
      · rw [pkv_1 q] at d1
        exact absurd d1 (by decide)
      · rw [d4]
        repeat rw [ob_]
        rw [if_pos rfl]
        exact num_e h hs hp h1 h2 h3 hv
/-- a number on both sides -/
theorem fT_nu (h : tx C M n p) (h1 : 0 ≤ lo.toInt) (h2 : lo.toInt ≤ hi.toInt) (h3 : hi.toInt ≤ 2299) : ∃ v C', F_T_number lo hi C = some (v, C') ∧ (lo.toInt ≤ v.toInt ∧ v.toInt ≤ hi.toInt) ∧ oX C M n C' (fun M' => F_M_ranged lo hi M = some (.inl v, M')) (fun M' => F_M_ranged lo hi M = some (.inr 12, M')) := by
  have hs := h.2.2.2.2.1
  have b3 : C.1 25 3 = -1 := h.2.2.2.2.2.2.1.1
  have le : (C.1 25 1 ≤ C.1 25 2) = ¬ p < n := by
    obtain ⟨a1, a2, a3, a4, a5, a6, a7, a8⟩ := h
    rw [Int32.le_iff_toInt_le, a3, a5]
    exact propext ⟨fun _ => by omega, fun _ => by omega⟩
  have hn : n ≤ 400 := h.1
  unfold F_T_number F_M_ranged J_M_ranged_23
  rw [jl_, jl_, fT_pk h, fM_pk h, pos_e h]
  repeat rw [ob_]
  rcases dig_ (S := C) (T := M) (z := pkv C n p) with ⟨d1, d2, d3, d4⟩ | ⟨d1, d3, d4⟩
  · have q : p < n := by
      by_cases w : p < n
      · exact w
      · rw [pkv_1 w] at d1
        exact absurd d1 (by decide)
    rw [d4]
    repeat rw [ob_]
    rw [if_neg (show ¬ (1 : Int32) = 0 by decide)]
    obtain ⟨c', m', e1, e2, e3⟩ := vr_s (S := C) (T := M) (c := 0) (m := 0) ⟨by decide, Or.inl ⟨rfl, by decide⟩⟩ d1 d2
    have one : ∀ y, L_T_number_24 ju_ lo hi (C.1 25 2) 0 y C = L_T_number_24 999999 lo hi (C.1 25 2) c' y (c_1 C) := by
      intro y
      rw [show ju_ = 999999 + 1 from rfl]
      conv => lhs; unfold L_T_number_24
      rw [if_neg (show ¬ C.1 25 1 ≤ C.1 25 2 by rw [le]; exact fun w => w q), fT_pk h]
      repeat rw [ob_]
      rw [d3]
      repeat rw [ob_]
      rw [if_neg (show ¬ (1 : Int32) = 0 by decide)]
      have k58 : J_T_number_58 (L_T_number_24 999999) lo hi (C.1 25 2) 0 y C = L_T_number_24 999999 lo hi (C.1 25 2) c' y (c_1 C) := by
        unfold J_T_number_58
        rw [fT_pk h]
        repeat rw [ob_]
        rw [e1]
        simp only [ob_, jl_]
        rfl
      rw [k58]
      by_cases w : y = 0
      · rw [if_pos w]
      · rw [if_neg w, if_neg (fun v => by have := Int32.lt_iff_toInt_lt.mp v; omega)]
    by_cases z : pkv C n p = 48
    · rw [if_pos z, if_pos z, one, jl_]
      have c0 : c' = 0 := by
        rw [z] at e1
        have : F_Math_min (0 * 10 + 48 - 48) 1000000 C = some 0 := rfl
        rw [this] at e1
        exact (Option.some.inj e1).symm
      have m0 : m' = 0 := by
        rw [z] at e2
        have : F_Math_min (10 * 0 + 48 - 48) 100000 M = some 0 := rfl
        rw [this] at e2
        exact (Option.some.inj e2).symm
      subst c0 m0
      have h' := tx_1 h q
      have stop : L_T_number_24 999999 lo hi (C.1 25 2) 0 1 (c_1 C) = J_T_number_91 lo hi (C.1 25 2) 0 (c_1 C) := by
        rw [show 999999 = 999998 + 1 from rfl]
        conv => lhs; unfold L_T_number_24
        by_cases w : (c_1 C).1 25 1 ≤ (c_1 C).1 25 2
        · rw [if_pos w]
        · rw [if_neg w, fT_pk h']
          repeat rw [ob_]
          rcases dig_ (S := c_1 C) (T := m_1 M) (z := pkv (c_1 C) n (p + 1)) with ⟨-, -, d5, -⟩ | ⟨-, d5, -⟩
          · rw [d5]
            repeat rw [ob_]
            rw [if_neg (show ¬ (1 : Int32) = 0 by decide), if_neg (show ¬ (1 : Int32) = 0 by decide), if_pos (Int32.lt_iff_toInt_lt.mpr (by rw [hs, h'.2.2.2.2.1]; omega))]
          · rw [d5]
            repeat rw [ob_]
            rw [if_pos rfl]
      rw [stop]
      obtain ⟨v, C', r1, r2, r3⟩ := num_e h' hs (by omega) h1 h2 h3 (c := 0) (m := 0) ⟨by decide, Or.inl ⟨rfl, by decide⟩⟩
      have em : w_i M 215 7 (C.1 25 2 + 1) = m_1 M := by unfold m_1; rw [pos_e h]
      rw [em]
      exact ⟨v, C', r1, r2, oX_t r3 fT_1 gN_1 (c1_p h q)⟩
    · rw [if_neg z, if_neg z, one]
      have mo : L_M_ranged_48 ju_ lo hi (C.1 25 2) 0 M = L_M_ranged_48 999999 lo hi (C.1 25 2) m' (m_1 M) := by
        rw [show ju_ = 999999 + 1 from rfl]
        conv => lhs; unfold L_M_ranged_48
        rw [fM_pk h]
        repeat rw [ob_]
        rw [d4]
        repeat rw [ob_]
        rw [if_neg (show ¬ (1 : Int32) = 0 by decide), e2]
        simp only [ob_, jl_]
        rfl
      rw [mo]
      obtain ⟨v, C', r1, r2, r3⟩ := lT_num h1 h2 h3 hs 999999 999999 (c_1 C) (m_1 M) (p + 1) c' m' (tx_1 h q) (by omega) e3 (by omega) (by omega)
      exact ⟨v, C', r1, r2, oX_t r3 fT_1 gN_1 (c1_p h q)⟩
  · have n48 : ¬ pkv C n p = 48 := fun w => by rw [w] at d1; exact absurd d1 (by decide)
    rw [d4]
    repeat rw [ob_]
    rw [if_pos rfl, if_neg n48, fM_bad, jxv_1]
    have stop : L_T_number_24 ju_ lo hi (C.1 25 2) 0 0 C = J_T_number_91 lo hi (C.1 25 2) 0 C := by
      rw [show ju_ = 999999 + 1 from rfl]
      conv => lhs; unfold L_T_number_24
      by_cases w : C.1 25 1 ≤ C.1 25 2
      · rw [if_pos w]
      · rw [if_neg w, fT_pk h]
        repeat rw [ob_]
        rw [d3]
        repeat rw [ob_]
        rw [if_pos rfl]
    obtain ⟨br1, br2⟩ := fT_br h (pos_n h)
    rw [stop]
    unfold J_T_number_91 J_T_number_111 J_T_number_116
    rw [if_pos rfl, br1]
    repeat rw [ob_]
    rw [if_neg (by rw [br2.2.2.2.2.1]; exact pos_n h)]
    exact ⟨lo, _, rfl, ⟨by omega, h2⟩, fT_i (Or.inr rfl), Or.inr ⟨_, p, _, rfl, gN_i (Or.inl rfl), br2, by rw [w_ir, if_pos ⟨rfl, rfl⟩]⟩⟩
theorem fB_nu (h : bk C n p e) : F_T_number lo hi C = some (lo, C) := by
  have d : F_T_isDigit (-1) C = some 0 := rfl
  unfold F_T_number
  rw [jl_, fB_pk h]
  repeat rw [ob_]
  rw [if_neg (by decide), show ju_ = 999999 + 1 from rfl]
  unfold L_T_number_24
  have k : J_T_number_91 lo hi (C.1 25 2) 0 C = some (lo, C) := by
    unfold J_T_number_91 J_T_number_111 J_T_number_116
    rw [if_pos rfl, fB_br h]
    repeat rw [ob_]
    rw [if_neg (by rw [h.2.2.2.2.1]; exact h.2.2.2.2.2)]
  rw [k, fB_pk h]
  repeat rw [ob_]
  rw [d]
  repeat rw [ob_]
  by_cases w : C.1 25 1 ≤ C.1 25 2
  · rw [if_pos w]
  · rw [if_neg w, if_pos rfl]
end JX_3
