section JX_1
variable {S T : jS}
/-- the texts of both sides, of bytes -/
def rT2 (S : jS) : Prop := rT S ∧ ∀ j : Nat, (j : Int) < (S.1 25 1).toInt → -128 ≤ (S.1 26 j).toInt ∧ (S.1 26 j).toInt ≤ 127
def rW2 (R : jS → Prop) : Prop := (∀ S, R S → rT2 S) ∧ ∀ S T, R S → st S T → rT2 T → R T
theorem byt_r {p s : Int32} : -128 ≤ (byt p s).toInt ∧ (byt p s).toInt ≤ 127 := by
  have e : ∃ z : Int8, byt p s = z.toInt32 := ⟨_, rfl⟩
  obtain ⟨z, hz⟩ := e
  rw [hz, Int8.toInt_toInt32]
  have a := Int8.le_toInt z
  have b := Int8.toInt_lt z
  omega
theorem w20_r {x1 x2 x3 x4 x5 : Int32} (i : Nat) (h : i < 20) : -128 ≤ ((w20 x1 x2 x3 x4 x5).getD i 0).toInt ∧ ((w20 x1 x2 x3 x4 x5).getD i 0).toInt ≤ 127 := by
  rcases (by omega : i = 0 ∨ i = 1 ∨ i = 2 ∨ i = 3 ∨ i = 4 ∨ i = 5 ∨ i = 6 ∨ i = 7 ∨ i = 8 ∨ i = 9 ∨ i = 10 ∨ i = 11 ∨ i = 12 ∨ i = 13 ∨ i = 14 ∨ i = 15 ∨ i = 16 ∨ i = 17 ∨ i = 18 ∨ i = 19) with rfl | rfl | rfl | rfl | rfl | rfl | rfl | rfl | rfl | rfl | rfl | rfl | rfl | rfl | rfl | rfl | rfl | rfl | rfl | rfl <;> exact byt_r
theorem rT2_0 {v v' : Int32} (h : rT2 S) : rT2 (w_i (w_i S 215 0 v) 215 0 v') := by
  refine ⟨rT_0 h.1, fun j hj => ?_⟩
  have e : ∀ b j, ¬ (b = 215 ∧ j = 0) → (w_i (w_i S 215 0 v) 215 0 v').1 b j = S.1 b j := fun b j q => by rw [w_ir, if_neg q, w_ir, if_neg q]
  rw [e 25 1 (by omega)] at hj
  rw [e 26 j (by omega)]
  exact h.2 j hj
theorem ok_feed2 {R : jS → Prop} (hR : rW2 R) : Ok_feed R := by
  intro p0 p1 p2 p3 p4 S h
  have ht2 := hR.1 _ h
  have ht := ht2.1
  obtain ⟨h1, h2, h3, h4⟩ := id ht
  obtain ⟨n, hn⟩ : ∃ n : Nat, (S.1 25 1).toInt = n := ⟨(S.1 25 1).toInt.toNat, by omega⟩
  by_cases q : n + 20 ≤ 400
  · have l20 : (w20 p0 p1 p2 p3 p4).length = 20 := rfl
    obtain ⟨a1, a2, a3, a4, a5⟩ := apL_p (l := 25) (q := 1) (r := 26) (by omega) (w20 p0 p1 p2 p3 p4) S n hn (by rw [l20]; omega)
    have J := fJ_feed (x1 := p0) (x2 := p1) (x3 := p2) (x4 := p3) (x5 := p4) hn q
    generalize apL 25 1 26 S n (w20 p0 p1 p2 p3 p4) = Z at *
    have e2 : (w_i Z 215 0 0).1 215 2 = S.1 215 2 := by rw [w_ir, if_neg (by omega), a4 215 2 (by omega) (by omega)]
    have e2' : ((w_i Z 215 0 0).1 215 2).toInt = n := by rw [e2, h3, hn]
    obtain ⟨b1, b2, b3, b4, b5⟩ := apL_p (l := 215) (q := 2) (r := 216) (by omega) (w20 p0 p1 p2 p3 p4) (w_i Z 215 0 0) n e2' (by rw [l20]; omega)
    have M : F_M_feed p0 p1 p2 p3 p4 Z = some ((apL 215 2 216 (w_i Z 215 0 0) n (w20 p0 p1 p2 p3 p4)).1 215 2, apL 215 2 216 (w_i Z 215 0 0) n (w20 p0 p1 p2 p3 p4)) := by
      unfold F_M_feed
      have e : ((w_i Z 215 0 0).1 215 2 + 20).toInt = n + 20 := by
        rw [Int32.toInt_add, e2']
        simp only [Int32.reduceToInt]
        exact bs32 (by omega) (by omega)
      rw [jl_, if_pos (by rw [leI (k := 400) (n := 400) rfl, e]; omega), fM_feed e2' q]
    generalize apL 215 2 216 (w_i Z 215 0 0) n (w20 p0 p1 p2 p3 p4) = F at *
    have f25 : F.1 25 1 = Z.1 25 1 := by rw [b4 25 1 (by omega) (by omega), w_ir, if_neg (by omega)]
    have el : Z.1 25 1 = F.1 215 2 := eqI.mpr (by rw [a1, b1])
    refine ⟨_, _, _, J, M, hR.2 _ _ h ?_ ?_, ?_, el⟩
    · refine ⟨fun b j g1 g2 g3 g4 => ?_, by rw [b5]; exact a5⟩
      rw [b4 b j (fun w => g3 ⟨w.1, Or.inr w.2⟩) g4, w_ir, if_neg (fun w => g3 ⟨w.1, Or.inl w.2⟩), a4 b j g1 g2]
    · refine ⟨?_, fun j hj => ?_⟩
      rotate_left
      · rw [f25, a1, l20] at hj
        have c26 : F.1 26 j = Z.1 26 j := by rw [b4 26 j (by omega) (by omega), w_ir, if_neg (by omega)]
        rw [c26]
        by_cases g : j < n
        · rw [a3 j g]
          exact ht2.2 j (by omega)
        · have x1 := a2 (j - n) (by rw [l20]; omega)
          rw [show n + (j - n) = j by omega] at x1
          rw [x1]
          exact w20_r _ (by omega)
      unfold rT
      rw [f25, a1, l20]
      refine ⟨by omega, by omega, el.symm, fun j hj => ?_⟩
      have c26 : F.1 26 j = Z.1 26 j := by rw [b4 26 j (by omega) (by omega), w_ir, if_neg (by omega)]
      rw [c26]
      by_cases g : j < n
      · rw [a3 j g, b3 j g, w_ir, if_neg (by omega), a4 216 j (by omega) (by omega)]
        exact h4 j (by omega)
      · have x1 := a2 (j - n) (by rw [l20]; omega)
        have x2 := b2 (j - n) (by rw [l20]; omega)
        rw [show n + (j - n) = j by omega] at x1 x2
        rw [x1, x2]
    · rw [b4 215 0 (by omega) (by omega), w_ir, if_pos ⟨rfl, rfl⟩]
  · have e : (S.1 25 1 + 20).toInt = n + 20 := by
      rw [Int32.toInt_add, hn]
      simp only [Int32.reduceToInt]
      exact bs32 (by omega) (by omega)
    refine ⟨(.inr 10, S), 0, w_i (w_i S 215 0 0) 215 0 1, ?_, ?_, hR.2 _ _ h st_0 (rT2_0 ht2), ?_⟩
    · unfold F_J_feed
      rw [if_neg (by rw [leI (k := 400) (n := 400) rfl, e]; omega)]
    · have r : (w_i S 215 0 0).1 215 2 = S.1 25 1 := by rw [w_ir, if_neg (by omega), h3]
      show F_M_feed p0 p1 p2 p3 p4 S = _
      unfold F_M_feed
      rw [jl_, r, if_neg (by rw [leI (k := 400) (n := 400) rfl, e]; omega), fail1]
      simp only [ob_]
    · show (10, (w_i (w_i S 215 0 0) 215 0 1).1 215 0) ∈ _
      rw [w_ir, if_pos ⟨rfl, rfl⟩]
      exact List.mem_cons_self
theorem ok_end2 {R : jS → Prop} (hR : rW2 R) : Ok_end R := by
  intro p0 S h
  have ht2 := hR.1 _ h
  have ht := ht2.1
  obtain ⟨h1, h2, h3, h4⟩ := id ht
  by_cases q : 0 ≤ p0.toInt ∧ p0.toInt ≤ (S.1 25 1).toInt
  · refine ⟨(.inl p0, w_i S 25 1 p0), p0, w_i (w_i (w_i S 25 1 p0) 215 0 0) 215 2 p0, ?_, ?_, hR.2 _ _ h ?_ ?_, ?_, rfl⟩
    · unfold F_J_end
      rw [fck0 (by simp only [Int32.toInt_toInt64, Int64.reduceToInt]; omega) (by simp only [Int32.toInt_toInt64]; omega), jxv_0, jl_]
    · have r : (w_i (w_i S 25 1 p0) 215 0 0).1 215 2 = S.1 25 1 := by rw [w_ir, if_neg (by omega), w_ir, if_neg (by omega), h3]
      show F_M_end p0 (w_i S 25 1 p0) = _
      unfold F_M_end
      rw [jl_, if_neg (by rw [ltI (k := 0) (n := 0) rfl]; omega), r, if_pos (Int32.le_iff_toInt_le.mpr q.2), jl_]
    · refine ⟨fun b j g1 _ g3 _ => ?_, rfl⟩
      rw [w_ir, if_neg (fun w => g3 ⟨w.1, Or.inr w.2⟩), w_ir, if_neg (fun w => g3 ⟨w.1, Or.inl w.2⟩), w_ir, if_neg g1]
    · have e1 : (w_i (w_i (w_i S 25 1 p0) 215 0 0) 215 2 p0).1 25 1 = p0 := by rw [w_ir, if_neg (by omega), w_ir, if_neg (by omega), w_ir, if_pos ⟨rfl, rfl⟩]
      refine ⟨?_, fun j hj => ?_⟩
      rotate_left
      · rw [e1] at hj
        rw [w_ir, if_neg (by omega), w_ir, if_neg (by omega), w_ir, if_neg (by omega)]
        exact ht2.2 j (by omega)
      unfold rT
      rw [e1]
      refine ⟨q.1, by omega, by rw [w_ir, if_pos ⟨rfl, rfl⟩], fun j hj => ?_⟩
      have e : ∀ b, b = 26 ∨ b = 216 → (w_i (w_i (w_i S 25 1 p0) 215 0 0) 215 2 p0).1 b j = S.1 b j := fun b hb => by rw [w_ir, if_neg (by omega), w_ir, if_neg (by omega), w_ir, if_neg (by omega)]
      rw [e 26 (Or.inl rfl), e 216 (Or.inr rfl)]
      exact h4 j (by omega)
    · rw [w_ir, if_neg (by omega), w_ir, if_pos ⟨rfl, rfl⟩]
  · refine ⟨(.inr 11, S), 0, w_i (w_i S 215 0 0) 215 0 1, ?_, ?_, hR.2 _ _ h st_0 (rT2_0 ht2), ?_⟩
    · unfold F_J_end
      rw [fck1 (by simp only [Int32.toInt_toInt64, Int64.reduceToInt]; omega), jxv_1]
    · have r : (w_i S 215 0 0).1 215 2 = S.1 25 1 := by rw [w_ir, if_neg (by omega), h3]
      show F_M_end p0 S = _
      unfold F_M_end
      have e : J_M_end_17 (w_i S 215 0 0) = some (0, w_i (w_i S 215 0 0) 215 0 1) := rfl
      rw [jl_, e]
      by_cases g : p0.toInt < 0
      · rw [if_pos (by rw [ltI (k := 0) (n := 0) rfl]; exact g)]
      · rw [if_neg (by rw [ltI (k := 0) (n := 0) rfl]; exact g), r, if_neg (fun w => by
          have := Int32.le_iff_toInt_le.mp w
          omega)]
    · show (11, (w_i (w_i S 215 0 0) 215 0 1).1 215 0) ∈ _
      rw [w_ir, if_pos ⟨rfl, rfl⟩]
      exact List.mem_cons_self
end JX_1
