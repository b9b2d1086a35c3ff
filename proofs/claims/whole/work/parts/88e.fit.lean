section JH_6
variable {a h : Nat} {S : jS}
theorem lF_34 (hc : ckA S a h) : ∀ (f : Nat) (x4 x5 x6 : Int32) (K : Nat), x5.toInt = K → 1 ≤ K → K ≤ 31 → 1 ≤ x4.toInt → x4.toInt ≤ 12 → 1960 ≤ x6.toInt → x6.toInt ≤ 2299 → x6.toInt - 1959 < f → ∃ r, L_F_dayUpTo_34 S f x4 x5 x6 = some r ∧ uN S a h (up_ x6.toInt x4.toInt K) r.toInt := by
  intro f
  induction f with
  | zero => intro x4 x5 x6 K _ _ _ _ _ _ _ q; omega
  | succ f ih =>
    intro x4 x5 x6 K e1 e2 e2' e3 e4 e6 e7 e8
    have hc' := hc
    obtain ⟨c1, c2, c3, c4, c5, c6, c7⟩ := hc'
    rw [L_F_dayUpTo_34]
    have m1 := dt_mm (y := x6.toInt) (m := 1) (k := x4.toInt) (by omega) e3 (by omega)
    rw [dt_11] at m1
    have hs := dt_s (y := x6.toInt) e3 e4
    have hn := dt_nb (y := x6.toInt) (m := x4.toInt)
    have m2 := dt_mm (y := x6.toInt) (m := x4.toInt + 1) (k := 13) (by omega) (by omega) (by omega)
    rw [dt_13] at m2
    have ub := up_b (y := x6.toInt) (m := x4.toInt) (K := K) e3 e4 e2
    by_cases cy : x6.toInt < 1970
    · rw [if_pos (show x6 < 1970 from Int32.lt_iff_toInt_lt.mpr (by simp only [Int32.reduceToInt]; omega))]
      refine ⟨_, rfl, Or.inr ⟨rfl, fun D q1 q2 => ?_⟩⟩
      have := fN_b q2
      have e : dt_1 (x6.toInt + 1) ≤ 0 := by
        by_cases q : x6.toInt + 1 = 1970
        · rw [q, d70]; omega
        · have := dt_mo (x := x6.toInt + 1) (y := 1970) (by omega)
          rw [d70] at this; omega
      omega
    · rw [if_neg (fun q : x6 < 1970 => cy (by have := Int32.lt_iff_toInt_lt.mp q; simp only [Int32.reduceToInt] at this; omega)), c2, j_qt c3]
      have nxt : ∀ z : Int32, z.toInt = x6.toInt - 1 → ∃ r, L_F_dayUpTo_34 S f 12 31 z = some r ∧ uN S a h (dt_1 x6.toInt - 1) r.toInt := fun z hz => by
        obtain ⟨r, g1, g2⟩ := ih 12 31 z 31 rfl (by omega) (by omega) (by decide) (by decide) (by omega) (by omega) (by omega)
        refine ⟨r, g1, uN_eq g2 ?_⟩
        have hs2 := dt_s (y := z.toInt) (m := 12) (by omega) (by omega)
        have h13 := dt_13 z.toInt
        rw [hz, Int.sub_add_cancel] at h13
        unfold up_
        simp only [Int32.reduceToInt]
        have hn2 := dt_nb (y := z.toInt) (m := 12)
        rw [hz] at hs2 hn2 ⊢
        rw [show (12 : Int) + 1 = 13 by decide] at hs2 ⊢
        split <;> omega
      rcases fC_hy (S := S) (a := a) (y := x6) (by omega) e7 (fun _ _ _ => Or.inr trivial) with ⟨g1, g2⟩ | ⟨g1, g2⟩
      · rw [g1]
        simp only [ob_]
        rw [if_neg (by decide)]
        obtain ⟨r, p1, p2⟩ := lF_58 hc (by omega) e7 g2 nxt ju_ x5 x4 K e1 e2 e2' (by omega) e4 (by show _ < ((1000000 : Nat) : Int); omega)
        refine ⟨r, p1, ?_⟩
        rw [if_neg (by omega)] at p2
        exact p2
      · rw [g1]
        simp only [ob_, if_true]
        unfold J_F_dayUpTo_110
        obtain ⟨r, p1, p2⟩ := nxt (x6 + -1) (by
          rw [Int32.toInt_add]
          exact bs32 (by simp only [Int32.reduceToInt]; omega) (by simp only [Int32.reduceToInt]; omega))
        refine ⟨r, p1, uN_up p2 (by omega) (fun D q1 q2 q3 => ?_)⟩
        have y1 : dt_y D = x6.toInt := dt_yu (by omega) (by omega)
        obtain ⟨o1, o2, o3, o4⟩ := dt_ob (y := x6.toInt) (d := D) (by omega) (by omega)
        obtain ⟨-, -, p, -⟩ := fN_in q3 o1 o2 o3 o4
        exact g2 p
end JH_6
