section JE2
variable {a : Nat} {S : jS}
theorem hw_no {s : Int64} {r : Int32} (h : hw s 59 r) (hb : ∀ i, 60 ≤ i → bt s i = false) (hn : ∃ i, bt s i = true) : ∃ j, r.toInt = (j : Nat) ∧ j < 60 ∧ bt s j = true ∧ ∀ i, j < i → bt s i = false := by
  rcases h with ⟨j, j1, j2, j3, j4, j5⟩ | ⟨-, h⟩
  · refine ⟨j, j1, by omega, j4, fun i hi => ?_⟩
    by_cases c : i < 60
    · exact j5 i hi (by omega)
    · exact hb i (by omega)
  · obtain ⟨i, hi⟩ := hn
    have := lt24 hb hi
    rw [h i (by omega)] at hi
    cases hi
theorem gT_core {H M X : Nat → Bool} {P h m x : Nat} (tk : Nat → Prop) (htk : ∀ s, tk s ↔ H (s / 3600) = true ∧ M (s / 60 % 60) = true ∧ X (s % 60) = true) (bM : m < 60) (bX : x < 60) (q : 3600 * h + 60 * m + x ≤ P) (c1 : H h = true) (c2 : M m = true) (c3 : X x = true) (hmax : ∀ i, 3600 * h + 60 * m + x < i → i ≤ P → ¬ tk i) : geT tk P ((3600 * h + 60 * m + x : Nat) : Int) := by
  refine Or.inl ⟨3600 * h + 60 * m + x, rfl, q, (htk _).mpr ⟨?_, ?_, ?_⟩, hmax⟩
  · rw [show (3600 * h + 60 * m + x) / 3600 = h by omega]; exact c1
  · rw [show (3600 * h + 60 * m + x) / 60 % 60 = m by omega]; exact c2
  · rw [show (3600 * h + 60 * m + x) % 60 = x by omega]; exact c3
theorem fC_tu {p0 : Int32} {P : Nat} (hp : p0.toInt = P) (hb : P < 86400) (hc : ckT S a) : ∃ r, F_C_timeUpTo a p0 S = some r ∧ geT (tkS S a) P r.toInt := by
  obtain ⟨d1, d2, d3⟩ := pd_ hp hb
  obtain ⟨k1, k2, k3, k4, k5⟩ := hc
  have htk : ∀ s, tkS S a s ↔ bt (S.2.1 (a + 1) 2) (s / 3600) = true ∧ bt (S.2.1 (a + 1) 1) (s / 60 % 60) = true ∧ bt (S.2.1 (a + 1) 0) (s % 60) = true := fun s => Iff.rfl
  have m2 : (2 : Int32).toNatClampNeg = 2 := by decide
  have m1 : (1 : Int32).toNatClampNeg = 1 := by decide
  have m0 : (0 : Int32).toNatClampNeg = 0 := by decide
  have q2 : ∀ {α : Type} {X : Option α}, j_q (j_in 2 12) X = X := fun {α X} => j_qi (by decide) (by decide)
  have q1 : ∀ {α : Type} {X : Option α}, j_q (j_in 1 12) X = X := fun {α X} => j_qi (by decide) (by decide)
  have q0 : ∀ {α : Type} {X : Option α}, j_q (j_in 0 12) X = X := fun {α X} => j_qi (by decide) (by decide)
  unfold F_C_timeUpTo J_C_timeUpTo_42 J_C_timeUpTo_70 J_C_timeUpTo_71 J_C_timeUpTo_93 J_C_timeUpTo_129 J_C_timeUpTo_162
  have t10 : ((1 : Int32) = 0) = False := by decide
  have t00 : ((0 : Int32) = 0) = True := by decide
  simp only [q2, q1, q0, m2, m1, m0, t10, t00, if_true, if_false]
  generalize S.2.1 (a + 1) 2 = Hs at *
  generalize S.2.1 (a + 1) 1 = Ms at *
  generalize S.2.1 (a + 1) 0 = Xs at *
  generalize p0 / 3600 = h0 at *
  generalize (p0 / 60) - (p0 / 60) / 60 * 60 = mi0 at *
  generalize p0 - p0 / 60 * 60 = s0 at *
  obtain ⟨zh, ez, lz⟩ := hwp (S := S) (s := Hs) d1 (by omega)
  obtain ⟨x0, ex0, lx0⟩ := hwp (S := S) (s := Xs) (l := 59) (k := 59) rfl (by omega)
  obtain ⟨X0, fx1, fx2, fx3, fx4⟩ := hw_no lx0 k3 k5
  obtain ⟨n0, en0, ln0⟩ := hwp (S := S) (s := Ms) (l := 59) (k := 59) rfl (by omega)
  obtain ⟨M0, fm1, fm2, fm3, fm4⟩ := hw_no ln0 k2 k4
  have e1 : (h0 - 1).toInt = ((P / 3600 : Nat) : Int) - 1 := by
    rw [Int32.toInt_sub, d1, bs32 (by simp only [Int32.reduceToInt]; omega) (by simp only [Int32.reduceToInt]; omega)]
    simp only [Int32.reduceToInt]
  obtain ⟨zn, en, ln⟩ := hwp (S := S) (s := Hs) e1 (by omega)
  have ge0 : ∀ {r : Int32} {j : Nat}, r.toInt = j → (0 : Int32) ≤ r := fun {r j} h => Int32.le_iff_toInt_le.mpr (by rw [h]; simp only [Int32.reduceToInt]; omega)
  have nge : ∀ {r : Int32}, r.toInt = -1 → ¬ (0 : Int32) ≤ r := fun {r} h q => by
    rw [Int32.le_iff_toInt_le, h] at q
    simp only [Int32.reduceToInt] at q
    omega
  -- the hour before: nothing in this one
  have nxt : (∀ i, i ≤ P → i / 3600 = P / 3600 → ¬ tkS S a i) → ∃ r, ((F_C_highestBit Hs (h0 - 1) S).bind fun z15 => (F_C_highestBit Ms 59 S).bind fun z17 => if 0 ≤ z15 then some (z15 * 3600 + z17 * 60 + x0) else some (-1)) = some r ∧ geT (tkS S a) P r.toInt := by
    intro hno
    rw [en]; simp only [ob_]
    rw [en0]; simp only [ob_]
    rcases ln with ⟨j, j1, j2, j3, j4, j5⟩ | ⟨j1, j2⟩
    · rw [if_pos (ge0 j1)]
      refine ⟨_, rfl, ?_⟩
      rw [tm_e j1 fm1 fx1 j3 (by omega) (by omega)]
      refine gT_core _ htk (by omega) (by omega) (by omega) j4 fm3 fx3 (fun i i1 i2 i3 => ?_)
      have t := (htk i).mp i3
      by_cases c : i / 3600 = P / 3600
      · exact hno i i2 c i3
      · by_cases c2 : j < i / 3600
        · exact no_ (j5 _ c2 (by omega)) t.1
        · by_cases c3 : M0 < i / 60 % 60
          · exact no_ (fm4 _ c3) t.2.1
          · by_cases c4 : X0 < i % 60
            · exact no_ (fx4 _ c4) t.2.2
            · omega
    · rw [if_neg (nge j1)]
      refine ⟨_, rfl, Or.inr ⟨rfl, fun i i1 i3 => ?_⟩⟩
      have t := (htk i).mp i3
      by_cases c : i / 3600 = P / 3600
      · exact hno i i1 c i3
      · exact no_ (j2 _ (by omega)) t.1
  rw [ez]; simp only [ob_]
  by_cases ch : zh = h0
  · -- this hour
    rw [if_pos ch]
    obtain ⟨mm, em, lm⟩ := hwp (S := S) (s := Ms) d2 (by omega)
    rw [em]; simp only [ob_]
    rw [if_pos ch]
    have hH : bt Hs (P / 3600) = true := by
      rcases lz with ⟨j, j1, j2, j3, j4, j5⟩ | ⟨j1, -⟩
      · rw [ch, d1] at j1
        rw [show P / 3600 = j by omega]; exact j4
      · rw [ch, d1] at j1; omega
    have d1' : zh.toInt = (P / 3600 : Nat) := by rw [ch]; exact d1
    by_cases cm : mm = mi0
    · rw [if_pos cm]
      obtain ⟨ss, es, ls⟩ := hwp (S := S) (s := Xs) d3 (by omega)
      rw [es]; simp only [ob_]
      have hM : bt Ms (P / 60 % 60) = true := by
        rcases lm with ⟨j, j1, j2, j3, j4, j5⟩ | ⟨j1, -⟩
        · rw [cm, d2] at j1
          rw [show P / 60 % 60 = j by omega]; exact j4
        · rw [cm, d2] at j1; omega
      have d2' : mm.toInt = (P / 60 % 60 : Nat) := by rw [cm]; exact d2
      rcases ls with ⟨j, j1, j2, j3, j4, j5⟩ | ⟨j1, j2⟩
      · rw [if_pos (ge0 j1), if_pos (ge0 d2'), if_pos (ge0 d1')]
        refine ⟨_, rfl, ?_⟩
        rw [tm_e d1' d2' j1 (by omega) (by omega) j3]
        refine gT_core _ htk (by omega) (by omega) (by omega) hH hM j4 (fun i i1 i2 i3 => ?_)
        have t := (htk i).mp i3
        exact no_ (j5 (i % 60) (by omega) (by omega)) t.2.2
      · rw [if_neg (nge j1)]
        have e2 : (mm - 1).toInt = ((P / 60 % 60 : Nat) : Int) - 1 := by
          rw [Int32.toInt_sub, d2', bs32 (by simp only [Int32.reduceToInt]; omega) (by simp only [Int32.reduceToInt]; omega)]
          simp only [Int32.reduceToInt]
        obtain ⟨mn, emn, lmn⟩ := hwp (S := S) (s := Ms) e2 (by omega)
        rw [emn]; simp only [ob_]
        rw [ex0]; simp only [ob_]
        rcases lmn with ⟨j, g1, g2, g3, g4, g5⟩ | ⟨g1, g2⟩
        · rw [if_pos (ge0 g1), if_pos (ge0 d1')]
          refine ⟨_, rfl, ?_⟩
          rw [tm_e d1' g1 fx1 (by omega) g3 (by omega)]
          refine gT_core _ htk (by omega) (by omega) (by omega) hH g4 fx3 (fun i i1 i2 i3 => ?_)
          have t := (htk i).mp i3
          by_cases c1 : i / 60 % 60 = P / 60 % 60
          · exact no_ (j2 (i % 60) (by omega)) t.2.2
          · by_cases c2 : j < i / 60 % 60
            · exact no_ (g5 _ c2 (by omega)) t.2.1
            · by_cases c3 : X0 < i % 60
              · exact no_ (fx4 _ c3) t.2.2
              · omega
        · rw [if_neg (nge g1)]
          refine nxt (fun i i1 i2 i3 => ?_)
          have t := (htk i).mp i3
          by_cases c1 : i / 60 % 60 = P / 60 % 60
          · exact no_ (j2 (i % 60) (by omega)) t.2.2
          · exact no_ (g2 _ (by omega)) t.2.1
    · rw [if_neg cm, ex0]
      simp only [ob_]
      rw [if_pos (ge0 fx1)]
      rcases lm with ⟨j, g1, g2, g3, g4, g5⟩ | ⟨g1, g2⟩
      · rw [if_pos (ge0 g1), if_pos (ge0 d1')]
        refine ⟨_, rfl, ?_⟩
        rw [tm_e d1' g1 fx1 (by omega) g3 (by omega)]
        have jne : ¬ j = P / 60 % 60 := fun e => cm (by rw [eqI, g1, d2, e])
        refine gT_core _ htk (by omega) (by omega) (by omega) hH g4 fx3 (fun i i1 i2 i3 => ?_)
        have t := (htk i).mp i3
        by_cases c2 : j < i / 60 % 60
        · exact no_ (g5 _ c2 (by omega)) t.2.1
        · by_cases c3 : X0 < i % 60
          · exact no_ (fx4 _ c3) t.2.2
          · omega
      · rw [if_neg (nge g1)]
        refine nxt (fun i i1 i2 i3 => ?_)
        have t := (htk i).mp i3
        exact no_ (g2 _ (by omega)) t.2.1
  · rw [if_neg ch, en0]
    simp only [ob_]
    rw [if_neg ch, ex0]
    simp only [ob_]
    rw [if_pos (ge0 fx1), if_pos (ge0 fm1)]
    rcases lz with ⟨j, j1, j2, j3, j4, j5⟩ | ⟨j1, j2⟩
    · rw [if_pos (ge0 j1)]
      refine ⟨_, rfl, ?_⟩
      rw [tm_e j1 fm1 fx1 j3 (by omega) (by omega)]
      have jne : ¬ j = P / 3600 := fun e => ch (by rw [eqI, j1, d1, e])
      refine gT_core _ htk (by omega) (by omega) (by omega) j4 fm3 fx3 (fun i i1 i2 i3 => ?_)
      have t := (htk i).mp i3
      by_cases c2 : j < i / 3600
      · exact no_ (j5 _ c2 (by omega)) t.1
      · by_cases c3 : M0 < i / 60 % 60
        · exact no_ (fm4 _ c3) t.2.1
        · by_cases c4 : X0 < i % 60
          · exact no_ (fx4 _ c4) t.2.2
          · omega
    · rw [if_neg (nge j1)]
      refine ⟨_, rfl, Or.inr ⟨rfl, fun i i1 i3 => ?_⟩⟩
      have t := (htk i).mp i3
      exact no_ (j2 _ (by omega)) t.1
end JE2
