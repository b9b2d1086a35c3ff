section JE1
variable {a : Nat} {S : jS}
def lw (s : Int64) (k : Nat) (r : Int32) : Prop := (∃ j, r.toInt = (j : Nat) ∧ k ≤ j ∧ j < 64 ∧ bt s j = true ∧ ∀ i, k ≤ i → i < j → bt s i = false) ∨ (r.toInt = -1 ∧ ∀ i, k ≤ i → bt s i = false)
def hw (s : Int64) (k : Int) (r : Int32) : Prop := (∃ j : Nat, r.toInt = (j : Nat) ∧ j ≤ k ∧ j < 64 ∧ bt s j = true ∧ ∀ i : Nat, j < i → i ≤ k → bt s i = false) ∨ (r.toInt = -1 ∧ ∀ i : Nat, i ≤ k → bt s i = false)
theorem lwp {s : Int64} {l : Int32} {k : Nat} (hl : l.toInt = k) (hk : k < 64) : ∃ r, F_C_lowestBit s l S = some r ∧ lw s k r := by
  rcases fC_low (S := S) (s := s) hl hk with ⟨j, j1, j2, j3, j4, j5⟩ | ⟨h, h2⟩
  · exact ⟨_, j5, Or.inl ⟨j, Int32.toInt_ofNat_of_lt (by omega), j1, j2, j3, j4⟩⟩
  · exact ⟨_, h2, Or.inr ⟨rfl, h⟩⟩
theorem hwp {s : Int64} {l : Int32} {k : Int} (hl : l.toInt = k) (hk : k < 63) : ∃ r, F_C_highestBit s l S = some r ∧ hw s k r := by
  by_cases c : k < 0
  · exact ⟨_, fC_high0 (by omega), Or.inr ⟨rfl, fun i hi => by omega⟩⟩
  · rcases fC_high (S := S) (s := s) (l := l) (k := k.toNat) (by omega) (by omega) with ⟨j, j1, j2, j3, j4⟩ | ⟨h, h2⟩
    · exact ⟨_, j4, Or.inl ⟨j, Int32.toInt_ofNat_of_lt (by omega), by omega, by omega, j2, fun i i1 i2 => j3 i i1 (by omega)⟩⟩
    · exact ⟨_, h2, Or.inr ⟨rfl, fun i hi => h i (by omega)⟩⟩
def tkS (S : jS) (a : Nat) (s : Nat) : Prop := bt (S.2.1 (a + 1) 2) (s / 3600) = true ∧ bt (S.2.1 (a + 1) 1) (s / 60 % 60) = true ∧ bt (S.2.1 (a + 1) 0) (s % 60) = true
def leT (tk : Nat → Prop) (p : Nat) (r : Int) : Prop := (∃ s : Nat, r = s ∧ p ≤ s ∧ s < 86400 ∧ tk s ∧ ∀ i, p ≤ i → i < s → ¬ tk i) ∨ (r = -1 ∧ ∀ i, p ≤ i → i < 86400 → ¬ tk i)
def geT (tk : Nat → Prop) (p : Nat) (r : Int) : Prop := (∃ s : Nat, r = s ∧ s ≤ p ∧ tk s ∧ ∀ i, s < i → i ≤ p → ¬ tk i) ∨ (r = -1 ∧ ∀ i, i ≤ p → ¬ tk i)
/-- hours, minutes, seconds of a cron are such, and there are some -/
def ckT (S : jS) (a : Nat) : Prop := (∀ i, 24 ≤ i → bt (S.2.1 (a + 1) 2) i = false) ∧ (∀ i, 60 ≤ i → bt (S.2.1 (a + 1) 1) i = false) ∧ (∀ i, 60 ≤ i → bt (S.2.1 (a + 1) 0) i = false) ∧ (∃ i, bt (S.2.1 (a + 1) 1) i = true) ∧ (∃ i, bt (S.2.1 (a + 1) 0) i = true)
theorem lw_no {s : Int64} {r : Int32} (h : lw s 0 r) (hn : ∃ i, bt s i = true) : ∃ j, r.toInt = (j : Nat) ∧ j < 64 ∧ bt s j = true ∧ ∀ i, i < j → bt s i = false := by
  rcases h with ⟨j, j1, -, j2, j3, j4⟩ | ⟨-, h⟩
  · exact ⟨j, j1, j2, j3, fun i hi => j4 i (by omega) hi⟩
  · obtain ⟨i, hi⟩ := hn
    rw [h i (by omega)] at hi
    cases hi
theorem tm_e {h m x : Int32} {H M X : Nat} (h1 : h.toInt = H) (h2 : m.toInt = M) (h3 : x.toInt = X) (b1 : H < 64) (b2 : M < 64) (b3 : X < 64) : (((h * 3600) + (m * 60)) + x).toInt = ((3600 * H + 60 * M + X : Nat) : Int) := by
  simp (disch := omega) only [Int32.toInt_add, Int32.toInt_mul, h1, h2, h3, bs32, Int32.reduceToInt]
  omega
theorem pd_ {p : Int32} {P : Nat} (h : p.toInt = P) (hb : P < 86400) : (p / 3600).toInt = (P / 3600 : Nat) ∧ ((p / 60) - (p / 60) / 60 * 60).toInt = (P / 60 % 60 : Nat) ∧ (p - p / 60 * 60).toInt = (P % 60 : Nat) := by
  have e1 : (p / 60).toInt = (P / 60 : Nat) := by
    simp (disch := omega) only [Int32.toInt_div, h, bs32, td_, Int32.reduceToInt]
    omega
  refine ⟨?_, ?_, ?_⟩
  · simp (disch := omega) only [Int32.toInt_div, h, bs32, td_, Int32.reduceToInt]
    omega
  · simp (disch := omega) only [Int32.toInt_sub, Int32.toInt_mul, Int32.toInt_div, e1, bs32, td_, Int32.reduceToInt]
    omega
  · simp (disch := omega) only [Int32.toInt_sub, Int32.toInt_mul, Int32.toInt_div, h, bs32, td_, Int32.reduceToInt]
    omega
/-- the least time of a day that fits, out of the least hour, minute, second -/
theorem fT_core {H M X : Nat → Bool} {P h m x : Nat} (tk : Nat → Prop) (htk : ∀ s, tk s ↔ H (s / 3600) = true ∧ M (s / 60 % 60) = true ∧ X (s % 60) = true) (bM : m < 60) (bX : x < 60) (bH : h < 24) (q : P ≤ 3600 * h + 60 * m + x) (c1 : H h = true) (c2 : M m = true) (c3 : X x = true) (hmin : ∀ i, P ≤ i → i < 3600 * h + 60 * m + x → ¬ tk i) : leT tk P ((3600 * h + 60 * m + x : Nat) : Int) := by
  refine Or.inl ⟨3600 * h + 60 * m + x, rfl, q, by omega, (htk _).mpr ⟨?_, ?_, ?_⟩, hmin⟩
  · rw [show (3600 * h + 60 * m + x) / 3600 = h by omega]; exact c1
  · rw [show (3600 * h + 60 * m + x) / 60 % 60 = m by omega]; exact c2
  · rw [show (3600 * h + 60 * m + x) % 60 = x by omega]; exact c3
theorem lt24 {s : Int64} {n j : Nat} (h : ∀ i, n ≤ i → bt s i = false) (hj : bt s j = true) : j < n := by
  by_cases c : j < n
  · exact c
  · rw [h j (by omega)] at hj; cases hj
theorem no_ {s : Int64} {i : Nat} (h : bt s i = false) (g : bt s i = true) : False := by rw [h] at g; cases g
theorem fC_tf {p0 : Int32} {P : Nat} (hp : p0.toInt = P) (hb : P < 86400) (hc : ckT S a) : ∃ r, F_C_timeFrom a p0 S = some r ∧ leT (tkS S a) P r.toInt := by
  obtain ⟨d1, d2, d3⟩ := pd_ hp hb
  obtain ⟨k1, k2, k3, k4, k5⟩ := hc
  have htk : ∀ s, tkS S a s ↔ bt (S.2.1 (a + 1) 2) (s / 3600) = true ∧ bt (S.2.1 (a + 1) 1) (s / 60 % 60) = true ∧ bt (S.2.1 (a + 1) 0) (s % 60) = true := fun s => Iff.rfl
  have m2 : (2 : Int32).toNatClampNeg = 2 := by decide
  have m1 : (1 : Int32).toNatClampNeg = 1 := by decide
  have m0 : (0 : Int32).toNatClampNeg = 0 := by decide
  have q2 : ∀ {α : Type} {X : Option α}, j_q (j_in 2 12) X = X := fun {α X} => j_qi (by decide) (by decide)
  have q1 : ∀ {α : Type} {X : Option α}, j_q (j_in 1 12) X = X := fun {α X} => j_qi (by decide) (by decide)
  have q0 : ∀ {α : Type} {X : Option α}, j_q (j_in 0 12) X = X := fun {α X} => j_qi (by decide) (by decide)
  unfold F_C_timeFrom J_C_timeFrom_41 J_C_timeFrom_69 J_C_timeFrom_70 J_C_timeFrom_91 J_C_timeFrom_126 J_C_timeFrom_158
  have t10 : ((1 : Int32) = 0) = False := by decide
  have t00 : ((0 : Int32) = 0) = True := by decide
  simp only [q2, q1, q0, m2, m1, m0, t10, t00, if_true, if_false]
  generalize S.2.1 (a + 1) 2 = Hs at *
  generalize S.2.1 (a + 1) 1 = Ms at *
  generalize S.2.1 (a + 1) 0 = Xs at *
  generalize p0 / 3600 = h0 at *
  generalize (p0 / 60) - (p0 / 60) / 60 * 60 = mi0 at *
  generalize p0 - p0 / 60 * 60 = s0 at *
  obtain ⟨zh, ez, lz⟩ := lwp (S := S) (s := Hs) d1 (by omega)
  obtain ⟨x0, ex0, lx0⟩ := lwp (S := S) (s := Xs) (l := 0) (k := 0) rfl (by omega)
  obtain ⟨X0, fx1, fx2, fx3, fx4⟩ := lw_no lx0 k5
  obtain ⟨n0, en0, ln0⟩ := lwp (S := S) (s := Ms) (l := 0) (k := 0) rfl (by omega)
  obtain ⟨M0, fm1, fm2, fm3, fm4⟩ := lw_no ln0 k4
  have bX0 := lt24 k3 fx3
  have bM0 := lt24 k2 fm3
  have e1 : (h0 + 1).toInt = (P / 3600 + 1 : Nat) := by
    rw [Int32.toInt_add, d1, bs32 (by simp only [Int32.reduceToInt]; omega) (by simp only [Int32.reduceToInt]; omega)]
    simp only [Int32.reduceToInt]; omega
  obtain ⟨zn, en, ln⟩ := lwp (S := S) (s := Hs) e1 (by omega)
  have ge0 : ∀ {r : Int32} {j : Nat}, r.toInt = j → (0 : Int32) ≤ r := fun {r j} h => Int32.le_iff_toInt_le.mpr (by rw [h]; simp only [Int32.reduceToInt]; omega)
  have nge : ∀ {r : Int32}, r.toInt = -1 → ¬ (0 : Int32) ≤ r := fun {r} h q => by
    rw [Int32.le_iff_toInt_le, h] at q
    simp only [Int32.reduceToInt] at q
    omega
  -- the next hour: nothing in this one
  have nxt : (∀ i, P ≤ i → i / 3600 = P / 3600 → ¬ tkS S a i) → ∃ r, ((F_C_lowestBit Hs (h0 + 1) S).bind fun z15 => (F_C_lowestBit Ms 0 S).bind fun z17 => if 0 ≤ z15 then some (z15 * 3600 + z17 * 60 + x0) else some (-1)) = some r ∧ leT (tkS S a) P r.toInt := by
    intro hno
    rw [en]; simp only [ob_]
    rw [en0]; simp only [ob_]
    rcases ln with ⟨j, j1, j2, j3, j4, j5⟩ | ⟨j1, j2⟩
    · rw [if_pos (ge0 j1)]
      have bj := lt24 k1 j4
      refine ⟨_, rfl, ?_⟩
      rw [tm_e j1 fm1 fx1 j3 fm2 fx2]
      refine fT_core _ htk (by omega) (by omega) bj (by omega) j4 fm3 fx3 (fun i i1 i2 i3 => ?_)
      have t := (htk i).mp i3
      by_cases c : i / 3600 = P / 3600
      · exact hno i i1 c i3
      · by_cases c2 : i / 3600 < j
        · exact no_ (j5 _ (by omega) c2) t.1
        · by_cases c3 : i / 60 % 60 < M0
          · exact no_ (fm4 _ c3) t.2.1
          · by_cases c4 : i % 60 < X0
            · exact no_ (fx4 _ c4) t.2.2
            · omega
    · rw [if_neg (nge j1)]
      refine ⟨_, rfl, Or.inr ⟨rfl, fun i i1 i2 i3 => ?_⟩⟩
      have t := (htk i).mp i3
      by_cases c : i / 3600 = P / 3600
      · exact hno i i1 c i3
      · exact no_ (j2 _ (by omega)) t.1
  rw [ez]; simp only [ob_]
  by_cases ch : zh = h0
  · -- this hour
    rw [if_pos ch]
    obtain ⟨mm, em, lm⟩ := lwp (S := S) (s := Ms) d2 (by omega)
    rw [em]; simp only [ob_]
    rw [if_pos ch]
    have hH : bt Hs (P / 3600) = true := by
      rcases lz with ⟨j, j1, j2, j3, j4, j5⟩ | ⟨j1, -⟩
      · rw [ch, d1] at j1
        rw [show P / 3600 = j by omega]; exact j4
      · rw [ch, d1] at j1; omega
    have d1' : zh.toInt = (P / 3600 : Nat) := by rw [ch]; exact d1
    by_cases cm : mm = mi0
    · rw [if_pos cm]
      obtain ⟨ss, es, ls⟩ := lwp (S := S) (s := Xs) d3 (by omega)
      rw [es]; simp only [ob_]
      have hM : bt Ms (P / 60 % 60) = true := by
        rcases lm with ⟨j, j1, j2, j3, j4, j5⟩ | ⟨j1, -⟩
        · rw [cm, d2] at j1
          rw [show P / 60 % 60 = j by omega]; exact j4
        · rw [cm, d2] at j1; omega
      have d2' : mm.toInt = (P / 60 % 60 : Nat) := by rw [cm]; exact d2
      rcases ls with ⟨j, j1, j2, j3, j4, j5⟩ | ⟨j1, j2⟩
      · rw [if_pos (ge0 j1), if_pos (ge0 d2'), if_pos (ge0 d1')]
        refine ⟨_, rfl, ?_⟩
        rw [tm_e d1' d2' j1 (by omega) (by omega) j3]
        have bj := lt24 k3 j4
        refine fT_core _ htk (by omega) bj (by omega) (by omega) hH hM j4 (fun i i1 i2 i3 => ?_)
        have t := (htk i).mp i3
        exact no_ (j5 (i % 60) (by omega) (by omega)) t.2.2
      · rw [if_neg (nge j1)]
        have e2 : (mm + 1).toInt = (P / 60 % 60 + 1 : Nat) := by
          rw [Int32.toInt_add, d2', bs32 (by simp only [Int32.reduceToInt]; omega) (by simp only [Int32.reduceToInt]; omega)]
          simp only [Int32.reduceToInt]; omega
        obtain ⟨mn, emn, lmn⟩ := lwp (S := S) (s := Ms) e2 (by omega)
        rw [emn]; simp only [ob_]
        rw [ex0]; simp only [ob_]
        rcases lmn with ⟨j, g1, g2, g3, g4, g5⟩ | ⟨g1, g2⟩
        · rw [if_pos (ge0 g1), if_pos (ge0 d1')]
          refine ⟨_, rfl, ?_⟩
          rw [tm_e d1' g1 fx1 (by omega) g3 fx2]
          have bj := lt24 k2 g4
          refine fT_core _ htk bj bX0 (by omega) (by omega) hH g4 fx3 (fun i i1 i2 i3 => ?_)
          have t := (htk i).mp i3
          by_cases c1 : i / 60 % 60 = P / 60 % 60
          · exact no_ (j2 (i % 60) (by omega)) t.2.2
          · by_cases c2 : i / 60 % 60 < j
            · exact no_ (g5 _ (by omega) c2) t.2.1
            · by_cases c3 : i % 60 < X0
              · exact no_ (fx4 _ c3) t.2.2
              · omega
        · rw [if_neg (nge g1)]
          refine nxt (fun i i1 i2 i3 => ?_)
          have t := (htk i).mp i3
          by_cases c1 : i / 60 % 60 = P / 60 % 60
          · exact no_ (j2 (i % 60) (by omega)) t.2.2
          · exact no_ (g2 _ (by omega)) t.2.1
    · rw [if_neg cm, ex0]
      simp only [ob_]
      rw [if_pos (ge0 fx1)]
      rcases lm with ⟨j, g1, g2, g3, g4, g5⟩ | ⟨g1, g2⟩
      · rw [if_pos (ge0 g1), if_pos (ge0 d1')]
        refine ⟨_, rfl, ?_⟩
        rw [tm_e d1' g1 fx1 (by omega) g3 fx2]
        have bj := lt24 k2 g4
        have jne : ¬ j = P / 60 % 60 := fun e => cm (by rw [eqI, g1, d2, e])
        refine fT_core _ htk bj bX0 (by omega) (by omega) hH g4 fx3 (fun i i1 i2 i3 => ?_)
        have t := (htk i).mp i3
        by_cases c2 : i / 60 % 60 < j
        · exact no_ (g5 _ (by omega) c2) t.2.1
        · by_cases c3 : i % 60 < X0
          · exact no_ (fx4 _ c3) t.2.2
          · omega
      · rw [if_neg (nge g1)]
        refine nxt (fun i i1 i2 i3 => ?_)
        have t := (htk i).mp i3
        exact no_ (g2 _ (by omega)) t.2.1
  · rw [if_neg ch, en0]
    simp only [ob_]
    rw [if_neg ch, ex0]
    simp only [ob_]
    rw [if_pos (ge0 fx1), if_pos (ge0 fm1)]
    rcases lz with ⟨j, j1, j2, j3, j4, j5⟩ | ⟨j1, j2⟩
    · rw [if_pos (ge0 j1)]
      refine ⟨_, rfl, ?_⟩
      rw [tm_e j1 fm1 fx1 j3 fm2 fx2]
      have bj := lt24 k1 j4
      have jne : ¬ j = P / 3600 := fun e => ch (by rw [eqI, j1, d1, e])
      refine fT_core _ htk (by omega) (by omega) bj (by omega) j4 fm3 fx3 (fun i i1 i2 i3 => ?_)
      have t := (htk i).mp i3
      by_cases c2 : i / 3600 < j
      · exact no_ (j5 _ (by omega) c2) t.1
      · by_cases c3 : i / 60 % 60 < M0
        · exact no_ (fm4 _ c3) t.2.1
        · by_cases c4 : i % 60 < X0
          · exact no_ (fx4 _ c4) t.2.2
          · omega
    · rw [if_neg (nge j1)]
      refine ⟨_, rfl, Or.inr ⟨rfl, fun i i1 i2 i3 => ?_⟩⟩
      have t := (htk i).mp i3
      exact no_ (j2 _ (by omega)) t.1
end JE1
