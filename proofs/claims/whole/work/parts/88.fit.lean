section JH_1
variable {h : Nat} {S : jS}
/-- a calendar's days: in order -/
def hsk (S : jS) (h : Nat) : Prop := 0 ≤ (S.1 h 1).toInt ∧ (S.1 h 1).toInt ≤ 200 ∧ (S.1 h 1).toInt ≤ hn_ h ∧ ∀ i j : Nat, i < j → (j : Int) < (S.1 h 1).toInt → (S.1 (h + 1) i).toInt < (S.1 (h + 1) j).toInt
def hld (S : jS) (h : Nat) (d : Int) : Prop := ∃ i : Nat, (i : Int) < (S.1 h 1).toInt ∧ (S.1 (h + 1) i).toInt = d
/-- where a day is, or would be -/
def hpl (S : jS) (h : Nat) (d : Int) (r : Int) : Prop := (∃ p : Nat, r = p ∧ (p : Int) < (S.1 h 1).toInt ∧ (S.1 (h + 1) p).toInt = d) ∨ (∃ p : Nat, r = -1 - p ∧ (p : Int) ≤ (S.1 h 1).toInt ∧ (∀ i, i < p → (S.1 (h + 1) i).toInt < d) ∧ ∀ i : Nat, p ≤ i → (i : Int) < (S.1 h 1).toInt → d < (S.1 (h + 1) i).toInt)
theorem lH_pl {d : Int32} (hk : hsk S h) : ∀ (f : Nat) (lo hi : Int32) (l u : Nat), lo.toInt = l → hi.toInt = u → l ≤ u → (u : Int) ≤ (S.1 h 1).toInt → u - l < f → (∀ i, i < l → (S.1 (h + 1) i).toInt < d.toInt) → (∀ i : Nat, u ≤ i → (i : Int) < (S.1 h 1).toInt → d.toInt ≤ (S.1 (h + 1) i).toInt) → ∃ r, L_H_placeOf_7 S f h d lo hi = some r ∧ hpl S h d.toInt r.toInt := by
  obtain ⟨k1, k2, k3, k4⟩ := hk
  intro f
  induction f with
  | zero => intro lo hi l u _ _ _ _ q; omega
  | succ f ih =>
    intro lo hi l u e1 e2 e3 e4 e5 e6 e7
    rw [L_H_placeOf_7]
    by_cases c : u ≤ l
    · rw [if_pos (show hi ≤ lo from Int32.le_iff_toInt_le.mpr (by omega))]
      have eu : u = l := by omega
      subst eu
      have en : ((-1) - lo).toInt = -1 - u := by
        rw [Int32.toInt_sub, e1]
        exact bs32 (by simp only [Int32.reduceToInt]; omega) (by simp only [Int32.reduceToInt]; omega)
      by_cases c2 : (S.1 h 1).toInt ≤ u
      · rw [if_pos (show S.1 h 1 ≤ lo from Int32.le_iff_toInt_le.mpr (by omega))]
        exact ⟨_, rfl, Or.inr ⟨u, en, by omega, e6, fun i i1 i2 => by omega⟩⟩
      · rw [if_neg (fun q : S.1 h 1 ≤ lo => c2 (by have := Int32.le_iff_toInt_le.mp q; omega)), j_qi (by omega) (by omega)]
        have i0 : lo.toNatClampNeg = u := by rw [Int32.toNatClampNeg, e1]; omega
        rw [i0]
        by_cases c3 : S.1 (h + 1) u = d
        · rw [if_pos c3]
          exact ⟨_, rfl, Or.inl ⟨u, e1, by omega, by rw [c3]⟩⟩
        · rw [if_neg c3]
          refine ⟨_, rfl, Or.inr ⟨u, en, by omega, e6, fun i i1 i2 => ?_⟩⟩
          have h1 := e7 u (Nat.le_refl _) (by omega)
          rw [eqI] at c3
          by_cases e : i = u
          · rw [e]; omega
          · have := k4 u i (by omega) i2
            omega
    · rw [if_neg (fun q : hi ≤ lo => by rw [Int32.le_iff_toInt_le] at q; omega)]
      have m := md_ e1 e2 (by omega) (by omega)
      simp only [jl_]
      generalize (lo + hi) / 2 = v at *
      have i0 : v.toNatClampNeg = (l + u) / 2 := by rw [Int32.toNatClampNeg, m.1]; omega
      rw [j_qi (by rw [m.1]; omega) (by rw [m.1]; omega), i0]
      by_cases c2 : d.toInt ≤ (S.1 (h + 1) ((l + u) / 2)).toInt
      · rw [if_pos (Int32.le_iff_toInt_le.mpr c2)]
        refine ih lo v l ((l + u) / 2) e1 m.1 (by omega) (by omega) (by omega) e6 (fun i i1 i2 => ?_)
        by_cases e : i = (l + u) / 2
        · rw [e]; exact c2
        · have := k4 ((l + u) / 2) i (by omega) i2
          omega
      · rw [if_neg (fun q => c2 (Int32.le_iff_toInt_le.mp q))]
        refine ih (v + 1) hi ((l + u) / 2 + 1) u m.2 e2 (by omega) e4 (by omega) (fun i i1 => ?_) e7
        by_cases e : i = (l + u) / 2
        · rw [e]; omega
        · have := k4 i ((l + u) / 2) (by omega) (by omega)
          omega
theorem fH_pl {d : Int32} (hk : hsk S h) : ∃ r, F_H_placeOf h d S = some r ∧ hpl S h d.toInt r.toInt := by
  have k := hk
  obtain ⟨k1, k2, k3, k4⟩ := hk
  unfold F_H_placeOf
  rw [jl_]
  exact lH_pl k ju_ 0 (S.1 h 1) 0 (S.1 h 1).toInt.toNat rfl (by omega) (by omega) (by omega) (by show _ < 1000000; omega) (fun i q => by omega) (fun i q1 q2 => by omega)
theorem hpl_h {d r : Int} (hp : hpl S h d r) : (hld S h d ↔ 0 ≤ r) := by
  rcases hp with ⟨p, e, h1, h2⟩ | ⟨p, e, h1, h2, h3⟩
  · exact ⟨fun _ => by omega, fun _ => ⟨p, h1, h2⟩⟩
  · constructor
    · rintro ⟨i, i1, i2⟩
      by_cases c : i < p
      · have := h2 i c; omega
      · have := h3 i (by omega) i1; omega
    · intro q; omega
end JH_1
section JH_2
variable {a h : Nat} {S : jS}
def hyS (S : jS) (a : Nat) (y : Int) : Prop := bt (S.2.1 (a + 1) (6 + ((y - 1970) / 64).toNat)) ((y - 1970) % 64).toNat = true
def hmS (S : jS) (a : Nat) (m : Int) : Prop := bt (S.2.1 (a + 1) 4) m.toNat = true
theorem and1 {x : Int64} : ((x &&& 1) = 0) ↔ bt x 0 = false := by
  constructor
  · intro q
    have h0 : bt (x &&& 1) 0 = false := by rw [q, bt_0]
    rw [bt_and] at h0
    have h1 : bt 1 0 = true := by decide
    rw [h1, Bool.and_true] at h0
    exact h0
  · intro q
    apply bt_ext
    intro i hi
    rw [bt_and, bt_0]
    by_cases c : i = 0
    · rw [c, q]; rfl
    · have : bt 1 i = false := by
        unfold bt
        show (1#64).getLsbD i = false
        simp [c]
      rw [this, Bool.and_false]
theorem fC_hm {m : Int32} (h1 : 0 ≤ m.toInt) (h2 : m.toInt < 64) (h63 : bt (S.2.1 (a + 1) 4) 63 = false) : (F_C_hasMonth a m S = some 1 ∧ hmS S a m.toInt) ∨ (F_C_hasMonth a m S = some 0 ∧ ¬ hmS S a m.toInt) := by
  have m4 : (4 : Int32).toNatClampNeg = 4 := by decide
  unfold F_C_hasMonth hmS
  rw [j_qi (by decide) (by decide), m4]
  have e : bt ((S.2.1 (a + 1) 4) >>> (m.toInt64 &&& 63)) 0 = bt (S.2.1 (a + 1) 4) m.toInt.toNat := by
    rw [bt_shr (k := m.toInt.toNat) (by omega) (by omega) h63]
    rfl
  by_cases c : bt (S.2.1 (a + 1) 4) m.toInt.toNat = true
  · left
    rw [if_neg (fun q => by rw [and1, e, c] at q; cases q)]
    exact ⟨rfl, c⟩
  · right
    rw [if_pos (and1.mpr (by rw [e]; simpa using c))]
    exact ⟨rfl, c⟩
theorem fC_hy {y : Int32} (h1 : 1970 ≤ y.toInt) (h2 : y.toInt ≤ 2299) (h63 : ∀ j, 6 ≤ j → j < 12 → bt (S.2.1 (a + 1) j) 63 = false ∨ True) : (F_C_hasYear a y S = some 1 ∧ hyS S a y.toInt) ∨ (F_C_hasYear a y S = some 0 ∧ ¬ hyS S a y.toInt) := by
  have e1 : (y - 1970).toInt = y.toInt - 1970 := by
    rw [Int32.toInt_sub]
    exact bs32 (by simp only [Int32.reduceToInt]; omega) (by simp only [Int32.reduceToInt]; omega)
  unfold F_C_hasYear hyS
  simp only [jl_]
  generalize y - 1970 = v at *
  have e2 : (6 + (v / 64)).toInt = 6 + v.toInt / 64 := by
    simp (disch := omega) only [Int32.toInt_add, Int32.toInt_div, bs32, td_, Int32.reduceToInt]
  have e3 : (v - v / 64 * 64).toInt = ((v.toInt % 64).toNat : Nat) := by
    simp (disch := omega) only [Int32.toInt_sub, Int32.toInt_mul, Int32.toInt_div, bs32, td_, Int32.reduceToInt]
    omega
  have i0 : (6 + (v / 64)).toNatClampNeg = 6 + (v.toInt / 64).toNat := by rw [Int32.toNatClampNeg, e2]; omega
  rw [j_qi (by rw [e2]; omega) (by rw [e2]; omega), i0, ← e1]
  generalize S.2.1 (a + 1) (6 + (v.toInt / 64).toNat) = s at *
  have e : bt (s >>> ((v - v / 64 * 64).toInt64 &&& 63)) 0 = bt s (v.toInt % 64).toNat := by
    unfold bt
    rw [Int64.toBitVec_shiftRight, BitVec.getLsbD_sshiftRight']
    have := sh_ e3 (by omega)
    rw [show (BitVec.ofNat 64 64) = (64 : BitVec 64) from rfl] at this
    rw [this]
    have : (v.toInt % 64).toNat < 64 := by omega
    simp [this]
  by_cases c : bt s (v.toInt % 64).toNat = true
  · left
    rw [if_neg (fun q => by rw [and1, e, c] at q; cases q)]
    exact ⟨rfl, c⟩
  · right
    rw [if_pos (and1.mpr (by rw [e]; simpa using c))]
    exact ⟨rfl, c⟩
/-- a date of a month that fits -/
def fD (S : jS) (a h : Nat) (y m : Int) (d : Nat) : Prop := 1 ≤ d ∧ (d : Int) ≤ dt_n y m ∧ dkS S a (dt_n y m).toNat ((dt_m y m + 4) % 7 + 1).toNat d ∧ ¬ hld S h (dt_m y m + d - 1)
theorem lF_df {f0 : Int32} {B : Int64} {y m : Int} (hk : hsk S h) (ha : S.2.2 32 2 = h) (hj : jh_ h = true) (hf : f0.toInt = dt_m y m) (b1 : 0 ≤ dt_m y m) (b2 : dt_m y m ≤ 120530) (hB : ∀ i : Nat, bt B i = true ↔ (1 ≤ i ∧ (i : Int) ≤ dt_n y m ∧ dkS S a (dt_n y m).toNat ((dt_m y m + 4) % 7 + 1).toNat i)) : ∀ (f : Nat) (x7 x8 : Int32) (k c : Nat), x7.toInt = k → x8.toInt = c → c + 1 ≤ k → k ≤ 32 → c ≤ 31 → 31 - c < f → ∃ r, L_F_dateFrom_32 S f f0 B x7 x8 = some r ∧ ((∃ d : Nat, r.toInt = dt_m y m + d - 1 ∧ k ≤ d ∧ fD S a h y m d ∧ ∀ i, k ≤ i → i < d → ¬ fD S a h y m i) ∨ (r.toInt = -1 ∧ ∀ i, k ≤ i → ¬ fD S a h y m i)) := by
  intro f
  induction f with
  | zero => intro x7 x8 k c _ _ _ _ _ q; omega
  | succ f ih =>
    intro x7 x8 k c e1 e2 e3 e4 e5 e6
    have hn := dt_nb (y := y) (m := m)
    rw [L_F_dateFrom_32]
    by_cases c1 : c = 31
    · rw [if_pos (show (31 : Int32) ≤ x8 from Int32.le_iff_toInt_le.mpr (by simp only [Int32.reduceToInt]; omega))]
      exact ⟨_, rfl, Or.inr ⟨rfl, fun i i1 i2 => by have := i2.2.1; omega⟩⟩
    · rw [if_neg (fun q : (31 : Int32) ≤ x8 => by have := Int32.le_iff_toInt_le.mp q; simp only [Int32.reduceToInt] at this; omega)]
      obtain ⟨z, ez, lz⟩ := lwp (S := S) (s := B) e1 (by omega)
      rw [ez]
      simp only [ob_]
      rcases lz with ⟨j, j1, j2, j3, j4, j5⟩ | ⟨j1, j2⟩
      · rw [if_pos (show (0 : Int32) ≤ z from Int32.le_iff_toInt_le.mpr (by simp only [Int32.reduceToInt]; omega)), ha, j_qt hj]
        have hj4 := (hB j).mp j4
        have ed : ((f0 + z) - 1).toInt = dt_m y m + j - 1 := by
          have q : (f0 + z).toInt = dt_m y m + j := by
            rw [Int32.toInt_add, hf, j1]
            exact bs32 (by omega) (by omega)
          rw [Int32.toInt_sub, q]
          exact bs32 (by simp only [Int32.reduceToInt]; omega) (by simp only [Int32.reduceToInt]; omega)
        obtain ⟨w, ew, hw_⟩ := fH_pl (d := (f0 + z) - 1) hk
        rw [ew]
        simp only [ob_]
        have hh := hpl_h hw_
        rw [ed] at hh
        by_cases c2 : 0 ≤ w.toInt
        · rw [if_pos (show (0 : Int32) ≤ w from Int32.le_iff_toInt_le.mpr (by simp only [Int32.reduceToInt]; omega)), jl_]
          have e7 : (z + 1).toInt = (j + 1 : Nat) := by
            rw [Int32.toInt_add, j1, bs32 (by simp only [Int32.reduceToInt]; omega) (by simp only [Int32.reduceToInt]; omega)]
            simp only [Int32.reduceToInt]; omega
          have e8 : (x8 + 1).toInt = (c + 1 : Nat) := by
            rw [Int32.toInt_add, e2, bs32 (by simp only [Int32.reduceToInt]; omega) (by simp only [Int32.reduceToInt]; omega)]
            simp only [Int32.reduceToInt]; omega
          obtain ⟨r, g1, g2⟩ := ih (z + 1) (x8 + 1) (j + 1) (c + 1) e7 e8 (by omega) (by omega) (by omega) (by omega)
          refine ⟨r, g1, ?_⟩
          have skip : ∀ i, k ≤ i → i < j + 1 → ¬ fD S a h y m i := fun i i1 i2 i3 => by
            by_cases e : i = j
            · subst e
              exact i3.2.2.2 (hh.mpr c2)
            · have := (hB i).mpr ⟨i3.1, i3.2.1, i3.2.2.1⟩
              rw [j5 i i1 (by omega)] at this
              cases this
          rcases g2 with ⟨d, d1, d2, d3, d4⟩ | ⟨d1, d2⟩
          · refine Or.inl ⟨d, d1, by omega, d3, fun i i1 i2 => ?_⟩
            by_cases e : i < j + 1
            · exact skip i i1 e
            · exact d4 i (by omega) i2
          · refine Or.inr ⟨d1, fun i i1 => ?_⟩
            by_cases e : i < j + 1
            · exact skip i i1 e
            · exact d2 i (by omega)
        · rw [if_neg (fun q : (0 : Int32) ≤ w => c2 (by have := Int32.le_iff_toInt_le.mp q; simp only [Int32.reduceToInt] at this; omega))]
          refine ⟨_, rfl, Or.inl ⟨j, ed, j2, ⟨hj4.1, hj4.2.1, hj4.2.2, fun q => c2 (hh.mp q)⟩, fun i i1 i2 i3 => ?_⟩⟩
          have := (hB i).mpr ⟨i3.1, i3.2.1, i3.2.2.1⟩
          rw [j5 i i1 i2] at this
          cases this
      · rw [if_neg (fun q : (0 : Int32) ≤ z => by have := Int32.le_iff_toInt_le.mp q; simp only [Int32.reduceToInt] at this; omega)]
        refine ⟨_, rfl, Or.inr ⟨rfl, fun i i1 i3 => ?_⟩⟩
        have := (hB i).mpr ⟨i3.1, i3.2.1, i3.2.2.1⟩
        rw [j2 i i1] at this
        cases this
theorem fF_df {y m low : Int32} {k : Nat} (hc : ckD S a) (ac : S.2.2 32 0 = a) (jc : jc_ a = true) (hk : hsk S h) (ha : S.2.2 32 2 = h) (hj : jh_ h = true) (y1 : 1970 ≤ y.toInt) (y2 : y.toInt ≤ 2299) (m1 : 1 ≤ m.toInt) (m2 : m.toInt ≤ 12) (hl : low.toInt = k) (k1 : 1 ≤ k) (k2 : k ≤ 32) : ∃ r, F_F_dateFrom y m low S = some r ∧ ((∃ d : Nat, r.toInt = dt_m y.toInt m.toInt + d - 1 ∧ k ≤ d ∧ fD S a h y.toInt m.toInt d ∧ ∀ i, k ≤ i → i < d → ¬ fD S a h y.toInt m.toInt i) ∨ (r.toInt = -1 ∧ ∀ i, k ≤ i → ¬ fD S a h y.toInt m.toInt i)) := by
  have db := dm_b (y := y.toInt) y1 y2 m1 (by omega)
  have hn := dt_nb (y := y.toInt) (m := m.toInt)
  have e1 : (Int32.ofInt (dt_m y.toInt m.toInt)).toInt = dt_m y.toInt m.toInt := tI (by omega) (by omega)
  unfold F_F_dateFrom
  rw [fD_first (by omega) (by omega) m1 m2, fD_len (by omega) (by omega) m1 m2]
  simp only [ob_]
  rw [fD_wd (by rw [e1]; omega) (by rw [e1]; omega), e1, ac, j_qt jc]
  simp only [ob_]
  obtain ⟨B, eB, hB⟩ := fC_days (S := S) (a := a) (L := (dt_n y.toInt m.toInt).toNat) (F := ((dt_m y.toInt m.toInt + 4) % 7 + 1).toNat) (l := Int32.ofInt (dt_n y.toInt m.toInt)) (f := Int32.ofInt ((dt_m y.toInt m.toInt + 4) % 7 + 1)) (by rw [tI (by omega) (by omega)]; omega) (by rw [tI (by omega) (by omega)]; omega) (by omega) (by omega) (by omega) (by omega) hc
  rw [eB]
  simp only [ob_]
  exact lF_df hk ha hj e1 db.1 db.2 (fun i => by rw [hB]; constructor <;> rintro ⟨q1, q2, q3⟩ <;> exact ⟨q1, by omega, q3⟩) ju_ low 0 k 0 hl rfl (by omega) k2 (by omega) (by show _ < 1000000; omega)
end JH_2
