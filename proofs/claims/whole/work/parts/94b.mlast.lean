section JL_7
variable {S V : jS} {a h c k z : Nat} {x1 x2 x3 : Int32}
theorem nU_74 {kt : Int32 → Int32 → Int32 → Int32 → Int64 → jS → Option (Int64 × jS)} {x6 : Int32} {x7 x9 : Int64} {n p : Nat} {y m d : Int32} (hM : ckM S a h c k z x3) (i1 : x1.toInt = k) (i2 : x2.toInt = z) (hn : (S.1 237 z).toInt = n) (nb : n ≤ 660) (h6 : x6.toInt = p) (pn : p ≤ n) (b7 : 0 ≤ x7.toInt) (b8 : x7.toInt ≤ 10413791999) (b9 : 0 ≤ x9.toInt) (b10 : x9.toInt ≤ 10520000000) (he : ∀ i, i < p → (S.2.1 (220 + z) i).toInt ≤ 1000 * x9.toInt) (he2 : ∀ i, p ≤ i → i < n → 1000 * x7.toInt < (S.2.1 (220 + z) i).toInt) (hl : p = 0 → x9.toInt = 0) (hk : 0 < p → ¬ x9.toInt = 0 → ∀ (w : Int64) (y m d : Int32), w.toInt ≤ x7.toInt → w.toInt ≤ x9.toInt - 1 → (w.toInt = x7.toInt ∨ w.toInt = x9.toInt - 1) → oN S a h c w.toInt (kt x1 x2 x3 (x6 + -1) w (dt_S S y m d))) : oN S a h c x7.toInt (J_M_lastFire_74 kt x1 x2 x3 x6 x7 x9 (dt_S S y m d)) := by
  have M := hM
  obtain ⟨b1, b2, b3, b4, b5, b6, b6', q1, q2, q3, q4, q5⟩ := M
  obtain ⟨o1, o2, s1, s2⟩ := zR_b q5 q4
  unfold J_M_lastFire_74
  rw [fM_min (p := p) (by omega) (by omega) h6 (by omega) (by rw [clN i2, dS_1 (by omega)]; exact o1) (by rw [clN i2, dS_1 (by omega)]; exact o2) (by rw [clN i2, dS_1 (by omega)]; exact s1) (by rw [clN i2, dS_1 (by omega)]; exact s2)]
  simp only [ob_, jl_, clN i2, dS_1 (show 217 ≠ 215 by omega), dS_1 (show 218 ≠ 215 by omega), dS_1 (show 229 + z ≠ 215 by omega)]
  have of := fun (x : Int) (g1 : x9.toInt ≤ x) (g2 : x ≤ x7.toInt) => zR_of q4 q5 (p := p) (x := x) hn pn (fun i hi => by have := he i hi; omega) (fun i hi1 hi2 => by have := he2 i hi1 hi2; omega)
  have mb := mi_b (q := 0 < p ∧ ¬ S.1 (229 + z) (p - 1) = 0) o1 o2 s1 s2
  obtain ⟨mi, hmi⟩ : ∃ mi : Int, ((S.1 217 z).toInt + if 0 < p ∧ ¬ S.1 (229 + z) (p - 1) = 0 then (S.1 218 z).toInt else 0) = mi := ⟨_, rfl⟩
  rw [hmi] at mb
  simp only [hmi] at of ⊢
  clear hmi
  have em : (Int32.ofInt mi).toInt = mi := tI (by omega) (by omega)
  generalize Int32.ofInt mi = w at *
  have e1 : (60 * w.toInt64).toInt = 60 * mi := by
    simp (disch := omega) only [Int64.toInt_mul, Int32.toInt_toInt64, bs64, Int64.reduceToInt, em]
  have e2 : (x7 + 60 * w.toInt64).toInt = x7.toInt + 60 * mi := by
    rw [Int64.toInt_add, e1]
    exact bs64 (by omega) (by omega)
  exact nU_95 hM i1 h6 b7 b8 b9 b10 e1 (by omega) (by omega) of hl hk ju_ _ y m d (by rw [e2]; omega) (by rw [e2]; omega) (by show _ < 1000000; rw [e2]; omega) (fun i u1 u2 => by rw [e2] at u2; omega)
theorem m6 {x : Int32} {p : Nat} (h : x.toInt = ((p + 1 : Nat) : Int)) : (x + -1).toInt = (p : Int) := by
  rw [Int32.toInt_add, h]
  have := hiI x
  simp only [Int32.reduceToInt]
  rw [bs32 (by omega) (by omega)]
  omega
theorem nU_32 {n : Nat} (hM : ckM S a h c k z x3) (i1 : x1.toInt = k) (i2 : x2.toInt = z) (hn : (S.1 237 z).toInt = n) (nb : n ≤ 660) (hs : evs n (S.2.1 (220 + z)) (S.1 (229 + z))) : ∀ (f : Nat) (x6 : Int32) (x7 : Int64) (p : Nat) (y m d : Int32), x6.toInt = p → p ≤ n → p < f → 0 ≤ x7.toInt → x7.toInt ≤ 10413791999 → (∀ i, p ≤ i → i < n → 1000 * x7.toInt < (S.2.1 (220 + z) i).toInt) → oN S a h c x7.toInt (L_M_lastFire_32 f x1 x2 x3 x6 x7 (dt_S S y m d)) := by
  have M := hM
  obtain ⟨b1, b2, b3, b4, b5, b6, b6', q1, q2, q3, q4, q5⟩ := M
  intro f
  induction f with
  | zero => intro x6 x7 p y m d _ _ q; omega
  | succ f ih =>
    intro x6 x7 p y m d h6 pn pf b7 b8 he
    unfold L_M_lastFire_32
    cases p with
    | zero =>
      rw [if_pos (show x6 ≤ 0 from Int32.le_iff_toInt_le.mpr (by rw [h6]; simp only [Int32.reduceToInt]; omega))]
      unfold J_M_lastFire_62
      rw [if_pos (by decide)]
      exact nU_74 hM i1 i2 hn nb h6 pn b7 b8 (by decide) (by decide) (fun i u1 => by omega) he (fun _ => rfl) (fun g _ => by omega)
    | succ p =>
      rw [if_neg (show ¬ x6 ≤ 0 from fun w => by
        have := Int32.le_iff_toInt_le.mp w
        rw [h6] at this
        simp only [Int32.reduceToInt] at this
        omega)]
      obtain ⟨w6, hw6, e6⟩ : ∃ w6, x6 - 1 = w6 ∧ w6.toInt = (p : Int) := ⟨_, rfl, mI1 h6 (Nat.le_add_left 1 p)⟩
      rw [hw6]
      clear hw6
      rw [j_qi (by omega) (by omega), j_qi (by omega) (by omega), clN e6, clN i2, dS_2]
      obtain ⟨e, e1, e2, e3⟩ := zR_e q4 q5 hn (i := p) (by omega)
      have ee : (S.2.1 (220 + z) p + 999).toInt = 1000 * e + 999 := by
        rw [Int64.toInt_add, e1]
        simp only [Int64.reduceToInt]
        exact bs64 (by omega) (by omega)
      rw [fFD2 (by decide) (by rw [ee]; omega) (by rw [ee]; omega) (by decide), ee]
      simp only [ob_, Int64.reduceToInt]
      rw [show (1000 * e + 999) / 1000 = e by omega]
      have ew : (Int64.ofInt e).toInt = e := tL (by omega) (by omega)
      generalize Int64.ofInt e = w at *
      have go : ∀ x9 : Int64, 0 ≤ x9.toInt → x9.toInt ≤ 10520000000 → e ≤ x9.toInt → (¬ x9.toInt = 0 → x9.toInt = e) → oN S a h c x7.toInt (J_M_lastFire_74 (L_M_lastFire_32 f) x1 x2 x3 x6 x7 x9 (dt_S S y m d)) := by
        intro x9 g1 g2 g3 g4
        refine nU_74 hM i1 i2 hn nb h6 pn b7 b8 g1 g2 (fun i u1 => ?_) he (fun u => by omega) (fun _ u w y m d u1 u2 u3 => ?_)
        · have := evs_le hs (i := i) (j := p) (by omega) (by omega)
          omega
        · have g5 := g4 u
          have e7 := m6 h6
          generalize x6 + -1 = v6 at *
          refine ih v6 w p y m d e7 (by omega) (by omega) (by omega) (by omega) (fun i hi1 hi2 => ?_)
          by_cases t : p + 1 ≤ i
          · have := he i t hi2
            omega
          · have : i = p := by omega
            rw [this, e1]
            omega
      unfold J_M_lastFire_62
      by_cases t : 0 ≤ e
      · rw [if_pos (show (0 : Int64) ≤ w from Int64.le_iff_toInt_le.mpr (by rw [ew]; simp only [Int64.reduceToInt]; omega))]
        exact go w (by omega) (by omega) (by omega) (fun _ => ew)
      · rw [if_neg (show ¬ (0 : Int64) ≤ w from fun u => t (by
          have := Int64.le_iff_toInt_le.mp u
          rw [ew] at this
          simp only [Int64.reduceToInt] at this
          omega))]
        exact go _ (by decide) (by decide) (by simp only [Int64.reduceToInt]; omega) (fun u => absurd rfl u)
theorem fM_last {p3 : Int64} (hM : ckM S a h c k z x3) (i1 : x1.toInt = k) (i2 : x2.toInt = z) (ht : ¬ S.1 376 k = 0) (h1 : 0 ≤ p3.toInt) (h2 : p3.toInt ≤ 10413791999999) : oN S a h c (p3.toInt / 1000) (F_M_lastFire x1 x2 x3 p3 S) := by
  have M := hM
  obtain ⟨b1, b2, b3, b4, b5, b6, b6', q1, q2, q3, q4, q5⟩ := M
  obtain ⟨n, hn, nb, hs⟩ := zR_n q5
  unfold F_M_lastFire
  rw [j_qi (by omega) (by omega), clN i1, if_neg ht]
  obtain ⟨r, p, r1, r2, r3, r4, r5⟩ := fM_pas (x1 := x2) (t := p3) (S := S) (n := n) (B := S.1 (229 + z)) (by omega) (by omega) nb (by rw [clN i2]; exact hn) (by rw [clN i2]; exact hs)
  rw [r1]
  simp only [ob_]
  rw [fFD2 (by decide) (by omega) (by omega) (by decide)]
  simp only [ob_, Int64.reduceToInt, jl_]
  have e0 : (Int64.ofInt (p3.toInt / 1000)).toInt = p3.toInt / 1000 := tL (by omega) (by omega)
  rw [clN i2] at r5
  have := nU_32 (a := a) (h := h) (c := c) hM i1 i2 hn nb hs ju_ r (Int64.ofInt (p3.toInt / 1000)) p (S.1 215 4) (S.1 215 5) (S.1 215 6) r2 r3 (by show _ < 1000000; omega) (by rw [e0]; omega) (by rw [e0]; omega) (fun i hi1 hi2 => by
    rw [e0]
    have := r5 i hi1 hi2
    omega)
  rw [dS_id, e0] at this
  exact this
/-- one answer -/
theorem rF_u {x r r' : Int} (h1 : rF S a h c x r) (h2 : rF S a h c x r') : r = r' := by
  rcases h1 with ⟨v, v1, v2, v3, v4, v5⟩ | ⟨v1, v2⟩
  · rcases h2 with ⟨w, w1, w2, w3, w4, w5⟩ | ⟨w1, w2⟩
    · by_cases g : v < w
      · exact absurd v4 (w5 v v2 g)
      · by_cases g2 : w < v
        · exact absurd w4 (v5 w w2 g2)
        · omega
    · exact absurd v4 (w2 v v2 v3)
  · rcases h2 with ⟨w, w1, w2, w3, w4, w5⟩ | ⟨w1, w2⟩
    · exact absurd w4 (v2 w w2 w3)
    · omega
theorem uF_u {x r r' : Int} (h1 : uF S a h c x r) (h2 : uF S a h c x r') : r = r' := by
  rcases h1 with ⟨v, v1, v2, v3, v4, v5⟩ | ⟨v1, v2⟩
  · rcases h2 with ⟨w, w1, w2, w3, w4, w5⟩ | ⟨w1, w2⟩
    · by_cases g : v < w
      · exact absurd w4 (v5 w w2 g)
      · by_cases g2 : w < v
        · exact absurd v4 (w5 v v2 g2)
        · omega
    · exact absurd v4 (w2 v v2 v3)
  · rcases h2 with ⟨w, w1, w2, w3, w4, w5⟩ | ⟨w1, w2⟩
    · exact absurd w4 (v2 w w2 w3)
    · omega
end JL_7
