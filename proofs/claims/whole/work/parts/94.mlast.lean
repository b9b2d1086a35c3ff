section JL_6
variable {S V : jS} {a h c k z : Nat} {x1 x2 x3 : Int32}
theorem ur_e {s u o : Int} (hz : ∀ x, s ≤ x → x ≤ u → zof S c x o) {b : Int} (hn : ∀ i, i ≤ u + o → b < i → ¬ lf S a h i) (hb : b < s + o) : ∀ i, i ≤ u → s ≤ i → ¬ Fr S a h c i := by
  intro i i1 i2
  rintro ⟨r, r1, r2⟩
  have e := zof_u r1 (hz i i2 i1)
  rw [e] at r2
  exact hn _ (by omega) (by omega) r2
theorem nU_198 {kt : Int32 → Int32 → Int32 → Int32 → Int64 → jS → Option (Int64 × jS)} {x6 : Int32} {x7 x9 : Int64} {p : Nat} (h6 : x6.toInt = p) (b7 : 0 ≤ x7.toInt) (b8 : x7.toInt ≤ 10420000000) (b9 : 0 ≤ x9.toInt) (b10 : x9.toInt ≤ 10520000000) (hl : p = 0 → x9.toInt = 0) (hno : ∀ i, i ≤ x7.toInt → x9.toInt ≤ i → ¬ Fr V a h c i) (hk : 0 < p → ¬ x9.toInt = 0 → ∀ w : Int64, w.toInt ≤ x7.toInt → w.toInt ≤ x9.toInt - 1 → (w.toInt = x7.toInt ∨ w.toInt = x9.toInt - 1) → oN V a h c w.toInt (kt x1 x2 x3 (x6 + -1) w V)) : oN V a h c x7.toInt (J_M_lastFire_198 kt x1 x2 x3 x6 x7 x9 V) := by
  unfold J_M_lastFire_198
  by_cases q : p = 0
  · rw [if_pos (show x6 = 0 from eqI.mpr (by rw [h6, q]; rfl))]
    have := hl q
    exact oN_0 (Or.inr ⟨rfl, fun i i1 i2 => hno i i1 (by omega)⟩)
  · rw [if_neg (show ¬ x6 = 0 from fun w => q (by
      have := eqI.mp w
      rw [h6] at this
      simp only [Int32.reduceToInt] at this
      omega))]
    by_cases g : x9.toInt = 0
    · rw [if_pos (show x9 = 0 from eqL.mpr (by rw [g]; rfl))]
      exact oN_0 (Or.inr ⟨rfl, fun i i1 i2 => hno i i1 (by omega)⟩)
    · rw [if_neg (show ¬ x9 = 0 from fun w => g (by rw [w]; rfl)), fmin2]
      simp only [ob_]
      have e1 : (x9 - 1).toInt = x9.toInt - 1 := by
        rw [Int64.toInt_sub]
        simp only [Int64.reduceToInt]
        exact bs64 (by omega) (by omega)
      rw [e1]
      obtain ⟨m, hm, m1, m2, m3⟩ : ∃ m : Int, (if x9.toInt - 1 < x7.toInt then x9.toInt - 1 else x7.toInt) = m ∧ m ≤ x7.toInt ∧ m ≤ x9.toInt - 1 ∧ (m = x7.toInt ∨ m = x9.toInt - 1) := by
        refine ⟨_, rfl, ?_, ?_, ?_⟩ <;> split <;> omega
      rw [hm]
      have e2 : (Int64.ofInt m).toInt = m := tL (by omega) (by omega)
      generalize Int64.ofInt m = w at *
      refine oN_s (x' := w.toInt) (by omega) (fun i i1 i2 _ => hno i i1 (by omega)) (hk (by omega) g w (by omega) (by omega) (by omega))
theorem nU_95 {kt : Int32 → Int32 → Int32 → Int32 → Int64 → jS → Option (Int64 × jS)} {x6 : Int32} {x7 x9 x11 : Int64} {p : Nat} {o : Int} (hM : ckM S a h c k z x3) (i1 : x1.toInt = k) (h6 : x6.toInt = p) (b7 : 0 ≤ x7.toInt) (b8 : x7.toInt ≤ 10413791999) (b9 : 0 ≤ x9.toInt) (b10 : x9.toInt ≤ 10520000000) (e11 : x11.toInt = o) (ob1 : -50400 ≤ o) (ob2 : o ≤ 57600) (hz : ∀ x, x9.toInt ≤ x → x ≤ x7.toInt → zof S c x o) (hl : p = 0 → x9.toInt = 0) (hk : 0 < p → ¬ x9.toInt = 0 → ∀ (w : Int64) (y m d : Int32), w.toInt ≤ x7.toInt → w.toInt ≤ x9.toInt - 1 → (w.toInt = x7.toInt ∨ w.toInt = x9.toInt - 1) → oN S a h c w.toInt (kt x1 x2 x3 (x6 + -1) w (dt_S S y m d))) : ∀ (f : Nat) (x13 : Int64) (y m d : Int32), x13.toInt ≤ x7.toInt + o → -1000000 ≤ x13.toInt → (x13.toInt / 86400 + 1 - (x9.toInt + o) / 86400).toNat < f → (∀ i, i ≤ x7.toInt + o → x13.toInt < i → ¬ lf S a h i) → oN S a h c x7.toInt (L_M_lastFire_95 kt f x1 x2 x3 x6 x7 x9 x11 x13 (dt_S S y m d)) := by
  have M := hM
  obtain ⟨b1, b2, b3, b4, b5, b6, b6', q1, q2, q3, q4, q5⟩ := M
  have e198 : ∀ y m d, (∀ i, i ≤ x7.toInt → x9.toInt ≤ i → ¬ Fr S a h c i) → oN S a h c x7.toInt (J_M_lastFire_198 kt x1 x2 x3 x6 x7 x9 (dt_S S y m d)) := by
    intro y m d hno
    refine (oN_i hM).mp (nU_198 h6 b7 (by omega) b9 b10 hl (fun i c1 c2 => by rw [dS_Fr b1 b2 b3]; exact hno i c1 c2) (fun g1 g2 w g3 g4 g5 => (oN_i hM).mpr (hk g1 g2 w y m d g3 g4 g5)))
  intro f
  induction f with
  | zero => intro x13 y m d _ _ q; omega
  | succ f ih =>
    intro x13 y m d c1 c2 c3 c4
    unfold L_M_lastFire_95
    have e1 : (x9 + x11).toInt = x9.toInt + o := by
      rw [Int64.toInt_add, e11]
      exact bs64 (by omega) (by omega)
    by_cases g : x13.toInt < x9.toInt + o
    · rw [if_pos (show x13 < x9 + x11 from Int64.lt_iff_toInt_lt.mpr (by rw [e1]; exact g))]
      exact e198 y m d (ur_e hz c4 g)
    · rw [if_neg (show ¬ x13 < x9 + x11 from fun w => g (by
        have := Int64.lt_iff_toInt_lt.mp w
        rw [e1] at this
        exact this)), fFD2 (by decide) (by omega) (by omega) (by decide)]
      simp only [ob_, jl_, Int64.reduceToInt]
      have eD : ((Int64.ofInt (x13.toInt / 86400)).toInt32).toInt = x13.toInt / 86400 := l32 (by omega) (by omega)
      generalize (Int64.ofInt (x13.toInt / 86400)).toInt32 = v at *
      obtain ⟨D, hD⟩ : ∃ D, x13.toInt / 86400 = D := ⟨_, rfl⟩
      rw [hD] at eD c3
      obtain ⟨r, y', m', d', r1, r2⟩ := fM_df (S := dt_S S y m d) (p0 := x1) (p1 := x3) (p2 := v) (a := a) (h := h) (k := k) b1 b2 (by rw [dS_ckD (by omega)]; exact q1) (by rw [dS_cR (by omega)]; exact q2) (by rw [dS_hR b2]; exact q3) i1 b4 b6 b6' (by omega) (by omega)
      rw [dS_dS] at r1
      rw [dS_fN b1 b2, eD] at r2
      rw [r1]
      simp only [ob_]
      clear r1
      have nx : (∀ i, i ≤ x13.toInt → i / 86400 = D → ¬ lf S a h i) → oN S a h c x7.toInt (J_M_lastFire_146 kt (L_M_lastFire_95 kt f) x1 x2 x3 x6 x7 x9 x11 v (-1) (dt_S S y' m' d')) := by
        intro nd
        unfold J_M_lastFire_146
        rw [if_pos (by decide), jl_]
        have e2 : (86400 * v.toInt64 - 1).toInt = 86400 * D - 1 := by
          simp (disch := omega) only [Int64.toInt_mul, Int64.toInt_sub, Int32.toInt_toInt64, bs64, Int64.reduceToInt, eD]
        refine ih _ y' m' d' (by rw [e2]; omega) (by rw [e2]; omega) (by rw [e2]; omega) ?_
        rw [e2]
        intro i u1 u2
        by_cases w : x13.toInt < i
        · exact c4 i u1 w
        · exact nd i (by omega) (by omega)
      by_cases w : r = 0
      · rw [if_pos w]
        refine nx (fun i u1 u2 u3 => ?_)
        have := u3.1
        rw [u2] at this
        exact (r2.mpr this) w
      · rw [if_neg w, fFM2 (by decide) (by omega) (by omega) (by decide)]
        simp only [ob_, Int64.reduceToInt]
        have eP : ((Int64.ofInt (x13.toInt % 86400)).toInt32).toInt = ((x13.toInt % 86400).toNat : Int) := by
          rw [l32 (by omega) (by omega)]
          omega
        generalize (Int64.ofInt (x13.toInt % 86400)).toInt32 = pp at *
        obtain ⟨P, hP⟩ : ∃ P : Nat, (x13.toInt % 86400).toNat = P := ⟨_, rfl⟩
        rw [hP] at eP
        have hP2 : x13.toInt = 86400 * D + P ∧ P < 86400 := by omega
        obtain ⟨t, t1, t2⟩ := fM_st (S := dt_S S y' m' d') (b := 240 + k * 8 + 1) (x1 := x1) (x2 := pp) (P := P) (by rw [clN i1]) (by omega) (by omega) eP hP2.2
        rw [t1]
        simp only [ob_]
        clear t1
        have tk : ∀ s, s < 86400 → (mt (dt_S S y' m' d') (240 + k * 8 + 1) s ↔ tkS S a s) := fun s hs => by
          rw [dS_mt]
          exact (q2.2.2.2 s hs).symm
        rcases t2 with ⟨s, s1, s2, s4, s5⟩ | ⟨s1, s2⟩
        · -- a second of the day
          have s3 : s < 86400 := by omega
          have hno : ∀ i, i ≤ x7.toInt + o → 86400 * D + s < i → ¬ lf S a h i := by
            intro i u1 u2 u3
            by_cases u : x13.toInt < i
            · exact c4 i u1 u u3
            · refine s5 (i % 86400).toNat (by omega) (by omega) ((tk _ (by omega)).mpr u3.2)
          have hlf : lf S a h (86400 * D + s) := by
            refine ⟨?_, ?_⟩
            · rw [show (86400 * D + (s : Int)) / 86400 = D by omega]
              exact r2.mp w
            · rw [show ((86400 * D + (s : Int)) % 86400).toNat = s by omega]
              exact (tk s s3).mp s4
          unfold J_M_lastFire_146
          rw [if_neg (show ¬ t < 0 from fun u => by
            have := Int32.lt_iff_toInt_lt.mp u
            simp only [Int32.reduceToInt] at this
            omega), jl_]
          have e2 : (86400 * v.toInt64 + t.toInt64 - x11).toInt = 86400 * D + s - o := by
            simp (disch := omega) only [Int64.toInt_mul, Int64.toInt_add, Int64.toInt_sub, Int32.toInt_toInt64, bs64, Int64.reduceToInt, eD, s1, e11]
          by_cases u : 86400 * D + s - o < x9.toInt
          · rw [if_pos (show 86400 * v.toInt64 + t.toInt64 - x11 < x9 from Int64.lt_iff_toInt_lt.mpr (by rw [e2]; exact u))]
            exact e198 _ _ _ (ur_e hz hno (by omega))
          · rw [if_neg (show ¬ 86400 * v.toInt64 + t.toInt64 - x11 < x9 from fun u' => u (by
              have := Int64.lt_iff_toInt_lt.mp u'
              rw [e2] at this
              exact this))]
            refine ⟨_, _, _, _, rfl, Or.inl ⟨86400 * D + s - o, ?_, by omega, by omega, ⟨o, hz _ (by omega) (by omega), ?_⟩, ?_⟩⟩
            · rw [Int64.toInt_mul, e2]
              simp only [Int64.reduceToInt]
              exact bs64 (by omega) (by omega)
            · rw [show 86400 * D + (s : Int) - o + o = 86400 * D + s by omega]
              exact hlf
            · intro i v1 v2
              exact ur_e (s := 86400 * D + s - o + 1) (fun x t1 t2 => hz x (by omega) t2) hno (by omega) i v1 (by omega)
        · -- none before it
          have : t = -1 := eqI.mpr (by rw [s1]; rfl)
          subst this
          refine nx (fun i u1 u2 u3 => ?_)
          refine s2 (i % 86400).toNat (by omega) ((tk _ (by omega)).mpr u3.2)
end JL_6
