section JL_4
variable {S V : jS} {a h c k z : Nat} {x1 x2 x3 : Int32}
theorem oM_i {x : Int} {R : Option (Int64 × jS)} {y m d : Int32} (hk : ckM S a h c k z x3) : oM (dt_S S y m d) a h c x R ↔ oM S a h c x R := by
  refine ⟨fun q => oM_w hk q, ?_⟩
  rintro ⟨r, y', m', d', e1, e2⟩
  refine ⟨r, y', m', d', by rw [dS_dS]; exact e1, ?_⟩
  rw [dS_rF hk.1 hk.2.1 hk.2.2.1]
  exact e2
theorem oN_i {x : Int} {R : Option (Int64 × jS)} {y m d : Int32} (hk : ckM S a h c k z x3) : oN (dt_S S y m d) a h c x R ↔ oN S a h c x R := by
  refine ⟨fun q => oN_w hk q, ?_⟩
  rintro ⟨r, y', m', d', e1, e2⟩
  refine ⟨r, y', m', d', by rw [dS_dS]; exact e1, ?_⟩
  rw [dS_uF hk.1 hk.2.1 hk.2.2.1]
  exact e2
theorem fr_e {s u o : Int} (hz : ∀ x, s ≤ x → x ≤ u → zof S c x o) {b : Int} (hn : ∀ i, s + o ≤ i → i < b → ¬ lf S a h i) (hb : u + o < b) : ∀ i, s ≤ i → i ≤ u → ¬ Fr S a h c i := by
  intro i i1 i2
  rintro ⟨r, r1, r2⟩
  have e := zof_u r1 (hz i i1 i2)
  rw [e] at r2
  exact hn _ (by omega) (by omega) r2
theorem nF_105 {kt : Int32 → Int32 → Int32 → Int32 → Int64 → jS → Option (Int64 × jS)} {x6 : Int32} {x7 x9 x11 : Int64} {n p : Nat} {o : Int} (hM : ckM S a h c k z x3) (i1 : x1.toInt = k) (i2 : x2.toInt = z) (hn : (S.1 237 z).toInt = n) (h6 : x6.toInt = p) (b7 : 0 ≤ x7.toInt) (b8 : x7.toInt ≤ 10420000000) (b9 : -1000000 ≤ x9.toInt) (b10 : x9.toInt ≤ 10413791999) (e11 : x11.toInt = o) (ob1 : -50400 ≤ o) (ob2 : o ≤ 57600) (hz : ∀ x, x7.toInt ≤ x → x ≤ x9.toInt → zof S c x o) (hl : n ≤ p → x9.toInt = 10413791999) (hk : p < n → ¬ x9.toInt = 10413791999 → ∀ (w : Int64) (y m d : Int32), x7.toInt ≤ w.toInt → x9.toInt + 1 ≤ w.toInt → (w.toInt = x7.toInt ∨ w.toInt = x9.toInt + 1) → oM S a h c w.toInt (kt x1 x2 x3 (x6 + 1) w (dt_S S y m d))) : ∀ (f : Nat) (x13 : Int64) (y m d : Int32), x7.toInt + o ≤ x13.toInt → x13.toInt ≤ 10430000000 → ((x9.toInt + o) / 86400 + 1 - x13.toInt / 86400).toNat < f → (∀ i, x7.toInt + o ≤ i → i < x13.toInt → ¬ lf S a h i) → oM S a h c x7.toInt (L_M_nextFire_105 kt f x1 x2 x3 x6 x7 x9 x11 x13 (dt_S S y m d)) := by
  have M := hM
  obtain ⟨b1, b2, b3, b4, b5, b6, b6', q1, q2, q3, q4, q5⟩ := M
  have e208 : ∀ y m d, (∀ i, x7.toInt ≤ i → i ≤ x9.toInt → ¬ Fr S a h c i) → oM S a h c x7.toInt (J_M_nextFire_208 kt x1 x2 x3 x6 x7 x9 (dt_S S y m d)) := by
    intro y m d hno
    refine (oM_i hM).mp (nF_208 (z := z) i2 b5 (n := n) (by rw [dS_1 (by omega)]; exact hn) h6 (by omega) b8 b9 b10 hl (fun i c1 c2 => by rw [dS_Fr b1 b2 b3]; exact hno i c1 c2) (fun g1 g2 w g3 g4 g5 => (oM_i hM).mpr (hk g1 g2 w y m d g3 g4 g5)))
  intro f
  induction f with
  | zero => intro x13 y m d _ _ q; omega
  | succ f ih =>
    intro x13 y m d c1 c2 c3 c4
    unfold L_M_nextFire_105
    have e1 : (x9 + x11).toInt = x9.toInt + o := by
      rw [Int64.toInt_add, e11]
      exact bs64 (by omega) (by omega)
    by_cases g : x9.toInt + o < x13.toInt
    · rw [if_pos (show x9 + x11 < x13 from Int64.lt_iff_toInt_lt.mpr (by rw [e1]; exact g))]
      exact e208 y m d (fr_e hz c4 g)
    · rw [if_neg (show ¬ x9 + x11 < x13 from fun w => g (by
        have := Int64.lt_iff_toInt_lt.mp w
        rw [e1] at this
        exact this)), fFD2 (by decide) (by omega) (by omega) (by decide)]
      simp only [ob_, jl_, Int64.reduceToInt]
      have eD : ((Int64.ofInt (x13.toInt / 86400)).toInt32).toInt = x13.toInt / 86400 := l32 (by omega) (by omega)
      generalize (Int64.ofInt (x13.toInt / 86400)).toInt32 = v at *
      obtain ⟨D, hD⟩ : ∃ D, x13.toInt / 86400 = D := ⟨_, rfl⟩
      rw [hD] at eD c3
      obtain ⟨r, y', m', d', r1, r2⟩ := fM_df (S := dt_S S y m d) (p0 := x1) (p1 := x3) (p2 := v) (a := a) (h := h) (k := k) b1 b2 (by rw [dS_ckD (by omega)]; exact q1) (by rw [dS_cR (by omega)]; exact q2) (by rw [dS_hR b2]; exact q3) i1 b4 b6 b6' (by omega) (by omega)
      rw [dS_dS] at r1
      rw [dS_fN b1 b2, eD] at r2
      rw [r1]
      simp only [ob_]
      clear r1
      have nx : (∀ i, x13.toInt ≤ i → i / 86400 = D → ¬ lf S a h i) → oM S a h c x7.toInt (J_M_nextFire_156 kt (L_M_nextFire_105 kt f) x1 x2 x3 x6 x7 x9 x11 v (-1) (dt_S S y' m' d')) := by
        intro nd
        unfold J_M_nextFire_156
        rw [if_pos (by decide), jl_]
        have e2 : (86400 * (v.toInt64 + 1)).toInt = 86400 * (D + 1) := by
          simp (disch := omega) only [Int64.toInt_mul, Int64.toInt_add, Int32.toInt_toInt64, bs64, Int64.reduceToInt, eD]
        refine ih _ y' m' d' (by rw [e2]; omega) (by rw [e2]; omega) (by rw [e2]; omega) ?_
        rw [e2]
        intro i u1 u2
        by_cases w : i < x13.toInt
        · exact c4 i u1 w
        · exact nd i (by omega) (by omega)
      by_cases w : r = 0
      · rw [if_pos w]
        refine nx (fun i u1 u2 u3 => ?_)
        have := u3.1
        rw [u2] at this
        exact (r2.mpr this) w
      · rw [if_neg w, fFM2 (by decide) (by omega) (by omega) (by decide)]
        simp only [ob_, Int64.reduceToInt]
        have eP : ((Int64.ofInt (x13.toInt % 86400)).toInt32).toInt = ((x13.toInt % 86400).toNat : Int) := by
          rw [l32 (by omega) (by omega)]
          omega
        generalize (Int64.ofInt (x13.toInt % 86400)).toInt32 = pp at *
        obtain ⟨P, hP⟩ : ∃ P : Nat, (x13.toInt % 86400).toNat = P := ⟨_, rfl⟩
        rw [hP] at eP
        have hP2 : x13.toInt = 86400 * D + P ∧ P < 86400 := by omega
        obtain ⟨t, t1, t2⟩ := fM_sf (S := dt_S S y' m' d') (b := 240 + k * 8 + 1) (x1 := x1) (x2 := pp) (P := P) (by rw [clN i1]) (by omega) (by omega) eP hP2.2
        rw [t1]
        simp only [ob_]
        clear t1
        have tk : ∀ s, s < 86400 → (mt (dt_S S y' m' d') (240 + k * 8 + 1) s ↔ tkS S a s) := fun s hs => by
          rw [dS_mt]
          exact (q2.2.2.2 s hs).symm
        rcases t2 with ⟨s, s1, s2, s3, s4, s5⟩ | ⟨s1, s2⟩
        · -- a second of the day
          have hno : ∀ i, x7.toInt + o ≤ i → i < 86400 * D + s → ¬ lf S a h i := by
            intro i u1 u2 u3
            by_cases u : i < x13.toInt
            · exact c4 i u1 u u3
            · refine s5 (i % 86400).toNat (by omega) (by omega) ((tk _ (by omega)).mpr u3.2)
          have hlf : lf S a h (86400 * D + s) := by
            refine ⟨?_, ?_⟩
            · rw [show (86400 * D + (s : Int)) / 86400 = D by omega]
              exact r2.mp w
            · rw [show ((86400 * D + (s : Int)) % 86400).toNat = s by omega]
              exact (tk s s3).mp s4
          unfold J_M_nextFire_156
          rw [if_neg (show ¬ t < 0 from fun u => by
            have := Int32.lt_iff_toInt_lt.mp u
            simp only [Int32.reduceToInt] at this
            omega), jl_]
          have e2 : (86400 * v.toInt64 + t.toInt64 - x11).toInt = 86400 * D + s - o := by
            simp (disch := omega) only [Int64.toInt_mul, Int64.toInt_add, Int64.toInt_sub, Int32.toInt_toInt64, bs64, Int64.reduceToInt, eD, s1, e11]
          by_cases u : x9.toInt < 86400 * D + s - o
          · rw [if_pos (show x9 < 86400 * v.toInt64 + t.toInt64 - x11 from Int64.lt_iff_toInt_lt.mpr (by rw [e2]; exact u))]
            exact e208 _ _ _ (fr_e hz hno (by omega))
          · rw [if_neg (show ¬ x9 < 86400 * v.toInt64 + t.toInt64 - x11 from fun u' => u (by
              have := Int64.lt_iff_toInt_lt.mp u'
              rw [e2] at this
              exact this))]
            refine ⟨_, _, _, _, rfl, Or.inl ⟨86400 * D + s - o, ?_, by omega, by omega, ⟨o, hz _ (by omega) (by omega), ?_⟩, ?_⟩⟩
            · rw [Int64.toInt_mul, e2]
              simp only [Int64.reduceToInt]
              exact bs64 (by omega) (by omega)
            · rw [show 86400 * D + (s : Int) - o + o = 86400 * D + s by omega]
              exact hlf
            · intro i v1 v2
              exact fr_e (u := 86400 * D + s - o - 1) (fun x t1 t2 => hz x t1 (by omega)) hno (by omega) i v1 (by omega)
        · -- none behind it
          have : t = -1 := eqI.mpr (by rw [s1]; rfl)
          subst this
          refine nx (fun i u1 u2 u3 => ?_)
          refine s2 (i % 86400).toNat (by omega) (by omega) ((tk _ (by omega)).mpr u3.2)
end JL_4
