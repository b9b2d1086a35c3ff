section JI_1
variable {a h : Nat} {S : jS}
def lf (S : jS) (a h : Nat) (x : Int) : Prop := fN S a h (x / 86400) ∧ tkS S a (x % 86400).toNat
def rL (S : jS) (a h : Nat) (x r : Int) : Prop := (x ≤ r ∧ 0 ≤ r ∧ lf S a h r ∧ ∀ i, x ≤ i → i < r → ¬ lf S a h i) ∨ (r = -1 ∧ ∀ i, x ≤ i → ¬ lf S a h i)
def uL (S : jS) (a h : Nat) (x r : Int) : Prop := (r ≤ x ∧ 0 ≤ r ∧ lf S a h r ∧ ∀ i, i ≤ x → r < i → ¬ lf S a h i) ∨ (r = -1 ∧ ∀ i, i ≤ x → ¬ lf S a h i)
/-- there is a time of day -/
def ckU (S : jS) (a : Nat) : Prop := ckT S a ∧ ∃ i, bt (S.2.1 (a + 1) 2) i = true
theorem tk_0 (hc : ckU S a) : ∃ s, s < 86400 ∧ tkS S a s := by
  obtain ⟨⟨k1, k2, k3, ⟨m, hm⟩, ⟨x, hx⟩⟩, ⟨h, hh⟩⟩ := hc
  have b1 := lt24 k1 hh
  have b2 := lt24 k2 hm
  have b3 := lt24 k3 hx
  refine ⟨3600 * h + 60 * m + x, by omega, ?_, ?_, ?_⟩
  · rw [show (3600 * h + 60 * m + x) / 3600 = h by omega]; exact hh
  · rw [show (3600 * h + 60 * m + x) / 60 % 60 = m by omega]; exact hm
  · rw [show (3600 * h + 60 * m + x) % 60 = x by omega]; exact hx
theorem f0_t (hc : ckU S a) : ∃ (r : Int32) (s : Nat), F_C_timeFrom a 0 S = some r ∧ r.toInt = s ∧ s < 86400 ∧ tkS S a s ∧ ∀ i, i < s → ¬ tkS S a i := by
  obtain ⟨r, e1, e2⟩ := fC_tf (S := S) (a := a) (p0 := 0) (P := 0) rfl (by omega) hc.1
  rcases e2 with ⟨s, s1, s2, s3, s4, s5⟩ | ⟨s1, s2⟩
  · exact ⟨r, s, e1, s1, s3, s4, fun i hi => s5 i (by omega) hi⟩
  · obtain ⟨s, q1, q2⟩ := tk_0 hc
    exact absurd q2 (s2 s (by omega) q1)
theorem u0_t (hc : ckU S a) : ∃ (r : Int32) (s : Nat), F_C_timeUpTo a 86399 S = some r ∧ r.toInt = s ∧ s < 86400 ∧ tkS S a s ∧ ∀ i, s < i → i < 86400 → ¬ tkS S a i := by
  obtain ⟨r, e1, e2⟩ := fC_tu (S := S) (a := a) (p0 := 86399) (P := 86399) rfl (by omega) hc.1
  rcases e2 with ⟨s, s1, s2, s3, s4⟩ | ⟨s1, s2⟩
  · exact ⟨r, s, e1, s1, by omega, s3, fun i hi hj => s4 i hi (by omega)⟩
  · obtain ⟨s, q1, q2⟩ := tk_0 hc
    exact absurd q2 (s2 s (by omega))
theorem dt_e {d t : Int32} {D T : Int} (h1 : d.toInt = D) (h2 : t.toInt = T) (b1 : 0 ≤ D) (b2 : D ≤ 200000) (b3 : 0 ≤ T) (b4 : T < 86400) : ((d.toInt64 * 86400) + t.toInt64).toInt = 86400 * D + T := by
  subst h1 h2
  simp (disch := omega) only [Int64.toInt_add, Int64.toInt_mul, Int32.toInt_toInt64, bs64, Int64.reduceToInt]
  omega
theorem pt_e {x : Int64} {d : Int32} (h : d.toInt = x.toInt / 86400) (b1 : -1000000 ≤ x.toInt) (b2 : x.toInt ≤ 10420000000) : ((x - (d.toInt64 * 86400) : Int64).toInt32).toInt = ((x.toInt % 86400).toNat : Nat) := by
  have e : (x - (d.toInt64 * 86400)).toInt = x.toInt % 86400 := by
    simp (disch := omega) only [Int64.toInt_sub, Int64.toInt_mul, Int32.toInt_toInt64, h, bs64, Int64.reduceToInt]
    omega
  rw [Int64.toInt_toInt32, e, bs32 (by omega) (by omega)]
  omega
theorem i0_le {r : Int32} {n : Int} (h : r.toInt = n) (hn : 0 ≤ n) : (0 : Int32) ≤ r := Int32.le_iff_toInt_le.mpr (by simp only [Int32.reduceToInt]; omega)
theorem i0_nle {r : Int32} (h : r.toInt = -1) : ¬ (0 : Int32) ≤ r := fun q => by
  have := Int32.le_iff_toInt_le.mp q
  simp only [Int32.reduceToInt] at this
  omega
/-- a day that was found, from its first time on -/
theorem jF_57a (hc : ckA S a h) (hu : ckU S a) {d : Int32} {N x : Int} (hr : rN S a h N d.toInt) (hN : 0 ≤ N) (hx : x ≤ 86400 * N) (hno : ∀ i, x ≤ i → i < 86400 * N → ¬ lf S a h i) : ∃ r, J_F_localFrom_57 S d (-1) = some r ∧ rL S a h x r.toInt := by
  unfold J_F_localFrom_57
  rcases hr with ⟨g1, g2, g3⟩ | ⟨g1, g2⟩
  · have db := fN_b g2
    rw [if_pos (i0_le rfl db.1), if_neg (by decide), hc.2.1, j_qt hc.2.2.1]
    obtain ⟨z, s, e1, e2, e3, e4, e5⟩ := f0_t hu
    rw [e1]
    simp only [ob_]
    have e6 := dt_e (T := s) (d := d) (t := z) rfl e2 db.1 (by omega) (by omega) (by omega)
    refine ⟨_, rfl, ?_⟩
    rw [e6]
    refine Or.inl ⟨by omega, by omega, ⟨?_, ?_⟩, fun i i1 i2 i3 => ?_⟩
    · rw [show (86400 * d.toInt + s) / 86400 = d.toInt by omega]; exact g2
    · rw [show ((86400 * d.toInt + s) % 86400).toNat = s by omega]; exact e4
    · by_cases c : i < 86400 * N
      · exact hno i i1 c i3
      · by_cases c2 : i / 86400 < d.toInt
        · exact g3 _ (by omega) c2 i3.1
        · exact e5 (i % 86400).toNat (by omega) i3.2
  · rw [if_neg (i0_nle g1)]
    refine ⟨_, rfl, Or.inr ⟨rfl, fun i i1 i3 => ?_⟩⟩
    by_cases c : i < 86400 * N
    · exact hno i i1 c i3
    · exact g2 _ (by omega) i3.1
theorem fF_lf {x : Int64} (hc : ckA S a h) (hu : ckU S a) (b1 : -80000 ≤ x.toInt) (b2 : x.toInt ≤ 10420000000) : ∃ r, F_F_localFrom x S = some r ∧ rL S a h x.toInt r.toInt := by
  unfold F_F_localFrom
  rw [fD_day (by omega) (by omega)]
  simp only [ob_]
  have ed : (Int32.ofInt (x.toInt / 86400)).toInt = x.toInt / 86400 := tI (by omega) (by omega)
  generalize Int32.ofInt (x.toInt / 86400) = d at *
  obtain ⟨z, e1, e2⟩ := fF_dyf (S := S) (a := a) (h := h) (p := d) hc (by omega) (by omega)
  rw [e1]
  simp only [ob_]
  by_cases cd : z = d
  · rw [if_pos cd, hc.2.1, j_qt hc.2.2.1]
    obtain ⟨t, t1, t2⟩ := fC_tf (S := S) (a := a) (pt_e ed (by omega) b2) (by omega) hu.1
    rw [t1]
    simp only [ob_]
    unfold J_F_localFrom_55
    by_cases cn : d.toInt < 0
    · -- before the first day: nothing fits
      have nof : ∀ D, ¬ fN S a h D := by
        rw [if_pos cn] at e2
        rcases e2 with ⟨g1, -⟩ | ⟨g1, g2⟩
        · rw [cd] at g1; omega
        · intro D q
          exact g2 D (fN_b q).1 q
      have res : ∀ w : Int64, w.toInt = -1 → rL S a h x.toInt w.toInt := fun w hw => Or.inr ⟨hw, fun i _ i3 => nof _ i3.1⟩
      have no0 : ¬ (0 : Int32) ≤ d := fun q => by
        have := Int32.le_iff_toInt_le.mp q
        simp only [Int32.reduceToInt] at this
        omega
      by_cases ct : (0 : Int32) ≤ t
      · rw [if_pos ct]
        unfold J_F_localFrom_57
        rw [if_neg no0]
        exact ⟨_, rfl, res _ rfl⟩
      · rw [if_neg ct]
        have e5 : (d + 1).toInt = d.toInt + 1 := by
          rw [Int32.toInt_add]
          exact bs32 (by simp only [Int32.reduceToInt]; omega) (by simp only [Int32.reduceToInt]; omega)
        obtain ⟨z2, f1, f2⟩ := fF_dyf (S := S) (a := a) (h := h) (p := d + 1) hc (by omega) (by omega)
        rw [f1]
        simp only [ob_]
        unfold J_F_localFrom_57
        rcases f2 with ⟨-, g2, -⟩ | ⟨g1, -⟩
        · exact absurd g2 (nof _)
        · rw [if_neg (i0_nle g1)]
          exact ⟨_, rfl, res _ rfl⟩
    · rw [if_neg cn] at e2
      have hd : fN S a h d.toInt := by
        rcases e2 with ⟨-, g2, -⟩ | ⟨g1, -⟩
        · rw [cd] at g2; exact g2
        · rw [cd] at g1; omega
      have db := fN_b hd
      rcases t2 with ⟨s, s1, s2, s3, s4, s5⟩ | ⟨s1, s2⟩
      · rw [if_pos (i0_le s1 (by omega))]
        unfold J_F_localFrom_57
        rw [if_pos (i0_le rfl db.1), if_pos (i0_le s1 (by omega))]
        refine ⟨_, rfl, ?_⟩
        rw [dt_e (T := s) (d := d) (t := t) rfl s1 db.1 (by omega) (by omega) (by omega)]
        refine Or.inl ⟨by omega, by omega, ⟨?_, ?_⟩, fun i i1 i2 i3 => ?_⟩
        · rw [show (86400 * d.toInt + s) / 86400 = d.toInt by omega]; exact hd
        · rw [show ((86400 * d.toInt + s) % 86400).toNat = s by omega]; exact s4
        · exact s5 (i % 86400).toNat (by omega) (by omega) i3.2
      · rw [if_neg (i0_nle s1)]
        have e5 : (d + 1).toInt = d.toInt + 1 := by
          rw [Int32.toInt_add]
          exact bs32 (by simp only [Int32.reduceToInt]; omega) (by simp only [Int32.reduceToInt]; omega)
        obtain ⟨z2, f1, f2⟩ := fF_dyf (S := S) (a := a) (h := h) (p := d + 1) hc (by omega) (by omega)
        rw [f1]
        simp only [ob_]
        rw [if_neg (by omega), e5] at f2
        have et : t = -1 := by rw [eqI, s1]; rfl
        rw [et]
        refine jF_57a hc hu f2 (by omega) (by omega) (fun i i1 i2 i3 => ?_)
        exact s2 (i % 86400).toNat (by omega) (by omega) i3.2
  · rw [if_neg cd]
    by_cases cn : d.toInt < 0
    · rw [if_pos cn] at e2
      refine jF_57a hc hu e2 (by omega) (by omega) (fun i i1 i2 i3 => ?_)
      have := fN_b i3.1
      omega
    · rw [if_neg cn] at e2
      have cz : ¬ z.toInt = d.toInt := fun q => cd (by rw [eqI]; exact q)
      have nd : ¬ fN S a h d.toInt := fun q => by
        rcases e2 with ⟨g1, g2, g3⟩ | ⟨g1, g2⟩
        · exact g3 d.toInt (by omega) (by omega) q
        · exact g2 d.toInt (by omega) q
      have e3 : rN S a h (d.toInt + 1) z.toInt := by
        rcases e2 with ⟨g1, g2, g3⟩ | ⟨g1, g2⟩
        · exact Or.inl ⟨by omega, g2, fun D d1 d2 => g3 D (by omega) d2⟩
        · exact Or.inr ⟨g1, fun D d1 => g2 D (by omega)⟩
      refine jF_57a hc hu e3 (by omega) (by omega) (fun i i1 i2 i3 => ?_)
      have e4 : i / 86400 = d.toInt := by omega
      rw [lf, e4] at i3
      exact nd i3.1
end JI_1
