section JI_2
variable {a h : Nat} {S : jS}
theorem jF_57u (hc : ckA S a h) (hu : ckU S a) {d : Int32} {N x : Int} (hr : uN S a h N d.toInt) (hx : 86400 * N + 86399 ≤ x) (hno : ∀ i, i ≤ x → 86400 * N + 86399 < i → ¬ lf S a h i) : ∃ r, J_F_localUpTo_57 S d (-1) = some r ∧ uL S a h x r.toInt := by
  unfold J_F_localUpTo_57 J_F_localUpTo_85
  rcases hr with ⟨g1, g2, g3⟩ | ⟨g1, g2⟩
  · have db := fN_b g2
    rw [if_pos (i0_le rfl db.1), if_neg (by decide), hc.2.1, j_qt hc.2.2.1]
    obtain ⟨z, s, e1, e2, e3, e4, e5⟩ := u0_t hu
    rw [e1]
    simp only [ob_]
    have e6 := dt_e (T := s) (d := d) (t := z) rfl e2 db.1 (by omega) (by omega) (by omega)
    refine ⟨_, rfl, ?_⟩
    rw [e6]
    refine Or.inl ⟨by omega, by omega, ⟨?_, ?_⟩, fun i i1 i2 i3 => ?_⟩
    · rw [show (86400 * d.toInt + s) / 86400 = d.toInt by omega]; exact g2
    · rw [show ((86400 * d.toInt + s) % 86400).toNat = s by omega]; exact e4
    · by_cases c : 86400 * N + 86399 < i
      · exact hno i i1 c i3
      · by_cases c2 : d.toInt < i / 86400
        · exact g3 _ (by omega) c2 i3.1
        · exact e5 (i % 86400).toNat (by omega) (by omega) i3.2
  · rw [if_neg (i0_nle g1)]
    refine ⟨_, rfl, Or.inr ⟨rfl, fun i i1 i3 => ?_⟩⟩
    by_cases c : 86400 * N + 86399 < i
    · exact hno i i1 c i3
    · exact g2 _ (by omega) i3.1
theorem fF_lu {x : Int64} (hc : ckA S a h) (hu : ckU S a) (b1 : -80000 ≤ x.toInt) (b2 : x.toInt ≤ 10420000000) : ∃ r, F_F_localUpTo x S = some r ∧ uL S a h x.toInt r.toInt := by
  unfold F_F_localUpTo
  rw [fD_day (by omega) (by omega)]
  simp only [ob_]
  have ed : (Int32.ofInt (x.toInt / 86400)).toInt = x.toInt / 86400 := tI (by omega) (by omega)
  generalize Int32.ofInt (x.toInt / 86400) = d at *
  obtain ⟨z, e1, e2⟩ := fF_dyu (S := S) (a := a) (h := h) (p := d) hc (by omega) (by omega)
  rw [e1]
  simp only [ob_]
  have e5 : (d - 1).toInt = d.toInt - 1 := by
    rw [Int32.toInt_sub]
    exact bs32 (by simp only [Int32.reduceToInt]; omega) (by simp only [Int32.reduceToInt]; omega)
  obtain ⟨w, hw, e5⟩ : ∃ w, d - 1 = w ∧ w.toInt = d.toInt - 1 := ⟨_, rfl, e5⟩
  rw [hw]
  clear hw
  by_cases cd : z = d
  · rw [if_pos cd, hc.2.1, j_qt hc.2.2.1]
    obtain ⟨t, t1, t2⟩ := fC_tu (S := S) (a := a) (pt_e ed (by omega) b2) (by omega) hu.1
    rw [t1]
    simp only [ob_]
    unfold J_F_localUpTo_55
    by_cases cn : d.toInt < 0
    · -- before the first day: nothing fits
      have nof : ∀ D, D ≤ d.toInt → ¬ fN S a h D := fun D q1 q2 => by
        have := fN_b q2
        omega
      have res : ∀ w : Int64, w.toInt = -1 → uL S a h x.toInt w.toInt := fun w hw => Or.inr ⟨hw, fun i i1 i3 => nof _ (by omega) i3.1⟩
      have no0 : ¬ (0 : Int32) ≤ d := fun q => by
        have := Int32.le_iff_toInt_le.mp q
        simp only [Int32.reduceToInt] at this
        omega
      by_cases ct : (0 : Int32) ≤ t
      · rw [if_pos ct]
        unfold J_F_localUpTo_57
        rw [if_neg no0]
        exact ⟨_, rfl, res _ rfl⟩
      · rw [if_neg ct]
        obtain ⟨z2, f1, f2⟩ := fF_dyu (S := S) (a := a) (h := h) (p := w) hc (by omega) (by omega)
        rw [f1]
        simp only [ob_]
        unfold J_F_localUpTo_57
        rw [if_neg (by omega)] at f2
        rcases f2 with ⟨g1, g2, -⟩ | ⟨g1, -⟩
        · exact absurd g2 (nof _ (by omega))
        · rw [if_neg (i0_nle g1)]
          exact ⟨_, rfl, res _ rfl⟩
    · have hd : fN S a h d.toInt := by
        rcases e2 with ⟨-, g2, -⟩ | ⟨g1, -⟩
        · rw [cd] at g2; exact g2
        · rw [cd] at g1; omega
      have db := fN_b hd
      rcases t2 with ⟨s, s1, s2, s4, s5⟩ | ⟨s1, s2⟩
      · rw [if_pos (i0_le s1 (by omega))]
        unfold J_F_localUpTo_57 J_F_localUpTo_85
        rw [if_pos (i0_le rfl db.1), if_pos (i0_le s1 (by omega))]
        refine ⟨_, rfl, ?_⟩
        rw [dt_e (T := s) (d := d) (t := t) rfl s1 db.1 (by omega) (by omega) (by omega)]
        refine Or.inl ⟨by omega, by omega, ⟨?_, ?_⟩, fun i i1 i2 i3 => ?_⟩
        · rw [show (86400 * d.toInt + s) / 86400 = d.toInt by omega]; exact hd
        · rw [show ((86400 * d.toInt + s) % 86400).toNat = s by omega]; exact s4
        · exact s5 (i % 86400).toNat (by omega) (by omega) i3.2
      · rw [if_neg (i0_nle s1)]
        obtain ⟨z2, f1, f2⟩ := fF_dyu (S := S) (a := a) (h := h) (p := w) hc (by omega) (by omega)
        rw [f1]
        simp only [ob_]
        rw [if_neg (by omega), e5] at f2
        have et : t = -1 := by rw [eqI, s1]; rfl
        rw [et]
        refine jF_57u hc hu f2 (by omega) (fun i i1 i2 i3 => ?_)
        exact s2 (i % 86400).toNat (by omega) i3.2
  · rw [if_neg cd]
    by_cases cn : 120529 < d.toInt
    · rw [if_pos cn] at e2
      refine jF_57u hc hu e2 (by omega) (fun i i1 i2 i3 => ?_)
      have := fN_b i3.1
      omega
    · rw [if_neg cn] at e2
      have cz : ¬ z.toInt = d.toInt := fun q => cd (by rw [eqI]; exact q)
      have nd : ¬ fN S a h d.toInt := fun q => by
        rcases e2 with ⟨g1, g2, g3⟩ | ⟨g1, g2⟩
        · exact g3 d.toInt (by omega) (by omega) q
        · exact g2 d.toInt (by omega) q
      have e3 : uN S a h (d.toInt - 1) z.toInt := by
        rcases e2 with ⟨g1, g2, g3⟩ | ⟨g1, g2⟩
        · exact Or.inl ⟨by omega, g2, fun D d1 d2 => g3 D (by omega) d2⟩
        · exact Or.inr ⟨g1, fun D d1 => g2 D (by omega)⟩
      refine jF_57u hc hu e3 (by omega) (fun i i1 i2 i3 => ?_)
      have e4 : i / 86400 = d.toInt := by omega
      rw [lf, e4] at i3
      exact nd i3.1
end JI_2
