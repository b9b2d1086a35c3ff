section JQ_4
variable {S T Z : jS} {c : Nat}
theorem w_sm {a k : Nat} {v : Int32} (h : v = S.1 a k) : w_i S a k v = S := by
  apply S_ext
  · intro b j
    rw [w_ir]
    by_cases q : b = a ∧ j = k
    · rw [if_pos q, q.1, q.2, h]
    · rw [if_neg q]
  · intro b j; rw [w_i2]
  · intro b j; rfl
theorem r435 : (w_i Z 215 0 0).1 435 c = Z.1 435 c := by rw [w_ir, if_neg (fun q => by omega)]
theorem r431 {D : Nat} : (w_i Z 215 0 0).1 (431 + c) D = Z.1 (431 + c) D := by rw [w_ir, if_neg (fun q => by omega)]
theorem Mf_s {D : Nat} {v : Int32} : w_i (w_i Z 215 0 0) (431 + c) D v = Mf Z c D (Z.1 435 c) v := by
  unfold Mf
  rw [w_sm (S := w_i Z 215 0 0) (a := 435) (k := c) r435.symm]
theorem fM_h94 {x1 x2 x3 : Int32} {D : Nat} (i1 : x1.toInt = c) (hc : c < 4) (i2 : x2.toInt = D) (hD : D ≤ 120529) (hv : bol x3) (V : jS) : J_M_holiday_94 x1 x2 x3 V = some (V.1 435 c, w_i V (431 + c) D x3) := by
  unfold J_M_holiday_94
  rw [j_qi (by omega) (by omega), j_qi (by omega) (by omega), jl_, j_qi (by omega) (by omega), clN i1, clN i2, nar_b hv, w_ir, if_neg (fun q => by omega)]
theorem fM_h92 {x1 x2 x3 y0 : Int32} {D : Nat} (i1 : x1.toInt = c) (hc : c < 4) (i2 : x2.toInt = D) (hD : D ≤ 120529) (hv : bol x3) : J_M_holiday_92 x1 x2 x3 y0 (Z.1 435 c) x1 (w_i Z 215 0 0) = some (Z.1 435 c + y0, Mf Z c D (Z.1 435 c + y0) x3) := by
  unfold J_M_holiday_92
  rw [j_qi (by omega) (by omega), jl_, clN i1, fM_h94 i1 hc i2 hD hv, w_ir, if_pos ⟨rfl, rfl⟩]
  rfl
theorem fM_h64 {x1 x2 x3 : Int32} {D : Nat} (i1 : x1.toInt = c) (hc : c < 4) (i2 : x2.toInt = D) (hD : D ≤ 120529) (hv : bol x3) : J_M_holiday_64 x1 x2 x3 (w_i Z 215 0 0) = if Z.1 (431 + c) D = x3 then some (Z.1 435 c, Mf Z c D (Z.1 435 c) x3) else if x3 = 0 then some (Z.1 435 c + -1, Mf Z c D (Z.1 435 c + -1) x3) else some (Z.1 435 c + 1, Mf Z c D (Z.1 435 c + 1) x3) := by
  unfold J_M_holiday_64
  rw [j_qi (by omega) (by omega), j_qi (by omega) (by omega), j_qi (by omega) (by omega), clN i1, clN i2, r431, r435, fM_h94 i1 hc i2 hD hv, r435, Mf_s, fM_h92 i1 hc i2 hD hv, fM_h92 i1 hc i2 hD hv]
theorem fM_hol {p0 p1 p2 : Int32} {D : Nat} (i1 : p0.toInt = c) (hc : c < 4) (i2 : p1.toInt = D) (hD : D ≤ 120529) (hv : bol p2) : F_M_holiday p0 p1 p2 Z = if ¬ p2 = 0 ∧ Z.1 (431 + c) D = 0 ∧ Z.1 435 c = 200 then some (0, w_i (w_i Z 215 0 0) 215 0 2) else if Z.1 (431 + c) D = p2 then some (Z.1 435 c, Mf Z c D (Z.1 435 c) p2) else if p2 = 0 then some (Z.1 435 c + -1, Mf Z c D (Z.1 435 c + -1) p2) else some (Z.1 435 c + 1, Mf Z c D (Z.1 435 c + 1) p2) := by
  unfold F_M_holiday
  rw [jl_, if_neg (by rw [ltI (k := 0) (n := 0) rfl]; omega), if_neg (by rw [gtI (k := 3) (n := 3) rfl]; omega), if_neg (by rw [ltI (k := 0) (n := 0) rfl]; omega), if_pos (by rw [leI (k := 120529) (n := 120529) rfl]; omega), j_qi (by omega) (by omega), j_qi (by omega) (by omega), j_qi (by omega) (by omega), clN i1, clN i2, r431, r435, fM_h64 i1 hc i2 hD hv, fail1]
  simp only [ob_]
  by_cases q : p2 = 0
  · rw [if_pos q, if_neg (show ¬ (¬ p2 = 0 ∧ Z.1 (431 + c) D = 0 ∧ Z.1 435 c = 200) from fun w => w.1 q)]
  · rw [if_neg q]
    by_cases q2 : Z.1 (431 + c) D = 0
    · rw [if_pos q2]
      by_cases q3 : Z.1 435 c = 200
      · rw [if_pos q3, if_pos ⟨q, q2, q3⟩]
      · rw [if_neg q3, if_neg (show ¬ (¬ p2 = 0 ∧ Z.1 (431 + c) D = 0 ∧ Z.1 435 c = 200) from fun w => q3 w.2.2)]
    · rw [if_neg q2, if_neg (show ¬ (¬ p2 = 0 ∧ Z.1 (431 + c) D = 0 ∧ Z.1 435 c = 200) from fun w => q2 w.2.1)]
theorem fM_hbad {p0 p1 p2 : Int32} (hn : ¬ (0 ≤ p0.toInt ∧ p0.toInt ≤ 3 ∧ 0 ≤ p1.toInt ∧ p1.toInt ≤ 120529)) : F_M_holiday p0 p1 p2 S = some (0, w_i (w_i S 215 0 0) 215 0 1) := by
  unfold F_M_holiday
  rw [jl_]
  have e : J_M_holiday_25 (w_i S 215 0 0) = some (0, w_i (w_i S 215 0 0) 215 0 1) := rfl
  rw [e]
  by_cases g0 : p0.toInt < 0
  · rw [if_pos (by rw [ltI (k := 0) (n := 0) rfl]; exact g0)]
  rw [if_neg (by rw [ltI (k := 0) (n := 0) rfl]; exact g0)]
  by_cases g1 : 3 < p0.toInt
  · rw [if_pos (by rw [gtI (k := 3) (n := 3) rfl]; exact g1)]
  rw [if_neg (by rw [gtI (k := 3) (n := 3) rfl]; exact g1)]
  by_cases g2 : p1.toInt < 0
  · rw [if_pos (by rw [ltI (k := 0) (n := 0) rfl]; exact g2)]
  rw [if_neg (by rw [ltI (k := 0) (n := 0) rfl]; exact g2), if_neg (by rw [leI (k := 120529) (n := 120529) rfl]; omega)]
theorem sh_2 {v v' : Int32} : sh S (w_i (w_i S 215 0 v) 215 0 v') := by
  refine ⟨fun b j q1 _ _ => ?_, rfl⟩
  rw [w_ir, if_neg q1, w_ir, if_neg q1]
theorem rH_2 {v v' : Int32} (h : rH S) : rH (w_i (w_i S 215 0 v) 215 0 v') := sw_rH (sw_t sw_0 sw_0) h
theorem ok_holiday {R : jS → Prop} (hR : rP R) : Ok_holiday R := by
  intro p0 p1 p2 S hv h
  have hr := hR.1 _ h
  by_cases q : 0 ≤ p0.toInt ∧ p0.toInt ≤ 3 ∧ 0 ≤ p1.toInt ∧ p1.toInt ≤ 120529
  · obtain ⟨q0, q1, q2, q3⟩ := q
    obtain ⟨c, ic⟩ : ∃ c : Nat, p0.toInt = c := ⟨p0.toInt.toNat, by omega⟩
    obtain ⟨D, iD⟩ : ∃ D : Nat, p1.toInt = D := ⟨p1.toInt.toNat, by omega⟩
    have hc : c < 4 := by omega
    have hD : D ≤ 120529 := by omega
    obtain ⟨g1, g2, g3, g4⟩ := hr.2.2 c hc
    have ec : (Int32.ofNat c).toInt = c := Int32.toInt_ofNat_of_lt (by omega)
    have hl := g2 D (by omega) (by omega)
    rw [clN ec, Int.toNat_natCast] at hl
    obtain ⟨z5, z1, z2⟩ := fH_pl (d := p1) g1
    have hp := hpl_h z2
    rw [iD] at hp
    have J : F_J_holiday p0 p1 p2 S = if p2 = 0 then J_J_holiday_72 p2 (107 + 2 * c) z5 S else if 0 ≤ z5 then J_J_holiday_72 p2 (107 + 2 * c) z5 S else if S.1 (107 + 2 * c) 1 < 200 then (F_H_insert (107 + 2 * c) (-1 - z5) p1 S).bind (fun z12 => J_J_holiday_72 p2 (107 + 2 * c) z5 z12) else some (.inr 10, S) := by
      unfold F_J_holiday
      rw [fck0 (by simp only [Int32.toInt_toInt64, Int64.reduceToInt]; omega) (by simp only [Int32.toInt_toInt64, Int64.reduceToInt]; omega), jxv_0, fck0 (by simp only [Int32.toInt_toInt64, Int64.reduceToInt]; omega) (by simp only [Int32.toInt_toInt64, Int64.reduceToInt]; omega), jxv_0, j_qi (by omega) (by omega), jl_, clN ic, z1]
      simp only [ob_]
    have n0 : 0 ≤ (S.1 (107 + 2 * c) 1).toInt ∧ (S.1 (107 + 2 * c) 1).toInt ≤ 200 := ⟨g1.1, g1.2.1⟩
    obtain ⟨n, hn⟩ : ∃ n : Nat, (S.1 (107 + 2 * c) 1).toInt = n := ⟨(S.1 (107 + 2 * c) 1).toInt.toNat, by omega⟩
    by_cases hold : hld S (107 + 2 * c) D
    · have z0 := hp.mp hold
      have B := (hl.mp hold).2
      rcases hv with rfl | rfl
      · -- taken out
        rw [if_pos rfl] at J
        obtain ⟨p, p1', p2', p3'⟩ : ∃ p : Nat, z5.toInt = p ∧ (p : Int) < (S.1 (107 + 2 * c) 1).toInt ∧ (S.1 (107 + 2 * c + 1) p).toInt = p1.toInt := by
          rcases z2 with w | ⟨p, w, -⟩
          · exact w
          · omega
        obtain ⟨T, t1, t2, t3, t4, t5, t6⟩ := fH_rm (p0 := z5) (by omega) g1 hn p1' (by omega)
        have j72 : J_J_holiday_72 0 (107 + 2 * c) z5 S = some (.inl (T.1 (107 + 2 * c) 1), T) := by
          unfold J_J_holiday_72
          rw [if_pos rfl, if_neg (by rw [ltI (k := 0) (n := 0) rfl]; omega), t1]
          simp only [ob_]
        have m := fM_hol (Z := T) ic hc iD hD (p2 := 0) (Or.inl rfl)
        rw [t3 (431 + c) (by omega) (by omega), t3 435 (by omega) (by omega), if_neg (fun w => w.1 rfl), if_neg B, if_pos rfl, g3] at m
        obtain ⟨u1, u2⟩ := rH_u (n := S.1 (107 + 2 * c) 1 + -1) (v := 0) hc hD hr t2 t3 t5 (by rw [t4, Int32.sub_eq_add_neg]) (Or.inl rfl) (fun x x1 x2 => by
          rw [t6 x, p3', iD]
          constructor
          · rintro ⟨w1, w2⟩
            exact Or.inl ⟨w2, w1⟩
          · rintro (⟨w1, w2⟩ | ⟨-, w2⟩)
            · exact ⟨w2, w1⟩
            · exact absurd rfl w2)
        exact ⟨_, _, _, J.trans j72, m, hR.2 _ _ h u2 u1, Mf_0 hc, by rw [t4, Int32.sub_eq_add_neg]⟩
      · -- there already
        rw [if_neg (by decide), if_pos (show (0 : Int32) ≤ z5 from Int32.le_iff_toInt_le.mpr (by simp only [Int32.reduceToInt]; omega))] at J
        have B1 : S.1 (431 + c) D = 1 := (g4 D).resolve_left B
        have m := fM_hol (Z := S) ic hc iD hD (p2 := 1) (Or.inr rfl)
        rw [if_neg (fun w => B w.2.1), if_pos B1] at m
        obtain ⟨u1, u2⟩ := rH_u (Z := S) (n := S.1 435 c) (v := 1) hc hD hr rfl (fun _ _ _ => rfl) g1 g3 (Or.inr rfl) (fun x x1 x2 => by
          constructor
          · intro w
            by_cases e : x = D
            · exact Or.inr ⟨e, by decide⟩
            · exact Or.inl ⟨e, w⟩
          · rintro (⟨-, w⟩ | ⟨w, -⟩)
            · exact w
            · rw [w]; exact hold)
        exact ⟨_, _, _, J, m, hR.2 _ _ h u2 u1, Mf_0 hc, g3.symm⟩
    · have z0 : ¬ 0 ≤ z5.toInt := fun w => hold (hp.mpr w)
      have B : S.1 (431 + c) D = 0 := by
        rcases g4 D with w | w
        · exact w
        · exact absurd (hl.mpr ⟨by omega, by rw [w]; decide⟩) hold
      rcases hv with rfl | rfl
      · -- not there
        rw [if_pos rfl] at J
        have j72 : J_J_holiday_72 0 (107 + 2 * c) z5 S = some (.inl (S.1 (107 + 2 * c) 1), S) := by
          unfold J_J_holiday_72
          rw [if_pos rfl, if_pos (by rw [ltI (k := 0) (n := 0) rfl]; omega)]
        have m := fM_hol (Z := S) ic hc iD hD (p2 := 0) (Or.inl rfl)
        rw [if_neg (fun w => w.1 rfl), if_pos B] at m
        obtain ⟨u1, u2⟩ := rH_u (Z := S) (n := S.1 435 c) (v := 0) hc hD hr rfl (fun _ _ _ => rfl) g1 g3 (Or.inl rfl) (fun x x1 x2 => by
          constructor
          · intro w
            exact Or.inl ⟨fun e => hold (by rw [← e]; exact w), w⟩
          · rintro (⟨-, w⟩ | ⟨-, w⟩)
            · exact w
            · exact absurd rfl w)
        exact ⟨_, _, _, J.trans j72, m, hR.2 _ _ h u2 u1, Mf_0 hc, g3.symm⟩
      · rw [if_neg (by decide), if_neg (by rw [geI (k := 0) (n := 0) rfl]; exact z0)] at J
        by_cases full : n < 200
        · -- put in
          rw [if_pos (by rw [ltI (k := 200) (n := 200) rfl]; omega)] at J
          obtain ⟨p, p1', p2', p3', p4'⟩ : ∃ p : Nat, z5.toInt = -1 - p ∧ (p : Int) ≤ (S.1 (107 + 2 * c) 1).toInt ∧ (∀ i, i < p → (S.1 (107 + 2 * c + 1) i).toInt < p1.toInt) ∧ ∀ i : Nat, p ≤ i → (i : Int) < (S.1 (107 + 2 * c) 1).toInt → p1.toInt < (S.1 (107 + 2 * c + 1) i).toInt := by
            rcases z2 with ⟨p, w, -⟩ | w
            · omega
            · exact w
          have ep : (-1 - z5).toInt = (p : Int) := by
            rw [Int32.toInt_sub, p1']
            simp only [Int32.reduceToInt]
            rw [bs32 (by omega) (by omega)]
            omega
          generalize -1 - z5 = w5 at *
          obtain ⟨T, t1, t2, t3, t4, t5, t6⟩ := fH_in (p0 := w5) (d := p1) (by omega) g1 hn full ep (by omega) p3' (fun i a1 a2 => p4' i a1 (by omega))
          rw [t1] at J
          simp only [ob_] at J
          have j72 : J_J_holiday_72 1 (107 + 2 * c) z5 T = some (.inl (T.1 (107 + 2 * c) 1), T) := by
            unfold J_J_holiday_72
            rw [if_neg (by decide)]
          have m := fM_hol (Z := T) ic hc iD hD (p2 := 1) (Or.inr rfl)
          rw [t3 (431 + c) (by omega) (by omega), t3 435 (by omega) (by omega), if_neg (fun w => by
            have := w.2.2
            rw [g3] at this
            rw [this] at hn
            simp only [Int32.reduceToInt] at hn
            omega), if_neg (by rw [B]; decide), if_neg (by decide), g3] at m
          obtain ⟨u1, u2⟩ := rH_u (n := S.1 (107 + 2 * c) 1 + 1) (v := 1) hc hD hr t2 t3 t5 (by rw [t4]) (Or.inr rfl) (fun x x1 x2 => by
            rw [t6 x, iD]
            constructor
            · rintro (w | w)
              · exact Or.inl ⟨fun e => hold (by rw [← e]; exact w), w⟩
              · exact Or.inr ⟨w, by decide⟩
            · rintro (⟨-, w⟩ | ⟨w, -⟩)
              · exact Or.inl w
              · exact Or.inr w)
          exact ⟨_, _, _, J.trans j72, m, hR.2 _ _ h u2 u1, Mf_0 hc, by rw [t4]⟩
        · -- full
          rw [if_neg (by rw [ltI (k := 200) (n := 200) rfl]; omega)] at J
          have m := fM_hol (Z := S) ic hc iD hD (p2 := 1) (Or.inr rfl)
          rw [if_pos ⟨by decide, B, by rw [g3]; exact eqI.mpr (by rw [hn]; simp only [Int32.reduceToInt]; omega)⟩] at m
          refine ⟨_, _, _, J, m, hR.2 _ _ h sh_2 (rH_2 hr), ?_⟩
          show (10, (w_i (w_i S 215 0 0) 215 0 2).1 215 0) ∈ _
          rw [w_ir, if_pos ⟨rfl, rfl⟩]
          exact List.mem_cons_of_mem _ List.mem_cons_self
  · refine ⟨(.inr 11, S), 0, w_i (w_i S 215 0 0) 215 0 1, ?_, fM_hbad q, hR.2 _ _ h sh_2 (rH_2 hr), ?_⟩
    · unfold F_J_holiday
      by_cases g0 : 0 ≤ p0.toInt ∧ p0.toInt ≤ 3
      · rw [fck0 (by simp only [Int32.toInt_toInt64, Int64.reduceToInt]; omega) (by simp only [Int32.toInt_toInt64, Int64.reduceToInt]; omega), jxv_0, fck1 (by simp only [Int32.toInt_toInt64, Int64.reduceToInt]; omega), jxv_1]
      · rw [fck1 (by simp only [Int32.toInt_toInt64, Int64.reduceToInt]; omega), jxv_1]
    · show (11, (w_i (w_i S 215 0 0) 215 0 1).1 215 0) ∈ _
      rw [w_ir, if_pos ⟨rfl, rfl⟩]
      exact List.mem_cons_self
end JQ_4
