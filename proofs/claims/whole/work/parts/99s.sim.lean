section JV_3
variable {S T U C M Y D : jS} {A A' : Nat → Nat → Int} {b j i k n x y c f g : Nat} {p0 x5 : Int32} {p1 x3 : Int64}
/-- what the model does when its work is done -/
noncomputable def kA (f : Nat) (x3 : Int64) (z : Int32 × jS) : Option (Int32 × jS) := if z.1 = 0 then some (z.2.1 215 49, z.2) else L_M_advance_65 (L_M_advance_50 f) ju_ x3 (x3 + 1) 0 z.2
theorem kA_50 : L_M_advance_50 (f + 1) x3 M = (L_M_work_0 ju_ M).bind (kA f x3) := by
  conv => lhs; unfold L_M_advance_50
  unfold F_M_work
  refine congrArg (Option.bind _) (funext fun z => ?_)
  unfold kA
  rw [jl_]
/-- both sides come to one end -/
def Rz (B : Int) (C M : jS) (u : Option ((Int32 ⊕ Nat) × jS)) (m : Option (Int32 × jS)) : Prop := ∃ v C' M' A', u = some (.inl v, C') ∧ m = some (v, M') ∧ cA C' A' ∧ mA M' A' ∧ iA (B + A' 100 2) A' ∧ fc C C' ∧ fm M M' ∧ rZ C'
theorem Rz_t {B : Int} {u : Option ((Int32 ⊕ Nat) × jS)} {m : Option (Int32 × jS)} (h : Rz B D Y u m) (h1 : fc C D) (h2 : fm M Y) : Rz B C M u m := by
  obtain ⟨v, C', M', A', e1, e2, e3, e4, e5, e6, e7, e8⟩ := h
  exact ⟨v, C', M', A', e1, e2, e3, e4, e5, fc_t h1 e6, fm_t h2 e7, e8⟩
theorem sv_fr (h : sv C M) (h1 : fc C D) (h2 : fm M Y) : sv D Y := sv_t (sv_s (fc_v h1)) (sv_t h (fm_v h2))
/-- the log is full: both sides end -/
theorem sim_F {B : Int} (h : cA C A) (hm : mA M A) (hI : iA (B + A 100 2) A) (hz : rZ C) (hE : ∀ j, ¬ aE A j) (h5 : A 100 2 = 500) (hx : x5.toInt < 100000) {kt : jS → Option (Int32 × jS)} {f' : Nat} : Rz B C M (L_J_advance_23 (f + 1) x3 x5 C) ((J_M_work_207 kt M).bind (kA f' x3)) := by
  have g3 := (cg2 h.1)
  have g9 := (mg2 hm)
  refine ⟨C.1 47 3, C, M, A, cl_F h hE h5 hx, ?_, h, hm, hI, fc_r, fm_r, hz⟩
  unfold J_M_work_207
  rw [if_pos (eqI.mpr (by rw [g9, h5]; rfl)), ob_]
  unfold kA
  rw [if_pos rfl]
  show some (M.1 215 49, M) = _
  rw [show M.1 215 49 = C.1 47 3 from eqI.mpr (by rw [g9, g3])]
theorem w207 (hm : mA M A) (h5 : A 100 2 < 500) {kt : jS → Option (Int32 × jS)} : J_M_work_207 kt M = kt M := by
  have g9 := (mg2 hm)
  unfold J_M_work_207
  rw [if_neg (fun w => by have := eqI.mp w; rw [g9] at this; simp only [Int32.reduceToInt] at this; omega)]
/-- what is to be shown of both loops -/
def Sm (B : Int) (x3 : Int64) (n : Nat) : Prop := ∀ (C M : jS) (A : Nat → Nat → Int), pS A = n → cA C A → mA M A → iA (B + A 100 2) A → rZ C → rC C → rH C → sv C M → A 100 0 ≤ x3.toInt → A 100 2 < 500 → ∀ (f g f' : Nat) (x5 : Int32), n < f → 0 ≤ x5.toInt → x5.toInt + n < 100000 → n < g → n < f' → Rz B C M (L_J_advance_23 f x3 x5 C) ((L_M_work_0 g M).bind (kA f' x3)) ∧ ((∀ j, ¬ aE A j) → Rz B C M (L_J_advance_23 f x3 x5 C) ((L_M_work_77 g M).bind (kA f' x3)))
/-- nothing to do now: the clocks are set -/
theorem sim_N {B : Int} (hx3 : x3.toInt ≤ 10413791999999) (ih : ∀ m, m < n → Sm B x3 m) (hn : pS A = n) (h : cA C A) (hm : mA M A) (hI : iA (B + A 100 2) A) (hz : rZ C) (hc : rC C) (hh : rH C) (hv : sv C M) (ht : A 100 0 ≤ x3.toInt) (h5 : A 100 2 < 500) (hE : ∀ j, ¬ aE A j) (hq : A 100 1 ≤ cN A 1 100 ∨ ∀ j, ¬ aD A j) {f' : Nat} (hx : 0 ≤ x5.toInt) (hx5 : x5.toInt + n < 100000) (hf : n < f + 1) (hf' : n < f') : Rz B C M (L_J_advance_23 (f + 1) x3 x5 C) (kA f' x3 (1, M)) := by
  have I3 := hI.2.2.1
  have e1 : (x3 + 1).toInt = x3.toInt + 1 := adL rfl rfl (by omega) (by omega)
  obtain ⟨tm, m1, m2⟩ := lM_a65 (L := x3.toInt + 1) (x3 := x3) (kt := L_M_advance_50 f') hm ju_ (x3 + 1) 0 0 rfl (by omega) (by show _ < 1000000; omega) ⟨by omega, fun j hj => by omega, fun j hj => by omega, Or.inl e1⟩
  obtain ⟨tc, v0, c1, c2, c3, c4, c5⟩ := cl_N (x3 := x3) (x5 := x5) (f := f) h hI hE h5 (by omega) hq
  obtain ⟨n1, n2, n3, n4⟩ := m1
  have run : ∀ j, j < 100 → 2 ≤ A j 0 → A 100 0 < A j 5 := fun j hj q => by
    have := hE j
    unfold aE at this
    omega
  have mc : tm.toInt ≤ tc.toInt := by
    rcases c4 with q | ⟨j, j1, j2, j3⟩
    · rcases c5 with ⟨-, w⟩ | ⟨-, w, -⟩ | ⟨j, -, ⟨j1, j2⟩, j3, j4, -⟩
      · omega
      · omega
      · have := n3 j j1 j2 j3
        omega
    · have := n2 j j1 j2 (run j j1 j2)
      omega
  have ek : kA f' x3 (1, M) = if tm ≤ x3 then L_M_advance_50 f' x3 (w_l M 215 41 tm) else some (M.1 215 49, w_l M 215 41 x3) := by
    unfold kA
    rw [if_neg (show ¬ (1 : Int32) = 0 by decide)]
    exact m2
  by_cases q : tm.toInt ≤ x3.toInt
  · rw [ek, if_pos (Int64.le_iff_toInt_le.mpr q)]
    obtain ⟨j, j1, j2⟩ : ∃ j, j < 100 ∧ ((2 ≤ A j 0 ∧ A 100 0 < A j 5 ∧ tm.toInt = A j 5) ∨ (A j 0 = 1 ∧ A 100 0 < A j 4 ∧ tm.toInt = A j 4)) := by
      rcases n4 with w | w
      · omega
      · exact w
    have lt : A 100 0 ≤ tm.toInt := by omega
    have p1 := pS_clk (A := A) (t := tm.toInt) lt j1 (by omega)
    have a0 : up A 100 0 tm.toInt 100 0 = tm.toInt := by rw [up_r, if_pos ⟨rfl, rfl⟩]
    have a2 : up A 100 0 tm.toInt 100 2 = A 100 2 := by rw [up_r, if_neg (by omega)]
    have k1 := cA_clk (v := tm) (t := tm.toInt) h rfl
    have k2 : mA (w_l M 215 41 tm) (up A 100 0 tm.toInt) := ma_l hm (by unfold blP; omega) rfl
    have k3 : iA (B + up A 100 0 tm.toInt 100 2) (up A 100 0 tm.toInt) := by
      rw [a2]
      exact iA_clk hI lt (by omega)
    have fC : f0 C (w_l C 24 8 tm) := f0_l f0_r (by unfold jr; omega)
    have fM : fm M (w_l M 215 41 tm) := fm_l fm_r (by omega)
    obtain ⟨f'', rfl⟩ : ∃ k, f' = k + 1 := ⟨f' - 1, by omega⟩
    rw [kA_50]
    refine Rz_t ?_ (f0_c fC) fM
    have I := fun (ff : Nat) (y5 : Int32) (w1 : n ≤ ff) (w2 : 0 ≤ y5.toInt) (w3 : y5.toInt + (n : Int) ≤ 100000) => (ih _ (by omega : pS (up A 100 0 tm.toInt) < n) (w_l C 24 8 tm) (w_l M 215 41 tm) _ rfl k1 k2 k3 (f0_z fC hz) (sv_rC (fc_v (f0_c fC)) hc) (sv_rH (fc_v (f0_c fC)) hh) (sv_fr hv (f0_c fC) fM) (by rw [a0]; exact q) (by rw [a2]; exact h5) ff ju_ f'' y5 (by omega) w2 (by omega) (by show _ < 1000000; omega) (by omega)).1
    by_cases e : tc.toInt = tm.toInt
    · have e' : tc = tm := eqL.mpr e
      rw [c1, if_pos (Int64.le_iff_toInt_le.mpr (by omega)), e']
      have x6 : (x5 + 1).toInt = x5.toInt + 1 := adJ rfl rfl (by omega) (by omega)
      generalize x5 + 1 = y5 at *
      exact I f y5 (by omega) (by omega) (by omega)
    · have wk : A 100 1 ≤ cN A 1 100 ∧ v0 = 1152921504606846976 := by
        rcases c5 with w | ⟨-, w1, w2⟩ | ⟨i, -, i1, i2, i3, i4⟩
        · exact w
        · exfalso
          rcases j2 with ⟨q1, q2, q3⟩ | ⟨q1, q2, q3⟩
          · have := c3 j j1 q1; omega
          · exact w2 j ⟨j1, q1⟩
        · exfalso
          rcases j2 with ⟨q1, q2, q3⟩ | ⟨q1, q2, q3⟩
          · have := c3 j j1 q1; omega
          · have := i4 j ⟨j1, q1⟩; omega
      have ag : ∀ i, i < 100 → ∀ k, up A 100 0 tm.toInt i k = A i k := fun i hi k => by rw [up_r, if_neg (by omega)]
      have a1 : up A 100 0 tm.toInt 100 1 = A 100 1 := by rw [up_r, if_neg (by omega)]
      have cn : cN (up A 100 0 tm.toInt) 1 100 = cN A 1 100 := cN_e 100 (fun j hj => by rw [ag j hj])
      have nE : ∀ j, ¬ aE (up A 100 0 tm.toInt) j := by
        intro j w
        obtain ⟨w1, w2, w3⟩ := w
        rw [ag j w1] at w2 w3
        rw [a0] at w3
        have := c3 j w1 w2
        omega
      obtain ⟨tc', v0', d1, d2, d3, d4, d5⟩ := cl_N (x3 := x3) (x5 := x5) (f := f) k1 k3 nE (by rw [a2]; exact h5) (by omega) (Or.inl (by rw [a1, cn]; exact wk.1))
      have v0e : v0' = v0 := by
        rcases d5 with ⟨-, w⟩ | ⟨w, -⟩ | ⟨i, w, -⟩
        · rw [w, wk.2]
        · rw [a1, cn] at w; have := wk.1; omega
        · rw [a1, cn] at w; have := wk.1; omega
      have d3' : ∀ j, j < 100 → 2 ≤ A j 0 → tc'.toInt ≤ A j 5 := fun j hj w => by
        have := d3 j hj (by rw [ag j hj]; exact w)
        rw [ag j hj] at this
        exact this
      have et : tc' = tc := by
        refine eqL.mpr ?_
        rcases d4 with w | ⟨i, i1, i2, i3⟩
        · rcases c4 with u | ⟨k, k1, k2, k3⟩
          · omega
          · have := d3' k k1 k2; omega
        · rw [ag i i1] at i2 i3
          rcases c4 with u | ⟨k, k1, k2, k3⟩
          · have := c3 i i1 i2; omega
          · have := d3' k k1 k2
            have := c3 i i1 i2
            omega
      have ec : L_J_advance_23 (f + 1) x3 x5 C = L_J_advance_23 (f + 1) x3 x5 (w_l C 24 8 tm) := by
        rw [c1, d1, et, w_l2, w_l2]
        rfl
      rw [ec]
      exact I (f + 1) x5 (by omega) hx (by omega)
  · have tx : ¬ tc ≤ x3 := fun w => by have := Int64.le_iff_toInt_le.mp w; omega
    rw [ek, if_neg (fun w => q (Int64.le_iff_toInt_le.mp w)), c1, if_neg tx]
    have g3 := (cg2 h.1)
    have g9 := (mg2 hm)
    have a2 : up A 100 0 x3.toInt 100 2 = A 100 2 := by rw [up_r, if_neg (by omega)]
    refine ⟨C.1 47 3, w_l C 24 8 x3, w_l M 215 41 x3, up A 100 0 x3.toInt, rfl, ?_, cA_clk h rfl, ma_l hm (b := 215) (j := 41) (x := 100) (y := 0) (by unfold blP; omega) rfl, ?_, f0_c (f0_l f0_r (by unfold jr; omega)), fm_l fm_r (by omega), f0_z (f0_l f0_r (by unfold jr; omega)) hz⟩
    · rw [show M.1 215 49 = C.1 47 3 from eqI.mpr (by rw [g9, g3])]
    · rw [a2]
      exact iA_clk hI ht hx3
/-- both loops come to one end -/
theorem sim_ {B : Int} (hB0 : 0 ≤ B) (hB : B < 1900000000) (hx3 : x3.toInt ≤ 10413791999999) (n : Nat) : Sm B x3 n := by
  induction n using Nat.strongRecOn with
  | _ n ih =>
    intro C M A hn h hm hI hz hc hh hv ht h5 f g f' x5 hf hx hx5 hg hf'
    have x6 : (x5 + 1).toInt = x5.toInt + 1 := adJ rfl rfl (by omega) (by omega)
    obtain ⟨f, rfl⟩ : ∃ k, f = k + 1 := ⟨f - 1, by omega⟩
    obtain ⟨g, rfl⟩ : ∃ k, g = k + 1 := ⟨g - 1, by omega⟩
    have hD : ∀ g : Nat, n < g + 1 → (∀ j, ¬ aE A j) → Rz B C M (L_J_advance_23 (f + 1) x3 x5 C) ((L_M_work_77 (g + 1) M).bind (kA f' x3)) := by
      intro g hg hE
      by_cases q : A 100 1 ≤ cN A 1 100 ∨ ∀ j, ¬ aD A j
      · rw [ml_N hm q, ob_]
        exact sim_N hx3 ih hn h hm hI hz hc hh hv ht h5 hE q hx hx5 hf hf'
      · have qw : cN A 1 100 < A 100 1 := by
          have := fun w => q (Or.inl w)
          omega
        have qd : ¬ ∀ j, ¬ aD A j := fun w => q (Or.inr w)
        obtain ⟨r, r1, r2⟩ := fJ_fp h
        obtain ⟨r', s1, s2⟩ := fM_fi hm
        rcases aH_d hI r2 s2 with ⟨j, j1, j2, j3⟩ | ⟨-, w, -⟩
        · have I5 := hI.2.2.2.2.1
          have hd := j3
          obtain ⟨dj, d0, d4⟩ := j3
          obtain ⟨C', c1, c2, c3⟩ := cl_B (x3 := x3) (x5 := x5) (f := f) h hI (by omega) hE h5 qw (by omega) r1 j1 hd
          obtain ⟨M', m1, m2, m3⟩ := ml_B (g := g) hm hI (by omega) h5 qw s1 j2 hd
          obtain ⟨b2, b3, bg⟩ := aBeg_g (A := A) dj
          obtain ⟨y0, y3, y5, yo⟩ := aBeg_j (A := A) dj
          have p1 := pS_beg hd (by omega) h5
          have i1 : iA (B + aBeg A j 100 2) (aBeg A j) := by
            rw [b2, ← Int.add_assoc]
            exact iA_beg hI hd h5
          have fC := f0_c c3
          have z1 := f0_z c3 hz
          have v1 := sv_rC (fc_v fC) hc
          have v2 := sv_rH (fc_v fC) hh
          have v3 := sv_fr hv fC m3
          have bc := bg 0 (by omega) (by omega)
          have other : ∀ i, i ≠ j → ¬ aE (aBeg A j) i := by
            intro i hi w
            obtain ⟨w1, w2, w3⟩ := w
            rw [aBeg_n dj w1 hi] at w2 w3
            rw [bc] at w3
            exact hE i ⟨w1, w2, w3⟩
          rw [c1, m1]
          generalize x5 + 1 = z5 at *
          by_cases d7 : A j 7 = 0
          · rw [if_pos d7]
            have eE : aEm (aBeg A j) j := by
              refine ⟨⟨dj, by rw [y0]; omega, by rw [y5, bc]; omega⟩, fun i w => ?_⟩
              by_cases e : i = j
              · rw [e]; omega
              · exact absurd w (other i e)
            obtain ⟨f, rfl⟩ : ∃ k, f = k + 1 := ⟨f - 1, by omega⟩
            obtain ⟨v, C2, e1, e2, e3, e4, e5⟩ := cl_E (x3 := x3) (x5 := z5) (f := f) (p0 := r') c2 i1 z1 v1 v2 eE j2 (by omega)
            obtain ⟨M2, t1, t2, t3⟩ := e5 M' v3 m2
            have p2 := pS_fre (r := v) eE.1
            have i2 : iA (B + aFre (aBeg A j) j v 100 2) (aFre (aBeg A j) j v) := by
              rw [aFre_n (by omega)]
              exact iA_fre i1 dj (by rw [y0]; omega)
            have nE : ∀ i, ¬ aE (aFre (aBeg A j) j v) i := by
              intro i w
              obtain ⟨w1, w2, w3⟩ := w
              by_cases e : i = j
              · subst e
                rcases aFre_j (A := aBeg A i) (j := i) (r := v) with ⟨-, -, u, -⟩ | ⟨-, u, -⟩ <;> omega
              · rw [aFre_n e] at w2 w3
                rw [aFre_n (by omega)] at w3
                exact other i e ⟨w1, w2, w3⟩
            have z6 : (z5 + 1).toInt = z5.toInt + 1 := adJ rfl rfl (by omega) (by omega)
            have s2e : aFre (aBeg A j) j v 100 2 = A 100 2 + 1 := by rw [aFre_n (by omega), b2]
            have s0e : aFre (aBeg A j) j v 100 0 = A 100 0 := by rw [aFre_n (by omega), bc]
            rw [e1, t1, ob_]
            generalize z5 + 1 = u5 at *
            refine Rz_t ?_ (fc_t fC e3) (fm_t m3 t3)
            obtain ⟨f, rfl⟩ : ∃ k, f = k + 1 := ⟨f - 1, by omega⟩
            by_cases full : A 100 2 + 1 = 500
            · exact sim_F e2 t2 i2 e4 nE (by omega) (by omega)
            · rw [w207 t2 (by omega)]
              exact (ih _ (by omega : pS (aFre (aBeg A j) j v) < n) C2 M2 _ rfl e2 t2 i2 e4 (sv_rC (fc_v e3) v1) (sv_rH (fc_v e3) v2) (sv_fr v3 e3 t3) (by omega) (by omega) (f + 1) g f' u5 (by omega) (by omega) (by omega) (by omega) (by omega)).2 nE
          · rw [if_neg d7]
            have J7 := (((hI.1 j dj).2.2 (by omega)).2.2.2.2.1)
            have nE : ∀ i, ¬ aE (aBeg A j) i := by
              intro i w
              by_cases e : i = j
              · subst e
                have := w.2.2
                rw [y5, bc] at this
                omega
              · exact other i e w
            refine Rz_t ?_ fC m3
            obtain ⟨f, rfl⟩ : ∃ k, f = k + 1 := ⟨f - 1, by omega⟩
            by_cases full : A 100 2 + 1 = 500
            · exact sim_F c2 m2 i1 z1 nE (by omega) (by omega)
            · rw [w207 m2 (by omega)]
              exact (ih _ (by omega : pS (aBeg A j) < n) C' M' _ rfl c2 m2 i1 z1 v1 v2 v3 (by omega) (by omega) (f + 1) g f' z5 (by omega) (by omega) (by omega) (by omega) (by omega)).2 nE
        · exact absurd w qd
    refine ⟨?_, hD g hg⟩
    rcases fM_w0 (g := g) hm with ⟨r, j, j1, j2, e⟩ | ⟨hE, e⟩
    · obtain ⟨v, C2, e1, e2, e3, e4, e5⟩ := cl_E (x3 := x3) (x5 := x5) (f := f) (p0 := r) h hI hz hc hh j2 j1 (by omega)
      obtain ⟨M2, t1, t2, t3⟩ := e5 M hv hm
      have p2 := pS_fre (r := v) j2.1
      have dj := j2.1.1
      have g2 : aFre A j v 100 2 = A 100 2 := aFre_n (by omega) 2
      have g0 : aFre A j v 100 0 = A 100 0 := aFre_n (by omega) 0
      have i2 : iA (B + aFre A j v 100 2) (aFre A j v) := by
        rw [g2]
        exact iA_fre hI dj (by have := j2.1.2.1; omega)
      rw [e1, e, t1, ob_]
      generalize x5 + 1 = z5 at *
      refine Rz_t ?_ e3 t3
      exact (ih _ (by omega : pS (aFre A j v) < n) C2 M2 _ rfl e2 t2 i2 e4 (sv_rC (fc_v e3) hc) (sv_rH (fc_v e3) hh) (sv_fr hv e3 t3) (by omega) (by omega) f g f' z5 (by omega) (by omega) (by omega) (by omega) (by omega)).1
    · rw [e, show ju_ = 999999 + 1 from rfl]
      exact hD 999999 (by have := pS_b (A := A); omega) hE
end JV_3
