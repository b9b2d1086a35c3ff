section JZ_3
variable {S T C C' M M' D : jS} {n p s f a u u0 st L : Nat} {c e x1 x2 x4 x6 x7 x8 x9 : Int32}
/-- least and most, as numbers -/
def lo_ (f : Nat) : Nat := (jx_LEAST f).toInt.toNat
def hi_ (f : Nat) : Nat := (jx_MOSTS f).toInt.toNat
theorem lhN (hf : f < 7) : (jx_LEAST f).toInt = lo_ f ∧ (jx_MOSTS f).toInt = hi_ f ∧ lo_ f ≤ hi_ f ∧ hi_ f ≤ 2299 ∧ hi_ f - lo_ f < 330 := by
  rcases (by omega : f = 0 ∨ f = 1 ∨ f = 2 ∨ f = 3 ∨ f = 4 ∨ f = 5 ∨ f = 6) with rfl | rfl | rfl | rfl | rfl | rfl | rfl <;> decide
theorem lh6 : lo_ 6 = 1970 ∧ hi_ 6 = 2299 := by decide
theorem lh63 (hf : f < 6) : hi_ f ≤ 59 := by
  rcases (by omega : f = 0 ∨ f = 1 ∨ f = 2 ∨ f = 3 ∨ f = 4 ∨ f = 5) with rfl | rfl | rfl | rfl | rfl | rfl <;> decide
/-- where a value of a field stands in the class's sets -/
def wd (f u : Nat) : Nat := if f = 6 then 6 + (u - 1970) / 64 else f
def bi (f u : Nat) : Nat := if f = 6 then (u - 1970) % 64 else u
/-- what reading a cron writes in the class -/
def FX (a : Nat) (C C' : jS) : Prop := (∀ b j, ¬ (b = 25 ∧ (j = 2 ∨ j = 3)) → b ≠ a → C'.1 b j = C.1 b j) ∧ (∀ b j, b ≠ a + 1 → C'.2.1 b j = C.2.1 b j) ∧ C'.2.2 = C.2.2
theorem FX_r : FX a C C := ⟨fun _ _ _ _ => rfl, fun _ _ _ => rfl, rfl⟩
theorem FX_t (h1 : FX a C C') (h2 : FX a C' D) : FX a C D := ⟨fun b j q r => (h2.1 b j q r).trans (h1.1 b j q r), fun b j q => (h2.2.1 b j q).trans (h1.2.1 b j q), h2.2.2.trans h1.2.2⟩
theorem FX_T (h : fT C C') : FX a C C' := ⟨fun b j q _ => h.1 b j q, fun b j _ => by rw [h.2], by rw [h.2]⟩
theorem FX_i {j : Nat} {v : Int32} : FX a C (w_i C a j v) := ⟨fun b i q r => by rw [w_ir, if_neg (by omega)], fun b j _ => rfl, rfl⟩
/-- the class adds one value -/
theorem fC_add {v : Int32} (hx : x1.toInt = f) (hf : f < 7) (hv : v.toInt = u) (h1 : lo_ f ≤ u) (h2 : u ≤ hi_ f) : ∃ C', F_C_add a x1 v C = some C' ∧ C'.1 = C.1 ∧ FX a C C' ∧ ∀ w i, bt (C'.2.1 (a + 1) w) i = true ↔ (bt (C.2.1 (a + 1) w) i = true ∨ (w = wd f u ∧ i = bi f u)) := by
  have fr : ∀ w x, FX a C (w_l C (a + 1) w x) := fun w x => ⟨fun b j _ _ => rfl, fun b j q => by rw [w_lr, if_neg (by omega)], rfl⟩
  have set : ∀ (w0 : Nat) (l : Int32) (k : Nat), l.toInt = k → k < 64 → ∀ w i, bt ((w_l C (a + 1) w0 (C.2.1 (a + 1) w0 ||| ((1 : Int64) <<< (l.toInt64 &&& 63)))).2.1 (a + 1) w) i = true ↔ (bt (C.2.1 (a + 1) w) i = true ∨ (w = w0 ∧ i = k)) := by
    intro w0 l k hl hk w i
    rw [w_lr]
    by_cases e : w = w0
    · subst e
      rw [if_pos ⟨rfl, rfl⟩, bt_or, bt_1s hl hk]
      simp
    · rw [if_neg (fun q => e q.2)]
      exact ⟨fun q => Or.inl q, fun q => q.elim id (fun q => absurd q.1 e)⟩
  unfold F_C_add
  by_cases q : f = 6
  · subst q
    obtain ⟨l1, l2⟩ := lh6
    have e6 : x1 = 6 := eqI.mpr (by rw [hx]; rfl)
    have ev : (v - 1970).toInt = ((u - 1970 : Nat) : Int) := by
      rw [suJ hv (b := 1970) rfl (by omega) (by omega)]; omega
    have ed : ((v - 1970) / 64).toInt = (((u - 1970) / 64 : Nat) : Int) := by
      rw [Int32.toInt_div, ev]
      simp only [Int32.reduceToInt]
      rw [Int.tdiv_eq_ediv_of_nonneg (by omega), bs32 (by omega) (by omega)]
      omega
    have e12 : (6 + (v - 1970) / 64).toInt = ((6 + (u - 1970) / 64 : Nat) : Int) := adN (a := 6) rfl ed (by omega)
    have em : (v - 1970 - (v - 1970) / 64 * 64).toInt = (((u - 1970) % 64 : Nat) : Int) := by
      have : ((v - 1970) / 64 * 64).toInt = (((u - 1970) / 64 * 64 : Nat) : Int) := by
        rw [Int32.toInt_mul, ed]
        simp only [Int32.reduceToInt]
        rw [bs32 (by omega) (by omega)]
        omega
      rw [suJ ev this (by omega) (by omega)]
      omega
    rw [if_pos e6, jl_, j_qN e12 (by omega), j_qN e12 (by omega), jl_, clN e12]
    refine ⟨_, rfl, rfl, fr _ _, ?_⟩
    have hw : wd 6 u = 6 + (u - 1970) / 64 := by unfold wd; rw [if_pos rfl]
    have hb : bi 6 u = (u - 1970) % 64 := by unfold bi; rw [if_pos rfl]
    rw [hw, hb]
    exact set _ _ _ em (by omega)
  · have n6 : ¬ x1 = 6 := fun w => q (by rw [w] at hx; simp only [Int32.reduceToInt] at hx; omega)
    have := lh63 (f := f) (by omega)
    rw [if_neg n6, j_qN hx (by omega), j_qN hx (by omega), jl_, clN hx]
    refine ⟨_, rfl, rfl, fr _ _, ?_⟩
    have hw : wd f u = f := by unfold wd; rw [if_neg q]
    have hb : bi f u = u := by unfold bi; rw [if_neg q]
    rw [hw, hb]
    exact set _ _ _ hv (by omega)
/-- the steps that are taken -/
def of_ (st L : Nat) : Nat → Nat → Nat → Prop
  | 0, _, _ => False
  | f + 1, s, t => s ≤ L ∧ (t = s ∨ of_ st L f (s + st) t)
theorem of_b : ∀ (g s t : Nat), of_ st L g s t → s ≤ t ∧ t ≤ L := by
  intro g
  induction g with
  | zero => intro s t h; exact h.elim
  | succ g ih =>
    intro s t h
    obtain ⟨h1, h2⟩ := h
    rcases h2 with h2 | h2
    · omega
    · have := ih _ _ h2; omega
/-- the value at a step -/
def vl (f u0 t : Nat) : Nat := if u0 + t ≤ hi_ f then u0 + t else u0 + t - (hi_ f - lo_ f + 1)
theorem vl_b (hf : f < 7) (h1 : lo_ f ≤ u0) (h2 : u0 ≤ hi_ f) (hL : L ≤ hi_ f - lo_ f) {t : Nat} (ht : t ≤ L) : lo_ f ≤ vl f u0 t ∧ vl f u0 t ≤ hi_ f := by
  have := (lhN hf).2.2.1
  unfold vl
  split <;> omega
theorem lC_as (hx : x1.toInt = f) (hf : f < 7) (h2 : x2.toInt = u0) (b1 : lo_ f ≤ u0) (b2 : u0 ≤ hi_ f) (h4 : x4.toInt = st) (s1 : 1 ≤ st) (s2 : st ≤ 99) (h6 : x6.toInt = hi_ f) (h7 : x7.toInt = ((hi_ f - lo_ f + 1 : Nat) : Int)) (h8 : x8.toInt = L) (hL : L ≤ hi_ f - lo_ f) : ∀ (g : Nat) (x9 : Int32) (s : Nat) (C : jS), x9.toInt = s → s ≤ 500 → L + 1 - s < g → ∃ C', L_CR_addSome_43 g a x1 x2 x4 x6 x7 x8 x9 C = some C' ∧ C'.1 = C.1 ∧ FX a C C' ∧ ∀ w i, bt (C'.2.1 (a + 1) w) i = true ↔ (bt (C.2.1 (a + 1) w) i = true ∨ ∃ t, of_ st L g s t ∧ w = wd f (vl f u0 t) ∧ i = bi f (vl f u0 t)) := by
  obtain ⟨l1, l2, l3, l4, l5⟩ := lhN hf
  intro g
  induction g with
  | zero => intro x9 s C _ _ q; omega
  | succ g ih =>
    intro x9 s C h9 hs hg
    unfold L_CR_addSome_43
    by_cases q : L < s
    · rw [if_pos (Int32.lt_iff_toInt_lt.mpr (by rw [h8, h9]; omega))]
      refine ⟨C, rfl, rfl, FX_r, fun w i => ⟨fun v => Or.inl v, fun v => v.elim id (fun ⟨t, t1, _⟩ => ?_)⟩⟩
      have := t1.1
      omega
    · rw [if_neg (fun w => by have := Int32.lt_iff_toInt_lt.mp w; rw [h8, h9] at this; omega), jl_]
      have e7 : (x2 + x9).toInt = ((u0 + s : Nat) : Int) := adN h2 h9 (by omega)
      have mx : ∀ Z : jS, F_Math_max x4 1 Z = some x4 := by
        intro Z
        unfold F_Math_max
        rw [if_neg (by rw [ltI (k := 1) (n := 1) rfl]; omega)]
      have bv := vl_b (t := s) hf b1 b2 hL (by omega)
      -- one value and on
      have one : ∀ v : Int32, v.toInt = vl f u0 s → ∃ C', J_CR_addSome_75 (L_CR_addSome_43 g) a x1 x2 x4 x6 x7 x8 x9 v x1 a C = some C' ∧ C'.1 = C.1 ∧ FX a C C' ∧ ∀ w i, bt (C'.2.1 (a + 1) w) i = true ↔ (bt (C.2.1 (a + 1) w) i = true ∨ ∃ t, of_ st L (g + 1) s t ∧ w = wd f (vl f u0 t) ∧ i = bi f (vl f u0 t)) := by
        intro v hv
        obtain ⟨D, d1, d2, d3, d4⟩ := fC_add (a := a) (C := C) hx hf hv bv.1 bv.2
        obtain ⟨C', c1, c2, c3, c4⟩ := ih (x9 + x4) (s + st) D (adN h9 h4 (by omega)) (by omega) (by omega)
        refine ⟨C', ?_, by rw [c2, d2], FX_t d3 c3, fun w i => ?_⟩
        · unfold J_CR_addSome_75
          rw [d1, ob_, mx, ob_, jl_, c1]
        · rw [c4, d4]
          constructor
          · rintro ((v | ⟨v1, v2⟩) | ⟨t, t1, t2⟩)
            · exact Or.inl v
            · exact Or.inr ⟨s, ⟨by omega, Or.inl rfl⟩, v1, v2⟩
            · exact Or.inr ⟨t, ⟨by omega, Or.inr t1⟩, t2⟩
          · rintro (v | ⟨t, ⟨-, t1⟩, t2⟩)
            · exact Or.inl (Or.inl v)
            · rcases t1 with t1 | t1
              · subst t1; exact Or.inl (Or.inr t2)
              · exact Or.inr ⟨t, t1, t2⟩
      by_cases w : u0 + s ≤ hi_ f
      · rw [if_pos (Int32.le_iff_toInt_le.mpr (by rw [e7, h6]; omega))]
        refine one _ ?_
        rw [e7]
        unfold vl
        rw [if_pos w]
      · rw [if_neg (fun v => w (by have := Int32.le_iff_toInt_le.mp v; rw [e7, h6] at this; omega))]
        refine one _ ?_
        rw [suJ e7 h7 (by omega) (by omega)]
        unfold vl
        rw [if_neg w]
        omega
/-- the class adds from .. to, by steps -/
theorem fC_as {p1 p2 p3 : Int32} {u1 : Nat} (hx : x1.toInt = f) (hf : f < 7) (h1 : p1.toInt = u0) (b1 : lo_ f ≤ u0) (b2 : u0 ≤ hi_ f) (h2 : p2.toInt = u1) (b3 : lo_ f ≤ u1) (b4 : u1 ≤ hi_ f) (h4 : p3.toInt = st) (s1 : 1 ≤ st) (s2 : st ≤ 99) : ∃ C', F_CR_addSome a x1 p1 p2 p3 C = some C' ∧ C'.1 = C.1 ∧ FX a C C' ∧ ∀ w i, bt (C'.2.1 (a + 1) w) i = true ↔ (bt (C.2.1 (a + 1) w) i = true ∨ ∃ t, of_ st (if u0 ≤ u1 then u1 - u0 else u1 + (hi_ f - lo_ f + 1) - u0) ju_ 0 t ∧ w = wd f (vl f u0 t) ∧ i = bi f (vl f u0 t)) := by
  obtain ⟨l1, l2, l3, l4, l5⟩ := lhN hf
  obtain ⟨k1, k2, -⟩ := fl7 (S := C) hx hf
  have sp : (jx_MOSTS f - jx_LEAST f + 1).toInt = ((hi_ f - lo_ f + 1 : Nat) : Int) := by
    have : (jx_MOSTS f - jx_LEAST f).toInt = ((hi_ f - lo_ f : Nat) : Int) := by
      rw [suJ l2 l1 (by omega) (by omega)]; omega
    exact p1I this (by omega)
  unfold F_CR_addSome
  rw [k1, ob_, k2, ob_, jl_]
  by_cases q : u0 ≤ u1
  · have e5 : (p2 - p1).toInt = ((u1 - u0 : Nat) : Int) := by rw [suJ h2 h1 (by omega) (by omega)]; omega
    rw [if_pos (Int32.le_iff_toInt_le.mpr (by rw [h1, h2]; omega)), jl_, if_pos q]
    exact lC_as hx hf h1 b1 b2 h4 s1 s2 l2 sp e5 (by omega) ju_ 0 0 C rfl (by omega) (by show _ < 1000000; omega)
  · have e5 : (p2 - p1 + (jx_MOSTS f - jx_LEAST f + 1)).toInt = ((u1 + (hi_ f - lo_ f + 1) - u0 : Nat) : Int) := by
      have : (p2 - p1).toInt = (u1 : Int) - u0 := suJ h2 h1 (by omega) (by omega)
      rw [adJ this sp (by omega) (by omega)]
      omega
    rw [if_neg (fun w => q (by have := Int32.le_iff_toInt_le.mp w; rw [h1, h2] at this; omega)), jl_, if_neg q]
    exact lC_as hx hf h1 b1 b2 h4 s1 s2 l2 sp e5 (by omega) ju_ 0 0 C rfl (by omega) (by show _ < 1000000; omega)
end JZ_3
