section JZ_4
variable {S T C C' M M' D : jS} {n p s f a u u0 u1 st L : Nat} {c e x1 x2 x4 x5 x6 x7 x8 x9 : Int32}
theorem fmodI {x y : Int32} {a : Int} {b : Nat} (hx : x.toInt = a) (hy : y.toInt = b) (hb : 0 < b) (h1 : -1000000 ≤ a) (h2 : a ≤ 1000000) (h3 : b ≤ 1000000) : ∃ z, F_Math_floorMod x y S = some z ∧ z.toInt = a % b := by
  refine ⟨_, fFM (by omega) (by omega) (by omega) (by omega), ?_⟩
  rw [hx, hy]
  have := Int.emod_nonneg a (show (b : Int) ≠ 0 by omega)
  have := Int.emod_lt_of_pos a (show (0 : Int) < b by omega)
  exact tI (by omega) (by omega)
theorem fmodN {x y : Int32} {a b : Nat} (hx : x.toInt = a) (hy : y.toInt = b) (hb : 0 < b) (h2 : a ≤ 1000000) (h3 : b ≤ 1000000) : ∃ z, F_Math_floorMod x y S = some z ∧ z.toInt = ((a % b : Nat) : Int) := by
  obtain ⟨z, z1, z2⟩ := fmodI (S := S) hx hy hb (by omega) (by omega) h3
  exact ⟨z, z1, by rw [z2]; rfl⟩
/-- after an item: a comma, or the end -/
noncomputable def itE (kt : Int32 → Int32 → jS → Option (Option Nat × jS)) (x1 : Int32) (M : jS) : Option (Option Nat × jS) := (F_M_peek M).bind (fun z33 => if z33 = 44 then (j_l (w_i M 215 7 ((M.1 215 7) + 1)) (fun S35 => kt x1 0 S35)) else (some (none, M)))
/-- what reading a cron writes in the model, before it is kept -/
def GX (M M' : jS) : Prop := (∀ b j, ¬ (b = 215 ∧ (j = 3 ∨ j = 7 ∨ j = 20 ∨ j = 21 ∨ j = 22)) → ¬ (369 ≤ b ∧ b ≤ 375) → b ≠ 453 → M'.1 b j = M.1 b j) ∧ M'.2 = M.2
theorem GX_r : GX M M := ⟨fun _ _ _ _ _ => rfl, rfl⟩
theorem GX_t (h1 : GX M M') (h2 : GX M' D) : GX M D := ⟨fun b j q r s => (h2.1 b j q r s).trans (h1.1 b j q r s), h2.2.trans h1.2⟩
theorem GX_N (h : gN M M') : GX M M' := ⟨fun b j q _ _ => h.1 b j (by omega), h.2⟩
theorem lM_as (hx : x1.toInt = f) (hf : f < 7) (h4 : x4.toInt = u0) (b1 : lo_ f ≤ u0) (b2 : u0 ≤ hi_ f) (h7 : x7.toInt = st) (s1 : 1 ≤ st) (s2 : st ≤ 99) (h8 : x8.toInt = ((hi_ f - lo_ f + 1 : Nat) : Int)) (h9 : x9.toInt = ((L + 1 : Nat) : Int)) (hL : L ≤ hi_ f - lo_ f) : ∀ (g : Nat) (x10 : Int32) (s : Nat) (M : jS), x10.toInt = s → s ≤ 500 → L + 1 - s < g → ∃ M', (∀ kt, L_M_items_248 kt g x1 x4 x7 x8 x9 x10 M = itE kt x1 M') ∧ (∀ b j, b ≠ 369 + f → M'.1 b j = M.1 b j) ∧ M'.2 = M.2 ∧ (∀ i, (∃ t, of_ st L g s t ∧ i = vl f u0 t - lo_ f) → M'.1 (369 + f) i = 1) ∧ ∀ i, ¬ (∃ t, of_ st L g s t ∧ i = vl f u0 t - lo_ f) → M'.1 (369 + f) i = M.1 (369 + f) i := by
  obtain ⟨l1, l2, l3, l4, l5⟩ := lhN hf
  intro g
  induction g with
  | zero => intro x10 s M _ _ q; omega
  | succ g ih =>
    intro x10 s M h10 hs hg
    by_cases q : L < s
    · refine ⟨M, fun kt => ?_, fun _ _ _ => rfl, rfl, fun i ⟨t, t1, _⟩ => ?_, fun _ _ => rfl⟩
      · conv => lhs; unfold L_M_items_248
        rw [if_pos (Int32.le_iff_toInt_le.mpr (by rw [h9, h10]; omega))]
        rfl
      · have := t1.1
        omega
    · have bv := vl_b (t := s) hf b1 b2 hL (by omega)
      have e1 : ((x4 - jx_LEAST f) + x10).toInt = ((u0 - lo_ f + s : Nat) : Int) := by
        have : (x4 - jx_LEAST f).toInt = ((u0 - lo_ f : Nat) : Int) := by rw [suJ h4 l1 (by omega) (by omega)]; omega
        exact adN this h10 (by omega)
      have fm : ∃ z38, F_Math_floorMod ((x4 - jx_LEAST f) + x10) x8 M = some z38 ∧ z38.toInt = ((vl f u0 s - lo_ f : Nat) : Int) := by
        obtain ⟨z, z1, z2⟩ := fmodN (S := M) e1 h8 (by omega) (by omega) (by omega)
        refine ⟨z, z1, ?_⟩
        rw [z2]
        unfold vl
        split
        · rw [Nat.mod_eq_of_lt (by omega)]; congr 1; omega
        · rw [Nat.mod_eq_sub_mod (by omega), Nat.mod_eq_of_lt (by omega)]; congr 1; omega
      obtain ⟨z38, z1, z2⟩ := fm
      have one : vp_nar .boolean 1 = 1 := nar_b (Or.inr rfl)
      obtain ⟨M', m1, m2, m3, m4, m5⟩ := ih (x10 + x7) (s + st) (w_i M (369 + f) (vl f u0 s - lo_ f) 1) (adN h10 h7 (by omega)) (by omega) (by omega)
      refine ⟨M', fun kt => ?_, fun b j hb => by rw [m2 b j hb, w_ir, if_neg (by omega)], by rw [m3, w_i2], fun i hi => ?_, fun i hi => ?_⟩
      · conv => lhs; unfold L_M_items_248
        rw [if_neg (fun w => by have := Int32.le_iff_toInt_le.mp w; rw [h9, h10] at this; omega), j_qN hx hf, j_qN hx hf, clN hx, z1, ob_, j_qN z2 (by omega), clN z2, one, jl_, jl_, m1]
      · by_cases w : ∃ t, of_ st L g (s + st) t ∧ i = vl f u0 t - lo_ f
        · exact m4 i w
        · have hi' : i = vl f u0 s - lo_ f := by
            obtain ⟨t, ⟨-, t1⟩, t2⟩ := hi
            rcases t1 with t1 | t1
            · rw [t2, t1]
            · exact absurd ⟨t, t1, t2⟩ w
          rw [m5 i w, w_ir, if_pos ⟨rfl, hi'⟩]
      · have w : ¬ ∃ t, of_ st L g (s + st) t ∧ i = vl f u0 t - lo_ f := fun ⟨t, t1, t2⟩ => hi ⟨t, ⟨by omega, Or.inr t1⟩, t2⟩
        rw [m5 i w, w_ir, if_neg (fun v => hi ⟨s, ⟨by omega, Or.inl rfl⟩, v.2⟩)]
/-- the model adds from .. to, by steps -/
theorem jM_216 (hx : x1.toInt = f) (hf : f < 7) (h4 : x4.toInt = u0) (b1 : lo_ f ≤ u0) (b2 : u0 ≤ hi_ f) (h5 : x5.toInt = u1) (b3 : lo_ f ≤ u1) (b4 : u1 ≤ hi_ f) (h7 : x7.toInt = st) (s1 : 1 ≤ st) (s2 : st ≤ 99) : ∃ M', (∀ kt, J_M_items_216 kt x1 x4 x5 x7 M = itE kt x1 M') ∧ (∀ b j, b ≠ 369 + f → M'.1 b j = M.1 b j) ∧ M'.2 = M.2 ∧ (∀ i, (∃ t, of_ st (if u0 ≤ u1 then u1 - u0 else u1 + (hi_ f - lo_ f + 1) - u0) ju_ 0 t ∧ i = vl f u0 t - lo_ f) → M'.1 (369 + f) i = 1) ∧ ∀ i, ¬ (∃ t, of_ st (if u0 ≤ u1 then u1 - u0 else u1 + (hi_ f - lo_ f + 1) - u0) ju_ 0 t ∧ i = vl f u0 t - lo_ f) → M'.1 (369 + f) i = M.1 (369 + f) i := by
  obtain ⟨l1, l2, l3, l4, l5⟩ := lhN hf
  have sp : (jx_MOSTS f - jx_LEAST f + 1).toInt = ((hi_ f - lo_ f + 1 : Nat) : Int) := by
    have : (jx_MOSTS f - jx_LEAST f).toInt = ((hi_ f - lo_ f : Nat) : Int) := by
      rw [suJ l2 l1 (by omega) (by omega)]; omega
    exact p1I this (by omega)
  have d : (x5 - x4).toInt = (u1 : Int) - u0 := suJ h5 h4 (by omega) (by omega)
  obtain ⟨z, z1, z2⟩ : ∃ z, F_Math_floorMod (x5 - x4) (jx_MOSTS f - jx_LEAST f + 1) M = some z ∧ z.toInt = (((if u0 ≤ u1 then u1 - u0 else u1 + (hi_ f - lo_ f + 1) - u0) : Nat) : Int) := by
    obtain ⟨z, z1, z2⟩ := fmodI (S := M) d sp (by omega) (by omega) (by omega) (by omega)
    refine ⟨z, z1, ?_⟩
    rw [z2]
    split
    · rw [Int.emod_eq_of_lt (by omega) (by omega)]; omega
    · rw [show ((u1 : Int) - u0) % ((hi_ f - lo_ f + 1 : Nat) : Int) = ((u1 : Int) - u0 + ((hi_ f - lo_ f + 1 : Nat) : Int)) % ((hi_ f - lo_ f + 1 : Nat) : Int) from (Int.add_emod_right ..).symm, Int.emod_eq_of_lt (by omega) (by omega)]
      omega
  unfold J_M_items_216
  simp only [j_qN hx hf, clN hx, jl_, z1, ob_]
  exact lM_as hx hf h4 b1 b2 h7 s1 s2 sp (p1I z2 (by split <;> omega)) (by split <;> omega) ju_ 0 0 M rfl (by omega) (by show _ < 1000000; split <;> omega)
end JZ_4
