section JG
/-- the two heaps are the same but for cells that nobody can use in the first -/
def jx_fr (S : Nat → Bool) (C : Nat → Option (Nat × List Value)) (M M' : jx_H) : Prop := M'.length = M.length ∧ (∀ a, S a = false → M'[a]? = M[a]?) ∧ ∀ a, S a = true → M[a]? = some (999, []) ∧ M'[a]? = C a
def jx_rr (S : Nat → Bool) (C : Nat → Option (Nat × List Value)) : jx_A → jx_A → Prop
  | .inl (a, b, c, d, e), .inl (a', b', c', d', e') => a = a' ∧ b = b' ∧ c = c' ∧ jx_fr S C d d' ∧ e = e'
  | .inr q, .inr q' => q = q'
  | _, _ => False
variable {S : Nat → Bool} {C : Nat → Option (Nat × List Value)} {M M' : jx_H}
theorem jx_fr_ne (h : jx_fr S C M M') {a : Nat} {c : Nat × List Value} (ha : M[a]? = some c) (hc : c ≠ (999, [])) : S a = false := by
  cases hs : S a with
  | false => rfl
  | true =>
    have := (h.2.2 a hs).1
    rw [ha] at this
    exact absurd (Option.some.inj this) hc
theorem jx_fr_get (h : jx_fr S C M M') {a : Nat} (hs : S a = false) : M'[a]? = M[a]? := h.2.1 a hs
theorem jx_fr_set (h : jx_fr S C M M') {a : Nat} (hs : S a = false) (c : Nat × List Value) : jx_fr S C (M.set a c) (M'.set a c) := by
  refine ⟨by simp [h.1], fun b hb => ?_, fun b hb => ?_⟩
  · by_cases e : a = b
    · subst e
      rw [List.getElem?_set, List.getElem?_set, if_pos rfl, if_pos rfl, h.1]
    · rw [List.getElem?_set_ne e, List.getElem?_set_ne e]
      exact h.2.1 b hb
  · have e : a ≠ b := fun e => by subst e; rw [hs] at hb; cases hb
    rw [List.getElem?_set_ne e, List.getElem?_set_ne e]
    exact h.2.2 b hb
theorem jx_fr_app (h : jx_fr S C M M') (X : jx_H) : jx_fr S C (M ++ X) (M' ++ X) := by
  refine ⟨by simp [h.1], fun b hb => ?_, fun b hb => ?_⟩
  · by_cases e : b < M.length
    · rw [List.getElem?_append_left e, List.getElem?_append_left (show b < M'.length by rw [h.1]; exact e)]
      exact h.2.1 b hb
    · have e2 : M'.length ≤ b := by rw [h.1]; omega
      rw [List.getElem?_append_right e2, List.getElem?_append_right (by omega), h.1]
  · have h1 := h.2.2 b hb
    have h2 := (List.getElem?_eq_some_iff.mp h1.1).1
    rw [List.getElem?_append_left h2, List.getElem?_append_left (show b < M'.length by rw [h.1]; exact h2)]
    exact h1
theorem jx_fr_nz (h : jx_fr S C M M') {a : Nat} (ha : M[a]? = some (999, [])) (h2 : M'[a]? ≠ some (999, [])) : S a = true := by
  cases hs : S a with
  | true => rfl
  | false => exact absurd ((h.2.1 a hs).trans ha) h2
variable {df : List (List Value)} {nL pc dc ds : Nat} {ret : Option FieldType} {ini : Bool} {lv : List (Nat × Value)} {st : List Value} {x : List Nat} {va : Value} {r : jx_A}
/-- a step that passes the heap through -/
theorem jx_thrg {f : jx_H → Option jx_A} (hf : ∀ M M' : jx_H, f M' = (f M).map (fun q => match q with | .inl (pc, lv, st, _, r) => .inl (pc, lv, st, M', r) | .inr q => .inr q)) (hM : jx_fr S C M M') (hs : f M = some r) : ∃ r', f M' = some r' ∧ jx_rr S C r r' := by
  have h1 := hf M M
  have h2 := hf M M'
  rw [hs] at h1 h2
  rcases r with ⟨a, b, c, d, e⟩ | q
  · have h1 : some (Sum.inl (a, b, c, d, e)) = some (Sum.inl (a, b, c, M, e)) := h1
    cases h1
    exact ⟨_, h2, rfl, rfl, rfl, hM, rfl⟩
  · exact ⟨_, h2, rfl⟩
theorem jx_gf_g (hM : jx_fr S C M M') (hs : jx_gf pc lv M dc ds x st = some r) : ∃ r', jx_gf pc lv M' dc ds x st = some r' ∧ jx_rr S C r r' := by
  unfold jx_gf at hs ⊢
  split at hs
  next ci k a r0 =>
    split at hs
    next cj fs ha =>
      split at hs
      next e =>
        split at hs
        next v hv =>
          cases hs
          have hn : S a = false := jx_fr_ne hM ha (fun q => by cases q; cases hv)
          simp only [jx_fr_get hM hn, ha]
          rw [if_pos e]
          simp only [hv]
          exact ⟨_, rfl, rfl, rfl, rfl, hM, rfl⟩
        next => cases hs
      next => cases hs
    next => cases hs
  next => cases hs
theorem jx_pf_g (hM : jx_fr S C M M') (hs : jx_pf ini pc lv M dc ds x st = some r) : ∃ r', jx_pf ini pc lv M' dc ds x st = some r' ∧ jx_rr S C r r' := by
  unfold jx_pf at hs ⊢
  split at hs
  next ci k t f v a r0 =>
    split at hs
    next cj fs ha =>
      split at hs
      next e =>
        cases hs
        have hn : S a = false := jx_fr_ne hM ha (fun q => by cases q; exact absurd e.2.1 (Nat.not_lt_zero _))
        simp only [jx_fr_get hM hn, ha]
        rw [if_pos e]
        exact ⟨_, rfl, rfl, rfl, rfl, jx_fr_set hM hn _, rfl⟩
      next => cases hs
    next => cases hs
  next => cases hs
theorem jx_ald_g {ks : List Nat} {w : Value → Bool} (hM : jx_fr S C M M') (hs : jx_ald ks w pc lv M dc ds st = some r) : ∃ r', jx_ald ks w pc lv M' dc ds st = some r' ∧ jx_rr S C r r' := by
  unfold jx_ald at hs ⊢
  split at hs
  next i a r0 =>
    split at hs
    next k L ha =>
      split at hs
      next e =>
        split at hs
        next v hv =>
          split at hs
          next hw =>
            cases hs
            have hn : S a = false := jx_fr_ne hM ha (fun q => by cases q; cases hv)
            simp only [jx_fr_get hM hn, ha]
            rw [if_pos e]
            simp only [hv]
            rw [if_pos hw]
            exact ⟨_, rfl, rfl, rfl, rfl, hM, rfl⟩
          next => cases hs
        next => cases hs
      next => cases hs
    next => cases hs
  next => cases hs
theorem jx_ald_ng {ks ks2 : List Nat} {w w2 : Value → Bool} (hM : jx_fr S C M M') (h9 : ks2.contains 999 = false) (hs : jx_ald ks2 w2 pc lv M dc ds st = some r) (hn : jx_ald ks w pc lv M dc ds st = none) : jx_ald ks w pc lv M' dc ds st = none := by
  unfold jx_ald at hs hn ⊢
  split at hs
  next i a r0 =>
    split at hs
    next k L ha =>
      split at hs
      next e =>
        have hS : S a = false := jx_fr_ne hM ha (fun q => by cases q; rw [h9] at e; cases e.1)
        simp only [jx_fr_get hM hS, ha] at hn ⊢
        by_cases e2 : ks.contains k = true ∧ ¬ i < 0
        · rw [if_pos e2] at hn ⊢
          cases hv : L[i.toNatClampNeg]? with
          | none => rfl
          | some v =>
            simp only [hv] at hn ⊢
            by_cases hw : w v = true
            · rw [if_pos hw] at hn; cases hn
            · rw [if_neg hw]
        · rw [if_neg e2]
      next => cases hs
    next => cases hs
  next => cases hs
theorem jx_ast_g {ks : List Nat} {w : Value → Bool} (hM : jx_fr S C M M') (hs : jx_ast ks w pc lv M dc ds st = some r) : ∃ r', jx_ast ks w pc lv M' dc ds st = some r' ∧ jx_rr S C r r' := by
  unfold jx_ast at hs ⊢
  split at hs
  next v i a r0 =>
    split at hs
    next k L ha =>
      split at hs
      next e =>
        cases hs
        have hn : S a = false := jx_fr_ne hM ha (fun q => by cases q; exact absurd e.2.2.1 (Nat.not_lt_zero _))
        simp only [jx_fr_get hM hn, ha]
        rw [if_pos e]
        exact ⟨_, rfl, rfl, rfl, rfl, jx_fr_set hM hn _, rfl⟩
      next => cases hs
    next => cases hs
  next => cases hs
theorem jx_aas_g (hM : jx_fr S C M M') (hs : jx_aas pc lv M dc ds st = some r) : ∃ r', jx_aas pc lv M' dc ds st = some r' ∧ jx_rr S C r r' := by
  unfold jx_aas at hs ⊢
  split at hs
  next b i a r0 =>
    split at hs
    next k L k2 L2 ha hb =>
      split at hs
      next e =>
        cases hs
        have hn : S a = false := jx_fr_ne hM ha (fun q => by cases q; exact absurd e.1.2 (by decide))
        have hn2 : S b = false := jx_fr_ne hM hb (fun q => by
          cases q
          have h1 := e.1
          have h2 := e.2.1
          have : k = 104 ∨ k = 105 ∨ k = 106 ∨ k = 107 := by omega
          rcases this with rfl | rfl | rfl | rfl <;> exact absurd h2 (by decide))
        simp only [jx_fr_get hM hn, jx_fr_get hM hn2, ha, hb]
        rw [if_pos e]
        exact ⟨_, rfl, rfl, rfl, rfl, jx_fr_set hM hn _, rfl⟩
      next => cases hs
    next => cases hs
  next => cases hs
theorem jx_aat_g (hM : jx_fr S C M M') (hs : jx_aat pc lv M dc ds st = some r) : ∃ r', jx_aat pc lv M' dc ds st = some r' ∧ jx_rr S C r r' := by
  unfold jx_aat at hs ⊢
  split at hs
  next b i a r0 =>
    split at hs
    next k L k2 L2 ha hb =>
      split at hs
      next e =>
        cases hs
        have hn : S a = false := jx_fr_ne hM ha (fun q => by cases q; exact absurd e.1 (by decide))
        have hn2 : S b = false := jx_fr_ne hM hb (fun q => by cases q; exact absurd e.2.1 (by decide))
        simp only [jx_fr_get hM hn, jx_fr_get hM hn2, ha, hb]
        rw [if_pos e]
        exact ⟨_, rfl, rfl, rfl, rfl, jx_fr_set hM hn _, rfl⟩
      next => cases hs
    next => cases hs
  next => cases hs
theorem jx_aas_ng (hM : jx_fr S C M M') (hs : jx_aat pc lv M dc ds st = some r) (hn : jx_aas pc lv M dc ds st = none) : jx_aas pc lv M' dc ds st = none := by
  unfold jx_aat at hs
  unfold jx_aas at hn ⊢
  split at hs
  next b i a r0 =>
    split at hs
    next k L k2 L2 ha hb =>
      split at hs
      next e =>
        have h1 : S a = false := jx_fr_ne hM ha (fun q => by cases q; exact absurd e.1 (by decide))
        have h2 : S b = false := jx_fr_ne hM hb (fun q => by cases q; exact absurd e.2.1 (by decide))
        simp only [jx_fr_get hM h1, jx_fr_get hM h2, ha, hb] at hn ⊢
        by_cases e2 : (104 ≤ k ∧ k < 108) ∧ k2 = jx_of k ∧ ¬ i < 0 ∧ i.toNatClampNeg < L.length
        · rw [if_pos e2] at hn; cases hn
        · rw [if_neg e2]
      next => cases hs
    next => cases hs
  next => cases hs
theorem jx_al_g (hM : jx_fr S C M M') (hs : jx_al pc lv M dc ds st = some r) : ∃ r', jx_al pc lv M' dc ds st = some r' ∧ jx_rr S C r r' := by
  unfold jx_al at hs ⊢
  split at hs
  next a r0 =>
    split at hs
    next k L ha =>
      split at hs
      next e =>
        cases hs
        have hn : S a = false := jx_fr_ne hM ha (fun q => by cases q; exact absurd e (by decide))
        simp only [jx_fr_get hM hn, ha]
        rw [if_pos e]
        exact ⟨_, rfl, rfl, rfl, rfl, hM, rfl⟩
      next => cases hs
    next => cases hs
  next => cases hs
theorem jx_nw_g (hM : jx_fr S C M M') (hs : jx_nw pc lv M dc ds df x st = some r) : ∃ r', jx_nw pc lv M' dc ds df x st = some r' ∧ jx_rr S C r r' := by
  unfold jx_nw at hs ⊢
  split at hs
  next ci =>
    split at hs
    next fs hf =>
      cases hs
      simp only [hf, hM.1]
      exact ⟨_, rfl, rfl, rfl, rfl, jx_fr_app hM _, rfl⟩
    next hf =>
      split at hs
      next e =>
        cases hs
        try simp only [hf]
        rw [if_pos e]
        exact ⟨_, rfl, rfl⟩
      next => cases hs
  next => cases hs
theorem jx_na_g {len : Nat} (hM : jx_fr S C M M') (hs : jx_na len pc lv M dc ds x st = some r) : ∃ r', jx_na len pc lv M' dc ds x st = some r' ∧ jx_rr S C r r' := by
  unfold jx_na at hs ⊢
  split at hs
  next t n r0 =>
    split at hs
    next => cases hs
    next e =>
      cases hs
      try dsimp only
      rw [if_neg e, hM.1]
      exact ⟨_, rfl, rfl, rfl, rfl, jx_fr_app hM _, rfl⟩
  next => cases hs
theorem jx_mu_g (hM : jx_fr S C M M') (hs : jx_mu pc lv M dc ds x st = some r) : ∃ r', jx_mu pc lv M' dc ds x st = some r' ∧ jx_rr S C r r' := by
  unfold jx_mu at hs ⊢
  split at hs
  next =>
    split at hs
    next => cases hs
    next e =>
      cases hs
      try dsimp only
      rw [if_neg e, hM.1]
      exact ⟨_, rfl, rfl, rfl, rfl, jx_fr_app hM _, rfl⟩
  next =>
    split at hs
    next => cases hs
    next e =>
      cases hs
      try dsimp only
      rw [if_neg e, hM.1]
      exact ⟨_, rfl, rfl, rfl, rfl, jx_fr_app hM _, rfl⟩
  next => cases hs
theorem jx_cv_g (hx : x.contains 999 = false) (hM : jx_fr S C M M') (hs : jx_cv M x st = some r) : ∃ r', jx_cv M' x st = some r' ∧ jx_rr S C r r' := by
  unfold jx_cv at hs ⊢
  split at hs
  next k n ci =>
    split at hs
    next b r0 hdr =>
      split at hs
      next cj L hb =>
        split at hs
        next e =>
          cases hs
          have hn : S b = false := jx_fr_ne hM hb (fun q => by
            cases q
            have h1 : 999 = ci := e.1
            rw [← h1] at hx
            simp at hx)
          simp only [jx_fr_get hM hn, hb, hdr]
          rw [if_pos e]
          exact ⟨_, rfl, rfl⟩
        next => cases hs
      next => cases hs
    next => cases hs
  next => cases hs
set_option maxHeartbeats 2000000 in
theorem jx_step_g {i : Instr} (hx : x.contains 999 = false) (hM : jx_fr S C M M') (hs : jx_step df nL ret ini i x va pc lv st M dc ds = some r) : ∃ r', jx_step df nL ret ini i x va pc lv st M' dc ds = some r' ∧ jx_rr S C r r' := by
  cases i
  case getfield => exact jx_gf_g hM hs
  case putfield => exact jx_pf_g hM hs
  case baload => exact jx_ald_g hM hs
  case laload => exact jx_ald_g hM hs
  case aaload => exact jx_ald_g hM hs
  case iastore => exact jx_ast_g hM hs
  case bastore => exact jx_ast_g hM hs
  case lastore => exact jx_ast_g hM hs
  case arraylength => exact jx_al_g hM hs
  case new => exact jx_nw_g hM hs
  case newarray => exact jx_na_g hM hs
  case anewarray => exact jx_na_g hM hs
  case multianewarray => exact jx_mu_g hM hs
  case invokevirtual => exact jx_cv_g hx hM hs
  case iaload =>
    have hs : jx_or (jx_ald [102] jx_isI pc lv M dc ds st) (jx_ald [200] jx_isI pc lv M dc ds st) = some r := hs
    show ∃ r', jx_or (jx_ald [102] jx_isI pc lv M' dc ds st) (jx_ald [200] jx_isI pc lv M' dc ds st) = some r' ∧ _
    cases hA : jx_ald [102] jx_isI pc lv M dc ds st with
    | some q =>
      rw [hA] at hs
      cases hs
      obtain ⟨r', h1, h2⟩ := jx_ald_g hM hA
      rw [h1]
      exact ⟨r', rfl, h2⟩
    | none =>
      rw [hA] at hs
      have hs : jx_ald [200] jx_isI pc lv M dc ds st = some r := hs
      obtain ⟨r', h1, h2⟩ := jx_ald_g hM hs
      rw [jx_ald_ng hM (by decide) hs hA, h1]
      exact ⟨r', rfl, h2⟩
  case aastore =>
    have hs : jx_or (jx_aas pc lv M dc ds st) (jx_aat pc lv M dc ds st) = some r := hs
    show ∃ r', jx_or (jx_aas pc lv M' dc ds st) (jx_aat pc lv M' dc ds st) = some r' ∧ _
    cases hA : jx_aas pc lv M dc ds st with
    | some q =>
      rw [hA] at hs
      cases hs
      obtain ⟨r', h1, h2⟩ := jx_aas_g hM hA
      rw [h1]
      exact ⟨r', rfl, h2⟩
    | none =>
      rw [hA] at hs
      have hs : jx_aat pc lv M dc ds st = some r := hs
      obtain ⟨r', h1, h2⟩ := jx_aat_g hM hs
      rw [jx_aas_ng hM hs hA, h1]
      exact ⟨r', rfl, h2⟩
  all_goals refine jx_thrg (f := fun M => jx_step df nL ret ini _ x va pc lv st M dc ds) (fun M M' => ?_) hM hs
  all_goals first
    | rfl
    | (simp only [jx_step, jx_k, jx_cs, jx_ci, jx_ri, jx_rl, jx_ra, jx_rv, jx_ld, jx_sr, jx_sr2, jx_inc, jx_du, jx_po, jx_d2, jx_ts, jx_lus, jx_bz, jx_bc, jx_to]
       repeat' split
       all_goals rfl)
theorem jx_pr_g {k : Nat} {As : List Value} {v : Option Value} {M1 : jx_H} (hM : jx_fr S C M M') (hs : jx_pr k As M = some (v, M1)) : ∃ M1', jx_pr k As M' = some (v, M1') ∧ jx_fr S C M1 M1' := by
  unfold jx_pr at hs ⊢
  split at hs
  next => cases hs; exact ⟨_, rfl, hM⟩
  next a =>
    split at hs
    next L ha =>
      cases hs
      have hn : S a = false := jx_fr_ne hM ha (fun q => by cases q)
      simp only [jx_fr_get hM hn, ha]
      exact ⟨_, rfl, hM⟩
    next => cases hs
  next a i =>
    split at hs
    next L ha =>
      split at hs
      next => cases hs
      next hi =>
        split at hs
        next w hw =>
          cases hs
          have hn : S a = false := jx_fr_ne hM ha (fun q => by cases q)
          simp only [jx_fr_get hM hn, ha]
          rw [if_neg hi]
          simp only [hw]
          exact ⟨_, rfl, hM⟩
        next => cases hs
    next => cases hs
  next a sp b dp n =>
    split at hs
    next f g ha hb =>
      split at hs
      next e =>
        cases hs
        have hn : S a = false := jx_fr_ne hM ha (fun q => by cases q)
        have hn2 : S b = false := jx_fr_ne hM hb (fun q => by cases q)
        simp only [jx_fr_get hM hn, jx_fr_get hM hn2, ha, hb]
        rw [if_pos e]
        exact ⟨_, rfl, jx_fr_set hM hn2 _⟩
      next => cases hs
    next => cases hs
  next => cases hs
/-- the thrown object is one of the new or usable cells -/
theorem jx_run_g {P : List jx_Me} (hP : jx_cln P = true) : ∀ (n : Nat) {me : jx_Me} {fr lo pc : Nat} {lv : List (Nat × Value)} {st : List Value} {M M' : jx_H} {dc ds : Nat} {o : Option Value ⊕ Nat} {M1 : jx_H} {mc ms : Nat}, jx_cln [me] = true → jx_fr S C M M' → jx_run df P n me fr lo pc lv st M dc ds = some (o, M1, mc, ms) → ∃ M1', jx_run df P n me fr lo pc lv st M' dc ds = some (o, M1', mc, ms) ∧ jx_fr S C M1 M1' ∧ ∀ a, o = .inr a → S a = false := by
  intro n
  induction n with
  | zero => intro me fr lo pc lv st M M' dc ds o M1 mc ms _ _ hs; cases hs
  | succ n ih =>
    intro me fr lo pc lv st M M' dc ds o M1 mc ms hme hM hs
    rw [jx_run] at hs ⊢
    cases hat : jx_at pc me.2.2.2.2.2 with
    | none => rw [hat] at hs; cases hs
    | some q =>
      obtain ⟨i, len, x, va⟩ := q
      rw [hat] at hs
      dsimp only at hs ⊢
      have hx : x.contains 999 = false := by
        have h1 := jx_at_mem hat
        simp only [jx_cln, List.all_cons, List.all_nil, Bool.and_true] at hme
        have h2 := List.all_eq_true.mp hme _ h1
        simpa using h2
      cases hst : jx_step df me.2.2.1 me.2.2.2.1 (me.1.name == "<init>") i x va pc lv st M dc ds with
      | none => rw [hst] at hs; cases hs
      | some r =>
        rw [hst] at hs
        obtain ⟨r', h1, h2⟩ := jx_step_g hx hM hst
        rw [h1]
        rcases r with ⟨a, b, c, d, e⟩ | ⟨k, As, r⟩ | v | ci
        · rcases r' with ⟨a', b', c', d', e'⟩ | q'
          · obtain ⟨rfl, rfl, rfl, h3, rfl⟩ := h2
            exact ih hme h3 hs
          · exact h2.elim
        · rcases r' with q' | q'
          · exact h2.elim
          have h2 : Sum.inl (k, As, r) = q' := h2
          subst h2
          dsimp only at hs ⊢
          split at hs
          next h9 =>
            (try rw [if_pos h9])
            split at hs
            next hroom =>
              (try rw [if_pos hroom])
              split at hs
              next v M2 hpr =>
                obtain ⟨M2', g1, g2⟩ := jx_pr_g hM hpr
                rw [g1]
                exact ih hme g2 hs
              next => cases hs
            next => cases hs
          next h9 =>
            (try rw [if_neg h9])
            split at hs
            · cases hs
            next m2 hk =>
              (try rw [hk])
              (try dsimp only)
              have hm2 : jx_cln [m2] = true := by
                simp only [jx_cln, List.all_cons, List.all_nil, Bool.and_true]
                exact List.all_eq_true.mp hP _ (List.mem_of_getElem? hk)
              split at hs
              next hc =>
                (try rw [if_pos hc])
                split at hs
                · cases hs
                next v M2 c1 s1 hr =>
                  obtain ⟨M2', g1, g2, -⟩ := ih hm2 hM hr
                  rw [g1]
                  exact ih hme g2 hs
                next a M2 c1 s1 hr =>
                  obtain ⟨M2', g1, g2, g3⟩ := ih hm2 hM hr
                  have ha : S a = false := g3 a rfl
                  rw [g1]
                  (try dsimp only)
                  rw [jx_fr_get g2 ha]
                  split at hs
                  · cases hs
                  next ci fs hMa =>
                    (try rw [hMa])
                    (try dsimp only)
                    split at hs
                    next h1 => (try rw [h1]); cases hs; exact ⟨_, rfl, g2, fun b hb => by cases hb; exact ha⟩
                    next => cases hs
                    next q hs0 t h1 h2 =>
                      (try rw [h2, h1])
                      exact ih hme g2 hs
              next => cases hs
        · rcases r' with q' | q'
          · exact h2.elim
          have h2 : Sum.inr (Sum.inl v) = q' := h2
          subst h2
          cases hs
          exact ⟨_, rfl, hM, fun b hb => by cases hb⟩
        · rcases r' with q' | q'
          · exact h2.elim
          have h2 : Sum.inr (Sum.inr ci) = q' := h2
          subst h2
          dsimp only at hs ⊢
          split at hs
          next h1 =>
            split at hs
            next h2 =>
              cases hs
              (try rw [h1])
              (try dsimp only)
              rw [if_pos h2, hM.1]
              refine ⟨_, rfl, jx_fr_app hM _, fun b hb => ?_⟩
              cases hb
              cases hS : S M.length with
              | false => rfl
              | true =>
                have := (List.getElem?_eq_some_iff.mp (hM.2.2 _ hS).1).1
                omega
            next => cases hs
          next => cases hs
end JG
