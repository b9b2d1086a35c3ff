section JF
/-- a cell that nobody can use -/
def jx_bad (M : jx_H) : Prop := M[0]? = some (999, [])
def jx_mz (z : Nat × List Value) : jx_A → jx_A
  | .inl (pc, lv, st, M, r) => .inl (pc, lv, st, M.set 0 z, r)
  | .inr q => .inr q
def jx_p0 : jx_A → Prop
  | .inl (_, _, _, M, _) => jx_bad M
  | .inr _ => True
variable {z : Nat × List Value} {M : jx_H}
theorem jx_bad_ne (h : jx_bad M) {a : Nat} {c : Nat × List Value} (ha : M[a]? = some c) (hc : c ≠ (999, [])) : a ≠ 0 := fun e => by
  subst e
  rw [h] at ha
  exact hc (Option.some.inj ha).symm
theorem jx_z_get {a : Nat} (h : a ≠ 0) : (M.set 0 z)[a]? = M[a]? := List.getElem?_set_ne (Ne.symm h)
theorem jx_z_set {a : Nat} {c : Nat × List Value} (h : a ≠ 0) : (M.set a c).set 0 z = (M.set 0 z).set a c := List.set_comm _ _ h
theorem jx_z_app (h : jx_bad M) {X : jx_H} : (M ++ X).set 0 z = M.set 0 z ++ X := List.set_append_left _ _ (List.getElem?_eq_some_iff.mp h).1
theorem jx_bad_set (h : jx_bad M) {a : Nat} {c : Nat × List Value} (ha : a ≠ 0) : jx_bad (M.set a c) := by
  unfold jx_bad
  rw [List.getElem?_set_ne ha]
  exact h
theorem jx_bad_app (h : jx_bad M) {X : jx_H} : jx_bad (M ++ X) := by
  unfold jx_bad
  rw [List.getElem?_append_left (List.getElem?_eq_some_iff.mp h).1]
  exact h
theorem jx_bad_len : (M.set 0 z).length = M.length := List.length_set ..
variable {df : List (List Value)} {nL pc dc ds : Nat} {ret : Option FieldType} {ini : Bool} {lv : List (Nat × Value)} {st : List Value} {x : List Nat} {va : Value} {r : jx_A}
/-- a step that passes the heap through -/
theorem jx_thru {f : jx_H → Option jx_A} (hf : ∀ M M' : jx_H, f M' = (f M).map (fun q => match q with | .inl (pc, lv, st, _, r) => .inl (pc, lv, st, M', r) | .inr q => .inr q)) (hM : jx_bad M) (hs : f M = some r) : f (M.set 0 z) = some (jx_mz z r) ∧ jx_p0 r := by
  have h1 := hf M M
  have h2 := hf M (M.set 0 z)
  rw [hs] at h1 h2
  rcases r with ⟨a, b, c, d, e⟩ | q
  · have h1 : some (Sum.inl (a, b, c, d, e)) = some (Sum.inl (a, b, c, M, e)) := h1
    cases h1
    exact ⟨h2, hM⟩
  · exact ⟨h2, trivial⟩
theorem jx_gf_z (hM : jx_bad M) (hs : jx_gf pc lv M dc ds x st = some r) : jx_gf pc lv (M.set 0 z) dc ds x st = some (jx_mz z r) ∧ jx_p0 r := by
  unfold jx_gf at hs ⊢
  split at hs
  next ci k a r0 =>
    split at hs
    next cj fs ha =>
      split at hs
      next e =>
        split at hs
        next v hv =>
          cases hs
          have hn : a ≠ 0 := jx_bad_ne hM ha (fun q => by cases q; cases hv)
          simp only [jx_z_get hn, ha]
          rw [if_pos e]
          simp only [hv]
          exact ⟨rfl, hM⟩
        next => cases hs
      next => cases hs
    next => cases hs
  next => cases hs
theorem jx_pf_z (hM : jx_bad M) (hs : jx_pf ini pc lv M dc ds x st = some r) : jx_pf ini pc lv (M.set 0 z) dc ds x st = some (jx_mz z r) ∧ jx_p0 r := by
  unfold jx_pf at hs ⊢
  split at hs
  next ci k t f v a r0 =>
    split at hs
    next cj fs ha =>
      split at hs
      next e =>
        cases hs
        have hn : a ≠ 0 := jx_bad_ne hM ha (fun q => by cases q; exact absurd e.2.1 (Nat.not_lt_zero _))
        simp only [jx_z_get hn, ha]
        rw [if_pos e]
        refine ⟨?_, jx_bad_set hM hn⟩
        show some (Sum.inl (_, _, _, _, _)) = some (Sum.inl (_, _, _, _, _))
        rw [jx_z_set hn]
      next => cases hs
    next => cases hs
  next => cases hs
theorem jx_ald_z {ks : List Nat} {w : Value → Bool} (hM : jx_bad M) (hs : jx_ald ks w pc lv M dc ds st = some r) : jx_ald ks w pc lv (M.set 0 z) dc ds st = some (jx_mz z r) ∧ jx_p0 r := by
  unfold jx_ald at hs ⊢
  split at hs
  next i a r0 =>
    split at hs
    next k L ha =>
      split at hs
      next e =>
        split at hs
        next v hv =>
          split at hs
          next hw =>
            cases hs
            have hn : a ≠ 0 := jx_bad_ne hM ha (fun q => by cases q; cases hv)
            simp only [jx_z_get hn, ha]
            rw [if_pos e]
            simp only [hv]
            rw [if_pos hw]
            exact ⟨rfl, hM⟩
          next => cases hs
        next => cases hs
      next => cases hs
    next => cases hs
  next => cases hs
theorem jx_ald_nz {ks : List Nat} {w : Value → Bool} (hM : jx_bad M) (h9 : ks.contains 999 = false) (hs : jx_ald ks w pc lv M dc ds st = some r) : ∀ i r0, st ≠ .int i :: .ref 0 :: r0 := fun i r0 e => by
  subst e
  simp only [jx_ald, show M[0]? = some (999, []) from hM] at hs
  rw [if_neg (fun q => by rw [h9] at q; cases q.1)] at hs
  cases hs
theorem jx_ald_e {ks : List Nat} {w : Value → Bool} (hz : ∀ i r0, st ≠ .int i :: .ref 0 :: r0) : jx_ald ks w pc lv (M.set 0 z) dc ds st = (jx_ald ks w pc lv M dc ds st).map (jx_mz z) := by
  unfold jx_ald
  split
  next i a r0 =>
    have hn : a ≠ 0 := fun e => by subst e; exact hz i r0 rfl
    simp only [jx_z_get hn]
    cases hA : M[a]? with
    | none => rfl
    | some c =>
      obtain ⟨k, L⟩ := c
      dsimp only
      by_cases e : ks.contains k = true ∧ ¬ i < 0
      · rw [if_pos e, if_pos e]
        cases hv : L[i.toNatClampNeg]? with
        | none => rfl
        | some v =>
          dsimp only
          by_cases hw : w v = true
          · rw [if_pos hw, if_pos hw]; rfl
          · rw [if_neg hw, if_neg hw]; rfl
      · rw [if_neg e, if_neg e]; rfl
  next => rfl
theorem jx_ast_z {ks : List Nat} {w : Value → Bool} (hM : jx_bad M) (hs : jx_ast ks w pc lv M dc ds st = some r) : jx_ast ks w pc lv (M.set 0 z) dc ds st = some (jx_mz z r) ∧ jx_p0 r := by
  unfold jx_ast at hs ⊢
  split at hs
  next v i a r0 =>
    split at hs
    next k L ha =>
      split at hs
      next e =>
        cases hs
        have hn : a ≠ 0 := jx_bad_ne hM ha (fun q => by cases q; exact absurd e.2.2.1 (Nat.not_lt_zero _))
        simp only [jx_z_get hn, ha]
        rw [if_pos e]
        refine ⟨?_, jx_bad_set hM hn⟩
        show some (Sum.inl (_, _, _, _, _)) = some (Sum.inl (_, _, _, _, _))
        rw [jx_z_set hn]
      next => cases hs
    next => cases hs
  next => cases hs
theorem jx_aas_z (hM : jx_bad M) (hs : jx_aas pc lv M dc ds st = some r) : jx_aas pc lv (M.set 0 z) dc ds st = some (jx_mz z r) ∧ jx_p0 r := by
  unfold jx_aas at hs ⊢
  split at hs
  next b i a r0 =>
    split at hs
    next k L k2 L2 ha hb =>
      split at hs
      next e =>
        cases hs
        have hn : a ≠ 0 := jx_bad_ne hM ha (fun q => by cases q; exact absurd e.1.2 (by decide))
        have hn2 : b ≠ 0 := jx_bad_ne hM hb (fun q => by
          cases q
          have h1 := e.1
          have h2 := e.2.1
          have : k = 104 ∨ k = 105 ∨ k = 106 ∨ k = 107 := by omega
          rcases this with rfl | rfl | rfl | rfl <;> exact absurd h2 (by decide))
        simp only [jx_z_get hn, jx_z_get hn2, ha, hb]
        rw [if_pos e]
        refine ⟨?_, jx_bad_set hM hn⟩
        show some (Sum.inl (_, _, _, _, _)) = some (Sum.inl (_, _, _, _, _))
        rw [jx_z_set hn]
      next => cases hs
    next => cases hs
  next => cases hs
theorem jx_aat_z (hM : jx_bad M) (hs : jx_aat pc lv M dc ds st = some r) : jx_aat pc lv (M.set 0 z) dc ds st = some (jx_mz z r) ∧ jx_p0 r := by
  unfold jx_aat at hs ⊢
  split at hs
  next b i a r0 =>
    split at hs
    next k L k2 L2 ha hb =>
      split at hs
      next e =>
        cases hs
        have hn : a ≠ 0 := jx_bad_ne hM ha (fun q => by cases q; exact absurd e.1 (by decide))
        have hn2 : b ≠ 0 := jx_bad_ne hM hb (fun q => by cases q; exact absurd e.2.1 (by decide))
        simp only [jx_z_get hn, jx_z_get hn2, ha, hb]
        rw [if_pos e]
        refine ⟨?_, jx_bad_set hM hn⟩
        show some (Sum.inl (_, _, _, _, _)) = some (Sum.inl (_, _, _, _, _))
        rw [jx_z_set hn]
      next => cases hs
    next => cases hs
  next => cases hs
theorem jx_aas_nz (hM : jx_bad M) (hs : jx_aat pc lv M dc ds st = some r) : ∀ b i a r0, st = .ref b :: .int i :: .ref a :: r0 → b ≠ 0 ∧ a ≠ 0 := fun b i a r0 e => by
  subst e
  simp only [jx_aat] at hs
  split at hs
  next k L k2 L2 ha hb =>
    split at hs
    next e =>
      exact ⟨jx_bad_ne hM hb (fun q => by cases q; exact absurd e.2.1 (by decide)), jx_bad_ne hM ha (fun q => by cases q; exact absurd e.1 (by decide))⟩
    next => cases hs
  next => cases hs
theorem jx_aas_e (hz : ∀ b i a r0, st = .ref b :: .int i :: .ref a :: r0 → b ≠ 0 ∧ a ≠ 0) : jx_aas pc lv (M.set 0 z) dc ds st = (jx_aas pc lv M dc ds st).map (jx_mz z) := by
  unfold jx_aas
  split
  next b i a r0 =>
    obtain ⟨h1, h2⟩ := hz b i a r0 rfl
    simp only [jx_z_get h1, jx_z_get h2]
    cases hA : M[a]? with
    | none => rfl
    | some c =>
      cases hB : M[b]? with
      | none => rfl
      | some c2 =>
        obtain ⟨k, L⟩ := c
        obtain ⟨k2, L2⟩ := c2
        dsimp only
        by_cases e : (104 ≤ k ∧ k < 108) ∧ k2 = jx_of k ∧ ¬ i < 0 ∧ i.toNatClampNeg < L.length
        · rw [if_pos e, if_pos e]
          show some (Sum.inl (_, _, _, _, _)) = some (Sum.inl (_, _, _, _, _))
          rw [jx_z_set h2]
        · rw [if_neg e, if_neg e]; rfl
  next => rfl
theorem jx_al_z (hM : jx_bad M) (hs : jx_al pc lv M dc ds st = some r) : jx_al pc lv (M.set 0 z) dc ds st = some (jx_mz z r) ∧ jx_p0 r := by
  unfold jx_al at hs ⊢
  split at hs
  next a r0 =>
    split at hs
    next k L ha =>
      split at hs
      next e =>
        cases hs
        have hn : a ≠ 0 := jx_bad_ne hM ha (fun q => by cases q; exact absurd e (by decide))
        simp only [jx_z_get hn, ha]
        rw [if_pos e]
        exact ⟨rfl, hM⟩
      next => cases hs
    next => cases hs
  next => cases hs
theorem jx_nw_z (hM : jx_bad M) (hs : jx_nw pc lv M dc ds df x st = some r) : jx_nw pc lv (M.set 0 z) dc ds df x st = some (jx_mz z r) ∧ jx_p0 r := by
  unfold jx_nw at hs ⊢
  split at hs
  next ci =>
    split at hs
    next fs hf =>
      cases hs
      simp only [hf, jx_bad_len]
      exact ⟨by show some (Sum.inl (_, _, _, _, _)) = some (Sum.inl (_, _, _, _, _)); rw [jx_z_app hM], jx_bad_app hM⟩
    next hf =>
      split at hs
      next e =>
        cases hs
        try simp only [hf]
        rw [if_pos e]
        exact ⟨rfl, trivial⟩
      next => cases hs
  next => cases hs
theorem jx_na_z {len : Nat} (hM : jx_bad M) (hs : jx_na len pc lv M dc ds x st = some r) : jx_na len pc lv (M.set 0 z) dc ds x st = some (jx_mz z r) ∧ jx_p0 r := by
  unfold jx_na at hs ⊢
  split at hs
  next t n r0 =>
    split at hs
    next => cases hs
    next e =>
      cases hs
      try dsimp only
      rw [if_neg e, jx_bad_len]
      exact ⟨by show some (Sum.inl (_, _, _, _, _)) = some (Sum.inl (_, _, _, _, _)); rw [jx_z_app hM], jx_bad_app hM⟩
  next => cases hs
theorem jx_mu_z (hM : jx_bad M) (hs : jx_mu pc lv M dc ds x st = some r) : jx_mu pc lv (M.set 0 z) dc ds x st = some (jx_mz z r) ∧ jx_p0 r := by
  unfold jx_mu at hs ⊢
  split at hs
  next =>
    split at hs
    next => cases hs
    next e =>
      cases hs
      try dsimp only
      rw [if_neg e, jx_bad_len]
      exact ⟨by show some (Sum.inl (_, _, _, _, _)) = some (Sum.inl (_, _, _, _, _)); rw [jx_z_app hM], jx_bad_app hM⟩
  next =>
    split at hs
    next => cases hs
    next e =>
      cases hs
      try dsimp only
      rw [if_neg e, jx_bad_len]
      exact ⟨by show some (Sum.inl (_, _, _, _, _)) = some (Sum.inl (_, _, _, _, _)); rw [jx_z_app hM], jx_bad_app hM⟩
  next => cases hs
theorem jx_cv_z (hx : x.contains 999 = false) (hM : jx_bad M) (hs : jx_cv M x st = some r) : jx_cv (M.set 0 z) x st = some (jx_mz z r) ∧ jx_p0 r := by
  unfold jx_cv at hs ⊢
  split at hs
  next k n ci =>
    split at hs
    next b r0 hdr =>
      split at hs
      next cj L hb =>
        split at hs
        next e =>
          cases hs
          have hn : b ≠ 0 := jx_bad_ne hM hb (fun q => by
            cases q
            have h1 : 999 = ci := e.1
            rw [← h1] at hx
            simp at hx)
          simp only [jx_z_get hn, hb, hdr]
          rw [if_pos e]
          exact ⟨rfl, trivial⟩
        next => cases hs
      next => cases hs
    next => cases hs
  next => cases hs
set_option maxHeartbeats 2000000 in
theorem jx_step_z {i : Instr} (hx : x.contains 999 = false) (hM : jx_bad M) (hs : jx_step df nL ret ini i x va pc lv st M dc ds = some r) : jx_step df nL ret ini i x va pc lv st (M.set 0 z) dc ds = some (jx_mz z r) ∧ jx_p0 r := by
  cases i
  case getfield => exact jx_gf_z hM hs
  case putfield => exact jx_pf_z hM hs
  case baload => exact jx_ald_z hM hs
  case laload => exact jx_ald_z hM hs
  case aaload => exact jx_ald_z hM hs
  case iastore => exact jx_ast_z hM hs
  case bastore => exact jx_ast_z hM hs
  case lastore => exact jx_ast_z hM hs
  case arraylength => exact jx_al_z hM hs
  case new => exact jx_nw_z hM hs
  case newarray => exact jx_na_z hM hs
  case anewarray => exact jx_na_z hM hs
  case multianewarray => exact jx_mu_z hM hs
  case invokevirtual => exact jx_cv_z hx hM hs
  case iaload =>
    have hs : jx_or (jx_ald [102] jx_isI pc lv M dc ds st) (jx_ald [200] jx_isI pc lv M dc ds st) = some r := hs
    show jx_or (jx_ald [102] jx_isI pc lv (M.set 0 z) dc ds st) (jx_ald [200] jx_isI pc lv (M.set 0 z) dc ds st) = _ ∧ _
    cases hA : jx_ald [102] jx_isI pc lv M dc ds st with
    | some q =>
      rw [hA] at hs
      cases hs
      obtain ⟨h1, h2⟩ := jx_ald_z (z := z) hM hA
      rw [h1]
      exact ⟨rfl, h2⟩
    | none =>
      rw [hA] at hs
      have hs : jx_ald [200] jx_isI pc lv M dc ds st = some r := hs
      obtain ⟨h1, h2⟩ := jx_ald_z (z := z) hM hs
      have h3 := jx_ald_e (ks := [102]) (w := jx_isI) (pc := pc) (lv := lv) (M := M) (z := z) (dc := dc) (ds := ds) (jx_ald_nz hM (by decide) hs)
      rw [hA] at h3
      rw [h3, h1]
      exact ⟨rfl, h2⟩
  case aastore =>
    have hs : jx_or (jx_aas pc lv M dc ds st) (jx_aat pc lv M dc ds st) = some r := hs
    show jx_or (jx_aas pc lv (M.set 0 z) dc ds st) (jx_aat pc lv (M.set 0 z) dc ds st) = _ ∧ _
    cases hA : jx_aas pc lv M dc ds st with
    | some q =>
      rw [hA] at hs
      cases hs
      obtain ⟨h1, h2⟩ := jx_aas_z (z := z) hM hA
      rw [h1]
      exact ⟨rfl, h2⟩
    | none =>
      rw [hA] at hs
      have hs : jx_aat pc lv M dc ds st = some r := hs
      obtain ⟨h1, h2⟩ := jx_aat_z (z := z) hM hs
      have h3 := jx_aas_e (pc := pc) (lv := lv) (M := M) (z := z) (dc := dc) (ds := ds) (jx_aas_nz hM hs)
      rw [hA] at h3
      rw [h3, h1]
      exact ⟨rfl, h2⟩
  all_goals refine jx_thru (f := fun M => jx_step df nL ret ini _ x va pc lv st M dc ds) (fun M M' => ?_) hM hs
  all_goals first
    | rfl
    | (simp only [jx_step, jx_k, jx_cs, jx_ci, jx_ri, jx_rl, jx_ra, jx_rv, jx_ld, jx_sr, jx_sr2, jx_inc, jx_du, jx_po, jx_d2, jx_ts, jx_lus, jx_bz, jx_bc, jx_to]
       repeat' split
       all_goals rfl)
/-- no row of the code speaks of that kind -/
def jx_cln (P : List jx_Me) : Bool := P.all fun me => me.2.2.2.2.2.all fun q => !(q.2.2.2.1.contains 999)
theorem jx_pr_z {k : Nat} {As : List Value} {v : Option Value} {M1 : jx_H} (hM : jx_bad M) (hs : jx_pr k As M = some (v, M1)) : jx_pr k As (M.set 0 z) = some (v, M1.set 0 z) ∧ jx_bad M1 := by
  unfold jx_pr at hs ⊢
  split at hs
  next => cases hs; exact ⟨rfl, hM⟩
  next a =>
    split at hs
    next L ha =>
      cases hs
      have hn : a ≠ 0 := jx_bad_ne hM ha (fun q => by cases q)
      simp only [jx_z_get hn, ha]
      exact ⟨by first | rfl | trivial, hM⟩
    next => cases hs
  next a i =>
    split at hs
    next L ha =>
      split at hs
      next => cases hs
      next hi =>
        split at hs
        next w hw =>
          cases hs
          have hn : a ≠ 0 := jx_bad_ne hM ha (fun q => by cases q)
          simp only [jx_z_get hn, ha]
          rw [if_neg hi]
          simp only [hw]
          exact ⟨by first | rfl | trivial, hM⟩
        next => cases hs
    next => cases hs
  next a sp b dp n =>
    split at hs
    next f g ha hb =>
      split at hs
      next e =>
        cases hs
        have hn : a ≠ 0 := jx_bad_ne hM ha (fun q => by cases q)
        have hn2 : b ≠ 0 := jx_bad_ne hM hb (fun q => by cases q)
        simp only [jx_z_get hn, jx_z_get hn2, ha, hb]
        rw [if_pos e]
        refine ⟨?_, jx_bad_set hM hn2⟩
        rw [jx_z_set hn2]
      next => cases hs
    next => cases hs
  next => cases hs
theorem jx_run_z {P : List jx_Me} (hP : jx_cln P = true) : ∀ (n : Nat) {me : jx_Me} {fr lo pc : Nat} {lv : List (Nat × Value)} {st : List Value} {M : jx_H} {dc ds : Nat} {o : Option Value ⊕ Nat} {M' : jx_H} {mc ms : Nat}, jx_cln [me] = true → jx_bad M → jx_run df P n me fr lo pc lv st M dc ds = some (o, M', mc, ms) → jx_run df P n me fr lo pc lv st (M.set 0 z) dc ds = some (o, M'.set 0 z, mc, ms) ∧ jx_bad M' ∧ ∀ a, o = .inr a → a ≠ 0 := by
  intro n
  induction n with
  | zero => intro me fr lo pc lv st M dc ds o M' mc ms _ _ hs; cases hs
  | succ n ih =>
    intro me fr lo pc lv st M dc ds o M' mc ms hme hM hs
    rw [jx_run] at hs ⊢
    cases hat : jx_at pc me.2.2.2.2.2 with
    | none => rw [hat] at hs; cases hs
    | some q =>
      obtain ⟨i, len, x, va⟩ := q
      rw [hat] at hs
      dsimp only at hs ⊢
      have hx : x.contains 999 = false := by
        have h1 := jx_at_mem hat
        simp only [jx_cln, List.all_cons, List.all_nil, Bool.and_true] at hme
        have h2 := List.all_eq_true.mp hme _ h1
        simpa using h2
      cases hst : jx_step df me.2.2.1 me.2.2.2.1 (me.1.name == "<init>") i x va pc lv st M dc ds with
      | none => rw [hst] at hs; cases hs
      | some r =>
        rw [hst] at hs
        obtain ⟨h1, h2⟩ := jx_step_z (z := z) hx hM hst
        rw [h1]
        rcases r with ⟨a, b, c, d, e⟩ | ⟨k, As, r⟩ | v | ci
        · exact ih hme h2 hs
        · dsimp only [jx_mz] at hs ⊢
          split at hs
          next h9 =>
            (try rw [if_pos h9])
            split at hs
            next hroom =>
              (try rw [if_pos hroom])
              split at hs
              next v M1 hpr =>
                obtain ⟨g1, g2⟩ := jx_pr_z (z := z) hM hpr
                rw [g1]
                exact ih hme g2 hs
              next => cases hs
            next => cases hs
          next h9 =>
            (try rw [if_neg h9])
            split at hs
            · cases hs
            next m2 hk =>
              (try rw [hk])
              (try dsimp only)
              have hm2 : jx_cln [m2] = true := by
                simp only [jx_cln, List.all_cons, List.all_nil, Bool.and_true]
                exact List.all_eq_true.mp hP _ (List.mem_of_getElem? hk)
              split at hs
              next hc =>
                (try rw [if_pos hc])
                split at hs
                · cases hs
                next v M1 c1 s1 hr =>
                  obtain ⟨g1, g2, -⟩ := ih hm2 hM hr
                  rw [g1]
                  exact ih hme g2 hs
                next a M1 c1 s1 hr =>
                  obtain ⟨g1, g2, g3⟩ := ih hm2 hM hr
                  have ha : a ≠ 0 := g3 a rfl
                  rw [g1]
                  (try dsimp only)
                  rw [jx_z_get ha]
                  split at hs
                  · cases hs
                  next ci fs hMa =>
                    (try rw [hMa])
                    (try dsimp only)
                    split at hs
                    next h1 => (try rw [h1]); cases hs; exact ⟨rfl, g2, fun b hb => by cases hb; exact ha⟩
                    next => cases hs
                    next q hs0 t h1 h2 =>
                      (try rw [h2, h1])
                      exact ih hme g2 hs
              next => cases hs
        · cases hs
          exact ⟨rfl, hM, fun b hb => by cases hb⟩
        · dsimp only [jx_mz] at hs ⊢
          split at hs
          next h1 =>
            split at hs
            next h2 =>
              cases hs
              (try rw [h1])
              (try dsimp only)
              rw [if_pos h2, jx_bad_len, jx_z_app hM]
              exact ⟨rfl, jx_bad_app hM, fun b hb => by
                cases hb
                have := (List.getElem?_eq_some_iff.mp hM).1
                omega⟩
            next => cases hs
          next => cases hs
end JF
