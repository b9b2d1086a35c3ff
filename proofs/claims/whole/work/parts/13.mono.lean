section JX7
theorem jx_k_mono {pc dc ds : Nat} {lv : List (Nat × Value)} {st : Option (List Value)} {M : jx_H} {z : jx_N} (hs : jx_k pc lv st M dc ds = some (.inl z)) : dc ≤ z.2.2.2.2.1 ∧ ds ≤ z.2.2.2.2.2 := by
  unfold jx_k at hs
  split at hs
  · cases hs; exact ⟨Nat.le_refl _, Nat.le_refl _⟩
  · cases hs
theorem jx_to_mono {b : Bool} {len : Nat} {off : Int} {pc dc ds : Nat} {lv : List (Nat × Value)} {st : List Value} {M : jx_H} {z : jx_N} (hs : jx_to b pc len off lv st M dc ds = some (.inl z)) : dc ≤ z.2.2.2.2.1 ∧ ds ≤ z.2.2.2.2.2 := by
  unfold jx_to at hs
  split at hs
  · cases hs; exact ⟨Nat.le_refl _, Nat.le_refl _⟩
  · cases hs
theorem jx_ald_mono {ks : List Nat} {w : Value → Bool} {pc dc ds : Nat} {lv : List (Nat × Value)} {st : List Value} {M : jx_H} {z : jx_N} (hs : jx_ald ks w pc lv M dc ds st = some (.inl z)) : dc ≤ z.2.2.2.2.1 ∧ ds ≤ z.2.2.2.2.2 := by
  unfold jx_ald at hs
  repeat' split at hs
  all_goals cases hs
  all_goals exact ⟨Nat.le_refl _, Nat.le_refl _⟩
theorem jx_aas_mono {pc dc ds : Nat} {lv : List (Nat × Value)} {st : List Value} {M : jx_H} {z : jx_N} (hs : jx_aas pc lv M dc ds st = some (.inl z)) : dc ≤ z.2.2.2.2.1 ∧ ds ≤ z.2.2.2.2.2 := by
  unfold jx_aas at hs
  repeat' split at hs
  all_goals cases hs
  all_goals exact ⟨Nat.le_refl _, Nat.le_refl _⟩
theorem jx_aat_mono {pc dc ds : Nat} {lv : List (Nat × Value)} {st : List Value} {M : jx_H} {z : jx_N} (hs : jx_aat pc lv M dc ds st = some (.inl z)) : dc ≤ z.2.2.2.2.1 ∧ ds ≤ z.2.2.2.2.2 := by
  unfold jx_aat at hs
  repeat' split at hs
  all_goals cases hs
  all_goals exact ⟨Nat.le_refl _, Nat.le_refl _⟩
set_option maxHeartbeats 1000000 in
theorem jx_step_mono {df : List (List Value)} {nL : Nat} {ret : Option FieldType} {ini : Bool} {i : Instr} {x : List Nat} {va : Value} {pc : Nat} {lv : List (Nat × Value)} {st : List Value} {M : jx_H} {dc ds : Nat} {z : jx_N} (hs : jx_step df nL ret ini i x va pc lv st M dc ds = some (.inl z)) : dc ≤ z.2.2.2.2.1 ∧ ds ≤ z.2.2.2.2.2 := by
  unfold jx_step at hs
  split at hs
  all_goals first
    | exact jx_k_mono hs
    | exact jx_to_mono hs
    | exact jx_ald_mono hs
    | (rcases jx_or_ok hs with hs | hs <;> first | exact jx_ald_mono hs | exact jx_aas_mono hs | exact jx_aat_mono hs)
    | (cases hs <;> exact ⟨Nat.le_refl _, Nat.le_refl _⟩)
    | skip
  all_goals
    try simp only [jx_gf, jx_pf, jx_ast, jx_al, jx_nw, jx_na, jx_mu, jx_cs, jx_cv, jx_ci, jx_ri, jx_rl, jx_ra, jx_rv, jx_ld, jx_sr, jx_sr2, jx_inc, jx_du, jx_po, jx_d2, jx_ts, jx_lus, jx_bz, jx_bc] at hs
  all_goals repeat' split at hs
  all_goals first
    | exact jx_to_mono hs
    | (cases hs <;> first | exact ⟨Nat.le_refl _, Nat.le_refl _⟩ | exact ⟨Nat.le_add_right _ _, Nat.le_add_right _ _⟩)
theorem jx_run_mono {df : List (List Value)} {P : List jx_Me} : ∀ (n : Nat) {me : jx_Me} {fr lo pc : Nat} {lv : List (Nat × Value)} {st : List Value} {M : jx_H} {dc ds : Nat} {o : Option Value ⊕ Nat} {M' : jx_H} {mc ms : Nat}, jx_run df P n me fr lo pc lv st M dc ds = some (o, M', mc, ms) → dc ≤ mc ∧ ds ≤ ms := by
  intro n
  induction n with
  | zero => intro me fr lo pc lv st M dc ds o M' mc ms hs; cases hs
  | succ n ih =>
    intro me fr lo pc lv st M dc ds o M' mc ms hs
    unfold jx_run at hs
    split at hs
    · cases hs
    · split at hs
      · cases hs
      · next z hz =>
        have h1 := jx_step_mono hz
        have h2 := ih hs
        exact ⟨Nat.le_trans h1.1 h2.1, Nat.le_trans h1.2 h2.2⟩
      · split at hs
        · split at hs
          · split at hs
            · exact ih hs
            · cases hs
          · cases hs
        · split at hs
          · cases hs
          · split at hs
            · split at hs
              · cases hs
              · have h2 := ih hs
                exact ⟨by omega, by omega⟩
              · split at hs
                · cases hs
                · split at hs
                  · cases hs
                    exact ⟨Nat.le_add_right _ _, Nat.le_add_right _ _⟩
                  · cases hs
                  · have h2 := ih hs
                    exact ⟨by omega, by omega⟩
            · cases hs
      · cases hs
        exact ⟨Nat.le_refl _, Nat.le_refl _⟩
      · split at hs
        · split at hs
          · cases hs
            exact ⟨Nat.le_add_right _ _, Nat.le_add_right _ _⟩
          · cases hs
        · cases hs
end JX7
