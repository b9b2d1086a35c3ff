section JV
def jx_wl (lv : List (Nat × Value)) : jx_A → jx_A
  | .inl (pc, _, r) => .inl (pc, lv, r)
  | .inr q => .inr q
def jx_isLv (i : Instr) : Bool := match i with
  | .iload _ | .iload_n _ | .lload _ | .lload_n _ | .aload _ | .aload_n _ | .istore _ | .istore_n _ | .lstore _ | .lstore_n _ | .astore _ | .astore_n _ | .iinc _ _ => true
  | _ => false
theorem jx_to_lv (lv lv' : List (Nat × Value)) (b : Bool) (pc len : Nat) (off : Int) (st : List Value) (M : jx_H) (dc ds : Nat) : jx_to b pc len off lv' st M dc ds = (jx_to b pc len off lv st M dc ds).map (jx_wl lv') := by
  unfold jx_to
  split <;> rfl
theorem jx_k_lv (lv lv' : List (Nat × Value)) (pc : Nat) (st : Option (List Value)) (M : jx_H) (dc ds : Nat) : jx_k pc lv' st M dc ds = (jx_k pc lv st M dc ds).map (jx_wl lv') := by
  unfold jx_k
  split <;> rfl
theorem jx_or_lv {a b a' b' : Option jx_A} {lv' : List (Nat × Value)} (h1 : a' = a.map (jx_wl lv')) (h2 : b' = b.map (jx_wl lv')) : jx_or a' b' = (jx_or a b).map (jx_wl lv') := by
  subst h1 h2
  cases a <;> rfl
theorem jx_ald_lv (lv lv' : List (Nat × Value)) (ks : List Nat) (w : Value → Bool) (pc : Nat) (M : jx_H) (dc ds : Nat) (st : List Value) : jx_ald ks w pc lv' M dc ds st = (jx_ald ks w pc lv M dc ds st).map (jx_wl lv') := by
  unfold jx_ald
  repeat' split
  all_goals rfl
theorem jx_aas_lv (lv lv' : List (Nat × Value)) (pc : Nat) (M : jx_H) (dc ds : Nat) (st : List Value) : jx_aas pc lv' M dc ds st = (jx_aas pc lv M dc ds st).map (jx_wl lv') := by
  unfold jx_aas
  repeat' split
  all_goals rfl
theorem jx_aat_lv (lv lv' : List (Nat × Value)) (pc : Nat) (M : jx_H) (dc ds : Nat) (st : List Value) : jx_aat pc lv' M dc ds st = (jx_aat pc lv M dc ds st).map (jx_wl lv') := by
  unfold jx_aat
  repeat' split
  all_goals rfl
set_option maxHeartbeats 2000000 in
theorem jx_step_lv {df : List (List Value)} {nL : Nat} {ret : Option FieldType} {ini : Bool} {i : Instr} (h : jx_isLv i = false) {x : List Nat} {va : Value} {pc : Nat} (lv lv' : List (Nat × Value)) {st : List Value} {M : jx_H} {dc ds : Nat} : jx_step df nL ret ini i x va pc lv' st M dc ds = (jx_step df nL ret ini i x va pc lv st M dc ds).map (jx_wl lv') := by
  cases i
  all_goals first
    | (cases h; done)
    | rfl
    | exact jx_k_lv lv lv' _ _ _ _ _
    | exact jx_to_lv lv lv' _ _ _ _ _ _ _ _
    | exact jx_ald_lv lv lv' _ _ _ _ _ _ _
    | exact jx_or_lv (jx_ald_lv lv lv' _ _ _ _ _ _ _) (jx_ald_lv lv lv' _ _ _ _ _ _ _)
    | exact jx_or_lv (jx_aas_lv lv lv' _ _ _ _ _) (jx_aat_lv lv lv' _ _ _ _ _)
    | (simp only [jx_step, jx_gf, jx_pf, jx_ast, jx_al, jx_nw, jx_na, jx_mu, jx_cs, jx_cv, jx_ci, jx_ri, jx_rl, jx_ra, jx_rv, jx_du, jx_po, jx_d2, jx_ts, jx_lus, jx_bz, jx_bc]
       repeat' split
       all_goals first
         | rfl
         | exact jx_to_lv lv lv' _ _ _ _ _ _ _ _)
/-- what the first list tells, the second tells too -/
def jx_sub (l1 l : List (Nat × Value)) : Prop := ∀ (i : Nat) (v : Value), jx_lk l1 i = some v → jx_lk l i = some v
theorem jx_lk_fil {P : Nat → Value → Bool} {l : List (Nat × Value)} (hn : (l.map Prod.fst).Nodup) {j : Nat} {v : Value} : jx_lk (l.filter (fun q => P q.1 q.2)) j = some v ↔ jx_lk l j = some v ∧ P j v = true := by
  induction l with
  | nil => simp [jx_lk]
  | cons q l ih =>
    obtain ⟨k, w⟩ := q
    simp only [List.map_cons, List.nodup_cons] at hn
    have ih := ih hn.2
    by_cases e : k = j
    · subst e
      have h0 : jx_lk l k = none := by
        cases hh : jx_lk l k with
        | none => rfl
        | some u =>
          exfalso
          unfold jx_lk at hh
          obtain ⟨q, hq, -⟩ := Option.map_eq_some_iff.mp hh
          have h1 := List.mem_of_find?_eq_some hq
          have h2 := List.find?_some hq
          have h2 : q.1 = k := by simpa using h2
          exact hn.1 (h2 ▸ List.mem_map.mpr ⟨q, h1, rfl⟩)
      have h1 : jx_lk ((k, w) :: l) k = some w := by simp [jx_lk]
      rw [List.filter_cons]
      by_cases hp : P k w = true
      · rw [if_pos (by exact hp)]
        have : jx_lk ((k, w) :: l.filter (fun q => P q.1 q.2)) k = some w := by simp [jx_lk]
        rw [this, h1]
        constructor
        · intro q
          cases q
          exact ⟨rfl, hp⟩
        · intro q
          exact q.1
      · rw [if_neg (by exact hp), ih, h0, h1]
        constructor
        · intro q
          exact absurd q.1 (by simp)
        · rintro ⟨q1, q2⟩
          cases q1
          exact absurd q2 hp
    · have h1 : jx_lk ((k, w) :: l) j = jx_lk l j := by simp [jx_lk, e]
      rw [h1, List.filter_cons]
      split
      · have : jx_lk ((k, w) :: l.filter (fun q => P q.1 q.2)) j = jx_lk (l.filter (fun q => P q.1 q.2)) j := by simp [jx_lk, e]
        rw [this, ih]
      · exact ih
theorem jx_lk_cons {l : List (Nat × Value)} {i j : Nat} {v : Value} : jx_lk ((i, v) :: l) j = if i = j then some v else jx_lk l j := by
  by_cases e : i = j
  · subst e; simp [jx_lk]
  · simp [jx_lk, e]
theorem jx_sub_up {l1 l : List (Nat × Value)} (n1 : (l1.map Prod.fst).Nodup) (n2 : (l.map Prod.fst).Nodup) (h : jx_sub l1 l) (i : Nat) (v : Value) (P : Nat → Value → Bool) : jx_sub ((i, v) :: l1.filter (fun q => P q.1 q.2)) ((i, v) :: l.filter (fun q => P q.1 q.2)) := by
  intro j w hw
  rw [jx_lk_cons] at hw ⊢
  split at hw
  next e => rw [if_pos e]; exact hw
  next e =>
    rw [if_neg e]
    have := (jx_lk_fil n1).mp hw
    exact (jx_lk_fil n2).mpr ⟨h j w this.1, this.2⟩
theorem jx_nd_up {l : List (Nat × Value)} (n : (l.map Prod.fst).Nodup) (i : Nat) (v : Value) (P : Nat → Value → Bool) (hP : ∀ w, P i w = false) : (((i, v) :: l.filter (fun q => P q.1 q.2)).map Prod.fst).Nodup := by
  simp only [List.map_cons, List.nodup_cons]
  refine ⟨fun h => ?_, (List.Nodup.sublist (List.Sublist.map _ List.filter_sublist) n)⟩
  obtain ⟨q, hq, e⟩ := List.mem_map.mp h
  have := (List.mem_filter.mp hq).2
  rw [e, hP] at this
  cases this
end JV
section JV2
variable {df : List (List Value)} {P : List jx_Me}
theorem jx_step_same {nL : Nat} {ret : Option FieldType} {ini : Bool} {i : Instr} (h : jx_isLv i = false) {x : List Nat} {va : Value} {pc : Nat} {l1 : List (Nat × Value)} {st : List Value} {M : jx_H} {dc ds : Nat} {z : jx_N} (hs : jx_step df nL ret ini i x va pc l1 st M dc ds = some (.inl z)) : z = (z.1, l1, z.2.2) := by
  have h1 := jx_step_lv (df := df) (nL := nL) (ret := ret) (ini := ini) h (x := x) (va := va) (pc := pc) l1 l1 (st := st) (M := M) (dc := dc) (ds := ds)
  rw [hs] at h1
  obtain ⟨z1, z2, z3⟩ := z
  have h1 : some (Sum.inl (z1, z2, z3)) = some (Sum.inl (z1, l1, z3)) := h1
  cases h1
  rfl
theorem jx_ld_sub {n : Nat} {w : Value → Bool} {pc dc ds i : Nat} {l1 l : List (Nat × Value)} {M : jx_H} {st : List Value} {r : jx_A} (h : jx_sub l1 l) (hs : jx_ld n w pc l1 M dc ds i st = some r) : ∃ z : jx_N, r = .inl z ∧ z.2.1 = l1 ∧ jx_ld n w pc l M dc ds i st = some (.inl (z.1, l, z.2.2)) := by
  unfold jx_ld at hs ⊢
  split at hs
  next v hv =>
    split at hs
    next hw =>
      cases hs
      refine ⟨_, rfl, rfl, ?_⟩
      simp only [h i v hv]
      rw [if_pos hw]
    next => cases hs
  next => cases hs
/-- the lists behind a step that touches the locals -/
theorem jx_step_sub {nL : Nat} {ret : Option FieldType} {ini : Bool} {i : Instr} (hi : jx_isLv i = true) {x : List Nat} {va : Value} {pc : Nat} {l1 l : List (Nat × Value)} {st : List Value} {M : jx_H} {dc ds : Nat} {r : jx_A} (n1 : (l1.map Prod.fst).Nodup) (n2 : (l.map Prod.fst).Nodup) (h : jx_sub l1 l) (hs : jx_step df nL ret ini i x va pc l1 st M dc ds = some r) :
    ∃ (z : jx_N) (l' : List (Nat × Value)), r = .inl z ∧ jx_step df nL ret ini i x va pc l st M dc ds = some (.inl (z.1, l', z.2.2)) ∧ (z.2.1.map Prod.fst).Nodup ∧ (l'.map Prod.fst).Nodup ∧ jx_sub z.2.1 l' := by
  have ld : ∀ {n : Nat} {w : Value → Bool} {k : Nat}, jx_ld n w pc l1 M dc ds k st = some r → ∃ (z : jx_N) (l' : List (Nat × Value)), r = .inl z ∧ jx_ld n w pc l M dc ds k st = some (.inl (z.1, l', z.2.2)) ∧ (z.2.1.map Prod.fst).Nodup ∧ (l'.map Prod.fst).Nodup ∧ jx_sub z.2.1 l' := fun hs => by
    obtain ⟨z, h1, h2, h3⟩ := jx_ld_sub h hs
    exact ⟨z, l, h1, h3, by rw [h2]; exact n1, n2, by rw [h2]; exact h⟩
  have s1 : ∀ (k : Nat) (v : Value), ((jx_s1 l1 k v).map Prod.fst).Nodup ∧ ((jx_s1 l k v).map Prod.fst).Nodup ∧ jx_sub (jx_s1 l1 k v) (jx_s1 l k v) := fun k v =>
    ⟨jx_nd_up n1 k v (fun a b => !(a == k) && !(a + 1 == k && b.category == 2)) (fun w => by simp), jx_nd_up n2 k v (fun a b => !(a == k) && !(a + 1 == k && b.category == 2)) (fun w => by simp), jx_sub_up n1 n2 h k v (fun a b => !(a == k) && !(a + 1 == k && b.category == 2))⟩
  have s2 : ∀ (k : Nat) (v : Value), ((jx_s2 l1 k v).map Prod.fst).Nodup ∧ ((jx_s2 l k v).map Prod.fst).Nodup ∧ jx_sub (jx_s2 l1 k v) (jx_s2 l k v) := fun k v =>
    ⟨jx_nd_up n1 k v (fun a b => !(a == k) && (!(a == k + 1) && !(a + 1 == k && b.category == 2))) (fun w => by simp), jx_nd_up n2 k v (fun a b => !(a == k) && (!(a == k + 1) && !(a + 1 == k && b.category == 2))) (fun w => by simp), jx_sub_up n1 n2 h k v (fun a b => !(a == k) && (!(a == k + 1) && !(a + 1 == k && b.category == 2)))⟩
  have sr : ∀ {n : Nat} {w : Value → Bool} {k : Nat}, jx_sr n nL w pc l1 M dc ds k st = some r → ∃ (z : jx_N) (l' : List (Nat × Value)), r = .inl z ∧ jx_sr n nL w pc l M dc ds k st = some (.inl (z.1, l', z.2.2)) ∧ (z.2.1.map Prod.fst).Nodup ∧ (l'.map Prod.fst).Nodup ∧ jx_sub z.2.1 l' := fun {n w k} hs => by
    unfold jx_sr at hs ⊢
    split at hs
    next v r1 hq =>
      split at hs
      next hw =>
        cases hs
        exact ⟨_, jx_s1 l k v, rfl, by simp only []; rw [if_pos hw], s1 k v⟩
      next => cases hs
    next => cases hs
  have sr2 : ∀ {n : Nat} {k : Nat}, jx_sr2 n nL pc l1 M dc ds k st = some r → ∃ (z : jx_N) (l' : List (Nat × Value)), r = .inl z ∧ jx_sr2 n nL pc l M dc ds k st = some (.inl (z.1, l', z.2.2)) ∧ (z.2.1.map Prod.fst).Nodup ∧ (l'.map Prod.fst).Nodup ∧ jx_sub z.2.1 l' := fun {n k} hs => by
    unfold jx_sr2 at hs ⊢
    split at hs
    next v r1 hq =>
      split at hs
      next hw =>
        cases hs
        exact ⟨_, jx_s2 l k (.long v), rfl, by simp only []; rw [if_pos hw], s2 k (.long v)⟩
      next => cases hs
    next => cases hs
  cases i
  case iload k => exact ld hs
  case iload_n k => exact ld hs
  case lload k => exact ld hs
  case lload_n k => exact ld hs
  case aload k => exact ld hs
  case aload_n k => exact ld hs
  case istore k => exact sr hs
  case istore_n k => exact sr hs
  case astore k => exact sr hs
  case astore_n k => exact sr hs
  case lstore k => exact sr2 hs
  case lstore_n k => exact sr2 hs
  case iinc k c =>
    have hs : jx_inc nL pc l1 M dc ds k c st = some r := hs
    show ∃ (z : jx_N) (l' : List (Nat × Value)), r = .inl z ∧ jx_inc nL pc l M dc ds k c st = some (.inl (z.1, l', z.2.2)) ∧ _
    unfold jx_inc at hs ⊢
    split at hs
    next y hy =>
      split at hs
      next hw =>
        cases hs
        refine ⟨_, jx_s1 l k (.int (y + Int32.ofInt c)), rfl, ?_, s1 k _⟩
        simp only [h k _ hy]
        rw [if_pos hw]
      next => cases hs
    next => cases hs
  all_goals cases hi
theorem jx_run_sub : ∀ (n : Nat) {me : jx_Me} {fr lo pc : Nat} {l1 l : List (Nat × Value)} {st : List Value} {M : jx_H} {dc ds : Nat} {o : jx_O}, (l1.map Prod.fst).Nodup → (l.map Prod.fst).Nodup → jx_sub l1 l → jx_run df P n me fr lo pc l1 st M dc ds = some o → jx_run df P n me fr lo pc l st M dc ds = some o := by
  intro n
  induction n with
  | zero => intro me fr lo pc l1 l st M dc ds o _ _ _ hs; cases hs
  | succ n ih =>
    intro me fr lo pc l1 l st M dc ds o n1 n2 hsub hs
    rw [jx_run] at hs ⊢
    cases hat : jx_at pc me.2.2.2.2.2 with
    | none => rw [hat] at hs; cases hs
    | some q =>
      obtain ⟨i, len, x, va⟩ := q
      rw [hat] at hs
      dsimp only at hs ⊢
      cases hst : jx_step df me.2.2.1 me.2.2.2.1 (me.1.name == "<init>") i x va pc l1 st M dc ds with
      | none => rw [hst] at hs; cases hs
      | some r =>
        rw [hst] at hs
        cases hi : jx_isLv i with
        | true =>
          obtain ⟨z, l', rfl, h2, h3, h4, h5⟩ := jx_step_sub hi n1 n2 hsub hst
          rw [h2]
          exact ih h3 h4 h5 hs
        | false =>
          have h2 := jx_step_lv (df := df) (nL := me.2.2.1) (ret := me.2.2.2.1) (ini := me.1.name == "<init>") hi (x := x) (va := va) (pc := pc) l1 l (st := st) (M := M) (dc := dc) (ds := ds)
          rw [h2, hst]
          rcases r with z | ⟨k, As, r⟩ | v | ci
          · have h3 := jx_step_same hi hst
            rw [h3] at hs
            exact ih n1 n2 hsub hs
          · dsimp only [Option.map, jx_wl] at hs ⊢
            split at hs
            next h9 =>
              (try rw [if_pos h9])
              split at hs
              next hroom =>
                (try rw [if_pos hroom])
                split at hs
                next v M1 hpr =>
                  (try rw [hpr])
                  exact ih n1 n2 hsub hs
                next => cases hs
              next => cases hs
            next h9 =>
              (try rw [if_neg h9])
              split at hs
              · cases hs
              next m2 hP =>
                (try rw [hP])
                (try dsimp only)
                split at hs
                next hc =>
                  (try rw [if_pos hc])
                  split at hs
                  · cases hs
                  next v M1 c1 s1 hr =>
                    (try rw [hr])
                    exact ih n1 n2 hsub hs
                  next a M1 c1 s1 hr =>
                    (try rw [hr])
                    (try dsimp only)
                    split at hs
                    · cases hs
                    next ci fs hM =>
                      (try rw [hM])
                      (try dsimp only)
                      split at hs
                      next h1 => (try rw [h1]); exact hs
                      next => cases hs
                      next q hs0 t h1 h2 =>
                        (try rw [h2, h1])
                        exact ih n1 n2 hsub hs
                next => cases hs
          · exact hs
          · exact hs
def jx_ndb : List (Nat × Value) → Bool
  | [] => true
  | q :: l => !(l.any (fun r => r.1 == q.1)) && jx_ndb l
theorem jx_ndb_ok : ∀ {l : List (Nat × Value)}, jx_ndb l = true → (l.map Prod.fst).Nodup
  | [], _ => List.nodup_nil
  | q :: l, h => by
    simp only [jx_ndb, Bool.and_eq_true, Bool.not_eq_true', List.any_eq_false] at h
    rw [List.map_cons, List.nodup_cons]
    refine ⟨fun hm => ?_, jx_ndb_ok h.2⟩
    obtain ⟨r, hr, e⟩ := List.mem_map.mp hm
    exact h.1 r hr (by simp [e])
def jx_subl (l : List (Nat × Value)) : List (Nat × Value) → Prop
  | [] => True
  | q :: l1 => jx_lk l q.1 = some q.2 ∧ jx_subl l l1
theorem jx_subl_ok {l : List (Nat × Value)} : ∀ {l1 : List (Nat × Value)}, jx_subl l l1 → ∀ q ∈ l1, jx_lk l q.1 = some q.2
  | [], _, q, hq => by cases hq
  | r :: l1, h, q, hq => by
    rcases List.mem_cons.mp hq with rfl | hq
    · exact h.1
    · exact jx_subl_ok h.2 q hq
theorem jt_lvs {me : jx_Me} {fr lo pc : Nat} {l1 l : List (Nat × Value)} {st : List Value} {M : jx_H} {dc ds : Nat} {o : jx_O} (n1 : jx_ndb l1 = true) (n2 : jx_ndb l = true) (h : jx_subl l l1) (k : jt me fr lo pc l1 st M dc ds o) : jt me fr lo pc l st M dc ds o := by
  obtain ⟨n, hn⟩ := k
  refine ⟨n, jx_run_sub n (jx_ndb_ok n1) (jx_ndb_ok n2) (fun i v hv => ?_) hn⟩
  unfold jx_lk at hv
  obtain ⟨q, hq, e⟩ := Option.map_eq_some_iff.mp hv
  have h3 := List.mem_of_find?_eq_some hq
  have h4 := List.find?_some hq
  have h4 : q.1 = i := by simpa using h4
  rw [← h4, ← e]
  exact jx_subl_ok h q h3
end JV2
