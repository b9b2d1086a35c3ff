section JX2
def jx_E (dA : Nat → ClassId) (K : (Nat × List Value) → Nat → Prop) (R : List Nat) (M : jx_H) (h : jm_H) (lv : List (Nat × Value)) (st : List Value) (lw : List (Nat × Value)) (sw : List Value) : Prop := jx_re dA K R M h ∧ jx_lv R lv lw ∧ jx_vs R st sw
def jx_go (dA : Nat → ClassId) (K : (Nat × List Value) → Nat → Prop) (Wk : Nat → List (Nat × Value) → List Value → jm_H → Nat → Nat → Prop) (R : List Nat) (z : jx_N) : Prop :=
  ∀ (R' : List Nat) (h' : jm_H) (lw : List (Nat × Value)) (sw : List Value), R <+: R' → jx_E dA K R' z.2.2.2.1 h' z.2.1 z.2.2.1 lw sw → Wk z.1 lw sw h' z.2.2.2.2.1 z.2.2.2.2.2
variable {dA : Nat → ClassId} {K : (Nat × List Value) → Nat → Prop} {R : List Nat} {M : jx_H} {h : jm_H} {lv lw : List (Nat × Value)} {st sw : List Value} {Wk : Nat → List (Nat × Value) → List Value → jm_H → Nat → Nat → Prop} {z : jx_N} {pc pc1 dc ds : Nat}
theorem jx_f_ii {f : Int32 → Int32 → Int32} (hs : jx_k pc1 lv (jx_ii f st) M dc ds = some (.inl z)) (E : jx_E dA K R M h lv st lw sw) (row : ∀ x y r, Wk pc1 lw (.int (f x y) :: r) h dc ds → Wk pc lw (.int y :: .int x :: r) h dc ds) (kk : jx_go dA K Wk R z) : Wk pc lw sw h dc ds := by
  obtain ⟨E1, E2, E3⟩ := E
  unfold jx_ii at hs
  split at hs
  next y x r =>
    cases hs
    obtain ⟨w1, rfl, E4⟩ := jx_vs_int E3
    obtain ⟨w2, rfl, E5⟩ := jx_vs_int E4
    exact row x y _ (kk R h lw _ List.prefix_rfl ⟨E1, E2, rfl, E5⟩)
  next => cases hs
theorem jx_f_ll {f : Int64 → Int64 → Int64} (hs : jx_k pc1 lv (jx_ll f st) M dc ds = some (.inl z)) (E : jx_E dA K R M h lv st lw sw) (row : ∀ x y r, Wk pc1 lw (.long (f x y) :: r) h dc ds → Wk pc lw (.long y :: .long x :: r) h dc ds) (kk : jx_go dA K Wk R z) : Wk pc lw sw h dc ds := by
  obtain ⟨E1, E2, E3⟩ := E
  unfold jx_ll at hs
  split at hs
  next y x r =>
    cases hs
    obtain ⟨w1, rfl, E4⟩ := jx_vs_long E3
    obtain ⟨w2, rfl, E5⟩ := jx_vs_long E4
    exact row x y _ (kk R h lw _ List.prefix_rfl ⟨E1, E2, rfl, E5⟩)
  next => cases hs
theorem jx_f_iz {f : Int32 → Int32 → Int32} (hs : jx_k pc1 lv (jx_iz f st) M dc ds = some (.inl z)) (E : jx_E dA K R M h lv st lw sw) (row : ∀ x y r, ¬ y = 0 → Wk pc1 lw (.int (f x y) :: r) h dc ds → Wk pc lw (.int y :: .int x :: r) h dc ds) (kk : jx_go dA K Wk R z) : Wk pc lw sw h dc ds := by
  obtain ⟨E1, E2, E3⟩ := E
  unfold jx_iz at hs
  split at hs
  next y x r =>
    split at hs
    next => cases hs
    next hz =>
      cases hs
      obtain ⟨w1, rfl, E4⟩ := jx_vs_int E3
      obtain ⟨w2, rfl, E5⟩ := jx_vs_int E4
      exact row x y _ hz (kk R h lw _ List.prefix_rfl ⟨E1, E2, rfl, E5⟩)
  next => cases hs
theorem jx_f_lz {f : Int64 → Int64 → Int64} (hs : jx_k pc1 lv (jx_lz f st) M dc ds = some (.inl z)) (E : jx_E dA K R M h lv st lw sw) (row : ∀ x y r, ¬ y = 0 → Wk pc1 lw (.long (f x y) :: r) h dc ds → Wk pc lw (.long y :: .long x :: r) h dc ds) (kk : jx_go dA K Wk R z) : Wk pc lw sw h dc ds := by
  obtain ⟨E1, E2, E3⟩ := E
  unfold jx_lz at hs
  split at hs
  next y x r =>
    split at hs
    next => cases hs
    next hz =>
      cases hs
      obtain ⟨w1, rfl, E4⟩ := jx_vs_long E3
      obtain ⟨w2, rfl, E5⟩ := jx_vs_long E4
      exact row x y _ hz (kk R h lw _ List.prefix_rfl ⟨E1, E2, rfl, E5⟩)
  next => cases hs
theorem jx_f_li {f : Int64 → Int32 → Int64} (hs : jx_k pc1 lv (jx_li f st) M dc ds = some (.inl z)) (E : jx_E dA K R M h lv st lw sw) (row : ∀ x y r, Wk pc1 lw (.long (f x y) :: r) h dc ds → Wk pc lw (.int y :: .long x :: r) h dc ds) (kk : jx_go dA K Wk R z) : Wk pc lw sw h dc ds := by
  obtain ⟨E1, E2, E3⟩ := E
  unfold jx_li at hs
  split at hs
  next y x r =>
    cases hs
    obtain ⟨w1, rfl, E4⟩ := jx_vs_int E3
    obtain ⟨w2, rfl, E5⟩ := jx_vs_long E4
    exact row x y _ (kk R h lw _ List.prefix_rfl ⟨E1, E2, rfl, E5⟩)
  next => cases hs
theorem jx_f_lc {f : Int64 → Int64 → Int32} (hs : jx_k pc1 lv (jx_lc f st) M dc ds = some (.inl z)) (E : jx_E dA K R M h lv st lw sw) (row : ∀ x y r, Wk pc1 lw (.int (f x y) :: r) h dc ds → Wk pc lw (.long y :: .long x :: r) h dc ds) (kk : jx_go dA K Wk R z) : Wk pc lw sw h dc ds := by
  obtain ⟨E1, E2, E3⟩ := E
  unfold jx_lc at hs
  split at hs
  next y x r =>
    cases hs
    obtain ⟨w1, rfl, E4⟩ := jx_vs_long E3
    obtain ⟨w2, rfl, E5⟩ := jx_vs_long E4
    exact row x y _ (kk R h lw _ List.prefix_rfl ⟨E1, E2, rfl, E5⟩)
  next => cases hs
theorem jx_f_i1 {f : Int32 → Value} (hf : ∀ x, jx_v R (f x) (f x)) (hs : jx_k pc1 lv (jx_i1 f st) M dc ds = some (.inl z)) (E : jx_E dA K R M h lv st lw sw) (row : ∀ x r, Wk pc1 lw (f x :: r) h dc ds → Wk pc lw (.int x :: r) h dc ds) (kk : jx_go dA K Wk R z) : Wk pc lw sw h dc ds := by
  obtain ⟨E1, E2, E3⟩ := E
  unfold jx_i1 at hs
  split at hs
  next x r =>
    cases hs
    obtain ⟨w1, rfl, E4⟩ := jx_vs_int E3
    exact row x _ (kk R h lw _ List.prefix_rfl ⟨E1, E2, hf x, E4⟩)
  next => cases hs
theorem jx_f_l1 {f : Int64 → Value} (hf : ∀ x, jx_v R (f x) (f x)) (hs : jx_k pc1 lv (jx_l1 f st) M dc ds = some (.inl z)) (E : jx_E dA K R M h lv st lw sw) (row : ∀ x r, Wk pc1 lw (f x :: r) h dc ds → Wk pc lw (.long x :: r) h dc ds) (kk : jx_go dA K Wk R z) : Wk pc lw sw h dc ds := by
  obtain ⟨E1, E2, E3⟩ := E
  unfold jx_l1 at hs
  split at hs
  next x r =>
    cases hs
    obtain ⟨w1, rfl, E4⟩ := jx_vs_long E3
    exact row x _ (kk R h lw _ List.prefix_rfl ⟨E1, E2, hf x, E4⟩)
  next => cases hs
theorem jx_f_co {v : Value} (hv : jx_v R v v) (hs : some (Sum.inl (pc1, lv, v :: st, M, dc, ds)) = some (Sum.inl z : jx_A)) (E : jx_E dA K R M h lv st lw sw) (row : Wk pc1 lw (v :: sw) h dc ds → Wk pc lw sw h dc ds) (kk : jx_go dA K Wk R z) : Wk pc lw sw h dc ds := by
  obtain ⟨E1, E2, E3⟩ := E
  cases hs
  exact row (kk R h lw _ List.prefix_rfl ⟨E1, E2, hv, E3⟩)
theorem jx_f_ld {n i : Nat} {w : Value → Bool} (hs : jx_ld n w pc lv M dc ds i st = some (.inl z)) (E : jx_E dA K R M h lv st lw sw) (row : ∀ (v u : Value) (j : Nat), w v = true → jx_v R v u → lw[j]? = some (i, u) → Wk (pc + n) lw (u :: sw) h dc ds → Wk pc lw sw h dc ds) (kk : jx_go dA K Wk R z) : Wk pc lw sw h dc ds := by
  obtain ⟨E1, E2, E3⟩ := E
  unfold jx_ld at hs
  split at hs
  next v hv =>
    split at hs
    next hw =>
      cases hs
      obtain ⟨j, u, hj, hu⟩ := jx_lv_lk E2 hv
      exact row v u j hw hu hj (kk R h lw _ List.prefix_rfl ⟨E1, E2, hu, E3⟩)
    next => cases hs
  next => cases hs
theorem jx_f_sr {n nL i : Nat} {w : Value → Bool} (hs : jx_sr n nL w pc lv M dc ds i st = some (.inl z)) (E : jx_E dA K R M h lv st lw sw) (row : ∀ (v u : Value) (r : List Value), w v = true → jx_v R v u → i < nL → Wk (pc + n) (jx_s1 lw i u) r h dc ds → Wk pc lw (u :: r) h dc ds) (kk : jx_go dA K Wk R z) : Wk pc lw sw h dc ds := by
  obtain ⟨E1, E2, E3⟩ := E
  unfold jx_sr at hs
  split at hs
  next v r =>
    split at hs
    next hw =>
      cases hs
      obtain ⟨u, r', rfl, hu, E4⟩ := jx_vs_cons E3
      exact row v u _ hw.1 hu hw.2 (kk R h _ _ List.prefix_rfl ⟨E1, jx_lv_s1 E2 i hu, E4⟩)
    next => cases hs
  next => cases hs
theorem jx_f_sr2 {n nL i : Nat} (hs : jx_sr2 n nL pc lv M dc ds i st = some (.inl z)) (E : jx_E dA K R M h lv st lw sw) (row : ∀ (v : Int64) (r : List Value), i + 1 < nL → Wk (pc + n) (jx_s2 lw i (.long v)) r h dc ds → Wk pc lw (.long v :: r) h dc ds) (kk : jx_go dA K Wk R z) : Wk pc lw sw h dc ds := by
  obtain ⟨E1, E2, E3⟩ := E
  unfold jx_sr2 at hs
  split at hs
  next v r =>
    split at hs
    next hw =>
      cases hs
      obtain ⟨r', rfl, E4⟩ := jx_vs_long E3
      exact row v _ hw (kk R h _ _ List.prefix_rfl ⟨E1, jx_lv_s2 E2 i rfl, E4⟩)
    next => cases hs
  next => cases hs
theorem jx_f_inc {nL i : Nat} {n : Int} (hs : jx_inc nL pc lv M dc ds i n st = some (.inl z)) (E : jx_E dA K R M h lv st lw sw) (row : ∀ (x : Int32) (j : Nat), lw[j]? = some (i, .int x) → i < nL → Wk (pc + 3) (jx_s1 lw i (.int (x + Int32.ofInt n))) sw h dc ds → Wk pc lw sw h dc ds) (kk : jx_go dA K Wk R z) : Wk pc lw sw h dc ds := by
  obtain ⟨E1, E2, E3⟩ := E
  unfold jx_inc at hs
  split at hs
  next x hv =>
    split at hs
    next hw =>
      cases hs
      obtain ⟨j, u, hj, hu⟩ := jx_lv_lk E2 hv
      have hu : u = .int x := hu
      subst hu
      exact row x j hj hw (kk R h _ _ List.prefix_rfl ⟨E1, jx_lv_s1 E2 i rfl, E3⟩)
    next => cases hs
  next => cases hs
theorem jx_f_du (hs : jx_du pc lv M dc ds st = some (.inl z)) (E : jx_E dA K R M h lv st lw sw) (row : ∀ (u : Value) (r : List Value), u.category = 1 → Wk (pc + 1) lw (u :: u :: r) h dc ds → Wk pc lw (u :: r) h dc ds) (kk : jx_go dA K Wk R z) : Wk pc lw sw h dc ds := by
  obtain ⟨E1, E2, E3⟩ := E
  unfold jx_du at hs
  split at hs
  next v r =>
    split at hs
    next hw =>
      cases hs
      obtain ⟨u, r', rfl, hu, E4⟩ := jx_vs_cons E3
      exact row u _ ((jx_v_cat hu).trans hw) (kk R h _ _ List.prefix_rfl ⟨E1, E2, hu, hu, E4⟩)
    next => cases hs
  next => cases hs
theorem jx_f_po (hs : jx_po pc lv M dc ds st = some (.inl z)) (E : jx_E dA K R M h lv st lw sw) (row : ∀ (u : Value) (r : List Value), u.category = 1 → Wk (pc + 1) lw r h dc ds → Wk pc lw (u :: r) h dc ds) (kk : jx_go dA K Wk R z) : Wk pc lw sw h dc ds := by
  obtain ⟨E1, E2, E3⟩ := E
  unfold jx_po at hs
  split at hs
  next v r =>
    split at hs
    next hw =>
      cases hs
      obtain ⟨u, r', rfl, hu, E4⟩ := jx_vs_cons E3
      exact row u _ ((jx_v_cat hu).trans hw) (kk R h _ _ List.prefix_rfl ⟨E1, E2, E4⟩)
    next => cases hs
  next => cases hs
theorem jx_f_d2 (hs : jx_d2 pc lv M dc ds st = some (.inl z)) (E : jx_E dA K R M h lv st lw sw) (row1 : ∀ (u v : Value) (r : List Value), u.category = 1 → v.category = 1 → Wk (pc + 1) lw (u :: v :: u :: v :: r) h dc ds → Wk pc lw (u :: v :: r) h dc ds) (row2 : ∀ (u : Value) (r : List Value), u.category = 2 → Wk (pc + 1) lw (u :: u :: r) h dc ds → Wk pc lw (u :: r) h dc ds) (kk : jx_go dA K Wk R z) : Wk pc lw sw h dc ds := by
  obtain ⟨E1, E2, E3⟩ := E
  unfold jx_d2 at hs
  split at hs
  next v w r =>
    obtain ⟨u, r', rfl, hu, E4⟩ := jx_vs_cons E3
    obtain ⟨u2, r', rfl, hu2, E5⟩ := jx_vs_cons E4
    split at hs
    next hw =>
      cases hs
      exact row1 u u2 _ ((jx_v_cat hu).trans hw.1) ((jx_v_cat hu2).trans hw.2) (kk R h _ _ List.prefix_rfl ⟨E1, E2, hu, hu2, hu, hu2, E5⟩)
    next =>
      split at hs
      next hw =>
        cases hs
        exact row2 u _ ((jx_v_cat hu).trans hw) (kk R h _ _ List.prefix_rfl ⟨E1, E2, hu, hu, hu2, E5⟩)
      next => cases hs
  next => cases hs
theorem jx_jp_ok {pc t : Nat} {off : Int} (h : jx_jp pc off = some t) : (pc : Int) + off = (t : Int) := by
  unfold jx_jp at h
  split at h
  next u e => cases h; exact e
  next => cases h
theorem jx_f_to {b : Bool} {len : Nat} {off : Int} {r rw : List Value} (hs : jx_to b pc len off lv r M dc ds = some (.inl z)) (E : jx_E dA K R M h lv r lw rw) (row : ∀ t : Nat, (pc : Int) + off = (t : Int) → (b = true → Wk t lw rw h dc ds) → (b = false → Wk (pc + len) lw rw h dc ds) → Wk pc lw sw h dc ds) (kk : jx_go dA K Wk R z) : Wk pc lw sw h dc ds := by
  unfold jx_to at hs
  split at hs
  next t ht =>
    cases hs
    have k := kk R h lw _ List.prefix_rfl E
    refine row t (jx_jp_ok ht) (fun e => ?_) (fun e => ?_)
    · subst e; exact k
    · subst e; exact k
  next => cases hs
theorem jx_f_bz {c : ClassFile.Cond} {off : Int} (hs : jx_bz c pc off lv M dc ds st = some (.inl z)) (E : jx_E dA K R M h lv st lw sw) (row : ∀ (x : Int32) (r : List Value) (t : Nat), (pc : Int) + off = (t : Int) → (jx_cz c x = true → Wk t lw r h dc ds) → (jx_cz c x = false → Wk (pc + 3) lw r h dc ds) → Wk pc lw (.int x :: r) h dc ds) (kk : jx_go dA K Wk R z) : Wk pc lw sw h dc ds := by
  obtain ⟨E1, E2, E3⟩ := E
  unfold jx_bz at hs
  split at hs
  next x r =>
    obtain ⟨w1, rfl, E4⟩ := jx_vs_int E3
    exact jx_f_to (rw := w1) hs ⟨E1, E2, E4⟩ (fun t ht k1 k2 => row x w1 t ht k1 k2) kk
  next => cases hs
theorem jx_f_bc {c : ClassFile.Cond} {off : Int} (hs : jx_bc c pc off lv M dc ds st = some (.inl z)) (E : jx_E dA K R M h lv st lw sw) (row : ∀ (x y : Int32) (r : List Value) (t : Nat), (pc : Int) + off = (t : Int) → (jx_cc c x y = true → Wk t lw r h dc ds) → (jx_cc c x y = false → Wk (pc + 3) lw r h dc ds) → Wk pc lw (.int y :: .int x :: r) h dc ds) (kk : jx_go dA K Wk R z) : Wk pc lw sw h dc ds := by
  obtain ⟨E1, E2, E3⟩ := E
  unfold jx_bc at hs
  split at hs
  next y x r =>
    obtain ⟨w1, rfl, E4⟩ := jx_vs_int E3
    obtain ⟨w1, rfl, E5⟩ := jx_vs_int E4
    exact jx_f_to (rw := w1) hs ⟨E1, E2, E5⟩ (fun t ht k1 k2 => row x y w1 t ht k1 k2) kk
  next => cases hs
theorem jx_f_ts {d lo hi : Int} {offs : Array Int} (hs : jx_ts pc d lo hi offs lv M dc ds st = some (.inl z)) (E : jx_E dA K R M h lv st lw sw) (row1 : ∀ (x : Int32) (r : List Value) (t : Nat), (x.toInt < lo ∨ hi < x.toInt) → (pc : Int) + d = (t : Int) → Wk t lw r h dc ds → Wk pc lw (.int x :: r) h dc ds) (row2 : ∀ (x : Int32) (r : List Value) (off : Int) (t : Nat), ¬ x.toInt < lo → ¬ hi < x.toInt → offs[(x.toInt - lo).toNat]? = some off → (pc : Int) + off = (t : Int) → Wk t lw r h dc ds → Wk pc lw (.int x :: r) h dc ds) (kk : jx_go dA K Wk R z) : Wk pc lw sw h dc ds := by
  obtain ⟨E1, E2, E3⟩ := E
  unfold jx_ts at hs
  split at hs
  next x r =>
    obtain ⟨w1, rfl, E4⟩ := jx_vs_int E3
    split at hs
    next hx => exact jx_f_to (rw := w1) hs ⟨E1, E2, E4⟩ (fun t ht k1 k2 => row1 x w1 t hx ht (k1 rfl)) kk
    next hx =>
      split at hs
      next off ho => exact jx_f_to (rw := w1) hs ⟨E1, E2, E4⟩ (fun t ht k1 k2 => row2 x w1 off t (fun q => hx (Or.inl q)) (fun q => hx (Or.inr q)) ho ht (k1 rfl)) kk
      next => cases hs
  next => cases hs
theorem jx_f_lus {d : Int} {ps : Array (Int × Int)} (hs : jx_lus pc d ps lv M dc ds st = some (.inl z)) (E : jx_E dA K R M h lv st lw sw) (row : ∀ (x : Int32) (r : List Value) (t : Nat), (ps.toList.zip (ps.toList.drop 1)).all (fun (a, next) => a.1 < next.1) = true → (pc : Int) + Op.lookupswitch.offset ps.toList d x.toInt = (t : Int) → Wk t lw r h dc ds → Wk pc lw (.int x :: r) h dc ds) (kk : jx_go dA K Wk R z) : Wk pc lw sw h dc ds := by
  obtain ⟨E1, E2, E3⟩ := E
  unfold jx_lus at hs
  split at hs
  next x r =>
    obtain ⟨w1, rfl, E4⟩ := jx_vs_int E3
    split at hs
    next hx => exact jx_f_to (rw := w1) hs ⟨E1, E2, E4⟩ (fun t ht k1 k2 => row x w1 t hx ht (k1 rfl)) kk
    next hx => cases hs
  next => cases hs
theorem jx_f_gf {x : List Nat} (hs : jx_gf pc lv M dc ds x st = some (.inl z)) (hx : ∀ ci k, x = [ci, k] → ci < 100) (E : jx_E dA K R M h lv st lw sw) (row : ∀ (ci k b : Nat) (fs r : List Value) (u : Value), x = [ci, k] → h b = some (.inr (ci, fs)) → fs[k]? = some u → Wk (pc + 3) lw (u :: r) h dc ds → Wk pc lw (.ref b :: r) h dc ds) (kk : jx_go dA K Wk R z) : Wk pc lw sw h dc ds := by
  obtain ⟨E1, E2, E3⟩ := E
  unfold jx_gf at hs
  split at hs
  next ci k a r =>
    split at hs
    next cj fs hM =>
      split at hs
      next e =>
        subst e
        split at hs
        next v hv =>
          cases hs
          obtain ⟨b, r', hb, rfl, E4⟩ := jx_vs_ref E3
          have h100 : cj < 100 := hx _ _ rfl
          rcases E1.2.1 a _ b hM hb with ⟨-, fw, g1, g2⟩ | ⟨g1, -⟩ | ⟨g1, -⟩
          · obtain ⟨u, hu, hvu⟩ := jx_vs_get g2 k hv
            exact row cj k b fw r' u rfl g1 hu (kk R h lw _ List.prefix_rfl ⟨E1, E2, hvu, E4⟩)
          · have g1 : 100 ≤ cj := g1
            omega
          · have g1 : 200 ≤ cj := g1
            omega
        next => cases hs
      next => cases hs
    next => cases hs
  next => cases hs
theorem jx_f_pf {ini : Bool} {x : List Nat} (hs : jx_pf ini pc lv M dc ds x st = some (.inl z)) (hx : ∀ ci k t f, x = [ci, k, t, f] → ci < 100) (E : jx_E dA K R M h lv st lw sw) (row : ∀ (ci k t f b : Nat) (fs r : List Value) (v u : Value), x = [ci, k, t, f] → h b = some (.inr (ci, fs)) → k < fs.length → jx_fit t v = true → jx_v R v u → (f = 0 ∨ ini = true) → Wk (pc + 3) lw r (jm_up h b (.inr (ci, fs.set k u))) dc ds → Wk pc lw (u :: .ref b :: r) h dc ds) (kk : jx_go dA K Wk R z) : Wk pc lw sw h dc ds := by
  obtain ⟨E1, E2, E3⟩ := E
  unfold jx_pf at hs
  split at hs
  next ci k t f v a r =>
    split at hs
    next cj fs hM =>
      split at hs
      next e =>
        obtain ⟨rfl, e2, e3, e4⟩ := e
        cases hs
        obtain ⟨u, r', rfl, hu, E4⟩ := jx_vs_cons E3
        obtain ⟨b, r', hb, rfl, E5⟩ := jx_vs_ref E4
        have h100 : cj < 100 := hx _ _ _ _ rfl
        rcases E1.2.1 a _ b hM hb with ⟨-, fw, g1, g2⟩ | ⟨g1, -⟩ | ⟨g1, -⟩
        · refine row cj k t f b fw r' v u rfl g1 (by rw [jx_vs_len g2]; exact e2) e3 hu e4 (kk R _ lw _ List.prefix_rfl ⟨?_, E2, E5⟩)
          exact jx_re_set E1 hM hb (show cj < 200 by omega) rfl (Or.inl ⟨h100, _, jm_up_eq _ _ _, jx_vs_set g2 k hu⟩)
        · have g1 : 100 ≤ cj := g1
          omega
        · have g1 : 200 ≤ cj := g1
          omega
      next => cases hs
    next => cases hs
  next => cases hs
end JX2
