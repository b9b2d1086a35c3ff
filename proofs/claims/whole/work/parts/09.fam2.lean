section JX3
variable {dA : Nat → ClassId} {K : (Nat × List Value) → Nat → Prop} {R : List Nat} {M : jx_H} {h : jm_H} {lv lw : List (Nat × Value)} {st sw : List Value} {Wk : Nat → List (Nat × Value) → List Value → jm_H → Nat → Nat → Prop} {z : jx_N} {pc pc1 dc ds : Nat}
theorem jx_f_cu {v u : Value} (hv : jx_v R v u) (hs : some (Sum.inl (pc1, lv, v :: st, M, dc, ds)) = some (Sum.inl z : jx_A)) (E : jx_E dA K R M h lv st lw sw) (row : Wk pc1 lw (u :: sw) h dc ds → Wk pc lw sw h dc ds) (kk : jx_go dA K Wk R z) : Wk pc lw sw h dc ds := by
  obtain ⟨E1, E2, E3⟩ := E
  cases hs
  exact row (kk R h lw _ List.prefix_rfl ⟨E1, E2, hv, E3⟩)
theorem jx_or_ok {a b : Option jx_A} {z : jx_A} (hs : jx_or a b = some z) : a = some z ∨ b = some z := by
  unfold jx_or at hs
  split at hs
  next y => exact Or.inl hs
  next => exact Or.inr hs
theorem jx_f_ald {ks : List Nat} {w : Value → Bool} (hs : jx_ald ks w pc lv M dc ds st = some (.inl z)) (hks : ∀ k, ks.contains k = true → 100 ≤ k ∧ k < 200) (E : jx_E dA K R M h lv st lw sw)
    (row : ∀ (k b : Nat) (L : List Value) (x : vp_A) (i : Int32) (r : List Value) (v : Value), ks.contains k = true → h b = some (.inl (dA (k - 100), x)) → jx_ar R (k - 100) L x → ¬ i < 0 → L[i.toNatClampNeg]? = some v → w v = true → (∀ u, jx_v R v u → Wk (pc + 1) lw (u :: r) h dc ds) → Wk pc lw (.int i :: .ref b :: r) h dc ds) (kk : jx_go dA K Wk R z) : Wk pc lw sw h dc ds := by
  obtain ⟨E1, E2, E3⟩ := E
  unfold jx_ald at hs
  split at hs
  next i a r =>
    split at hs
    next k L hM =>
      split at hs
      next e =>
        split at hs
        next v hv =>
          split at hs
          next hw =>
            cases hs
            obtain ⟨w1, rfl, E4⟩ := jx_vs_int E3
            obtain ⟨b, r', hb, rfl, E5⟩ := jx_vs_ref E4
            have hk := hks k e.1
            rcases E1.2.1 a _ b hM hb with ⟨g1, -⟩ | ⟨-, -, x, g1, g2⟩ | ⟨g1, -⟩
            · have g1 : k < 100 := g1
              omega
            · exact row k b L x i r' v e.1 g1 g2 e.2 hv hw (fun u hu => kk R h lw _ List.prefix_rfl ⟨E1, E2, hu, E5⟩)
            · have g1 : 200 ≤ k := g1
              omega
          next => cases hs
        next => cases hs
      next => cases hs
    next => cases hs
  next => cases hs
theorem jx_f_alc {w : Value → Bool} (hs : jx_ald [200] w pc lv M dc ds st = some (.inl z)) (E : jx_E dA K R M h lv st lw sw)
    (row : ∀ (b : Nat) (L : List Value) (i : Int32) (r : List Value) (v : Value), K (200, L) b → ¬ i < 0 → L[i.toNatClampNeg]? = some v → w v = true → (∀ u, jx_v R v u → Wk (pc + 1) lw (u :: r) h dc ds) → Wk pc lw (.int i :: .ref b :: r) h dc ds) (kk : jx_go dA K Wk R z) : Wk pc lw sw h dc ds := by
  obtain ⟨E1, E2, E3⟩ := E
  unfold jx_ald at hs
  split at hs
  next i a r =>
    split at hs
    next k L hM =>
      split at hs
      next e =>
        split at hs
        next v hv =>
          split at hs
          next hw =>
            cases hs
            obtain ⟨w1, rfl, E4⟩ := jx_vs_int E3
            obtain ⟨b, r', hb, rfl, E5⟩ := jx_vs_ref E4
            have hk : k = 200 := by simpa using e.1
            subst hk
            rcases E1.2.1 a _ b hM hb with ⟨g1, -⟩ | ⟨-, g1, -⟩ | ⟨-, g1⟩
            · exact absurd (show 200 < 100 from g1) (by decide)
            · exact absurd (show 200 < 200 from g1) (by decide)
            · exact row b L i r' v g1 e.2 hv hw (fun u hu => kk R h lw _ List.prefix_rfl ⟨E1, E2, hu, E5⟩)
          next => cases hs
        next => cases hs
      next => cases hs
    next => cases hs
  next => cases hs
theorem jx_f_ast {ks : List Nat} {w : Value → Bool} (hs : jx_ast ks w pc lv M dc ds st = some (.inl z)) (hks : ∀ k, ks.contains k = true → 100 ≤ k ∧ k < 200) (E : jx_E dA K R M h lv st lw sw)
    (row : ∀ (k b : Nat) (L : List Value) (x : vp_A) (i : Int32) (r : List Value) (v u : Value), ks.contains k = true → h b = some (.inl (dA (k - 100), x)) → jx_ar R (k - 100) L x → ¬ i < 0 → i.toNatClampNeg < L.length → w v = true → jx_v R v u → (∀ y, jx_ar R (k - 100) (L.set i.toNatClampNeg (jx_nar k v)) y → Wk (pc + 1) lw r (jm_up h b (.inl (dA (k - 100), y))) dc ds) → Wk pc lw (u :: .int i :: .ref b :: r) h dc ds) (kk : jx_go dA K Wk R z) : Wk pc lw sw h dc ds := by
  obtain ⟨E1, E2, E3⟩ := E
  unfold jx_ast at hs
  split at hs
  next v i a r =>
    split at hs
    next k L hM =>
      split at hs
      next e =>
        cases hs
        obtain ⟨u, w0, rfl, hu, E4⟩ := jx_vs_cons E3
        obtain ⟨w1, rfl, E5⟩ := jx_vs_int E4
        obtain ⟨b, r', hb, rfl, E6⟩ := jx_vs_ref E5
        have hk := hks k e.1
        rcases E1.2.1 a _ b hM hb with ⟨g1, -⟩ | ⟨-, -, x, g1, g2⟩ | ⟨g1, -⟩
        · have g1 : k < 100 := g1
          omega
        · refine row k b L x i r' v u e.1 g1 g2 e.2.1 e.2.2.1 e.2.2.2 hu (fun y hy => kk R _ lw _ List.prefix_rfl ⟨?_, E2, E6⟩)
          exact jx_re_set E1 hM hb hk.2 rfl (Or.inr (Or.inl ⟨hk.1, hk.2, y, jm_up_eq _ _ _, hy⟩))
        · have g1 : 200 ≤ k := g1
          omega
      next => cases hs
    next => cases hs
  next => cases hs
theorem jx_of_lt {k : Nat} (hk : 104 ≤ k ∧ k < 108) : jx_of k < 100 := by
  have : k = 104 ∨ k = 105 ∨ k = 106 ∨ k = 107 := by omega
  rcases this with rfl | rfl | rfl | rfl <;> decide
theorem jx_ar_up {t i b c : Nat} {L : List Value} {f : Nat → Option Nat} (ht : 4 ≤ t ∧ t < 13) (hL : ∀ (j : Nat) (v : Value), L[j]? = some v → jx_v R v (va_rf (f j))) (hc : R[b]? = some c) : jx_ar R t (L.set i (.ref b)) (L.length, .inr (.inr (.inr (.inr (va_up f i (some c)))))) := by
  refine Or.inr (Or.inr ⟨ht.1, ht.2, va_up f i (some c), by rw [List.length_set], fun j v hv => ?_⟩)
  by_cases e : i = j
  · subst e
    have hl := (List.getElem?_eq_some_iff.mp hv).1
    rw [List.length_set] at hl
    rw [List.getElem?_set_self hl] at hv
    cases hv
    exact ⟨c, hc, by simp [va_up, va_rf]⟩
  · rw [List.getElem?_set_ne e] at hv
    have := hL j v hv
    simpa [va_up, Ne.symm e] using this
theorem jx_f_aas (hs : jx_aas pc lv M dc ds st = some (.inl z)) (E : jx_E dA K R M h lv st lw sw)
    (row : ∀ (k b c n : Nat) (fs : List Value) (f : Nat → Option Nat) (i : Int32) (r : List Value), 104 ≤ k ∧ k < 108 → h b = some (.inl (dA (k - 100), n, .inr (.inr (.inr (.inr f))))) → h c = some (.inr (jx_of k, fs)) → ¬ i < 0 → i.toNatClampNeg < n → Wk (pc + 1) lw r (jm_up h b (.inl (dA (k - 100), n, .inr (.inr (.inr (.inr (va_up f i.toNatClampNeg (some c)))))))) dc ds → Wk pc lw (.ref c :: .int i :: .ref b :: r) h dc ds) (kk : jx_go dA K Wk R z) : Wk pc lw sw h dc ds := by
  obtain ⟨E1, E2, E3⟩ := E
  unfold jx_aas at hs
  split at hs
  next b2 i a r =>
    split at hs
    next k L k2 fs hM hM2 =>
      split at hs
      next e =>
        cases hs
        obtain ⟨c, w0, hc, rfl, E4⟩ := jx_vs_ref E3
        obtain ⟨w1, rfl, E5⟩ := jx_vs_int E4
        obtain ⟨b, r', hb, rfl, E6⟩ := jx_vs_ref E5
        obtain ⟨hk, e0, e1, e2⟩ := e
        subst e0
        have hlt := jx_of_lt hk
        rcases E1.2.1 b2 _ c hM2 hc with ⟨-, fw, g1, g2⟩ | ⟨g1, -⟩ | ⟨g1, -⟩
        · rcases E1.2.1 a _ b hM hb with ⟨j1, -⟩ | ⟨-, -, x, j1, j2⟩ | ⟨j1, -⟩
          · have j1 : k < 100 := j1
            omega
          · have j1 : h b = some (.inl (dA (k - 100), x)) := j1
            rcases j2 with ⟨j3, -⟩ | ⟨j3, -⟩ | ⟨j3, j4, f, rfl, j5⟩
            · have j3 : k - 100 < 3 := j3
              omega
            · have j3 : k - 100 = 3 := j3
              omega
            · refine row k b c L.length fw f i r' hk j1 g1 e1 e2 (kk R _ lw _ List.prefix_rfl ⟨?_, E2, E6⟩)
              exact jx_re_set E1 hM hb (show k < 200 by omega) rfl (Or.inr (Or.inl ⟨show 100 ≤ k by omega, show k < 200 by omega, _, jm_up_eq _ _ _, jx_ar_up ⟨j3, j4⟩ j5 hc⟩))
          · have j1 : 200 ≤ k := j1
            omega
        · have g1 : 100 ≤ jx_of k := g1
          omega
        · have g1 : 200 ≤ jx_of k := g1
          omega
      next => cases hs
    next => cases hs
  next => cases hs
theorem jx_f_aat (hs : jx_aat pc lv M dc ds st = some (.inl z)) (E : jx_E dA K R M h lv st lw sw)
    (row : ∀ (b c n : Nat) (L : List Value) (f : Nat → Option Nat) (i : Int32) (r : List Value), h b = some (.inl (dA 8, n, .inr (.inr (.inr (.inr f))))) → K (300, L) c → ¬ i < 0 → i.toNatClampNeg < n → Wk (pc + 1) lw r (jm_up h b (.inl (dA 8, n, .inr (.inr (.inr (.inr (va_up f i.toNatClampNeg (some c)))))))) dc ds → Wk pc lw (.ref c :: .int i :: .ref b :: r) h dc ds) (kk : jx_go dA K Wk R z) : Wk pc lw sw h dc ds := by
  obtain ⟨E1, E2, E3⟩ := E
  unfold jx_aat at hs
  split at hs
  next b2 i a r =>
    split at hs
    next k L k2 fs hM hM2 =>
      split at hs
      next e =>
        cases hs
        obtain ⟨c, w0, hc, rfl, E4⟩ := jx_vs_ref E3
        obtain ⟨w1, rfl, E5⟩ := jx_vs_int E4
        obtain ⟨b, r', hb, rfl, E6⟩ := jx_vs_ref E5
        obtain ⟨hk, e0, e1, e2⟩ := e
        subst e0
        subst hk
        rcases E1.2.1 b2 _ c hM2 hc with ⟨g1, -⟩ | ⟨-, g1, -⟩ | ⟨-, g1⟩
        · exact absurd (show 300 < 100 from g1) (by decide)
        · exact absurd (show 300 < 200 from g1) (by decide)
        · rcases E1.2.1 a _ b hM hb with ⟨j1, -⟩ | ⟨-, -, x, j1, j2⟩ | ⟨j1, -⟩
          · exact absurd (show 108 < 100 from j1) (by decide)
          · have j1 : h b = some (.inl (dA 8, x)) := j1
            rcases j2 with ⟨j3, -⟩ | ⟨j3, -⟩ | ⟨j3, j4, f, rfl, j5⟩
            · exact absurd (show 8 < 3 from j3) (by decide)
            · exact absurd (show 8 = 3 from j3) (by decide)
            · refine row b c L.length fs f i r' j1 g1 e1 e2 (kk R _ lw _ List.prefix_rfl ⟨?_, E2, E6⟩)
              exact jx_re_set E1 hM hb (show 108 < 200 by decide) rfl (Or.inr (Or.inl ⟨show 100 ≤ 108 by decide, show 108 < 200 by decide, _, jm_up_eq _ _ _, jx_ar_up ⟨j3, j4⟩ j5 hc⟩))
          · exact absurd (show 200 ≤ 108 from j1) (by decide)
      next => cases hs
    next => cases hs
  next => cases hs
theorem jx_f_al (hs : jx_al pc lv M dc ds st = some (.inl z)) (E : jx_E dA K R M h lv st lw sw)
    (row1 : ∀ (k b : Nat) (L : List Value) (x : vp_A) (r : List Value), 100 ≤ k ∧ k < 113 → h b = some (.inl (dA (k - 100), x)) → x.1 = L.length → Wk (pc + 1) lw (.int (Int32.ofNat L.length) :: r) h dc ds → Wk pc lw (.ref b :: r) h dc ds)
    (row2 : ∀ (b : Nat) (L : List Value) (r : List Value), K (200, L) b → Wk (pc + 1) lw (.int (Int32.ofNat L.length) :: r) h dc ds → Wk pc lw (.ref b :: r) h dc ds) (kk : jx_go dA K Wk R z) : Wk pc lw sw h dc ds := by
  obtain ⟨E1, E2, E3⟩ := E
  unfold jx_al at hs
  split at hs
  next a r =>
    split at hs
    next k L hM =>
      split at hs
      next e =>
        cases hs
        obtain ⟨b, r', hb, rfl, E4⟩ := jx_vs_ref E3
        have hk := kk R h lw (.int (Int32.ofNat L.length) :: r') List.prefix_rfl ⟨E1, E2, rfl, E4⟩
        rcases E1.2.1 a _ b hM hb with ⟨g1, -⟩ | ⟨g0, g0', x, g1, g2⟩ | ⟨g0, g1⟩
        · have g1 : k < 100 := g1
          omega
        · have g0' : k < 200 := g0'
          refine row1 k b L x r' (by omega) g1 ?_ hk
          rcases g2 with ⟨-, f, rfl, -⟩ | ⟨-, f, rfl, -⟩ | ⟨-, -, f, rfl, -⟩ <;> rfl
        · have g0 : 200 ≤ k := g0
          have : k = 200 := by omega
          subst this
          exact row2 b L r' g1 hk
      next => cases hs
    next => cases hs
  next => cases hs
theorem jx_f_nw {df : List (List Value)} {x : List Nat} (hs : jx_nw pc lv M dc ds df x st = some (.inl z)) (hdf : ∀ ci fs, df[ci]? = some fs → ci < 100 ∧ ∀ R, jx_vs R fs fs) (E : jx_E dA K R M h lv st lw sw)
    (row : ∀ (ci : Nat) (fs : List Value), x = [ci] → df[ci]? = some fs → z.2.2.2.2.1 = dc + 1 → z.2.2.2.2.2 = ds + fs.length → (∀ q : Nat, h q = none → Wk (pc + 3) lw (.ref q :: sw) (jm_up h q (.inr (ci, fs))) (dc + 1) (ds + fs.length)) → Wk pc lw sw h dc ds) (kk : jx_go dA K Wk R z) : Wk pc lw sw h dc ds := by
  obtain ⟨E1, E2, E3⟩ := E
  unfold jx_nw at hs
  split at hs
  next ci =>
    split at hs
    next fs hfs =>
      cases hs
      obtain ⟨h1, h2⟩ := hdf ci fs hfs
      refine row ci fs rfl hfs rfl rfl (fun q hq => ?_)
      have hp : R <+: R ++ [q] := ⟨[q], rfl⟩
      refine kk (R ++ [q]) _ lw _ hp ⟨jx_re_new E1 hq (Or.inl ⟨h1, fs, jm_up_eq _ _ _, h2 _⟩), jx_lv_mono hp E2, ⟨q, ?_, rfl⟩, jx_vs_mono hp E3⟩
      rw [← E1.1]
      simp
    next =>
      split at hs
      next => cases hs
      next => cases hs
  next => cases hs
theorem jx_ar_new {R : List Nat} {t n : Nat} (ht : t < 13) : ∃ x : vp_A, jx_ar R t (List.replicate n (jx_el t)) x ∧ x.1 = n ∧ (t < 3 → x = (n, .inl (fun _ => 0))) ∧ (t = 3 → x = (n, .inr (.inl (fun _ => 0)))) ∧ (4 ≤ t → x = (n, .inr (.inr (.inr (.inr (fun _ => none)))))) := by
  by_cases h1 : t < 3
  · refine ⟨(n, .inl (fun _ => 0)), Or.inl ⟨h1, fun _ => 0, by rw [List.length_replicate], fun i v hv => ?_⟩, rfl, fun _ => rfl, fun e => by omega, fun e => by omega⟩
    have := List.eq_of_mem_replicate (List.mem_of_getElem? hv)
    rw [this]
    unfold jx_el
    rw [if_pos h1]
  · by_cases h2 : t = 3
    · subst h2
      refine ⟨(n, .inr (.inl (fun _ => 0))), Or.inr (Or.inl ⟨rfl, fun _ => 0, by rw [List.length_replicate], fun i v hv => ?_⟩), rfl, fun e => by omega, fun _ => rfl, fun e => by omega⟩
      have := List.eq_of_mem_replicate (List.mem_of_getElem? hv)
      rw [this]
      rfl
    · refine ⟨(n, .inr (.inr (.inr (.inr (fun _ => none))))), Or.inr (Or.inr ⟨by omega, ht, fun _ => none, by rw [List.length_replicate], fun i v hv => ?_⟩), rfl, fun e => by omega, fun e => by omega, fun _ => rfl⟩
      have := List.eq_of_mem_replicate (List.mem_of_getElem? hv)
      rw [this]
      unfold jx_el
      rw [if_neg h1, if_neg h2]
      rfl
theorem jx_f_na {len : Nat} {x : List Nat} (hs : jx_na len pc lv M dc ds x st = some (.inl z)) (E : jx_E dA K R M h lv st lw sw)
    (row : ∀ (t : Nat) (n : Int32) (r : List Value), x = [t] → t < 13 → ¬ n < 0 → n.toNatClampNeg ≤ 67108864 → z.2.2.2.2.1 = dc + 1 → z.2.2.2.2.2 = ds + n.toNatClampNeg → (∀ (q : Nat) (a : vp_A), h q = none → a.1 = n.toNatClampNeg → (t < 3 → a = (n.toNatClampNeg, .inl (fun _ => 0))) → (t = 3 → a = (n.toNatClampNeg, .inr (.inl (fun _ => 0)))) → (4 ≤ t → a = (n.toNatClampNeg, .inr (.inr (.inr (.inr (fun _ => none)))))) → Wk (pc + len) lw (.ref q :: r) (jm_up h q (.inl (dA t, a))) (dc + 1) (ds + n.toNatClampNeg)) → Wk pc lw (.int n :: r) h dc ds) (kk : jx_go dA K Wk R z) : Wk pc lw sw h dc ds := by
  obtain ⟨E1, E2, E3⟩ := E
  unfold jx_na at hs
  split at hs
  next t n r =>
    split at hs
    next => cases hs
    next e =>
      cases hs
      have e1 : ¬ n < 0 := fun q => e (Or.inl q)
      have e2 : n.toNatClampNeg ≤ 67108864 := Nat.not_lt.mp fun q => e (Or.inr (Or.inl q))
      have e3 : t < 13 := Nat.not_le.mp fun q => e (Or.inr (Or.inr q))
      obtain ⟨r', rfl, E4⟩ := jx_vs_int E3
      refine row t n r' rfl e3 e1 e2 rfl rfl (fun q a hq g1 g2 g3 g4 => ?_)
      have hp : R <+: R ++ [q] := ⟨[q], rfl⟩
      have ha : jx_ar (R ++ [q]) t (List.replicate n.toNatClampNeg (jx_el t)) a := by
        obtain ⟨x, j1, j2, j3, j4, j5⟩ := jx_ar_new (R := R ++ [q]) (n := n.toNatClampNeg) e3
        have : a = x := by
          by_cases h1 : t < 3
          · rw [g2 h1, j3 h1]
          · by_cases h2 : t = 3
            · rw [g3 h2, j4 h2]
            · rw [g4 (by omega), j5 (by omega)]
        rw [this]
        exact j1
      refine kk (R ++ [q]) _ lw _ hp ⟨jx_re_new E1 hq (Or.inr (Or.inl ⟨show 100 ≤ 100 + t by omega, show 100 + t < 200 by omega, a, ?_, ?_⟩)), jx_lv_mono hp E2, ⟨q, ?_, rfl⟩, jx_vs_mono hp E4⟩
      · rw [jm_up_eq]
        show some (Sum.inl (dA t, a)) = some (Sum.inl (dA (100 + t - 100), a))
        rw [Nat.add_sub_cancel_left]
      · show jx_ar (R ++ [q]) (100 + t - 100) _ a
        rw [Nat.add_sub_cancel_left]
        exact ha
      · rw [← E1.1]
        simp
  next => cases hs
end JX3
