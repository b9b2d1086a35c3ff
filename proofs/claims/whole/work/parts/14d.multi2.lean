section JW3
variable {dA : Nat → ClassId} {K : (Nat × List Value) → Nat → Prop}
/-- these arrays are those of the small machine -/
def jw_ok (dA : Nat → ClassId) (R : List Nat) (Ms : jx_H) (L : List jw_e) : Prop := L.length = Ms.length ∧ ∀ (j : Nat) (c : Nat × List Value), Ms[j]? = some c → ∃ (t : Nat) (x : vp_A), c.1 = 100 + t ∧ t < 100 ∧ L[j]? = some (dA t, x) ∧ jx_ar R t c.2 x
theorem jw_ok_app {R : List Nat} {M1 M2 : jx_H} {L1 L2 : List jw_e} (h1 : jw_ok dA R M1 L1) (h2 : jw_ok dA R M2 L2) : jw_ok dA R (M1 ++ M2) (L1 ++ L2) := by
  refine ⟨by rw [List.length_append, List.length_append, h1.1, h2.1], fun j c hj => ?_⟩
  by_cases e : j < M1.length
  · rw [List.getElem?_append_left e] at hj
    rw [List.getElem?_append_left (by rw [h1.1]; exact e)]
    exact h1.2 j c hj
  · rw [List.getElem?_append_right (by omega)] at hj
    rw [List.getElem?_append_right (by rw [h1.1]; omega), h1.1]
    exact h2.2 _ c hj
theorem jw_ok_one {R : List Nat} {t : Nat} {L : List Value} {x : vp_A} (ht : t < 100) (h : jx_ar R t L x) : jw_ok dA R [(100 + t, L)] [(dA t, x)] := by
  refine ⟨rfl, fun j c hj => ?_⟩
  have : j = 0 := by
    have := (List.getElem?_eq_some_iff.mp hj).1
    simp at this
    exact this
  subst this
  cases hj
  exact ⟨t, x, rfl, ht, rfl, h⟩
theorem jw_ok_rep {R : List Nat} {t : Nat} {L : List Value} {x : vp_A} (ht : t < 100) (h : jx_ar R t L x) : ∀ n, jw_ok dA R (List.replicate n (100 + t, L)) (List.replicate n (dA t, x))
  | 0 => ⟨rfl, fun j c hj => by simp at hj⟩
  | n + 1 => by
    rw [List.replicate_succ, List.replicate_succ]
    exact jw_ok_app (M1 := [(100 + t, L)]) (L1 := [(dA t, x)]) (jw_ok_one ht h) (jw_ok_rep ht h n)
theorem jw_in_rep (x : jw_e) (h : Nat) : ∀ n, jw_in (fun _ => [x]) 1 h n = List.replicate n x
  | 0 => rfl
  | n + 1 => by rw [jw_in, jw_in_rep x h n, List.replicate_succ']
def jw_a0 (t n : Nat) : vp_A := if t < 3 then (n, .inl (fun _ => 0)) else (n, .inr (.inl (fun _ => 0)))
theorem jw_a0_ar {R : List Nat} {t n : Nat} (ht : t < 4) : jx_ar R t (List.replicate n (jx_el t)) (jw_a0 t n) := by
  obtain ⟨x, h1, -, h2, h3, -⟩ := jx_ar_new (R := R) (t := t) (n := n) (by omega)
  unfold jw_a0
  split
  next e => rw [← h2 e]; exact h1
  next e => rw [← h3 (by omega)]; exact h1
theorem jw_outer {R : List Nat} {t n a h kc : Nat} (ht : 4 ≤ t) (ht2 : t < 13) (hR : ∀ i, i < n → R[a + 1 + i * kc]? = some (h + 1 + i * kc)) : jx_ar R t ((List.range n).map (fun i => Value.ref (a + 1 + i * kc))) (jw_oc (dA t) n h kc n).2 := by
  refine Or.inr (Or.inr ⟨ht, ht2, fun j => if j < n then some (h + 1 + j * kc) else none, by simp [jw_oc], fun i v hv => ?_⟩)
  rw [List.getElem?_map] at hv
  obtain ⟨i', hi, rfl⟩ := Option.map_eq_some_iff.mp hv
  obtain ⟨hl, rfl⟩ := List.getElem?_eq_some_iff.mp hi
  rw [List.length_range] at hl
  rw [List.getElem_range]
  show jx_v R _ (va_rf (if i < n then some (h + 1 + i * kc) else none))
  rw [if_pos hl]
  exact ⟨_, hR i hl, rfl⟩
theorem jw_ok_m2 {R : List Nat} {a n1 n2 t1 t2 h : Nat} (h1 : 4 ≤ t1) (h2 : t1 < 13) (h3 : t2 < 4) (hR : ∀ i, i < n1 → R[a + 1 + i]? = some (h + 1 + i)) : jw_ok dA R (jx_m2 a n1 n2 t1 t2) (jw_cs (dA t1) n1 (fun _ => [(dA t2, jw_a0 t2 n2)]) 1 h) := by
  unfold jx_m2 jw_cs
  rw [jw_in_rep]
  have := jw_outer (dA := dA) (R := R) (t := t1) (n := n1) (a := a) (h := h) (kc := 1) h1 h2 (fun i hi => by rw [Nat.mul_one]; exact hR i hi)
  simp only [Nat.mul_one] at this
  exact jw_ok_app (M1 := [(100 + t1, _)]) (L1 := [jw_oc (dA t1) n1 h 1 n1]) (jw_ok_one (by omega) this) (jw_ok_rep (by omega) (jw_a0_ar h3) n1)
theorem jx_m3_sn (n2 n3 t2 t3 : Nat) : ∀ (n a : Nat), jx_m3 a n2 n3 t2 t3 (n + 1) = jx_m3 a n2 n3 t2 t3 n ++ jx_m2 (a + n * (1 + n2)) n2 n3 t2 t3
  | 0, a => by simp [jx_m3]
  | n + 1, a => by
    rw [jx_m3, jx_m3_sn n2 n3 t2 t3 n (a + 1 + n2), ← List.append_assoc]
    have e : a + 1 + n2 + n * (1 + n2) = a + (n + 1) * (1 + n2) := by rw [Nat.succ_mul]; omega
    rw [e]
    rfl
theorem jw_ok_m3 {R : List Nat} {a n2 n3 t2 t3 h : Nat} (h1 : 4 ≤ t2) (h2 : t2 < 13) (h3 : t3 < 4) : ∀ n, (∀ k, k < n * (1 + n2) → R[a + k]? = some (h + 1 + k)) → jw_ok dA R (jx_m3 a n2 n3 t2 t3 n) (jw_in (jw_cs (dA t2) n2 (fun _ => [(dA t3, jw_a0 t3 n3)]) 1) (1 + n2) h n)
  | 0, _ => ⟨rfl, fun j c hj => by simp [jx_m3] at hj⟩
  | n + 1, hR => by
    rw [jx_m3_sn, jw_in]
    have hs : (n + 1) * (1 + n2) = n * (1 + n2) + (1 + n2) := Nat.succ_mul _ _
    refine jw_ok_app (jw_ok_m3 h1 h2 h3 n (fun k hk => hR k (by omega))) (jw_ok_m2 h1 h2 h3 (fun i hi => ?_))
    have := hR (n * (1 + n2) + 1 + i) (by omega)
    rw [show a + n * (1 + n2) + 1 + i = a + (n * (1 + n2) + 1 + i) by omega, this]
    congr 1
    omega
theorem jx_re_app {R : List Nat} {M Ms : jx_H} {h : jm_H} {q : Nat} {L : List jw_e} (E : jx_re dA K R M h) (hq : ∀ b : Nat, q ≤ b → h b = none) (hok : jw_ok dA (R ++ (List.range L.length).map (fun i => q + i)) Ms L) : jx_re dA K (R ++ (List.range L.length).map (fun i => q + i)) (M ++ Ms) (jw_up h q L) := by
  obtain ⟨hlen, hc⟩ := hok
  have hp : R <+: R ++ (List.range L.length).map (fun i => q + i) := ⟨_, rfl⟩
  have old : ∀ (a : Nat) (x : Nat × List Value) (b : Nat), M[a]? = some x → R[a]? = some b → x.1 < 200 → b < q := fun a x b h1 h2 h3 => by
    refine Nat.not_le.mp fun e => ?_
    have := hq b e
    rcases E.2.1 a x b h1 h2 with ⟨-, fs, g, -⟩ | ⟨-, -, y, g, -⟩ | ⟨g, -⟩
    · rw [this] at g; cases g
    · rw [this] at g; cases g
    · omega
  have spl : ∀ (a : Nat) (x : Nat × List Value) (b : Nat), (M ++ Ms)[a]? = some x → (R ++ (List.range L.length).map (fun i => q + i))[a]? = some b → (M[a]? = some x ∧ R[a]? = some b) ∨ ∃ j, a = M.length + j ∧ Ms[j]? = some x ∧ b = q + j := fun a x b h1 h2 => by
    by_cases e : a < M.length
    · rw [List.getElem?_append_left e] at h1
      rw [List.getElem?_append_left (by rw [E.1]; exact e)] at h2
      exact Or.inl ⟨h1, h2⟩
    · rw [List.getElem?_append_right (by omega)] at h1
      rw [List.getElem?_append_right (by rw [E.1]; omega), E.1, List.getElem?_map] at h2
      obtain ⟨i, hi, rfl⟩ := Option.map_eq_some_iff.mp h2
      obtain ⟨hl, rfl⟩ := List.getElem?_eq_some_iff.mp hi
      exact Or.inr ⟨a - M.length, by omega, h1, by rw [List.getElem_range]⟩
  refine ⟨by simp [E.1, hlen], fun a x b h1 h2 => ?_, fun a a' x x' b h1 h2 g1 g2 f1 f2 => ?_⟩
  · rcases spl a x b h1 h2 with ⟨i1, i2⟩ | ⟨j, -, hj, rfl⟩
    · refine jx_ce_mono hp (fun g => ?_) (E.2.1 a x b i1 i2)
      have := old a x b i1 i2 g
      unfold jw_up
      rw [if_neg (by omega)]
    · obtain ⟨t, y, e1, e2, e3, e4⟩ := hc j x hj
      have hl := (List.getElem?_eq_some_iff.mp e3).1
      refine Or.inr (Or.inl ⟨by omega, by omega, y, ?_, ?_⟩)
      · unfold jw_up
        rw [if_pos (by omega), show q + j - q = j by omega, e3, show x.1 - 100 = t by omega]
        rfl
      · rw [show x.1 - 100 = t by omega]
        exact e4
  · rcases spl a x b h1 f1 with ⟨i1, i2⟩ | ⟨j, i1, i2, i3⟩ <;> rcases spl a' x' b h2 f2 with ⟨j1, j2⟩ | ⟨j', j1, j2, j3⟩
    · exact E.2.2 a a' x x' b i1 j1 g1 g2 i2 j2
    · have := old a x b i1 i2 g1
      omega
    · have := old a' x' b j1 j2 g2
      omega
    · omega
theorem jx_mu_inv {pc dc ds : Nat} {lv : List (Nat × Value)} {st : List Value} {M : jx_H} {x : List Nat} {z : jx_N} (hs : jx_mu pc lv M dc ds x st = some (.inl z)) :
    (∃ (t1 t2 : Nat) (a b : Int32) (r : List Value), x = [t1, t2] ∧ st = .int b :: .int a :: r ∧ ¬ a < 0 ∧ ¬ b < 0 ∧ a.toNatClampNeg ≤ 1000 ∧ b.toNatClampNeg ≤ 1000000 ∧ z = (pc + 4, lv, .ref M.length :: r, M ++ jx_m2 M.length a.toNatClampNeg b.toNatClampNeg t1 t2, dc + (1 + a.toNatClampNeg), ds + (a.toNatClampNeg + a.toNatClampNeg * b.toNatClampNeg))) ∨
    (∃ (t1 t2 t3 : Nat) (a b c : Int32) (r : List Value), x = [t1, t2, t3] ∧ st = .int c :: .int b :: .int a :: r ∧ ¬ a < 0 ∧ ¬ b < 0 ∧ ¬ c < 0 ∧ a.toNatClampNeg ≤ 1000 ∧ b.toNatClampNeg ≤ 1000 ∧ c.toNatClampNeg ≤ 1000000 ∧
      z = (pc + 4, lv, .ref M.length :: r, M ++ (100 + t1, (List.range a.toNatClampNeg).map (fun i => .ref (M.length + 1 + i * (1 + b.toNatClampNeg)))) :: jx_m3 (M.length + 1) b.toNatClampNeg c.toNatClampNeg t2 t3 a.toNatClampNeg, dc + (1 + a.toNatClampNeg + a.toNatClampNeg * b.toNatClampNeg), ds + (a.toNatClampNeg + a.toNatClampNeg * b.toNatClampNeg + a.toNatClampNeg * b.toNatClampNeg * c.toNatClampNeg))) := by
  unfold jx_mu at hs
  split at hs
  next t1 t2 b a r =>
    split at hs
    next => cases hs
    next e =>
      cases hs
      exact Or.inl ⟨t1, t2, a, b, r, rfl, rfl, fun q => e (Or.inl q), fun q => e (Or.inr (Or.inl q)), Nat.not_lt.mp fun q => e (Or.inr (Or.inr (Or.inl q))), Nat.not_lt.mp fun q => e (Or.inr (Or.inr (Or.inr q))), rfl⟩
  next t1 t2 t3 c b a r =>
    split at hs
    next => cases hs
    next e =>
      cases hs
      exact Or.inr ⟨t1, t2, t3, a, b, c, r, rfl, rfl, fun q => e (Or.inl q), fun q => e (Or.inr (Or.inl q)), fun q => e (Or.inr (Or.inr (Or.inl q))), Nat.not_lt.mp fun q => e (Or.inr (Or.inr (Or.inr (Or.inl q)))), Nat.not_lt.mp fun q => e (Or.inr (Or.inr (Or.inr (Or.inr (Or.inl q))))), Nat.not_lt.mp fun q => e (Or.inr (Or.inr (Or.inr (Or.inr (Or.inr q))))), rfl⟩
  next => cases hs
theorem jw_lim {l : Launch} {e : Env} (ha : l.admits e) {n k : Nat} (hn : n ≤ 1000000) (hk : k ≤ 8) : (¬ n > e.platform.arrayLengthLimit) ∧ ¬ n * k > e.platform.maxHeapBytes := by
  have : n * k ≤ 1000000 * 8 := Nat.mul_le_mul hn hk
  refine ⟨?_, ?_⟩
  · rw [Launch.admits_arrayLengthLimit ha]; omega
  · rw [Launch.admits_maxHeapBytes ha]; omega
theorem jw_Rget {R : List Nat} {q n k : Nat} (hk : k < n) : (R ++ (List.range n).map (fun i => q + i))[R.length + k]? = some (q + k) := by
  rw [List.getElem?_append_right (by omega)]
  simp [hk]
variable {p : Program} {l : Launch} {e : Env} {Rm : Room} {s : State} {m : MethodId} {args : Array Value} {below : List Frame} {meth : Method} {c : Code} {Q : State → Prop}
variable {S : State} {D : va_G} {cc : ByteArray} {nL pc dc ds : Nat} {own : String} {R R0 : List Nat} {M : jx_H} {h : jm_H} {lv lw : List (Nat × Value)} {st sw : List Value} {z : jx_N} {df : List (List Value)}
theorem jw_lf (X : jm_cx p s m args c S D jm_cl (jm_ty dA) jm_G cc nL own) (ha : l.admits e) {vm : Vm} (hvm : s.vm.Alike vm) {t : Nat} (ht : t < 4) {b : Int32} (hb : ¬ b < 0) (hb2 : b.toNatClampNeg ≤ 1000000) : jw_mk e vm (Op.multianewarray.make (dA t) [b]) (fun _ => [(dA t, jw_a0 t b.toNatClampNeg)]) 1 b.toNatClampNeg := by
  have key : ∀ ty : FieldType, (jm_ty dA)[t]? = some (dA t, ty) → ∃ (k : Class) (comp : ClassId), vm.classes[dA t]? = some k ∧ k.kind = .array comp ty := fun ty hty => by
    obtain ⟨-, k, hk, comp, hkind⟩ := (X.2.2.2.2.2.1.2 t _ hty).1 0 (fun _ => .null)
    obtain ⟨k', hk', he⟩ := hvm.2.2 _ _ hk
    exact ⟨k', comp, hk', by rw [he]; exact hkind⟩
  have : t = 0 ∨ t = 1 ∨ t = 2 ∨ t = 3 := by omega
  rcases this with rfl | rfl | rfl | rfl
  · obtain ⟨k, comp, h1, h2⟩ := key .byte rfl
    exact jw_leaf h1 h2 hb (jw_lim ha hb2 (show 1 ≤ 8 by omega)).1 (jw_lim ha hb2 (show 1 ≤ 8 by omega)).2 rfl rfl rfl rfl
  · obtain ⟨k, comp, h1, h2⟩ := key .boolean rfl
    exact jw_leaf h1 h2 hb (jw_lim ha hb2 (show 1 ≤ 8 by omega)).1 (jw_lim ha hb2 (show 1 ≤ 8 by omega)).2 rfl rfl rfl rfl
  · obtain ⟨k, comp, h1, h2⟩ := key .int rfl
    exact jw_leaf h1 h2 hb (jw_lim ha hb2 (show 4 ≤ 8 by omega)).1 (jw_lim ha hb2 (show 4 ≤ 8 by omega)).2 rfl rfl rfl rfl
  · obtain ⟨k, comp, h1, h2⟩ := key .long rfl
    exact jw_leaf h1 h2 hb (jw_lim ha hb2 (show 8 ≤ 8 by omega)).1 (jw_lim ha hb2 (show 8 ≤ 8 by omega)).2 rfl rfl rfl rfl
theorem jx_multi (X : jm_cx p s m args c S D jm_cl (jm_ty dA) jm_G cc nL own) {a b len : Nat} {x : List Nat} {va : Value} (hd : decode cc pc = .ok (.multianewarray a b, len)) (hl : jx_lok (.multianewarray a b) len = true) (hsi : jx_si S dA R0 df own (.multianewarray a b) x va) (E : jx_E dA K R M h lv st lw sw) (hs : jx_mu pc lv M dc ds x st = some (.inl z)) (hrm : z.2.2.2.2.1 ≤ Rm.cells ∧ z.2.2.2.2.2 ≤ Rm.slots)
    (kk : jx_go dA K (fun pc lv st h dc ds => jm_W p l e Rm s m args below meth c S D jm_cl Q nL pc lv st h dc ds) R z) : jm_W p l e Rm s m args below meth c S D jm_cl Q nL pc lw sw h dc ds := by
  have hl : len = 4 := by simpa [jx_lok, jx_len] using hl
  subst hl
  obtain ⟨E1, E2, E3⟩ := E
  have hal : S.vm.Alike s.vm := X.2.2.2.2.2.2.1.1.alike
  rcases jx_mu_inv hs with ⟨t1, t2, n1, n2, r, rfl, rfl, i1, i2, i3, i4, rfl⟩ | ⟨t1, t2, t3, n1, n2, n3, r, rfl, rfl, i1, i2, i3, i4, i5, i6, rfl⟩
  · rcases hsi with ⟨u1, u2, C, ex, rfl, g1, g2, g3, hw, hfc, hkd⟩ | ⟨u1, u2, u3, C, ex, -⟩
    · cases ex
      obtain ⟨s1, rfl, E4⟩ := jx_vs_int E3
      obtain ⟨s2, rfl, E5⟩ := jx_vs_int E4
      refine jm_multi (Ls := [n1, n2]) (rest := s2) (cs := jw_cs (dA t1) n1.toNatClampNeg (fun _ => [(dA t2, jw_a0 t2 n2.toNatClampNeg)]) 1) (kc := 1 + n1.toNatClampNeg * 1) (ks := n1.toNatClampNeg + n1.toNatClampNeg * n2.toNatClampNeg) X hd hw (by rw [hal.findClass]; exact hfc) (fun ha vm hvm => ?_) (by have := hrm.1; simp only at this; omega) hrm.2 (fun q hq1 hq2 => ?_)
      · obtain ⟨k, ty, k1, k2, k3, k4⟩ := hkd.moved (hal.trans hvm)
        have hlim := jw_lim ha (n := n1.toNatClampNeg) (k := componentBytes ty) (by omega) (by omega)
        exact jw_step k1 k2 k3 i1 (by simp [i2]) hlim.1 hlim.2 (jw_lf X ha hvm g3 i2 i4)
      · have hlen : (jw_cs (dA t1) n1.toNatClampNeg (fun _ => [(dA t2, jw_a0 t2 n2.toNatClampNeg)]) 1 q).length = 1 + n1.toNatClampNeg := by
          simp [jw_cs, jw_in_rep]
          omega
        have hRg : ∀ k, k < 1 + n1.toNatClampNeg → (R ++ (List.range (jw_cs (dA t1) n1.toNatClampNeg (fun _ => [(dA t2, jw_a0 t2 n2.toNatClampNeg)]) 1 q).length).map (fun i => q + i))[M.length + k]? = some (q + k) := fun k hk => by
          rw [← E1.1]
          exact jw_Rget (by rw [hlen]; exact hk)
        have hok := jw_ok_m2 (dA := dA) (R := R ++ (List.range (jw_cs (dA t1) n1.toNatClampNeg (fun _ => [(dA t2, jw_a0 t2 n2.toNatClampNeg)]) 1 q).length).map (fun i => q + i)) (a := M.length) (n1 := n1.toNatClampNeg) (n2 := n2.toNatClampNeg) (t1 := t1) (t2 := t2) (h := q) g1 g2 g3 (fun i hi => by
          have := hRg (1 + i) (by omega)
          rw [show M.length + 1 + i = M.length + (1 + i) by omega, this]
          congr 1
          omega)
        have hE := jx_re_app E1 hq2 hok
        have hp : R <+: R ++ (List.range (jw_cs (dA t1) n1.toNatClampNeg (fun _ => [(dA t2, jw_a0 t2 n2.toNatClampNeg)]) 1 q).length).map (fun i => q + i) := ⟨_, rfl⟩
        have := kk _ _ lw (.ref q :: s2) hp ⟨hE, jx_lv_mono hp E2, ⟨q, hRg 0 (by omega), rfl⟩, jx_vs_mono hp E5⟩
        rw [Nat.mul_one]
        exact this
    · cases ex
  · rcases hsi with ⟨u1, u2, C, ex, -⟩ | ⟨u1, u2, u3, C, ex, rfl, g1, g2, g3, g4, g5, hw, hfc, hkd, hkd2⟩
    · cases ex
    · cases ex
      obtain ⟨s1, rfl, E4⟩ := jx_vs_int E3
      obtain ⟨s2, rfl, E5⟩ := jx_vs_int E4
      obtain ⟨s3, rfl, E6⟩ := jx_vs_int E5
      have ec : dc + (1 + n1.toNatClampNeg * (1 + n2.toNatClampNeg * 1)) = dc + (1 + n1.toNatClampNeg + n1.toNatClampNeg * n2.toNatClampNeg) := by rw [Nat.mul_one, Nat.mul_add, Nat.mul_one]; omega
      have es : ds + (n1.toNatClampNeg + n1.toNatClampNeg * (n2.toNatClampNeg + n2.toNatClampNeg * n3.toNatClampNeg)) = ds + (n1.toNatClampNeg + n1.toNatClampNeg * n2.toNatClampNeg + n1.toNatClampNeg * n2.toNatClampNeg * n3.toNatClampNeg) := by rw [Nat.mul_add, ← Nat.mul_assoc]; omega
      refine jm_multi (Ls := [n1, n2, n3]) (rest := s3) (cs := jw_cs (dA t1) n1.toNatClampNeg (jw_cs (dA t2) n2.toNatClampNeg (fun _ => [(dA t3, jw_a0 t3 n3.toNatClampNeg)]) 1) (1 + n2.toNatClampNeg * 1)) (kc := 1 + n1.toNatClampNeg * (1 + n2.toNatClampNeg * 1)) (ks := n1.toNatClampNeg + n1.toNatClampNeg * (n2.toNatClampNeg + n2.toNatClampNeg * n3.toNatClampNeg)) X hd hw (by rw [hal.findClass]; exact hfc) (fun ha vm hvm => ?_) (by rw [ec]; exact hrm.1) (by rw [es]; exact hrm.2) (fun q hq1 hq2 => ?_)
      · obtain ⟨k, ty, k1, k2, k3, k4⟩ := hkd.moved (hal.trans hvm)
        obtain ⟨k', ty', k1', k2', k3', k4'⟩ := hkd2.moved (hal.trans hvm)
        have hlim := jw_lim ha (n := n1.toNatClampNeg) (k := componentBytes ty) (by omega) (by omega)
        have hlim2 := jw_lim ha (n := n2.toNatClampNeg) (k := componentBytes ty') (by omega) (by omega)
        exact jw_step k1 k2 k3 i1 (by simp [i2, i3]) hlim.1 hlim.2 (jw_step k1' k2' k3' i2 (by simp [i3]) hlim2.1 hlim2.2 (jw_lf X ha hvm g5 i3 i6))
      · rw [ec, es]
        simp only [Nat.mul_one]
        have hI2 : ∀ h, (jw_cs (dA t2) n2.toNatClampNeg (fun _ => [(dA t3, jw_a0 t3 n3.toNatClampNeg)]) 1 h).length = 1 + n2.toNatClampNeg ∧ jw_sz (jw_cs (dA t2) n2.toNatClampNeg (fun _ => [(dA t3, jw_a0 t3 n3.toNatClampNeg)]) 1 h) = jw_sz (jw_cs (dA t2) n2.toNatClampNeg (fun _ => [(dA t3, jw_a0 t3 n3.toNatClampNeg)]) 1 0) := fun h => by
          refine ⟨?_, ?_⟩
          · simp [jw_cs, jw_in_rep]
            omega
          · simp [jw_cs, jw_in_rep, jw_sz, jw_oc]
        have hlen : (jw_cs (dA t1) n1.toNatClampNeg (jw_cs (dA t2) n2.toNatClampNeg (fun _ => [(dA t3, jw_a0 t3 n3.toNatClampNeg)]) 1) (1 + n2.toNatClampNeg) q).length = 1 + n1.toNatClampNeg * (1 + n2.toNatClampNeg) := by
          rw [jw_cs, List.length_cons, (jw_in_len hI2 q _).1]
          omega
        have hRg : ∀ k, k < 1 + n1.toNatClampNeg * (1 + n2.toNatClampNeg) → (R ++ (List.range (jw_cs (dA t1) n1.toNatClampNeg (jw_cs (dA t2) n2.toNatClampNeg (fun _ => [(dA t3, jw_a0 t3 n3.toNatClampNeg)]) 1) (1 + n2.toNatClampNeg) q).length).map (fun i => q + i))[M.length + k]? = some (q + k) := fun k hk => by
          rw [← E1.1]
          exact jw_Rget (by rw [hlen]; exact hk)
        have hok := jw_ok_m3 (dA := dA) (R := R ++ (List.range (jw_cs (dA t1) n1.toNatClampNeg (jw_cs (dA t2) n2.toNatClampNeg (fun _ => [(dA t3, jw_a0 t3 n3.toNatClampNeg)]) 1) (1 + n2.toNatClampNeg) q).length).map (fun i => q + i)) (a := M.length + 1) (n2 := n2.toNatClampNeg) (n3 := n3.toNatClampNeg) (t2 := t2) (t3 := t3) (h := q) g3 g4 g5 n1.toNatClampNeg (fun k hk => by
          have := hRg (1 + k) (by omega)
          rw [show M.length + 1 + k = M.length + (1 + k) by omega, this]
          congr 1
          omega)
        have hou := jw_outer (dA := dA) (R := R ++ (List.range (jw_cs (dA t1) n1.toNatClampNeg (jw_cs (dA t2) n2.toNatClampNeg (fun _ => [(dA t3, jw_a0 t3 n3.toNatClampNeg)]) 1) (1 + n2.toNatClampNeg) q).length).map (fun i => q + i)) (t := t1) (n := n1.toNatClampNeg) (a := M.length) (h := q) (kc := 1 + n2.toNatClampNeg) g1 g2 (fun i hi => by
          have hm : i * (1 + n2.toNatClampNeg) + (1 + n2.toNatClampNeg) ≤ n1.toNatClampNeg * (1 + n2.toNatClampNeg) := by
            have := Nat.mul_le_mul_right (1 + n2.toNatClampNeg) (show i + 1 ≤ n1.toNatClampNeg from hi)
            rw [Nat.succ_mul] at this
            exact this
          have := hRg (1 + i * (1 + n2.toNatClampNeg)) (by omega)
          rw [show M.length + 1 + i * (1 + n2.toNatClampNeg) = M.length + (1 + i * (1 + n2.toNatClampNeg)) by omega, this]
          congr 1
          omega)
        have hE := jx_re_app E1 hq2 (jw_ok_app (M1 := [(100 + t1, _)]) (L1 := [jw_oc (dA t1) n1.toNatClampNeg q (1 + n2.toNatClampNeg) n1.toNatClampNeg]) (jw_ok_one (by omega) hou) hok)
        have hp : R <+: R ++ (List.range (jw_cs (dA t1) n1.toNatClampNeg (jw_cs (dA t2) n2.toNatClampNeg (fun _ => [(dA t3, jw_a0 t3 n3.toNatClampNeg)]) 1) (1 + n2.toNatClampNeg) q).length).map (fun i => q + i) := ⟨_, rfl⟩
        exact kk _ _ lw (.ref q :: s3) hp ⟨hE, jx_lv_mono hp E2, ⟨q, hRg 0 (by omega), rfl⟩, jx_vs_mono hp E6⟩
end JW3
