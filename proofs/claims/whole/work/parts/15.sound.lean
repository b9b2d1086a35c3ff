section JX9
variable {l : Launch} {S : State} {D : va_G} {dA : Nat → ClassId} {K : (Nat × List Value) → Nat → Prop} {R0 : List Nat} {df : List (List Value)} {P : List jx_Me}
/-- facts of a method's handlers -/
def jx_hf (own : String) (hs : List (Nat × Nat × Nat × Nat × Nat)) : Prop := (∀ q ∈ hs, q.2.2.2.1 ≠ 0 ∧ (10 ≤ q.2.2.2.2 ∧ q.2.2.2.2 < 15) ∧ ∃ (cls : String) (T0 : u_T), jm_cl[q.2.2.2.2]? = some (cls, T0, 0) ∧ Cond.classLink own q.2.2.2.1 cls ∈ jm_G) ∧ ∀ q ∈ hs, ∀ r ∈ hs, q.2.2.2.1 = r.2.2.2.1 → q.2.2.2.2 = r.2.2.2.2
def jx_mok (S : State) (dA : Nat → ClassId) (R0 : List Nat) (df : List (List Value)) (P : List jx_Me) (me : jx_Me) : Prop := plainFor me.1 = true ∧ jx_hf me.1.cls me.2.2.2.2.1 ∧ ∀ q ∈ me.2.2.2.2.2, decode me.2.1 q.1 = .ok (q.2.1, q.2.2.1) ∧ jx_lok q.2.1 q.2.2.1 = true ∧ jx_si S dA R0 df me.1.cls q.2.1 q.2.2.2.1 q.2.2.2.2 ∧ jx_sc S P me.2.1 me.1.cls q.1 q.2.1 q.2.2.2.1
/-- the body of a method, from any place -/
def jx_B (l : Launch) (S : State) (D : va_G) (dA : Nat → ClassId) (K : (Nat × List Value) → Nat → Prop) (R0 : List Nat) (df : List (List Value)) (P : List jx_Me) (n : Nat) : Prop :=
  ∀ (k : Nat) (me : jx_Me), P[k]? = some me → ∀ (fr lo pc : Nat) (lv : List (Nat × Value)) (st : List Value) (M : jx_H) (dc ds : Nat) (o : Option Value ⊕ Nat) (M' : jx_H) (mc ms : Nat), jx_run df P n me fr lo pc lv st M dc ds = some (o, M', mc, ms) →
  ∀ (p : Program) (e : Env) (s : State) (m : MethodId) (args : Array Value) (below : List Frame) (meth : Method) (c : Code), jm_cx p s m args c S D jm_cl (jm_ty dA) jm_G me.2.1 me.2.2.1 me.1.cls → meth.sig.returnType = me.2.2.2.1 → meth.locks = false → meth.name = me.1.name → jx_ex c me.2.2.2.2.1 → l.admits e →
  ∀ (Rk R : List Nat) (h : jm_H) (lw : List (Nat × Value)) (sw : List Value), R0 <+: R → Rk <+: R → jx_E dA K R M h lv st lw sw → jm_W p l e ⟨fr, mc, ms, lo⟩ s m args below meth c S D jm_cl (jm_Q S D jm_cl below s (jx_Po dA K Rk o M') mc ms) me.2.2.1 pc lw sw h dc ds
theorem jx_Aof (E0 : jm_en S D jm_cl (jm_ty dA) jm_G) (hP : ∀ (k : Nat) (me : jx_Me), P[k]? = some me → jx_mok S dA R0 df P me) {n : Nat} (hB : jx_B l S D dA K R0 df P n) {k : Nat} {me : jx_Me} (hk : P[k]? = some me) {fr lo : Nat} {As : List Value} {M : jx_H} {o : Option Value ⊕ Nat} {M' : jx_H} {mc ms : Nat} (hs : jx_run df P n me fr lo 0 (lv_args 0 As) [] M 0 0 = some (o, M', mc, ms)) (hL : (lg_sl As).length ≤ me.2.2.1)
    {R : List Nat} {h : jm_H} {Bs : List Value} (hR0 : R0 <+: R) (E1 : jx_re dA K R M h) (hA : jx_vs R As Bs) : jm_M l S D jm_cl me.1 (jx_wc me) ⟨fr, mc, ms, lo⟩ Bs h (jx_Po dA K R o M') mc ms := by
  have hL' : (lg_sl Bs).length ≤ me.2.2.1 := by rw [jx_vs_sl hA]; exact hL
  have hpl := (hP k me hk).1
  have hB2 := hB k me hk fr lo 0 (lv_args 0 As) [] M 0 0 o M' mc ms hs
  unfold jx_wc
  split
  next e0 =>
    refine jm_ofWF E0 hpl hL' (fun p e s m below meth c X hret hlk hnm hex hadm => ?_)
    exact hB2 p e s m _ below meth c X hret hlk hnm (by rw [e0]; exact jx_nil_ex hex) hadm R R h _ _ hR0 List.prefix_rfl ⟨E1, jx_lv_args 0 hA, trivial⟩
  next q hs0 e0 =>
    refine jm_ofWH E0 hpl hL' (fun p e s m below meth c X hret hlk hnm hex hadm => ?_)
    exact hB2 p e s m _ below meth c X hret hlk hnm (by rw [e0]; exact hex) hadm R R h _ _ hR0 List.prefix_rfl ⟨E1, jx_lv_args 0 hA, trivial⟩
theorem jx_prim {p : Program} {e : Env} {Rm : Room} {s : State} {m : MethodId} {args : Array Value} {below : List Frame} {meth : Method} {c : Code} {Q : State → Prop} {cc : ByteArray} {nL pc dc ds : Nat} {own : String} {R : List Nat} {M M1 : jx_H} {h : jm_H} {lv lw : List (Nat × Value)} {st sw : List Value}
    (X : jm_cx p s m args c S D jm_cl (jm_ty dA) jm_G cc nL own) (hKK : jx_KK S K) {i : Instr} {len k : Nat} {x : List Nat} {va : Value} {As r : List Value} {v : Option Value} {ret : Option FieldType} {ini : Bool} (hd : decode cc pc = .ok (i, len)) (hl : jx_lok i len = true) (hsc : jx_sc S P cc own pc i x) (E : jx_E dA K R M h lv st lw sw) (hs : jx_step df nL ret ini i x va pc lv st M dc ds = some (.inr (.inl (k, As, r)))) (h9 : 9000 ≤ k) (hpr : jx_pr k As M = some (v, M1)) (hroom : 6 ≤ Rm.frames ∧ 150 ≤ Rm.locals) (hcs : dc ≤ Rm.cells ∧ ds ≤ Rm.slots)
    (kk : ∀ (h1 : jm_H) (sw1 : List Value), jx_E dA K R M1 h1 lv (v.toList ++ r) lw sw1 → jm_W p l e Rm s m args below meth c S D jm_cl Q nL (pc + 3) lw sw1 h1 dc ds) : jm_W p l e Rm s m args below meth c S D jm_cl Q nL pc lw sw h dc ds := by
  obtain ⟨E1, E2, E3⟩ := E
  cases i with
  | invokespecial idx =>
    have hl : len = 3 := by simpa [jx_lok, jx_len] using hl
    subst hl
    obtain ⟨k2, n, rfl, -, hsc⟩ := hsc
    have hs : jx_ci [k2, n] st = some (.inr (.inl (k, As, r))) := hs
    unfold jx_ci at hs
    dsimp only at hs
    split at hs
    next b r2 hdr =>
      split at hs
      next hcat =>
        cases hs
        obtain ⟨rfl, rfl, w1, w2, w3⟩ := hsc h9
        have hst : st = .ref b :: r := hdr
        subst hst
        cases hpr
        obtain ⟨b1, r1, hb, rfl, E4⟩ := jx_vs_ref E3
        have hc2 := jx_vs_cat E4
        exact jm_oinit X hd w1 w2 w3 (by omega) (by rw [hc2]; omega) (kk h r1 ⟨E1, E2, E4⟩)
      next => cases hs
    next => cases hs
  | invokestatic idx =>
    have hl : len = 3 := by simpa [jx_lok, jx_len] using hl
    subst hl
    obtain ⟨k2, n, rfl, -, hsc⟩ := hsc
    have hs : jx_cs [k2, n] st = some (.inr (.inl (k, As, r))) := hs
    unfold jx_cs at hs
    dsimp only at hs
    split at hs
    next hcat =>
      cases hs
      obtain ⟨rfl, rfl, w1, w2, w3, w4⟩ := hsc h9
      unfold jx_pr at hpr
      split at hpr
      next => omega
      next => omega
      next => omega
      next a sp b dp n hk9 hAs =>
        have hst : st = .int n :: .int dp :: .ref b :: .int sp :: .ref a :: st.drop 5 := by
          have h1 := List.take_append_drop 5 st
          have h2 := congrArg List.reverse hAs
          rw [List.reverse_reverse] at h2
          rw [h2] at h1
          exact h1.symm
        have hcat2 := hcat.2
        generalize st.drop 5 = r at hst hcat2 kk
        subst hst
        split at hpr
        next f g hMa hMb =>
          split at hpr
          next hcond =>
            cases hpr
            obtain ⟨c1, c2, c3, c4, c5⟩ := hcond
            obtain ⟨s1, rfl, F1⟩ := jx_vs_int E3
            obtain ⟨s2, rfl, F2⟩ := jx_vs_int F1
            obtain ⟨b1, s3, hb1, rfl, F3⟩ := jx_vs_ref F2
            obtain ⟨s4, rfl, F4⟩ := jx_vs_int F3
            obtain ⟨a1, s5, ha1, rfl, F5⟩ := jx_vs_ref F4
            have key : ∀ (a a1 : Nat) (f : List Value), M[a]? = some (102, f) → R[a]? = some a1 → ∃ f' : Nat → Int32, h a1 = some (.inl (dA 2, f.length, .inl f')) ∧ ∀ (i : Nat) (v : Value), f[i]? = some v → v = .int (f' i) := fun a a1 f g1 g2 => by
              rcases E1.2.1 a _ a1 g1 g2 with ⟨q, -⟩ | ⟨-, -, x, g3, g4⟩ | ⟨q, -⟩
              · exact absurd (show (102 : Nat) < 100 from q) (by decide)
              · rcases g4 with ⟨-, f', rfl, g5⟩ | ⟨q, -⟩ | ⟨q, -⟩
                · exact ⟨f', g3, g5⟩
                · exact absurd (show (102 - 100 : Nat) = 3 from q) (by decide)
                · exact absurd (show 4 ≤ (102 - 100 : Nat) from q) (by decide)
              · exact absurd (show 200 ≤ (102 : Nat) from q) (by decide)
            obtain ⟨f', hf1, hf2⟩ := key a a1 f hMa ha1
            obtain ⟨g', hg1, hg2⟩ := key b b1 g hMb hb1
            have hc2 := jx_vs_cat F5
            refine jm_copy (t0 := 2) X hd w1 w2 w3 w4 rfl hf1 hg1 c1 c2 c3 c4 c5 (by omega) (by rw [hc2]; omega) (kk _ s5 ⟨jx_re_set E1 hMb hb1 (show 102 < 200 by decide) rfl (Or.inr (Or.inl ⟨show 100 ≤ 102 by decide, show 102 < 200 by decide, _, jm_up_eq _ _ _, Or.inl ⟨show 102 - 100 < 3 by decide, _, ?_, jx_cp_get c4 c5 hf2 hg2⟩⟩)), E2, F5⟩)
            rw [jx_cp_len c4 c5]
          next => cases hpr
        next => cases hpr
      next => cases hpr
    next => cases hs
  | invokevirtual idx =>
    have hl : len = 3 := by simpa [jx_lok, jx_len] using hl
    subst hl
    obtain ⟨k2, n, ci, rfl, -, hsc⟩ := hsc
    have hs : jx_cv M [k2, n, ci] st = some (.inr (.inl (k, As, r))) := hs
    unfold jx_cv at hs
    dsimp only at hs
    split at hs
    next b r2 hdr =>
      split at hs
      next cj L0 hMb0 =>
        split at hs
        next hcat =>
          cases hs
          have hcat2 := hcat.2
          obtain ⟨hci, hsd⟩ := hsc h9
          subst hci
          have key : ∀ (b1 : Nat) (L : List Value), M[b]? = some (300, L) → R[b]? = some b1 → K (300, L) b1 := fun b1 L g1 g2 => by
            rcases E1.2.1 b _ b1 g1 g2 with ⟨q, -⟩ | ⟨-, q, -⟩ | ⟨-, q⟩
            · exact absurd (show (300 : Nat) < 100 from q) (by decide)
            · exact absurd (show (300 : Nat) < 200 from q) (by decide)
            · exact q
          rcases hsd with ⟨rfl, rfl, hw⟩ | ⟨rfl, rfl, hw⟩
          · have hst : st = .ref b :: r := hdr
            subst hst
            obtain ⟨b1, r1, hb, rfl, E4⟩ := jx_vs_ref E3
            have hpr : (match M[b]? with | some (300, L) => some (some (Value.int (Int32.ofNat L.length)), M) | _ => none) = some (v, M1) := hpr
            split at hpr
            next L hMb =>
              cases hpr
              have hc2 := jx_vs_cat E4
              obtain ⟨k1, k2, vv, xs, k3, k4, k5, k6⟩ := hKK.2.1 L b1 (key b1 L hMb hb)
              exact jy_callLen X hd hw k1 k2 k3 k4 hKK.2.2.1 k5 (by rw [hc2]; exact hcat2) hroom hcs (kk h _ ⟨E1, E2, rfl, E4⟩)
            next => cases hpr
          · have hl2 : ∃ y, st = y :: .ref b :: r := by
              cases st with
              | nil => cases hdr
              | cons y st => exact ⟨y, by rw [show st = Value.ref b :: r from hdr]⟩
            obtain ⟨y, rfl⟩ := hl2
            obtain ⟨y1, t1, rfl, hy, E4⟩ := jx_vs_cons E3
            obtain ⟨b1, r1, hb, rfl, E5⟩ := jx_vs_ref E4
            cases y with
            | int i =>
              cases hy
              have hpr2 : (match M[b]? with | some (300, L) => (if i < 0 then none else (match L[i.toNatClampNeg]? with | some (Value.int v) => some (some (Value.int v), M) | _ => none)) | _ => none) = some (v, M1) := hpr
              split at hpr2
              next L hMb =>
                split at hpr2
                next => cases hpr2
                next hi =>
                  split at hpr2
                  next w hw2 =>
                    cases hpr2
                    have hc2 := jx_vs_cat E5
                    obtain ⟨k1, k2, vv, xs, k3, k4, k5, k6⟩ := hKK.2.1 L b1 (key b1 L hMb hb)
                    obtain ⟨k7, k8⟩ := k6 _ _ hw2
                    exact jy_callCh X hd hw k1 k2 k3 k4 hKK.2.2 k5 (jx_in' hi hw2) k8 (by rw [hc2]; exact hcat2) hroom hcs (kk h _ ⟨E1, E2, k7.symm, E5⟩)
                  next => cases hpr2
              next => cases hpr2
            | _ => cases hpr
        next => cases hs
      next => cases hs
    next => cases hs
  | iaload =>
    exfalso
    rcases jx_or_ok hs with hs | hs <;> simp only [jx_ald] at hs <;> (repeat' split at hs) <;> cases hs
  | aastore =>
    exfalso
    rcases jx_or_ok hs with hs | hs <;> simp only [jx_aas, jx_aat] at hs <;> (repeat' split at hs) <;> cases hs
  | _ =>
    exfalso
    simp only [jx_step, jx_k, jx_ii, jx_ll, jx_iz, jx_lz, jx_li, jx_lc, jx_i1, jx_l1, jx_or, jx_ald, jx_aas, jx_aat, jx_gf, jx_pf, jx_ast, jx_al, jx_nw, jx_na, jx_mu, jx_ri, jx_rl, jx_ra, jx_rv, jx_ld, jx_sr, jx_sr2, jx_inc, jx_du, jx_po, jx_d2, jx_ts, jx_lus, jx_bz, jx_bc, jx_to, reduceCtorEq] at hs <;> (repeat' split at hs) <;> cases hs
def jx_cst (S : State) (D : va_G) : Prop := ∀ ci cj : Nat, 10 ≤ ci ∧ ci < 15 → 10 ≤ cj ∧ cj < 15 → S.vm.assignable (D.1 ci) (D.1 cj) = decide (ci = cj)
theorem jx_hd_find {pc ci t : Nat} (A : ExceptionTableEntry → Bool) {hs0 : List (Nat × Nat × Nat × Nat × Nat)} (HA : ∀ (y : ExceptionTableEntry) (q : Nat × Nat × Nat × Nat × Nat), q ∈ hs0 → (y.startPc, y.endPc, y.handlerPc, y.catchType) = (q.1, q.2.1, q.2.2.1, q.2.2.2.1) → A y = decide (q.2.2.2.2 = ci)) :
    ∀ (hs : List (Nat × Nat × Nat × Nat × Nat)) (L : List ExceptionTableEntry), (∀ q ∈ hs, q ∈ hs0) → L.map (fun h => (h.startPc, h.endPc, h.handlerPc, h.catchType)) = hs.map (fun q => (q.1, q.2.1, q.2.2.1, q.2.2.2.1)) → jx_hd pc ci hs = some t → ∃ y, L.find? (fun y => covers y pc && A y) = some y ∧ y.handlerPc = t := by
  intro hs
  induction hs with
  | nil => intro L _ _ hh; cases hh
  | cons q hs ih =>
    intro L hsub hm hh
    cases L with
    | nil => simp at hm
    | cons y L =>
      simp only [List.map_cons, List.cons.injEq] at hm
      have hA := HA y q (hsub q List.mem_cons_self) hm.1
      have e1 : y.startPc = q.1 := congrArg (·.1) hm.1
      have e2 : y.endPc = q.2.1 := congrArg (·.2.1) hm.1
      have e3 : y.handlerPc = q.2.2.1 := congrArg (·.2.2.1) hm.1
      rw [List.find?_cons]
      unfold jx_hd at hh
      split at hh
      next hc =>
        cases hh
        have : (covers y pc && A y) = true := by simp [covers, e1, e2, hA, hc]
        rw [this]
        exact ⟨y, rfl, e3⟩
      next hc =>
        have : (covers y pc && A y) = false := by
          simp only [covers, e1, e2, hA]
          cases hcc : (decide (q.1 ≤ pc) && decide (pc < q.2.1) && decide (q.2.2.2.2 = ci)) with
          | false => rfl
          | true =>
            simp only [Bool.and_eq_true, decide_eq_true_eq] at hcc
            exact absurd ⟨hcc.1.1, hcc.1.2, hcc.2⟩ hc
        rw [this]
        exact ih L (fun r hr => hsub r (List.mem_cons_of_mem _ hr)) hm.2 hh
theorem jx_hd_mem {pc ci t : Nat} : ∀ {hs : List (Nat × Nat × Nat × Nat × Nat)}, jx_hd pc ci hs = some t → ∃ q ∈ hs, q.2.2.2.2 = ci
  | [], h => by cases h
  | q :: hs, h => by
    unfold jx_hd at h
    split at h
    next hc => exact ⟨q, List.mem_cons_self, hc.2.2⟩
    next =>
      obtain ⟨r, hr, e⟩ := jx_hd_mem h
      exact ⟨r, List.mem_cons_of_mem _ hr, e⟩
theorem jx_catch {p : Program} {e : Env} {Rm : Room} {s : State} {m : MethodId} {args : Array Value} {below : List Frame} {meth : Method} {c : Code} {Q : State → Prop} {cc : ByteArray} {nL pc dc ds : Nat} {own : String} {R : List Nat} {M : jx_H} {h : jm_H} {lw : List (Nat × Value)} {rest : List Value}
    (X : jm_cx p s m args c S D jm_cl (jm_ty dA) jm_G cc nL own) (hcst : jx_cst S D) {hs : List (Nat × Nat × Nat × Nat × Nat)} (hf : jx_hf own hs) (hex : jx_ex c hs) {a b ci t : Nat} {fs : List Value} (E : jx_re dA K R M h) (ha : M[a]? = some (ci, fs)) (hb : R[a]? = some b) (hh : jx_hd pc ci hs = some t)
    (kk : jm_W p l e Rm s m args below meth c S D jm_cl Q nL t lw [.ref b] h dc ds) : jm_X p l e Rm s m args below meth c S D jm_cl Q nL pc lw rest h b dc ds := by
  obtain ⟨q0, hq0, hci⟩ := jx_hd_mem hh
  obtain ⟨-, hlt, cls, T0, hcl, -⟩ := hf.1 q0 hq0
  rw [hci] at hlt hcl
  have hbo : ∃ fw, h b = some (.inr (ci, fw)) := by
    rcases E.2.1 a _ b ha hb with ⟨-, fw, g1, -⟩ | ⟨g1, -⟩ | ⟨g1, -⟩
    · exact ⟨fw, g1⟩
    · have g1 : 100 ≤ ci := g1
      omega
    · have g1 : 200 ≤ ci := g1
      omega
  obtain ⟨fw, hbo⟩ := hbo
  have HA : ∀ (y : ExceptionTableEntry) (q : Nat × Nat × Nat × Nat × Nat), q ∈ hs → (y.startPc, y.endPc, y.handlerPc, y.catchType) = (q.1, q.2.1, q.2.2.1, q.2.2.2.1) → hs.any (fun r => r.2.2.2.1 == y.catchType && r.2.2.2.2 == ci) = decide (q.2.2.2.2 = ci) := fun y q hq hy => by
    have e4 : y.catchType = q.2.2.2.1 := congrArg (·.2.2.2) hy
    rw [Bool.eq_iff_iff, List.any_eq_true]
    constructor
    · rintro ⟨r, hr, hr2⟩
      simp only [Bool.and_eq_true, beq_iff_eq] at hr2
      have := hf.2 q hq r hr (by rw [hr2.1, e4])
      simp [this, hr2.2]
    · intro hd
      have hd : q.2.2.2.2 = ci := by simpa using hd
      exact ⟨q, hq, by simp [e4, hd]⟩
  obtain ⟨y, hy, hyt⟩ := jx_hd_find (pc := pc) (ci := ci) (t := t) (fun y => hs.any (fun r => r.2.2.2.1 == y.catchType && r.2.2.2.2 == ci)) HA hs c.exceptionTable.toList (fun _ h => h) hex hh
  refine jm_catch X hcl hbo _ (fun y hy => ?_) hy (by rw [hyt]; exact kk)
  obtain ⟨j, hj⟩ := List.getElem?_of_mem hy
  have hj2 := congrArg (fun z => z[j]?) hex
  simp only [List.getElem?_map, hj, Option.map_some] at hj2
  obtain ⟨q, hq, hqe⟩ := Option.map_eq_some_iff.mp hj2.symm
  have hqm := List.mem_of_getElem? hq
  obtain ⟨k0, klt, cls2, T2, hcl2, hw⟩ := hf.1 q hqm
  have e4 : q.2.2.2.1 = y.catchType := congrArg (·.2.2.2) hqe
  refine ⟨by rw [← e4]; exact k0, cls2, by rw [← e4]; exact hw, D.1 q.2.2.2.2, (X.2.2.2.2.2.2.2.2.2.1 _ _ hcl2).2.1, ?_⟩
  rw [hcst ci q.2.2.2.2 hlt klt, HA y q hqm hqe.symm]
  simp [eq_comm]
theorem jx_ret {p : Program} {e : Env} {Rm : Room} {s : State} {m : MethodId} {args : Array Value} {below : List Frame} {meth : Method} {c : Code} {cc : ByteArray} {nL pc dc ds : Nat} {own : String} {R Rk : List Nat} {M : jx_H} {h : jm_H} {lv lw : List (Nat × Value)} {st sw : List Value}
    (X : jm_cx p s m args c S D jm_cl (jm_ty dA) jm_G cc nL own) {i : Instr} {len : Nat} {x : List Nat} {va : Value} {v : Option Value} {ret : Option FieldType} {ini : Bool} (hd : decode cc pc = .ok (i, len)) (hl : jx_lok i len = true) (hret : meth.sig.returnType = ret) (hlk : meth.locks = false) (hRk : Rk <+: R) (E : jx_E dA K R M h lv st lw sw) (hs : jx_step df nL ret ini i x va pc lv st M dc ds = some (.inr (.inr (.inl v)))) :
    jm_W p l e Rm s m args below meth c S D jm_cl (jm_Q S D jm_cl below s (jx_Po dA K Rk (.inl v) M) dc ds) nL pc lw sw h dc ds := by
  obtain ⟨E1, E2, E3⟩ := E
  cases i with
  | ireturn =>
    have hl : len = 1 := by simpa [jx_lok, jx_len] using hl
    subst hl
    have hs : jx_ri ret st = some (.inr (.inr (.inl v))) := hs
    unfold jx_ri at hs
    split at hs
    next ty w =>
      split at hs
      next hn =>
        cases hs
        obtain ⟨w1, rfl, E4⟩ := jx_vs_int E3
        cases jx_vs_nil E4
        exact jm_zret X hret hn hlk hd ⟨R, hRk, E1, _, rfl, rfl⟩
      next => cases hs
    next => cases hs
  | lreturn =>
    have hl : len = 1 := by simpa [jx_lok, jx_len] using hl
    subst hl
    have hs : jx_rl ret st = some (.inr (.inr (.inl v))) := hs
    unfold jx_rl at hs
    split at hs
    next w =>
      cases hs
      obtain ⟨w1, rfl, E4⟩ := jx_vs_long E3
      cases jx_vs_nil E4
      exact jm_lret X hret hlk hd ⟨R, hRk, E1, _, rfl, rfl⟩
    next => cases hs
  | areturn =>
    have hl : len = 1 := by simpa [jx_lok, jx_len] using hl
    subst hl
    have hs : jx_ra ret st = some (.inr (.inr (.inl v))) := hs
    unfold jx_ra at hs
    split at hs
    next C a =>
      cases hs
      obtain ⟨b, w1, hb, rfl, E4⟩ := jx_vs_ref E3
      cases jx_vs_nil E4
      exact jm_aret X hret (Or.inl ⟨_, rfl⟩) (Or.inr ⟨_, rfl⟩) hlk hd ⟨R, hRk, E1, _, rfl, b, hb, rfl⟩
    next C a =>
      cases hs
      obtain ⟨b, w1, hb, rfl, E4⟩ := jx_vs_ref E3
      cases jx_vs_nil E4
      exact jm_aret X hret (Or.inr ⟨_, rfl⟩) (Or.inr ⟨_, rfl⟩) hlk hd ⟨R, hRk, E1, _, rfl, b, hb, rfl⟩
    next => cases hs
  | return_ =>
    have hl : len = 1 := by simpa [jx_lok, jx_len] using hl
    subst hl
    have hs : jx_rv ret st = some (.inr (.inr (.inl v))) := hs
    unfold jx_rv at hs
    split at hs
    next =>
      cases hs
      cases jx_vs_nil E3
      exact jm_vret X hret hlk hd ⟨R, hRk, E1, rfl⟩
    next => cases hs
  | iaload =>
    exfalso
    rcases jx_or_ok hs with hs | hs <;> simp only [jx_ald] at hs <;> (repeat' split at hs) <;> cases hs
  | aastore =>
    exfalso
    rcases jx_or_ok hs with hs | hs <;> simp only [jx_aas, jx_aat] at hs <;> (repeat' split at hs) <;> cases hs
  | _ =>
    exfalso
    simp only [jx_step, jx_k, jx_ii, jx_ll, jx_iz, jx_lz, jx_li, jx_lc, jx_i1, jx_l1, jx_or, jx_ald, jx_aas, jx_aat, jx_gf, jx_pf, jx_ast, jx_al, jx_nw, jx_na, jx_mu, jx_cs, jx_cv, jx_ci, jx_ld, jx_sr, jx_sr2, jx_inc, jx_du, jx_po, jx_d2, jx_ts, jx_lus, jx_bz, jx_bc, jx_to, reduceCtorEq] at hs <;> (repeat' split at hs) <;> cases hs
theorem jx_thr {p : Program} {e : Env} {Rm : Room} {s : State} {m : MethodId} {args : Array Value} {below : List Frame} {meth : Method} {c : Code} {cc : ByteArray} {nL pc dc ds : Nat} {own : String} {R Rk : List Nat} {M : jx_H} {h : jm_H} {lv lw : List (Nat × Value)} {st sw : List Value}
    (X : jm_cx p s m args c S D jm_cl (jm_ty dA) jm_G cc nL own) (hst : l.stackTraces = false) (hdf : df.length = 10) {i : Instr} {len ci : Nat} {x : List Nat} {va : Value} {ret : Option FieldType} {ini : Bool} (hd : decode cc pc = .ok (i, len)) (hl : jx_lok i len = true) (hsc : jx_sc S P cc own pc i x) (hlk : meth.locks = false) (hex : c.exceptionTable.isEmpty = true) (hRk : Rk <+: R) (E : jx_E dA K R M h lv st lw sw) (hs : jx_step df nL ret ini i x va pc lv st M dc ds = some (.inr (.inr (.inr ci)))) (hroom : 5 < Rm.frames ∧ jx_cat st + 81 ≤ Rm.locals ∧ dc + 1 ≤ Rm.cells ∧ ds + 6 ≤ Rm.slots) :
    jm_W p l e Rm s m args below meth c S D jm_cl (jm_Q S D jm_cl below s (jx_Po dA K Rk (.inr M.length) (M ++ [(ci, [])])) (dc + 1) (ds + 6)) nL pc lw sw h dc ds := by
  obtain ⟨E1, E2, E3⟩ := E
  cases i with
  | new idx =>
    have hl : len = 3 := by simpa [jx_lok, jx_len] using hl
    subst hl
    obtain ⟨cj, rfl, hsc⟩ := hsc
    have hs : jx_nw pc lv M dc ds df [cj] st = some (.inr (.inr (.inr ci))) := hs
    simp only [jx_nw] at hs
    split at hs
    next => cases hs
    next hn =>
      split at hs
      next hlt =>
        cases hs
        have h10 : 10 ≤ ci := by
          have := List.getElem?_eq_none_iff.mp hn
          omega
        obtain ⟨cls, T0, ic, hcl, hfit, d3, d4, d7, w1, w2, w3, hat⟩ := hsc h10
        refine jm_throw X hst (names := ["java/lang/RuntimeException", "java/lang/Exception"]) hfit (by decide +kernel) hd d3 d4 d7 w1 w2 w3 hat hcl hex hlk (by show 2 + 3 < Rm.frames; omega) (by
          have := jx_vs_cat E3
          rw [List.map_cons, List.sum_cons, this]
          show 1 + jx_cat st + (13 * (2 + 1) + 41) ≤ Rm.locals
          omega) hroom.2.2.1 hroom.2.2.2 (fun q hq _ => ?_)
        refine ⟨R ++ [q], hRk.trans ⟨[q], rfl⟩, jx_re_new E1 hq (Or.inl ⟨show ci < 100 by omega, [], jm_up_eq _ _ _, trivial⟩), q, ?_, rfl⟩
        rw [← E1.1]
        simp
      next => cases hs
  | iaload =>
    exfalso
    rcases jx_or_ok hs with hs | hs <;> simp only [jx_ald] at hs <;> (repeat' split at hs) <;> cases hs
  | aastore =>
    exfalso
    rcases jx_or_ok hs with hs | hs <;> simp only [jx_aas, jx_aat] at hs <;> (repeat' split at hs) <;> cases hs
  | _ =>
    exfalso
    simp only [jx_step, jx_k, jx_ii, jx_ll, jx_iz, jx_lz, jx_li, jx_lc, jx_i1, jx_l1, jx_or, jx_ald, jx_aas, jx_aat, jx_gf, jx_pf, jx_ast, jx_al, jx_nw, jx_na, jx_mu, jx_cs, jx_cv, jx_ci, jx_ri, jx_rl, jx_ra, jx_rv, jx_ld, jx_sr, jx_sr2, jx_inc, jx_du, jx_po, jx_d2, jx_ts, jx_lus, jx_bz, jx_bc, jx_to, reduceCtorEq] at hs <;> (repeat' split at hs) <;> cases hs
end JX9
