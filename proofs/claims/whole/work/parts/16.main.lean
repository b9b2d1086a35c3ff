section JXA
variable {l : Launch} {S : State} {D : va_G} {dA : Nat → ClassId} {K : (Nat × List Value) → Nat → Prop} {R0 : List Nat} {df : List (List Value)} {P : List jx_Me}
theorem jx_cll {p : Program} {e : Env} {Rm : Room} {s : State} {m : MethodId} {args : Array Value} {below : List Frame} {meth : Method} {c : Code} {Q : State → Prop} {cc : ByteArray} {nL pc dc ds : Nat} {own : String} {R : List Nat} {M : jx_H} {h : jm_H} {lv lw : List (Nat × Value)} {st sw : List Value}
    (X : jm_cx p s m args c S D jm_cl (jm_ty dA) jm_G cc nL own) {i : Instr} {len k : Nat} {x : List Nat} {va : Value} {As r : List Value} {ret : Option FieldType} {ini : Bool} (hd : decode cc pc = .ok (i, len)) (hl : jx_lok i len = true) (hsc : jx_sc S P cc own pc i x) (E : jx_E dA K R M h lv st lw sw) (hs : jx_step df nL ret ini i x va pc lv st M dc ds = some (.inr (.inl (k, As, r)))) (h9 : k < 9000)
    {m2 : jx_Me} (hP2 : P[k]? = some m2) {rm : Room} {Po : Outcome → jm_H → Prop} {mc1 ms1 : Nat} (hM : ∀ Bs, jx_vs R As Bs → jm_M l S D jm_cl m2.1 (jx_wc m2) rm Bs h Po mc1 ms1) (hR : rm.frames + 1 ≤ Rm.frames ∧ 8 + (m2.2.2.1 + 11) + rm.locals ≤ Rm.locals) (hrm : rm.cells = mc1 ∧ rm.slots = ms1) (hcs : dc + mc1 ≤ Rm.cells ∧ ds + ms1 ≤ Rm.slots)
    (kk : ∀ (o : Outcome) (h1 : jm_H) (rw : List Value), jx_vs R r rw → Po o h1 → jm_K p l e Rm s m args below meth c S D jm_cl Q nL pc lw rw h1 (dc + mc1) (ds + ms1) o) : jm_W p l e Rm s m args below meth c S D jm_cl Q nL pc lw sw h dc ds := by
  obtain ⟨E1, E2, E3⟩ := E
  cases i with
  | invokestatic idx =>
    have hl : len = 3 := by simpa [jx_lok, jx_len] using hl
    subst hl
    obtain ⟨k0, n, rfl, hsc, -⟩ := hsc
    have hs : jx_cs [k0, n] st = some (.inr (.inl (k, As, r))) := hs
    simp only [jx_cs] at hs
    split at hs
    next e =>
      cases hs
      obtain ⟨me, hme, hci, hlk, hst⟩ := hsc h9
      cases hme.symm.trans hP2
      have h1 := jx_vs_rev (jx_vs_take n E3)
      have h2 := jx_vs_drop n E3
      have hlen : (sw.take n).reverse.length = n := by
        rw [List.length_reverse, List.length_take, jx_vs_len E3]
        omega
      exact jm_callS X hd (hM _ h1) (by rw [hlen]; exact hci) hlk hst (rest := sw.drop n) (by rw [List.reverse_reverse, List.take_append_drop]) (by rw [jx_vs_cat h2]; exact e.2) hR hrm hcs (fun o h3 hPo => kk o h3 _ h2 hPo)
    next => cases hs
  | invokevirtual idx =>
    have hl : len = 3 := by simpa [jx_lok, jx_len] using hl
    subst hl
    obtain ⟨k0, n, ci, rfl, hsc, -⟩ := hsc
    have hs : jx_cv M [k0, n, ci] st = some (.inr (.inl (k, As, r))) := hs
    simp only [jx_cv] at hs
    split at hs
    next b r2 hdr =>
      split at hs
      next cj fs hMb =>
        split at hs
        next e =>
          cases hs
          obtain ⟨hci9, me, T0, N, hme, hci, hlk, him, hse, hcl⟩ := hsc h9
          cases hme.symm.trans hP2
          obtain ⟨rfl, hcat⟩ := e
          have h1 := jx_vs_rev (jx_vs_take n E3)
          have h2 := jx_vs_drop n E3
          rw [hdr] at h2
          obtain ⟨b', rw', hb, hdw, h3⟩ := jx_vs_ref h2
          have hn : n ≤ st.length := by
            have : (st.drop n).length = (Value.ref b :: r).length := by rw [hdr]
            simp at this
            omega
          have hlen : (sw.take n).reverse.length = n := by
            rw [List.length_reverse, List.length_take, jx_vs_len E3]
            omega
          rcases E1.2.1 b _ b' hMb hb with ⟨-, fw, g1, g2⟩ | ⟨g1, -⟩ | ⟨g1, -⟩
          · exact jm_callV X hd (hM _ ⟨⟨b', hb, rfl⟩, h1⟩) (by rw [hlen]; exact hci) hlk him hse g1 hcl (rest := rw') (by rw [List.reverse_reverse, ← hdw, List.take_append_drop]) (by rw [jx_vs_cat h3]; exact hcat) hR hrm hcs (fun o h4 hPo => kk o h4 _ h3 hPo)
          · have g1 : 100 ≤ cj := g1
            omega
          · have g1 : 200 ≤ cj := g1
            omega
        next => cases hs
      next => cases hs
    next => cases hs
  | invokespecial idx =>
    have hl : len = 3 := by simpa [jx_lok, jx_len] using hl
    subst hl
    obtain ⟨k0, n, rfl, hsc, -⟩ := hsc
    have hs : jx_ci [k0, n] st = some (.inr (.inl (k, As, r))) := hs
    simp only [jx_ci] at hs
    split at hs
    next b r2 hdr =>
      split at hs
      next e =>
        cases hs
        obtain ⟨me, hme, hci, hlk, him, hnm, hr0, hh0⟩ := hsc h9
        cases hme.symm.trans hP2
        have h1 := jx_vs_rev (jx_vs_take n E3)
        have h2 := jx_vs_drop n E3
        rw [hdr] at h2
        obtain ⟨b', rw', hb, hdw, h3⟩ := jx_vs_ref h2
        have hn : n ≤ st.length := by
          have : (st.drop n).length = (Value.ref b :: r).length := by rw [hdr]
          simp at this
          omega
        have hlen : (sw.take n).reverse.length = n := by
          rw [List.length_reverse, List.length_take, jx_vs_len E3]
          omega
        have hwc : jx_wc m2 = Cond.code m2.1 m2.2.1 m2.2.2.1 none := by
          unfold jx_wc
          rw [hh0, hr0]
        have hM2 := hM (.ref b' :: (sw.take n).reverse) ⟨⟨b', hb, rfl⟩, h1⟩
        rw [hwc] at hM2 hci
        exact jm_callI X hd hM2 (by rw [hlen]; exact hci) hlk him hnm (rest := rw') (by rw [List.reverse_reverse, ← hdw, List.take_append_drop]) (by rw [jx_vs_cat h3]; exact e) hR hrm hcs (fun o h4 hPo => kk o h4 _ h3 hPo)
      next => cases hs
    next => cases hs
  | iaload =>
    exfalso
    rcases jx_or_ok hs with hs | hs <;> simp only [jx_ald] at hs <;> (repeat' split at hs) <;> cases hs
  | aastore =>
    exfalso
    rcases jx_or_ok hs with hs | hs <;> simp only [jx_aas, jx_aat] at hs <;> (repeat' split at hs) <;> cases hs
  | _ =>
    exfalso
    simp only [jx_step, jx_k, jx_ii, jx_ll, jx_iz, jx_lz, jx_li, jx_lc, jx_i1, jx_l1, jx_or, jx_ald, jx_aas, jx_aat, jx_gf, jx_pf, jx_ast, jx_al, jx_nw, jx_na, jx_mu, jx_ri, jx_rl, jx_ra, jx_rv, jx_ld, jx_sr, jx_sr2, jx_inc, jx_du, jx_po, jx_d2, jx_ts, jx_lus, jx_bz, jx_bc, jx_to, reduceCtorEq] at hs <;> (repeat' split at hs) <;> cases hs
theorem jx_hd_nil {pc ci : Nat} {hs : List (Nat × Nat × Nat × Nat × Nat)} (h : ∀ q ∈ hs, ¬ (q.1 ≤ pc ∧ pc < q.2.1 ∧ q.2.2.2.2 = ci)) : jx_hd pc ci hs = none := by
  induction hs with
  | nil => rfl
  | cons q hs ih =>
    unfold jx_hd
    rw [if_neg (h q List.mem_cons_self)]
    exact ih (fun r hr => h r (List.mem_cons_of_mem _ hr))
theorem jx_sound (E0 : jm_en S D jm_cl (jm_ty dA) jm_G) (hst : l.stackTraces = false) (hcst : jx_cst S D) (hKK : jx_KK S K) (hdf : ∀ ci fs, df[ci]? = some fs → ci < 100 ∧ ∀ R, jx_vs R fs fs) (hdl : df.length = 10) (hP : ∀ (k : Nat) (me : jx_Me), P[k]? = some me → jx_mok S dA R0 df P me) : ∀ n, jx_B l S D dA K R0 df P n := by
  intro n
  induction n with
  | zero => intro k me hk fr lo pc lv st M dc ds o M' mc ms hs; cases hs
  | succ n IH =>
    intro k me hk fr lo pc lv st M dc ds o M' mc ms hs p e s m args below meth c X hret hlk hnm hex hadm Rk R h lw sw hR0 hRk E
    have hmo := (hP k me hk).2.2
    have hhf := (hP k me hk).2.1
    unfold jx_run at hs
    split at hs
    · cases hs
    next i len x va hat =>
      obtain ⟨hd, hl, hsi, hsc⟩ := hmo _ (jx_at_mem hat)
      have hini : (me.1.name == "<init>") = true → meth.name = "<init>" := fun q => by rw [hnm]; simpa using q
      split at hs
      · cases hs
      next z hz =>
        have hm1 := jx_run_mono n hs
        have hgo : jx_go dA K (fun pc lv st h dc ds => jm_W p l e ⟨fr, mc, ms, lo⟩ s m args below meth c S D jm_cl (jm_Q S D jm_cl below s (jx_Po dA K Rk o M') mc ms) me.2.2.1 pc lv st h dc ds) R z := fun R' h' lw' sw' hp' E' => IH k me hk fr lo z.1 z.2.1 z.2.2.1 z.2.2.2.1 z.2.2.2.2.1 z.2.2.2.2.2 o M' mc ms hs p e s m args below meth c X hret hlk hnm hex hadm Rk R' h' lw' sw' (hR0.trans hp') (hRk.trans hp') E'
        by_cases hmu : ∃ a b, i = .multianewarray a b
        · obtain ⟨a, b, rfl⟩ := hmu
          exact jx_multi (va := va) X hd hl hsi E hz hm1 hgo
        · exact jx_next X hKK hR0 hdf hd hl hsi hini E hz hm1 (fun a b q => hmu ⟨a, b, q⟩) hgo
      next k2 As r hz =>
        split at hs
        next h9 =>
          split at hs
          next hroom =>
            split at hs
            next v M1 hpr =>
              exact jx_prim X hKK hd hl hsc E hz h9 hpr hroom (jx_run_mono n hs) (fun h1 sw1 E1 => IH k me hk fr lo (pc + 3) lv (v.toList ++ r) M1 dc ds o M' mc ms hs p e s m args below meth c X hret hlk hnm hex hadm Rk R h1 lw sw1 hR0 hRk E1)
            next => cases hs
          next => cases hs
        next h9 =>
          split at hs
          next => cases hs
          next m2 hP2 =>
            split at hs
            next hroom =>
              have hfr : fr - 1 + 1 ≤ fr := by omega
              have hlo : 8 + (m2.2.2.1 + 11) + (lo - (m2.2.2.1 + 19)) ≤ lo := by omega
              split at hs
              next => cases hs
              next v M1 c1 s1 hcall =>
                have hm1 := jx_run_mono n hs
                refine jx_cll X hd hl hsc E hz (by omega) hP2 (fun Bs hBs => jx_Aof E0 hP IH hP2 hcall hroom.2.2 hR0 E.1 hBs) ⟨hfr, hlo⟩ ⟨rfl, rfl⟩ hm1 (fun q h1 rw hrw hPo => ?_)
                obtain ⟨R', hp', E', hot⟩ := hPo
                have hk2 : ∀ sw1, jx_vs R' (v.toList ++ r) sw1 → jm_W p l e ⟨fr, mc, ms, lo⟩ s m args below meth c S D jm_cl (jm_Q S D jm_cl below s (jx_Po dA K Rk o M') mc ms) me.2.2.1 (pc + 3) lw sw1 h1 (dc + c1) (ds + s1) := fun sw1 hsw => IH k me hk fr lo (pc + 3) lv (v.toList ++ r) M1 (dc + c1) (ds + s1) o M' mc ms hs p e s m args below meth c X hret hlk hnm hex hadm Rk R' h1 lw sw1 (hR0.trans hp') (hRk.trans hp') ⟨E', jx_lv_mono hp' E.2.1, hsw⟩
                cases v with
                | none =>
                  have hot : q = .returned none := hot
                  subst hot
                  exact hk2 _ (jx_vs_mono hp' hrw)
                | some v =>
                  obtain ⟨w, rfl, hw⟩ := hot
                  exact hk2 _ ⟨hw, jx_vs_mono hp' hrw⟩
              next a M1 c1 s1 hcall =>
                split at hs
                next => cases hs
                next ci fs hM1 =>
                  split at hs
                  next hh0 =>
                    cases hs
                    refine jx_cll X hd hl hsc E hz (by omega) hP2 (fun Bs hBs => jx_Aof E0 hP IH hP2 hcall hroom.2.2 hR0 E.1 hBs) ⟨hfr, hlo⟩ ⟨rfl, rfl⟩ ⟨Nat.le_refl _, Nat.le_refl _⟩ (fun q h1 rw hrw hPo => ?_)
                    obtain ⟨R', hp', E', b, hb, rfl⟩ := hPo
                    exact jm_xout hlk (covers_of_empty (jx_ex_nil (by rw [← hh0]; exact hex)) _) ⟨R', hRk.trans hp', E', b, hb, rfl⟩
                  next => cases hs
                  next t hh0 hsome =>
                    have hm1 := jx_run_mono n hs
                    refine jx_cll X hd hl hsc E hz (by omega) hP2 (fun Bs hBs => jx_Aof E0 hP IH hP2 hcall hroom.2.2 hR0 E.1 hBs) ⟨hfr, hlo⟩ ⟨rfl, rfl⟩ hm1 (fun q h1 rw hrw hPo => ?_)
                    obtain ⟨R', hp', E', b, hb, rfl⟩ := hPo
                    exact jx_catch X hcst hhf hex E' hM1 hb hsome (IH k me hk fr lo t lv [.ref a] M1 (dc + c1) (ds + s1) o M' mc ms hs p e s m args below meth c X hret hlk hnm hex hadm Rk R' h1 lw [.ref b] (hR0.trans hp') (hRk.trans hp') ⟨E', jx_lv_mono hp' E.2.1, ⟨b, hb, rfl⟩, trivial⟩)
            next => cases hs
      next v hz =>
        cases hs
        exact jx_ret X hd hl hret hlk hRk E hz
      next ci hz =>
        split at hs
        next hh0 =>
          split at hs
          next hroom =>
            cases hs
            exact jx_thr X hst hdl hd hl hsc hlk (jx_ex_nil (by rw [← hh0]; exact hex)) hRk E hz ⟨hroom.1, hroom.2, Nat.le_refl _, Nat.le_refl _⟩
          next => cases hs
        next => cases hs
end JXA
