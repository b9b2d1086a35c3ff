section JC
/-! the claim, out of a run of the small machine -/
def R_law : String := "JobHouseLaw"
def lw_P (b : Addr) (xs : List Int32) (args : Array Value) (s : State) : Prop := args = #[.ref b] ∧ s.IntsAt b xs ∧ xs.length ≤ 5632 ∧ (Jvm.Cond.and given_1 narrow_1).before args s = true
def lw_Q (_ : Array Value) (s : State) (o : Outcome) (t : State) : Prop := o = .returned (some (.int 1)) ∧ Framed s o t [] 601024 7293034
def lw_Z (below : List Frame) (a : Array Value) (s : State) : State → Prop := fun t => ∃ o, t.status = .running ∧ Ended t below o ∧ lw_Q a s o t
/-- what holds at the law's entry -/
def lw_At (p : Program) (s : State) (m : MethodId) (meth : Method) (c : Code) (b L : Nat) (xs : Nat → Int32) : Prop :=
  p.tables.exec = Jvm.exec ∧ c.code = code ∧ meth.sig.returnType = ret ∧ c.maxLocals = 8 ∧ s.vm.findClass R_law = some m.cls ∧ (∀ w ∈ lw_tbl, w.before #[Value.ref b] s = true) ∧ va_X b L xs s s.heap ∧ b < s.heap.size ∧ meth.locks = false ∧ (Jvm.Cond.and given_1 narrow_1).before #[Value.ref b] s = true ∧ meth.name = "law" ∧ c.exceptionTable.isEmpty = true
theorem jm_less {p : Program} {l : Launch} {e : Env} {R R' : Room} {s : State} {m : MethodId} {args : Array Value} {below : List Frame} {meth : Method} {c : Code} {T : State} {locs : List Loc} {dc ds : Nat} (X : Stand p l e R s m args below meth c T locs dc ds) (h1 : R'.frames ≤ R.frames) (h2 : R'.cells ≤ R.cells) (h3 : R'.slots ≤ R.slots) (h4 : R'.locals ≤ R.locals) : Stand p l e R' s m args below meth c T locs dc ds := by
  refine ⟨X.admits, X.cas, X.clock, X.frames, ?_, X.hears, X.method, X.code, X.here, X.tail, X.warmed, X.limits, X.bytes, X.same⟩
  have hr := X.room
  simp only [State.hasRoom, Bool.and_eq_true, decide_eq_true_eq] at hr ⊢
  obtain ⟨⟨⟨⟨a0, a1, a2, a3, a4, a5⟩, b1⟩, b2⟩, b3⟩ := hr
  exact ⟨⟨⟨⟨by omega, by omega, by omega, by omega, by omega, a5⟩, by omega⟩, by omega⟩, b3⟩
/-- what the small machine has to do -/
def jx_goal (L : Nat) (xs : Nat → Int32) : Prop := ∃ (n : Nat) (M' : jx_H) (mc ms : Nat), jx_run jx_df jx_P n jp_W_law 15 592 0 [(0, .ref 0)] [] (jx_M0 L xs) 0 0 = some (.inl (some (.int 1)), M', mc, ms) ∧ mc ≤ 601024 ∧ ms ≤ 7293034
theorem jx_dfok : ∀ ci fs, jx_df[ci]? = some fs → ci < 100 ∧ ∀ R, jx_vs R fs fs := by
  intro ci fs h
  have hl := (List.getElem?_eq_some_iff.mp h).1
  have h10 : jx_df.length = 10 := rfl
  refine ⟨by omega, fun R => ?_⟩
  have key : ∀ fs : List Value, (fs.all fun v => match v with | .ref _ => false | _ => true) = true → jx_vs R fs fs := by
    intro fs
    induction fs with
    | nil => intro _; trivial
    | cons v fs ih =>
      intro hh
      simp only [List.all_cons, Bool.and_eq_true] at hh
      refine ⟨?_, ih hh.2⟩
      cases v with
      | ref a => exact absurd hh.1 (by simp)
      | _ => rfl
  have all : ∀ fs ∈ jx_df, (fs.all fun v => match v with | .ref _ => false | _ => true) = true := by decide +kernel
  exact key fs (all fs (List.mem_of_getElem? h))
theorem jx_re0 {dA : Nat → ClassId} {L : Nat} {xs : Nat → Int32} {sc aL aM : Nat} {adK : Nat → Nat} : jx_re dA (jx_K0 L xs sc aL aM adK) (jx_R1 sc aL aM adK) (jx_M0 L xs) (fun _ => none) := by
  have key : ∀ (a : Nat) (q : Nat × List Value) (b : Nat), (jx_M0 L xs)[a]? = some q → (jx_R1 sc aL aM adK)[a]? = some b → 200 ≤ q.1 ∧ jx_K0 L xs sc aL aM adK q b := by
    intro a q b h1 h2
    match a, h1, h2 with
    | 0, h1, h2 => cases h1; cases h2; exact ⟨Nat.le_refl _, Or.inl ⟨rfl, rfl⟩⟩
    | 1, h1, h2 => cases h1; cases h2; exact ⟨Nat.le_refl _, Or.inr (Or.inl ⟨rfl, rfl⟩)⟩
    | 2, h1, h2 => cases h1; cases h2; exact ⟨Nat.le_refl _, Or.inr (Or.inr (Or.inl ⟨rfl, rfl⟩))⟩
    | k + 3, h1, h2 =>
      have h1 : (jx_byt.map (fun b => ((300 : Nat), b.map Value.int)))[k]? = some q := h1
      rw [List.getElem?_map] at h1
      obtain ⟨z, hz, rfl⟩ := Option.map_eq_some_iff.mp h1
      have hl : k < 21 := (List.getElem?_eq_some_iff.mp hz).1
      refine ⟨(show (200 : Nat) ≤ 300 by decide), Or.inr (Or.inr (Or.inr ⟨k, hl, by rw [List.getD_eq_getElem?_getD, hz]; rfl, ?_⟩))⟩
      have : ∀ k, k < 21 → (jx_R1 sc aL aM adK)[k + 3]? = some (adK k) := by
        intro k hk
        match k, hk with
        | 0, _ | 1, _ | 2, _ | 3, _ | 4, _ | 5, _ | 6, _ | 7, _ | 8, _ | 9, _ | 10, _ | 11, _ | 12, _ | 13, _ | 14, _ | 15, _ | 16, _ | 17, _ | 18, _ | 19, _ | 20, _ => rfl
        | k + 21, hk => exact absurd hk (by omega)
      rw [this k hl] at h2
      exact (Option.some.inj h2).symm
  refine ⟨rfl, fun a q b h1 h2 => Or.inr (Or.inr (key a q b h1 h2)), fun a a' q q' b h1 h2 g1 g2 f1 f2 => ?_⟩
  have := (key a q b h1 f1).1
  omega
theorem whole_start {p : Program} {e : Env} {s : State} {m : MethodId} {below : List Frame} {meth : Method} {c : Code} (l : Launch) (hst : l.stackTraces = false) {b L : Nat} {xs : Nat → Int32} (hgo : jx_goal L xs) (C0 : lw_At p s m meth c b L xs) : W p l e room_1 s m #[Value.ref b] below meth c s.heap [] 0 0 (lw_Z below #[Value.ref b] s) (entryFrame m ([Value.ref b] : List Value).toArray 8) := by
  obtain ⟨hx, hb, hr, hml, hown, hts, hX, hbl, hlocks, hgv, hnm, hexc⟩ := C0
  obtain ⟨D, dA, aL, aM, adK, E0, F, hcst, hKK⟩ := jx_start0 hts hgv hX hbl
  obtain ⟨n, M', mc, ms, hrun, hmc, hms⟩ := hgo
  have hG : ∀ w ∈ jm_G, w.before #[Value.ref b] s = true := fun w hw => hts w (List.mem_filter.mp hw).1
  have hB := jx_sound (l := l) (R0 := jx_R1 b aL aM adK) (df := jx_df) (P := jx_P) E0 hst hcst hKK jx_dfok rfl (jo_all F) n
  intro T hT X
  have hcx : jm_cx p s m #[Value.ref b] c s D jm_cl (jm_ty dA) jm_G code 8 "JobHouseLaw" := ⟨hx, hb, hml, hown, hG, E0.2.2, ⟨State.WarmedH.refl _, Nat.le_refl _, fun _ _ => rfl⟩, E0⟩
  have hl := lv_entry ([.ref b]) (n := 8) (Nat.le_of_ble_eq_true rfl)
  have hW := hB 194 jp_W_law rfl 15 592 0 [(0, .ref 0)] [] (jx_M0 L xs) 0 0 _ M' mc ms hrun p e s m #[Value.ref b] below meth c hcx hr hlocks hnm (jx_nil_ex hexc) X.admits (jx_R1 b aL aM adK) (jx_R1 b aL aM adK) (fun _ => none) [(0, .ref b)] [] List.prefix_rfl List.prefix_rfl ⟨jx_re0, ⟨⟨rfl, b, rfl, rfl⟩, trivial⟩, trivial⟩
  have hW2 := hW s.heap _ [] hl (fun a x h => by cases h) va_S.rf
  rw [← lg_entry_eq] at hW2
  obtain ⟨t, st, o, h1, h2, ⟨h3, hPo, -⟩, hF, hWm, LL, hsm, hLL⟩ := hW2 T hT (jm_less X (Nat.le_refl 15) hmc hms (Nat.le_refl 592))
  obtain ⟨R', -, -, w, ho, hw⟩ := hPo
  have hw : w = .int 1 := hw
  subst hw
  refine ⟨t, st, o, h1, h2, ho, ⟨_, ho⟩, hWm, ?_⟩
  exact hsm.weaken (fun y hy hlt => absurd hlt (Nat.not_lt.mpr (hLL y hy))) hmc hms
set_option maxHeartbeats 4000000 in
theorem lw_walk (l : Launch) (hst : l.stackTraces = false) (hall : ∀ (L : Nat) (xs : Nat → Int32), L ≤ 5632 → jx_goal L xs) (b : Addr) (xs : List Int32) : MetFree l x (headSpec (Jvm.Cond.code x code maxLocals ret :: tables_1) room_1) (lw_P b xs) (fun _ _ _ _ _ => True) lw_Q := by
  refine MetFree.of_bodyS (code := code) (maxLocals := maxLocals) (ret := ret) (by decide) ?_ ?_
  · intro args s m h hn
    obtain ⟨meth, c, h1, h2, h3, h4, h5, h6, -, -⟩ := Cond.code_spec hn (atoms_spec (ws := Jvm.Cond.code x code maxLocals ret :: tables_1) h _ List.mem_cons_self)
    exact ⟨meth, c, h1, h2, h3, h4, h5, h6⟩
  · intro p e s m args below meth c s₁ B hml0 hP _
    obtain ⟨rfl, hx, hbd, hgv⟩ := hP
    obtain ⟨scr, harrAt, hlist, hof, hsmall⟩ := hx
    obtain ⟨hcb, hkn, -, -⟩ := State.arrayAt?_spec harrAt
    have hown : s.vm.findClass R_law = some m.cls := findClass_of_methodNamed B.named
    have hts0 : ∀ c ∈ (Jvm.Cond.code x code maxLocals ret :: tables_1), c.before #[Value.ref b] s = true := atoms_spec (ws := Jvm.Cond.code x code maxLocals ret :: tables_1) B.pre
    have hts : ∀ w ∈ lw_tbl, w.before #[Value.ref b] s = true := k2_hts_sels lw_privs (fun w hw => hts0 w (List.mem_cons_of_mem _ hw)) lw_privs_ok
    have hml : c.maxLocals = 8 := B.maxLocals_eq (hts0 _ List.mem_cons_self)
    have X₀ : Stand p l e room_1 s m #[Value.ref b] below meth c s₁ [] 0 0 := Stand.of_body B
    obtain ⟨meth', c', q1, q2, -, -, -, -, q7, -⟩ := Cond.code_spec B.named (hts0 _ List.mem_cons_self)
    have e1 : meth' = meth := Option.some.inj (q1.symm.trans B.method)
    subst e1
    have e2 : c' = c := Option.some.inj (q2.symm.trans X₀.code)
    subst e2
    have hh0 : s₁.heap = s.heap := by rw [B.state]; rfl
    have hsz : scr.slots.size = xs.length := by rw [← Array.length_toList, hlist, List.length_map]
    have hval : ∀ j : Nat, j < xs.length → scr.slots[j]? = some (.int (xs.getD j 0)) := fun j hj => by
      rw [← Array.getElem?_toList, hlist]
      simp [hj]
    have hbl : b < s.heap.size := (Array.getElem?_eq_some_iff.mp hcb).1
    have hX : va_X b xs.length (fun j => xs.getD j 0) s s.heap := ⟨scr, hcb, hof, hkn, hsz, hval⟩
    have K : W p l e room_1 s m #[Value.ref b] below meth' c' s₁.heap [] 0 0 (lw_Z below #[Value.ref b] s) (entryFrame m ([Value.ref b] : List Value).toArray 8) := by
      rw [hh0]
      exact whole_start l hst (hall _ _ hbd) ⟨B.exec, B.bytes, B.returns, hml, hown, hts, hX, hbl, B.notSynchronized, hgv, (name_of_methodNamed B.named B.method).1, q7⟩
    obtain ⟨t, a1, o, b1, b2, b3⟩ := K s₁ rfl X₀
    exact ⟨t, o, a1, b1, b2, b3⟩
theorem lw_pre_spec {args : Array Value} {s : State} (h : (Jvm.Cond.and given_1 narrow_1).before args s = true) (hr : rest_1_c.before args s = true) : ∃ (b : Addr) (xs : List Int32), lw_P b xs args s := by
  have hs := flat_of_before _ h
  have hq := flat_of_before _ hr
  have hc : (Cond.count 1).before args s = true := hs _ (by decide +kernel)
  have harr : (Cond.arrayOf (.arg 0) .int).before args s = true := hs _ (by decide +kernel)
  have hle : (Cond.le (.length (.arg 0)) (.int 5632)).before args s = true := hs _ (by decide +kernel)
  have hlen : (Cond.isInt (.length (.arg 0))).before args s = true := hq _ (by decide +kernel)
  have hall : (Cond.all (.arg 0) (.isInt (.elem (.arg 0) (.index 0)))).before args s = true := hq _ (by decide +kernel)
  obtain ⟨b, xs, hb, hx⟩ := State.ints_of_pre rfl harr hlen hall
  have hsm : xs.length < 2 ^ 31 := hx.choose_spec.2.2.2
  have hev : (Term.length (.arg 0)).eval args s none [] s = some (.int xs.length.toInt32) := hx.length_eval hb
  have hv := Cond.le_ints hev (show (Term.int 5632).eval args s none [] s = some (.int 5632) from rfl)
  have hd : xs.length.toInt32 ≤ 5632 := by
    simpa [Cond.before, Cond.holds, hv] using hle
  have hN : xs.length ≤ 5632 := (Int32.ofNat_le_ofNat hsm (by decide)).mp (show Int32.ofNat xs.length ≤ Int32.ofNat 5632 from hd)
  exact ⟨b, xs, Cond.one_arg hc (show args[0]? = some (.ref b) from hb), hx, hN, h⟩
theorem lw_comes (l : Launch) (hst : l.stackTraces = false) (hall : ∀ (L : Nat) (xs : Nat → Int32), L ≤ 5632 → jx_goal L xs) : Comes l x (Jvm.Cond.code x code maxLocals ret :: tables_1) room_1 (fun tb e args s => Calls_1 tb e args s ∧ rest_1 tb e args s ∧ Pre_1 tb e args s)
    (fun _ _ args s o t => lw_Q args s o t) := by
  intro p e ha hc hk s m args below hf hfit hheap happ hpre
  obtain ⟨b, xs, hP⟩ := lw_pre_spec hpre.2.2 hpre.2.1
  obtain ⟨k, o, h1, h2, h3, hQ⟩ := lw_walk l hst hall b xs p e ha hc hk s m args below hf ((Spec.applies_iff_loose hf).mp happ).1 hP trivial
  exact ⟨k, o, h1, h2, h3, hQ⟩
theorem lw_frame {s t : State} {o : Outcome} {args : Array Value} (h : Framed s o t [] 601024 7293034) :
    Framed s o t (fieldLocs frame_1_writes args s ++ arrayLocs frame_1_arrays args s ++ staticLocs frame_1_statics s) 601024 7293034 := h
theorem lw_limb (hall : ∀ (L : Nat) (xs : Nat → Int32), L ≤ 5632 → jx_goal L xs) (L : Cond) (hL : ∀ (args : Array Value) (s t : State), L.after args s (.returned (some (.int 1))) t = true) :
    ArmFor flags0 classFile x code maxLocals ret World_1 tables_1 room_1 Calls_1 rest_1 Pre_1
      (fun tb e a s o t => postC L tb e a s o t ∧ Framed s o t (fieldLocs frame_1_writes a s ++ arrayLocs frame_1_arrays a s ++ staticLocs frame_1_statics s) 601024 7293034) := by
  intro l hfl _ _ p e ha hc hk s m args below hf hfit hheap happ hpre
  have hst : l.stackTraces = false := by
    unfold Launch.stackTraces
    rw [hfl]
    decide +kernel
  obtain ⟨k, o, h1, h2, h3, rfl, hF⟩ := lw_comes l hst hall p e ha hc hk s m args below hf hfit hheap happ hpre
  exact ⟨k, _, h1, h2, h3, hL args s _, lw_frame hF⟩
/-- the claim, if the small machine does it -/
theorem jx_vc (hall : ∀ (L : Nat) (xs : Nat → Int32), L ≤ 5632 → jx_goal L xs) : Claimed_1_1 ∧ Claimed_1_2 := ⟨lw_limb hall limb_1_1 (fun args s t => by simp [limb_1_1, Cond.after, Cond.holds, Cond.value]), lw_limb hall limb_1_2 (fun args s t => Cond.after_iff.mpr (by
  first | (rw [show limb_1_2 = Cond.eq .result (.int 1) from rfl, Cond.eq_ints (x := 1) (y := 1) rfl rfl]; simp; done) | (simp [limb_1_2, Cond.value, Term.eval]; done)))⟩
end JC
