section JM3
variable {p : Program} {l : Launch} {e : Env} {R : Room} {s : State} {m : MethodId} {args : Array Value} {below : List Frame} {meth : Method} {c : Code} {Q : State → Prop}
variable {S : State} {D : va_G} {cl : List vw_C} {tys : List (ClassId × FieldType)} {G : List Cond} {cc : ByteArray} {nL pc dc ds : Nat} {own : String} {lv : List (Nat × Value)} {rest : List Value} {h : jm_H}
def jm_Qc (S : State) (D : va_G) (cl : List vw_C) (Po : Outcome → jm_H → Prop) (mc ms : Nat) (st : State) (o : Outcome) (t : State) : Prop :=
  (∃ h1, Po o h1 ∧ jm_ld D cl S.heap.size h1 t.heap) ∧ va_F (fun q => S.heap.size ≤ q) st t ∧ st.WarmedH t.vm ∧ ∃ L : List Loc, st.sameButNew ({ t with vm := st.vm } : State) L mc ms ∧ ∀ q ∈ L, S.heap.size ≤ q.base
def jm_Q (S : State) (D : va_G) (cl : List vw_C) (below : List Frame) (s : State) (Po : Outcome → jm_H → Prop) (mc ms : Nat) : State → Prop := fun t =>
  ∃ o, t.status = .running ∧ Ended t below o ∧ jm_Qc S D cl Po mc ms s o t
def jm_M (l : Launch) (S : State) (D : va_G) (cl : List vw_C) (y : MethodName) (wc : Cond) (rm : Room) (As : List Value) (h : jm_H) (Po : Outcome → jm_H → Prop) (mc ms : Nat) : Prop :=
  MetFree l y (headSpec [wc] rm) (fun a U => a = As.toArray ∧ jm_ev S U ∧ jm_ld D cl S.heap.size h U.heap) (fun _ _ _ _ _ => True) (fun _ st o t => jm_Qc S D cl Po mc ms st o t)
theorem jm_en_w (E : jm_en S D cl tys G) {U : State} (hU : S.WarmedH U.vm) (a : Array Value) : ∀ w ∈ G, w.before a U = true := fun w hw => by
  obtain ⟨⟨a0, h0⟩, hg, -⟩ := E
  rcases hg w hw with h1 | ⟨a1, i, b, n, d, h1, rfl⟩ | ⟨a1, i, x, h1, rfl⟩
  · exact word_at hU h1 (h0 w hw)
  · exact va_Nw.use rfl (va_Nw.warmF hU (va_Nw.of rfl (h0 _ hw)))
  · exact va_Nw.use rfl (va_Nw.warmM hU (va_Nw.of rfl (h0 _ hw)))
theorem jm_ofW {y : MethodName} {maxL : Nat} {ret : Option FieldType} {rm : Room} {As : List Value} {Po : Outcome → jm_H → Prop} {mc ms : Nat} (E : jm_en S D cl tys G) (hy : plainName y.cls = true) (hL : (lg_sl As).length ≤ maxL)
    (body : ∀ (p : Program) (e : Env) (s : State) (m : MethodId) (below : List Frame) (meth : Method) (c : Code), jm_cx p s m As.toArray c S D cl tys G cc maxL y.cls → meth.sig.returnType = ret → meth.locks = false → meth.name = y.name → c.exceptionTable.isEmpty = true → l.admits e →
      jm_W p l e rm s m As.toArray below meth c S D cl (jm_Q S D cl below s Po mc ms) maxL 0 (lv_args 0 As) [] h 0 0) : jm_M l S D cl y (Cond.code y cc maxL ret) rm As h Po mc ms := by
  refine MetFree.of_bodyS (code := cc) (maxLocals := maxL) (ret := ret) hy ?_ ?_
  · intro args s m hp hn
    obtain ⟨meth, c, h1, h2, h3, h4, h5, h6, -, -⟩ := Cond.code_spec hn (atoms_spec (ws := [Cond.code y cc maxL ret]) hp _ List.mem_cons_self)
    exact ⟨meth, c, h1, h2, h3, h4, h5, h6⟩
  · intro p e s m args below meth c s₁ B hml hP _
    obtain ⟨rfl, hev, hld⟩ := hP
    have hh0 : s₁.heap = s.heap := by rw [B.state]; rfl
    have hcode := atoms_spec (ws := [Cond.code y cc maxL ret]) B.pre _ List.mem_cons_self
    obtain ⟨meth', c', q1, q2, -, -, -, -, q7, -⟩ := Cond.code_spec B.named hcode
    have X := Stand.of_body B
    have e1 : meth' = meth := Option.some.inj (q1.symm.trans B.method)
    subst e1
    have e2 : c' = c := Option.some.inj (q2.symm.trans X.code)
    subst e2
    have hl := lv_entry As (n := maxL) hL
    have hw := body p e s m below meth' c' ⟨B.exec, B.bytes, hml, findClass_of_methodNamed B.named, jm_en_w E hev.1 _, va_K.moved hev.1.alike E.2.2, hev, E⟩ B.returns B.notSynchronized (name_of_methodNamed B.named B.method).1 q7 B.admits s.heap _ [] hl hld va_S.rf
    rw [← lg_entry_eq] at hw
    obtain ⟨t, a1, o, b1, b2, b3⟩ := hw s₁ hh0 X
    exact ⟨t, o, a1, b1, b2, b3⟩
theorem jm_mono {Q1 Q2 : State → Prop} {H : Heap} {locs : List Loc} {g : JFrame} (k : W p l e R s m args below meth c H locs dc ds Q1 g) (hq : ∀ t, Q1 t → Q2 t) : W p l e R s m args below meth c H locs dc ds Q2 g := fun T hT X => by
  obtain ⟨t, a, b⟩ := k T hT X
  exact ⟨t, a, hq t b⟩
theorem jm_wid {h : jm_H} {st : List Value} {k n : Nat} (h1 : dc ≤ k) (h2 : ds ≤ n) (kk : jm_W p l e R s m args below meth c S D cl Q nL pc lv st h k n) : jm_W p l e R s m args below meth c S D cl Q nL pc lv st h dc ds := fun H ls locs hl hr hS => W.widen h1 h2 (kk H ls locs hl hr hS)
theorem jm_fin {Po : Outcome → jm_H → Prop} {o : Outcome} {H : Heap} {locs : List Loc} (hP : Po o h) (hr : jm_ld D cl S.heap.size h H) (hS : va_S (fun q => S.heap.size ≤ q) s.heap H locs) : ∀ t, MQ below (fun _ _ o1 t => o1 = o ∧ t.heap = H) args s dc ds (fun q => S.heap.size ≤ q) t → jm_Q S D cl below s Po dc ds t := by
  rintro t ⟨o1, r1, r2, ⟨rfl, r3⟩, L, ⟨-, r4, r5⟩, r6⟩
  exact ⟨_, r1, r2, ⟨_, hP, by rw [r3]; exact hr⟩, hS.F r3, r4, L, r5, r6⟩
theorem jm_iret {Po : Outcome → jm_H → Prop} (X : jm_cx p s m args c S D cl tys G cc nL own) {v : Int32} (hr : meth.sig.returnType = some .int) (hk : meth.locks = false) (hd : decode cc pc = .ok (.ireturn, 1)) (hP : Po (.returned (some (.int v))) h) : jm_W p l e R s m args below meth c S D cl (jm_Q S D cl below s Po dc ds) nL pc lv [.int v] h dc ds := fun H ls locs hl hld hS =>
  jm_mono (W.iret (Qc := fun _ _ o1 t => o1 = .returned (some (.int v)) ∧ t.heap = H) (free := fun q => S.heap.size ≤ q) X.1 X.2.1 hr (fun t ht _ => ⟨rfl, ht⟩) hS.2.2 hd hk) (jm_fin hP hld hS)
theorem jm_zret {Po : Outcome → jm_H → Prop} (X : jm_cx p s m args c S D cl tys G cc nL own) {v : Int32} {ty : FieldType} (hr : meth.sig.returnType = some ty) (hn : narrow ty (.int v) = .int v) (hk : meth.locks = false) (hd : decode cc pc = .ok (.ireturn, 1)) (hP : Po (.returned (some (.int v))) h) : jm_W p l e R s m args below meth c S D cl (jm_Q S D cl below s Po dc ds) nL pc lv [.int v] h dc ds := fun H ls locs hl hld hS =>
  jm_mono (W.zret (Qc := fun _ _ o1 t => o1 = .returned (some (.int v)) ∧ t.heap = H) (free := fun q => S.heap.size ≤ q) X.1 X.2.1 hr hn (fun t ht _ => ⟨rfl, ht⟩) hS.2.2 hd hk) (jm_fin hP hld hS)
theorem jm_lret {Po : Outcome → jm_H → Prop} (X : jm_cx p s m args c S D cl tys G cc nL own) {v : Int64} (hr : meth.sig.returnType = some .long) (hk : meth.locks = false) (hd : decode cc pc = .ok (.lreturn, 1)) (hP : Po (.returned (some (.long v))) h) : jm_W p l e R s m args below meth c S D cl (jm_Q S D cl below s Po dc ds) nL pc lv [.long v] h dc ds := fun H ls locs hl hld hS =>
  jm_mono (W.lret (Qc := fun _ _ o1 t => o1 = .returned (some (.long v)) ∧ t.heap = H) (free := fun q => S.heap.size ≤ q) X.1 X.2.1 hr (fun t ht _ => ⟨rfl, ht⟩) hS.2.2 hd hk) (jm_fin hP hld hS)
theorem jm_vret {Po : Outcome → jm_H → Prop} (X : jm_cx p s m args c S D cl tys G cc nL own) (hr : meth.sig.returnType = none) (hk : meth.locks = false) (hd : decode cc pc = .ok (.return_, 1)) (hP : Po (.returned none) h) : jm_W p l e R s m args below meth c S D cl (jm_Q S D cl below s Po dc ds) nL pc lv [] h dc ds := fun H ls locs hl hld hS =>
  jm_mono (W.vret (Qc := fun _ _ o1 t => o1 = .returned none ∧ t.heap = H) (free := fun q => S.heap.size ≤ q) X.1 X.2.1 hr (fun t ht _ => ⟨rfl, ht⟩) hS.2.2 hd hk) (jm_fin hP hld hS)
theorem jm_aret {Po : Outcome → jm_H → Prop} (X : jm_cx p s m args c S D cl tys G cc nL own) {v : Value} {rt : FieldType} (hr : meth.sig.returnType = some rt) (hrt : (∃ n, rt = .object n) ∨ ∃ t, rt = .array t) (hv : v = .null ∨ ∃ a, v = .ref a) (hk : meth.locks = false) (hd : decode cc pc = .ok (.areturn, 1)) (hP : Po (.returned (some v)) h) : jm_W p l e R s m args below meth c S D cl (jm_Q S D cl below s Po dc ds) nL pc lv [v] h dc ds := fun H ls locs hl hld hS =>
  jm_mono (W.aret (Qc := fun _ _ o1 t => o1 = .returned (some v) ∧ t.heap = H) (free := fun q => S.heap.size ≤ q) X.1 X.2.1 hr hrt hv (fun t ht _ => ⟨rfl, ht⟩) hS.2.2 hd hk) (jm_fin hP hld hS)
end JM3
section JM4
variable {p : Program} {l : Launch} {e : Env} {R : Room} {s : State} {m : MethodId} {args : Array Value} {below : List Frame} {meth : Method} {c : Code} {Q : State → Prop}
variable {S : State} {D : va_G} {cl : List vw_C} {tys : List (ClassId × FieldType)} {G : List Cond} {cc : ByteArray} {nL pc dc ds : Nat} {own : String} {lv : List (Nat × Value)} {rest st : List Value} {h : jm_H}
def jm_fm (y : MethodName) (wc : Cond) (maxL : Nat) : Prop := (∃ b ret, wc = .code y b maxL ret) ∨ ∃ b ret hh, wc = .codeWith y b maxL ret hh
theorem jm_cod {y : MethodName} {wc : Cond} {maxL : Nat} {a : Array Value} {U : State} (hf : jm_fm y wc maxL) (hw : wc.before a U = true) : ∃ (mk : MethodId) (methM : Method) (cM : Code), U.methodNamed? y = some mk ∧ U.vm.method? mk = some methM ∧ methM.code = some cM ∧ cM.maxLocals = maxL ∧ parseMethodDescriptor y.desc = some methM.sig := by
  rcases hf with ⟨b, ret, rfl⟩ | ⟨b, ret, hh, rfl⟩
  · obtain ⟨mk, hn⟩ := Cond.code_named hw
    obtain ⟨methM, cM, h1, h2, -, h4, -, -, -, h8⟩ := Cond.code_spec hn hw
    exact ⟨mk, methM, cM, hn, h1, h2, h4, h8⟩
  · obtain ⟨mk, methM, cM, hn, h1, h2, -, h4, -, -, -, h8⟩ := Cond.codeWith_spec hw
    exact ⟨mk, methM, cM, hn, h1, h2, h4, h8⟩
def jm_to (g : JFrame) (len : Nat) (T1 : State) : Outcome → State
  | .returned v => T1.setTop { g with pc := g.pc + len, stack := v.toList ++ g.stack }
  | .threw q => (T1.setTop g).pushFrame (.throwing q)
theorem jm_site {T : State} {locs : List Loc} (X : Stand p l e R s m args below meth c T locs dc ds) {g : JFrame} (hg : g.method = m) (hsize : g.locals.size = c.maxLocals) {ig : Instr} {len : Nat} (hdg : decode c.code g.pc = .ok (ig, len)) (hW : 2 * g.monitorRoom + (g.stack.map fun v => v.category).sum ≤ 8)
    {y : MethodName} {wc : Cond} {rm : Room} {As : List Value} {Po : Outcome → jm_H → Prop} {mc ms maxL : Nat} {mk : MethodId} {methM : Method} {cM : Code} {kM : Class} (hn : T.methodNamed? y = some mk) (hmM : T.vm.method? mk = some methM) (hcM : methM.code = some cM) (hlM : cM.maxLocals = maxL) (hkM : T.vm.classes[mk.cls]? = some kM) (hiM : kM.init = .initialized)
    (hM : jm_M l S D cl y wc rm As h Po mc ms) (hwc : wc.before As.toArray T = true) (hR : rm.frames + 1 ≤ R.frames ∧ 8 + (maxL + 11) + rm.locals ≤ R.locals) (hrm : rm.cells = mc ∧ rm.slots = ms) (hcs : dc + mc ≤ R.cells ∧ ds + ms ≤ R.slots) (hev : jm_ev S T) (hld : jm_ld D cl S.heap.size h T.heap) :
    ∃ (o : Outcome) (h1 : jm_H) (T1 : State) (L : List Loc), Po o h1 ∧ jm_ld D cl S.heap.size h1 T1.heap ∧ T.heap.size ≤ T1.heap.size ∧ (∀ q : Nat, q < T.heap.size → ¬ S.heap.size ≤ q → T1.heap[q]? = T.heap[q]?) ∧ (∀ q ∈ L, S.heap.size ≤ q.base) ∧ Stand p l e R s m args below meth c T1 (locs ++ L) (dc + mc) (ds + ms) ∧
      Steps p.tables e below (doInvoke e (T.setTop g) [] mk As.toArray).1 (jm_to g len T1 o) := by
  have h' : At T g.method c below := by rw [hg]; exact X.here
  have happ : (headSpec [wc] rm).appliesLoose y e.platform (T.calling g mk As.toArray) = true := by
    refine Spec.appliesLoose_calling (g := g) h' hdg hn hkM hiM (X.room_calling (g := g) (R' := (headSpec [wc] rm).room) hsize hmM hcM hR.1 ?_ ?_ ?_) (atoms_intro fun w hw => ?_)
    · show 2 * g.monitorRoom + (g.stack.map fun v => v.category).sum + (cM.maxLocals + 11) + rm.locals ≤ R.locals
      rw [hlM]; have := hR.2; omega
    · show dc + rm.cells ≤ R.cells
      rw [hrm.1]; exact hcs.1
    · show ds + rm.slots ≤ R.slots
      rw [hrm.2]; exact hcs.2
    · rw [List.mem_singleton.mp hw]; exact hwc
  have hfr : (T.setTop g).frames = [.java g] ++ below := by rw [State.frames_setTop' g X.here.top, X.tail]; rfl
  obtain ⟨o, s₂, hst, -, hend, hq⟩ := Steps.callFree hM p X.admits X.cas X.clock (acts := []) hfr happ ⟨rfl, hev, hld⟩ trivial
  rw [State.frames_setTop' g X.here.top, X.tail] at hend
  obtain ⟨⟨h1, hPo, hl1⟩, hF, hW2, L, hsm, hL⟩ := hq
  cases o with
  | returned v =>
    obtain ⟨T', X', hWT, -, e2⟩ := X.outOf hg hdg hend hW2 hsm
    subst e2
    exact ⟨.returned v, h1, T', L, hPo, hl1, hF.1, hF.2, hL, X', hst⟩
  | threw q =>
    obtain ⟨T', X', hWT, -, e2⟩ := X.outOfThrown hg hend hW2 hsm
    subst e2
    exact ⟨.threw q, h1, T', L, hPo, hl1, hF.1, hF.2, hL, X', hst⟩
def jm_K (p : Program) (l : Launch) (e : Env) (R : Room) (s : State) (m : MethodId) (args : Array Value) (below : List Frame) (meth : Method) (c : Code) (S : State) (D : va_G) (cl : List vw_C) (Q : State → Prop) (nL pc : Nat) (lv : List (Nat × Value)) (rest : List Value) (h1 : jm_H) (dc ds : Nat) : Outcome → Prop
  | .returned v => jm_W p l e R s m args below meth c S D cl Q nL (pc + 3) lv (v.toList ++ rest) h1 dc ds
  | .threw q => jm_X p l e R s m args below meth c S D cl Q nL pc lv rest h1 q dc ds
def jm_ci (G : List Cond) (y : MethodName) (wc : Cond) (maxL n : Nat) : Prop :=
  wc ∈ G ∧ jm_fm y wc maxL ∧ Cond.initialized y.cls ∈ G ∧ (y.cls ≠ "java/lang/invoke/MethodHandle" ∧ y.cls ≠ "java/lang/invoke/VarHandle") ∧ (parseMethodDescriptor y.desc).map (fun d => d.parameters.length) = some n
theorem jm_evT (X : jm_cx p s m args c S D cl tys G cc nL own) {T : State} {locs : List Loc} (hS : va_S (fun q => S.heap.size ≤ q) s.heap T.heap locs) (hW : s.WarmedH T.vm) : jm_ev S T := by
  have hev := X.2.2.2.2.2.2.1
  refine ⟨State.WarmedH.trans hev.1 hW, Nat.le_trans hev.2.1 hS.1, fun q hq => ?_⟩
  rw [hS.2.1 q (Nat.lt_of_lt_of_le hq hev.2.1) (Nat.not_le.mpr hq)]
  exact hev.2.2 q hq
theorem jm_cal (X : jm_cx p s m args c S D cl tys G cc nL own) {T T1 : State} {H : Heap} {ls : Array Slot} {locs : List Loc} {ig : Instr} {y : MethodName} {wc : Cond} {rm : Room} {As : List Value} {Po : Outcome → jm_H → Prop} {mc ms maxL n : Nat} {mk : MethodId} (hT : T1.heap = H) (hl : lv_has ls nL lv) (hr : jm_ld D cl S.heap.size h H) (hS : va_S (fun q => S.heap.size ≤ q) s.heap H locs)
    (Y1 : Stand p l e R s m args below meth c T1 locs dc ds) (hmk : s.methodNamed? y = some mk) (hst : ∀ target, (∀ acts, Steps p.tables e below (doInvoke e (T1.setTop (F0 m pc ls rest)) acts mk As.toArray).1 target) → Steps p.tables e below (T.setTop (F0 m pc ls st)) target)
    (hd : decode cc pc = .ok (ig, 3)) (hM : jm_M l S D cl y wc rm As h Po mc ms) (hci : jm_ci G y wc maxL n) (hrest : (rest.map fun v => v.category).sum ≤ 8) (hR : rm.frames + 1 ≤ R.frames ∧ 8 + (maxL + 11) + rm.locals ≤ R.locals) (hrm : rm.cells = mc ∧ rm.slots = ms) (hcs : dc + mc ≤ R.cells ∧ ds + ms ≤ R.slots)
    (k : ∀ o h1, Po o h1 → jm_K p l e R s m args below meth c S D cl Q nL pc lv rest h1 (dc + mc) (ds + ms) o) : ∃ t, Steps p.tables e below (T.setTop (F0 m pc ls st)) t ∧ Q t := by
  subst hT
  have hev := jm_evT X hS Y1.warmed
  have hW1 := jm_en_w X.2.2.2.2.2.2.2 hev.1 As.toArray
  obtain ⟨mk', methM, cM, hn, hmM, hcM, hlM, -⟩ := jm_cod hci.2.1 (hW1 _ hci.1)
  have e1 : mk' = mk := Option.some.inj (hn.symm.trans (Y1.named hmk))
  subst e1
  obtain ⟨kM, hkM, -⟩ := className_of_methodNamed hn
  have hiM : kM.init = .initialized := Cond.initialized_spec (findClass_of_methodNamed hn) hkM (hW1 _ hci.2.2.1)
  obtain ⟨o, h1, T2, L, hPo, hl1, hz, hk, hL, Y2, st2⟩ := jm_site (g := F0 m pc ls rest) Y1 rfl (hl.1.trans X.2.2.1.symm) (by rw [X.2.1]; exact hd) (lv_room hrest) hn hmM hcM hlM hkM hiM hM (hW1 _ hci.1) hR hrm hcs hev hr
  have hS2 : va_S (fun q => S.heap.size ≤ q) s.heap T2.heap (locs ++ L) := ⟨Nat.le_trans hS.1 hz, fun q a b => (hk q (Nat.lt_of_lt_of_le a hS.1) b).trans (hS.2.1 q a b), fun q hq => by
    rcases List.mem_append.mp hq with a | a
    · exact hS.2.2 q a
    · exact hL q a⟩
  have hk2 := k o h1 hPo
  have st3 : Steps p.tables e below (T.setTop (F0 m pc ls st)) (jm_to (F0 m pc ls rest) 3 T2 o) := hst _ fun acts => by rw [doInvoke_state]; exact st2
  cases o with
  | returned v =>
    obtain ⟨t, a1, b1⟩ := hk2 T2.heap ls (locs ++ L) hl hl1 hS2 T2 rfl Y2
    exact ⟨t, st3.trans a1, b1⟩
  | threw q =>
    obtain ⟨t, a1, b1⟩ := hk2 T2.heap ls (locs ++ L) hl hl1 hS2 T2 rfl Y2
    exact ⟨t, st3.trans a1, b1⟩
theorem jm_callS (X : jm_cx p s m args c S D cl tys G cc nL own) {index : Nat} {y : MethodName} {wc : Cond} {rm : Room} {As : List Value} {Po : Outcome → jm_H → Prop} {mc ms maxL : Nat} (hd : decode cc pc = .ok (.invokestatic index, 3)) (hM : jm_M l S D cl y wc rm As h Po mc ms) (hci : jm_ci G y wc maxL As.length) (hlk : Cond.methodLink own index y ∈ G ∨ ∃ host, Cond.methodLinkNest own index y host ∈ G) (hsc : Cond.static y ∈ G) (hst : st = As.reverse ++ rest) (hrest : (rest.map fun v => v.category).sum ≤ 8) (hR : rm.frames + 1 ≤ R.frames ∧ 8 + (maxL + 11) + rm.locals ≤ R.locals) (hrm : rm.cells = mc ∧ rm.slots = ms) (hcs : dc + mc ≤ R.cells ∧ ds + ms ≤ R.slots)
    (k : ∀ o h1, Po o h1 → jm_K p l e R s m args below meth c S D cl Q nL pc lv rest h1 (dc + mc) (ds + ms) o) : jm_W p l e R s m args below meth c S D cl Q nL pc lv st h dc ds := by
  intro H ls locs hl hr hS T hT Y
  have hts := X.2.2.2.2.1
  obtain ⟨mk, methM, cM, hn, hmM, hcM, hlM, hsig⟩ := jm_cod hci.2.1 (hts _ hci.1)
  obtain ⟨kM, hkM, -⟩ := className_of_methodNamed hn
  have hiM : kM.init = .initialized := Cond.initialized_spec (findClass_of_methodNamed hn) hkM (hts _ hci.2.2.1)
  have hlen : As.length = methM.sig.parameters.length := by
    have h2 := hci.2.2.2.2
    rw [hsig] at h2
    exact (Option.some.inj h2).symm
  have key : ∃ vm', Stand p l e R s m args below meth c (T.setVm vm') locs dc ds ∧ ∀ target, (∀ acts, Steps p.tables e below (doInvoke e ((T.setVm vm').setTop (F0 m pc ls rest)) acts mk As.toArray).1 target) → Steps p.tables e below (T.setTop (F0 m pc ls st)) target := by
    rcases hlk with hw | ⟨host, hw⟩
    · exact Y.invokestatic X.1 X.2.2.2.1 (hts _ hw) hn hmM (Cond.static_spec hn hmM (hts _ hsc)) hkM hiM hci.2.2.2.1 (g := F0 m pc ls st) rfl hlen hst (by rw [X.2.1]; exact hd)
    · exact Y.invokestaticNest X.1 X.2.2.2.1 (hts _ hw) hn hmM (Cond.static_spec hn hmM (hts _ hsc)) hkM hiM hci.2.2.2.1 (g := F0 m pc ls st) rfl hlen hst (by rw [X.2.1]; exact hd)
  obtain ⟨vm', Y1, st1⟩ := key
  exact jm_cal X (T1 := T.setVm vm') hT hl hr hS Y1 hn st1 hd hM hci hrest hR hrm hcs k
theorem jm_callV (X : jm_cx p s m args c S D cl tys G cc nL own) {index ci b : Nat} {y : MethodName} {wc : Cond} {rm : Room} {As : List Value} {Po : Outcome → jm_H → Prop} {mc ms maxL : Nat} {fs : List Value} {T0 : u_T} {N : Nat} (hd : decode cc pc = .ok (.invokevirtual index, 3)) (hM : jm_M l S D cl y wc rm (.ref b :: As) h Po mc ms) (hci : jm_ci G y wc maxL As.length) (hlk : Cond.methodLink own index y ∈ G ∨ ∃ host, Cond.methodLinkNest own index y host ∈ G) (hin : Cond.instanceMethod y ∈ G) (hse : Cond.selects y.cls y y ∈ G) (hb : h b = some (.inr (ci, fs))) (hc : cl[ci]? = some (y.cls, T0, N)) (hst : st = As.reverse ++ .ref b :: rest) (hrest : (rest.map fun v => v.category).sum ≤ 8) (hR : rm.frames + 1 ≤ R.frames ∧ 8 + (maxL + 11) + rm.locals ≤ R.locals) (hrm : rm.cells = mc ∧ rm.slots = ms) (hcs : dc + mc ≤ R.cells ∧ ds + ms ≤ R.slots)
    (k : ∀ o h1, Po o h1 → jm_K p l e R s m args below meth c S D cl Q nL pc lv rest h1 (dc + mc) (ds + ms) o) : jm_W p l e R s m args below meth c S D cl Q nL pc lv st h dc ds := by
  intro H ls locs hl hr hS T hT Y
  have hts := X.2.2.2.2.1
  obtain ⟨mk, methM, cM, hn, hmM, hcM, hlM, hsig⟩ := jm_cod hci.2.1 (hts _ hci.1)
  obtain ⟨mk2, methM2, hn2, hmM2, hstM, habM⟩ := Cond.instanceMethod_spec (hts _ hin)
  cases hn.symm.trans hn2
  cases hmM.symm.trans hmM2
  have hlen : As.length = methM.sig.parameters.length := by
    have h2 := hci.2.2.2.2
    rw [hsig] at h2
    exact (Option.some.inj h2).symm
  obtain ⟨q0, hq⟩ := jm_place hr hb
  obtain ⟨cellB, hcB, hoB, hclB⟩ := va_recv X.2.2.2.2.2.1 (jm_P hr) hc hq
  obtain ⟨c2, r2, m2, q1, q2, q3, q4, kP, hkP, hkPi⟩ := Cond.selects_spec (hts _ hse)
  cases hclB.symm.trans q1
  cases (State.methodFound?_of_named hn hci.2.2.2.1).symm.trans q2
  cases hn.symm.trans q3
  have hselP : selectMethod e.platform s.vm cellB.cls mk = .method mk := by rw [Launch.admits_selectMethod Y.admits]; exact q4
  have key : ∃ vm', Stand p l e R s m args below meth c (T.setVm vm') locs dc ds ∧ ∀ target, (∀ acts, Steps p.tables e below (doInvoke e ((T.setVm vm').setTop (F0 m pc ls rest)) acts mk (Value.ref b :: As).toArray).1 target) → Steps p.tables e below (T.setTop (F0 m pc ls st)) target := by
    rcases hlk with hw | ⟨host, hw⟩
    · exact Y.invokevirtual X.1 X.2.2.2.1 (hts _ hw) hn hmM hstM hkP hkPi hci.2.2.2.1 (a := b) (cell := cellB) (by rw [hT]; exact hcB) (fun z hz => by rw [hz] at hoB; cases hoB) hselP hmM habM hkP hkPi (g := F0 m pc ls st) rfl (argsL := As) (rest := rest) hlen hst (by rw [X.2.1]; exact hd)
    · exact Y.invokevirtualNest X.1 X.2.2.2.1 (hts _ hw) hn hmM hstM hkP hkPi hci.2.2.2.1 (a := b) (cell := cellB) (by rw [hT]; exact hcB) (fun z hz => by rw [hz] at hoB; cases hoB) hselP hmM habM hkP hkPi (g := F0 m pc ls st) rfl (argsL := As) (rest := rest) hlen hst (by rw [X.2.1]; exact hd)
  obtain ⟨vm', Y1, st1⟩ := key
  exact jm_cal X (T1 := T.setVm vm') (As := .ref b :: As) hT hl hr hS Y1 hn st1 hd hM hci hrest hR hrm hcs k
theorem jm_callI (X : jm_cx p s m args c S D cl tys G cc nL own) {index b : Nat} {y : MethodName} {bytes : ByteArray} {rm : Room} {As : List Value} {Po : Outcome → jm_H → Prop} {mc ms maxL : Nat} (hd : decode cc pc = .ok (.invokespecial index, 3)) (hM : jm_M l S D cl y (.code y bytes maxL none) rm (.ref b :: As) h Po mc ms) (hci : jm_ci G y (.code y bytes maxL none) maxL As.length) (hlk : Cond.methodLink own index y ∈ G ∨ ∃ host, Cond.methodLinkNest own index y host ∈ G) (hin : Cond.instanceMethod y ∈ G) (hy1 : y.name = "<init>") (hst : st = As.reverse ++ .ref b :: rest) (hrest : (rest.map fun v => v.category).sum ≤ 8) (hR : rm.frames + 1 ≤ R.frames ∧ 8 + (maxL + 11) + rm.locals ≤ R.locals) (hrm : rm.cells = mc ∧ rm.slots = ms) (hcs : dc + mc ≤ R.cells ∧ ds + ms ≤ R.slots)
    (k : ∀ o h1, Po o h1 → jm_K p l e R s m args below meth c S D cl Q nL pc lv rest h1 (dc + mc) (ds + ms) o) : jm_W p l e R s m args below meth c S D cl Q nL pc lv st h dc ds := by
  intro H ls locs hl hr hS T hT Y
  have hts := X.2.2.2.2.1
  have hpl : e.platform.magicAccessors = ({} : Platform).magicAccessors := by rw [Y.admits.platform]
  have hlen : ∀ sig, parseMethodDescriptor y.desc = some sig → As.length = sig.parameters.length := fun sig hs => by
    have h2 := hci.2.2.2.2
    rw [hs] at h2
    exact (Option.some.inj h2).symm
  have key : ∃ mk vm', s.methodNamed? y = some mk ∧ s.WarmedH vm' ∧ ∀ target, (∀ acts, Steps p.tables e below (doInvoke e ((T.setVm vm').setTop (F0 m pc ls rest)) acts mk (Value.ref b :: As).toArray).1 target) → Steps p.tables e below (T.setTop (F0 m pc ls st)) target := by
    rcases hlk with hw | ⟨host, hw⟩
    · obtain ⟨mk, _, _, _, vm', hn, -, -, -, -, -, -, -, hW, hs⟩ := Steps.initColdArgs (e := e) Y.here X.1 Y.warmed hpl X.2.2.2.1 hy1 hci.2.2.2.1 (hts _ hw) (hts _ hin) (hts _ hci.1) (f := F0 m pc ls st) rfl hlen hst (by rw [X.2.1]; exact hd)
      exact ⟨mk, vm', hn, hW, hs⟩
    · obtain ⟨mk, _, _, _, vm', hn, -, -, -, -, -, -, -, hW, hs⟩ := Steps.initColdArgsNest (e := e) Y.here X.1 Y.warmed hpl X.2.2.2.1 hy1 hci.2.2.2.1 (hts _ hw) (hts _ hin) (hts _ hci.1) (f := F0 m pc ls st) rfl hlen hst (by rw [X.2.1]; exact hd)
      exact ⟨mk, vm', hn, hW, hs⟩
  obtain ⟨mk, vm', hn, hW, st1⟩ := key
  exact jm_cal X (T1 := T.setVm vm') (As := .ref b :: As) hT hl hr hS (Y.noted hW) hn st1 hd hM hci hrest hR hrm hcs k
def jm_R (v : Option Value) (h1 : jm_H) : Outcome → jm_H → Prop := fun o h2 => o = .returned v ∧ h2 = h1
theorem jm_k1 {v : Value} {h1 : jm_H} (k : jm_W p l e R s m args below meth c S D cl Q nL (pc + 3) lv (v :: rest) h1 dc ds) : ∀ o h2, jm_R (some v) h1 o h2 → jm_K p l e R s m args below meth c S D cl Q nL pc lv rest h2 dc ds o := by
  rintro o h2 ⟨rfl, rfl⟩
  exact k
theorem jm_k0 {h1 : jm_H} (k : jm_W p l e R s m args below meth c S D cl Q nL (pc + 3) lv rest h1 dc ds) : ∀ o h2, jm_R none h1 o h2 → jm_K p l e R s m args below meth c S D cl Q nL pc lv rest h2 dc ds o := by
  rintro o h2 ⟨rfl, rfl⟩
  exact k
end JM4
section JM5
variable {p : Program} {l : Launch} {e : Env} {R : Room} {s : State} {m : MethodId} {args : Array Value} {below : List Frame} {meth : Method} {c : Code} {Q : State → Prop}
variable {S : State} {D : va_G} {cl : List vw_C} {tys : List (ClassId × FieldType)} {G : List Cond} {cc : ByteArray} {nL pc dc ds : Nat} {own : String} {lv : List (Nat × Value)} {rest st : List Value} {h : jm_H}
theorem jm_rebase {T : State} {locs : List Loc} (X : Stand p l e R s m args below meth c T locs dc ds) (h1 : dc ≤ R.cells) (h2 : ds ≤ R.slots) : Stand p l e { R with cells := R.cells - dc, slots := R.slots - ds } (T.setFrames (.invoking m args :: below)) m args below meth c T [] 0 0 := by
  obtain ⟨g₀, hfr⟩ := X.frames_eq
  have hcur : T.cur < T.threads.size := State.cur_lt_of_frames hfr
  have hf : (T.setFrames (.invoking m args :: below)).frames = .invoking m args :: below := State.frames_setFrames _ hcur
  have hm : (T.setFrames (.invoking m args :: below)).vm.method? m = some meth := X.method'
  have hlo : (T.setFrames (.invoking m args :: below)).localsInUse = s.localsInUse := by
    rw [State.localsInUse_invoking hf hm X.code, State.localsInUse_invoking X.frames X.method X.code]
  have hlim : e.platform.stackLimits (T.setFrames (.invoking m args :: below)).me = e.platform.stackLimits s.me := by rw [State.stackLimits_setFrames, X.limits]
  have hby : (T.setFrames (.invoking m args :: below)).me.stackBytes = s.me.stackBytes := by rw [State.stackBytes_setFrames, X.bytes]
  have hcur2 : (T.setFrames (.invoking m args :: below)).cur < (T.setFrames (.invoking m args :: below)).threads.size := State.cur_lt_of_frames hf
  obtain ⟨t, ht, -⟩ := State.frames_cons hf
  obtain ⟨t0, ht0, -⟩ := State.frames_cons hfr
  refine ⟨X.admits, X.cas, X.clock, hf, ?_, ?_, hm, X.code, X.here, X.tail, State.WarmedH.refl _, ?_, ?_, ?_⟩
  · have hr := X.room
    have a1 := X.heapSize
    have a2 := X.used
    have a3 := X.book
    simp only [State.hasRoom, Bool.and_eq_true, decide_eq_true_eq] at hr ⊢
    rw [hlo, hlim, hby, hf]
    rw [X.frames] at hr
    refine ⟨⟨⟨⟨hr.1.1.1.1, hr.1.1.1.2⟩, ?_⟩, ?_⟩, ?_⟩
    · show T.heap.size + (R.cells - dc) ≤ _
      have := hr.1.1.2
      omega
    · show T.slotsUsed + (R.slots - ds) ≤ _
      have := hr.1.2
      omega
    · exact a3
  · have hv : ∀ x, T.vm.method? x = s.vm.method? x := fun x => X.warmed.alike.method? x
    have hq := X.hears
    have e1 : (T.setFrames (.invoking m args :: below)).hears m below = s.hears m below := by
      cases below with
      | nil => simp [State.hears, State.setFrames, hv]
      | cons f r => cases f <;> simp [State.hears, State.setFrames, State.code?_eq, hv]
    rw [e1]
    exact hq
  · rw [State.stackLimits_setFrames]
  · rw [State.stackBytes_setFrames]
  · have hs := (State.sameButNew.refl (T.setFrames (.invoking m args :: below)) ht).setFrames T.frames hcur2
    rw [State.setFrames_setFrames, State.setFrames_self ht0] at hs
    exact hs
theorem jm_sameOf {s U : State} {L : List Loc} {k n : Nat} (hs : s.sameButNew ({ U with vm := s.vm } : State) [] k n) : s.heap.size ≤ U.heap.size ∧ ∀ q : Nat, q < s.heap.size → U.heap[q]? = s.heap[q]? := by
  obtain ⟨-, h2, -, -, -, h6⟩ := hs
  refine ⟨h2, fun q hq => ?_⟩
  obtain ⟨x, hx⟩ : ∃ x, s.heap[q]? = some x := ⟨s.heap[q], Array.getElem?_eq_getElem hq⟩
  obtain ⟨x', h3, h4, h5, h7⟩ := h6 q x hx
  have h3 : U.heap[q]? = some x' := h3
  have e1 : x'.slots = x.slots := by
    apply Array.ext_getElem?
    intro i
    exact h7 i (by simp)
  rw [h3, hx, h4, e1]
end JM5
