section JX8
variable {p : Program} {l : Launch} {e : Env} {Rm : Room} {s : State} {m : MethodId} {args : Array Value} {below : List Frame} {meth : Method} {c : Code} {Q : State → Prop}
variable {S : State} {D : va_G} {cl : List vw_C} {tys : List (ClassId × FieldType)} {G : List Cond} {dA : Nat → ClassId} {cc : ByteArray} {nL pc dc ds : Nat} {own : String} {K : (Nat × List Value) → Nat → Prop} {R R0 : List Nat} {M : jx_H} {h : jm_H} {lv lw : List (Nat × Value)} {st sw rest : List Value} {z : jx_N}
def jx_wc (me : jx_Me) : Cond := match me.2.2.2.2.1 with
  | [] => Cond.code me.1 me.2.1 me.2.2.1 me.2.2.2.1
  | q :: hs => Cond.codeWith me.1 me.2.1 me.2.2.1 me.2.2.2.1 ((q :: hs).map fun q => (q.1, q.2.1, q.2.2.1, q.2.2.2.1))
def jx_ot (R : List Nat) (o : Option Value ⊕ Nat) (q : Outcome) : Prop := match o with
  | .inl none => q = .returned none
  | .inl (some v) => ∃ w, q = .returned (some w) ∧ jx_v R v w
  | .inr a => ∃ b : Nat, R[a]? = some b ∧ q = .threw b
def jx_Po (dA : Nat → ClassId) (K : (Nat × List Value) → Nat → Prop) (R : List Nat) (o : Option Value ⊕ Nat) (M' : jx_H) : Outcome → jm_H → Prop := fun q h1 => ∃ R' : List Nat, R <+: R' ∧ jx_re dA K R' M' h1 ∧ jx_ot R' o q
def jx_ex (c : Code) (hs : List (Nat × Nat × Nat × Nat × Nat)) : Prop := c.exceptionTable.toList.map (fun h => (h.startPc, h.endPc, h.handlerPc, h.catchType)) = hs.map fun q => (q.1, q.2.1, q.2.2.1, q.2.2.2.1)
theorem jx_ex_nil (hx : jx_ex c []) : c.exceptionTable.isEmpty = true := by
  have : c.exceptionTable = #[] := by simpa [jx_ex] using hx
  rw [this]
  rfl
theorem jx_nil_ex (hx : c.exceptionTable.isEmpty = true) : jx_ex c [] := by
  have : c.exceptionTable = #[] := by simpa using hx
  simp [jx_ex, this]
theorem jm_ofWH {y : MethodName} {maxL : Nat} {ret : Option FieldType} {hh : List (Nat × Nat × Nat × Nat)} {rm : Room} {As : List Value} {Po : Outcome → jm_H → Prop} {mc ms : Nat} (E : jm_en S D cl tys G) (hy : plainFor y = true) (hL : (lg_sl As).length ≤ maxL)
    (body : ∀ (p : Program) (e : Env) (s : State) (m : MethodId) (below : List Frame) (meth : Method) (c : Code), jm_cx p s m As.toArray c S D cl tys G cc maxL y.cls → meth.sig.returnType = ret → meth.locks = false → meth.name = y.name → c.exceptionTable.toList.map (fun h => (h.startPc, h.endPc, h.handlerPc, h.catchType)) = hh → l.admits e →
      jm_W p l e rm s m As.toArray below meth c S D cl (jm_Q S D cl below s Po mc ms) maxL 0 (lv_args 0 As) [] h 0 0) : jm_M l S D cl y (Cond.codeWith y cc maxL ret hh) rm As h Po mc ms := by
  refine MetFree.of_bodySF (code := cc) (maxLocals := maxL) (ret := ret) hy ?_ ?_
  · intro args s m hp hn
    obtain ⟨m', meth, c, h0, h1, h2, h3, h4, -, h6, h7, -⟩ := Cond.codeWith_spec (atoms_spec (ws := [Cond.codeWith y cc maxL ret hh]) hp _ List.mem_cons_self)
    cases hn.symm.trans h0
    exact ⟨meth, c, h1, h2, h3, h4, h6, h7⟩
  · intro p e s m args below meth c s₁ B hml hP _
    obtain ⟨rfl, hev, hld⟩ := hP
    have hh0 : s₁.heap = s.heap := by rw [B.state]; rfl
    have hcode := atoms_spec (ws := [Cond.codeWith y cc maxL ret hh]) B.pre _ List.mem_cons_self
    obtain ⟨m', meth', c', q0, q1, q2, -, -, q5, -, -, -⟩ := Cond.codeWith_spec hcode
    cases B.named.symm.trans q0
    have X := Stand.of_body B
    have e1 : meth' = meth := Option.some.inj (q1.symm.trans B.method)
    subst e1
    have e2 : c' = c := Option.some.inj (q2.symm.trans X.code)
    subst e2
    have hl := lv_entry As (n := maxL) hL
    have hw := body p e s m below meth' c' ⟨B.exec, B.bytes, hml, findClass_of_methodNamed B.named, jm_en_w E hev.1 _, va_K.moved hev.1.alike E.2.2, hev, E⟩ B.returns B.notSynchronized (name_of_methodNamed B.named B.method).1 q5 B.admits s.heap _ [] hl hld va_S.rf
    rw [← lg_entry_eq] at hw
    obtain ⟨t, a1, o, b1, b2, b3⟩ := hw s₁ hh0 X
    exact ⟨t, o, a1, b1, b2, b3⟩
theorem jm_xout {Po : Outcome → jm_H → Prop} {q : Nat} (hk : meth.locks = false) (hout : ∀ x ∈ c.exceptionTable.toList, covers x pc = false) (hP : Po (.threw q) h) : jm_X p l e Rm s m args below meth c S D cl (jm_Q S D cl below s Po dc ds) nL pc lv rest h q dc ds := by
  intro H ls locs hl hr hS T hT Y
  obtain ⟨a1, a2, a3, a4, a5⟩ := Y.leaveThrown q (g := F0 m pc ls rest) rfl rfl rfl hout hk
  refine ⟨_, a1, .threw q, a2, a3, ⟨h, hP, ?_⟩, ⟨?_, ?_⟩, a4, locs, a5, hS.2.2⟩
  · show jm_ld D cl S.heap.size h T.heap
    rw [hT]; exact hr
  · show s.heap.size ≤ T.heap.size
    rw [hT]; exact hS.1
  · intro a h1 h2
    show T.heap[a]? = s.heap[a]?
    rw [hT]
    exact hS.2.1 a h1 h2
theorem jx_at_mem {pc : Nat} : ∀ {L : List jx_L} {y : Instr × Nat × List Nat × Value}, jx_at pc L = some y → (pc, y) ∈ L
  | [], _, h => by cases h
  | q :: L, y, h => by
    unfold jx_at at h
    split at h
    next e =>
      cases h
      subst e
      exact List.mem_cons_self
    next => exact List.mem_cons_of_mem _ (jx_at_mem h)
/-- facts of a call's place -/
def jx_sc (S : State) (P : List jx_Me) (cc : ByteArray) (own : String) (pc : Nat) (i : Instr) (x : List Nat) : Prop := match i with
  | .invokestatic idx => ∃ k n, x = [k, n] ∧ (k < 9000 → ∃ me : jx_Me, P[k]? = some me ∧ jm_ci jm_G me.1 (jx_wc me) me.2.2.1 n ∧ (Cond.methodLink own idx me.1 ∈ jm_G ∨ ∃ host, Cond.methodLinkNest own idx me.1 host ∈ jm_G) ∧ Cond.static me.1 ∈ jm_G) ∧
      (9000 ≤ k → k = 9002 ∧ n = 5 ∧ Cond.methodLink own idx arraycopyName ∈ jm_G ∧ Cond.static arraycopyName ∈ jm_G ∧ Cond.initialized "java/lang/System" ∈ jm_G ∧ va_Nw (.native arraycopyName) S)
  | .invokevirtual idx => ∃ k n ci, x = [k, n, ci] ∧ (k < 9000 → ci < 100 ∧ ∃ (me : jx_Me) (T0 : u_T) (N : Nat), P[k]? = some me ∧ jm_ci jm_G me.1 (jx_wc me) me.2.2.1 n ∧ (Cond.methodLink own idx me.1 ∈ jm_G ∨ ∃ host, Cond.methodLinkNest own idx me.1 host ∈ jm_G) ∧ Cond.instanceMethod me.1 ∈ jm_G ∧ Cond.selects me.1.cls me.1 me.1 ∈ jm_G ∧ jm_cl[ci]? = some (me.1.cls, T0, N)) ∧
      (9000 ≤ k → ci = 300 ∧ ((k = 9000 ∧ n = 0 ∧ Cond.methodLink own idx ⟨"java/lang/String", "length", "()I"⟩ ∈ jm_G) ∨ (k = 9001 ∧ n = 1 ∧ Cond.methodLink own idx ⟨"java/lang/String", "charAt", "(I)C"⟩ ∈ jm_G)))
  | .invokespecial idx => ∃ k n, x = [k, n] ∧ (k < 9000 → ∃ me : jx_Me, P[k]? = some me ∧ jm_ci jm_G me.1 (jx_wc me) me.2.2.1 n ∧ (Cond.methodLink own idx me.1 ∈ jm_G ∨ ∃ host, Cond.methodLinkNest own idx me.1 host ∈ jm_G) ∧ Cond.instanceMethod me.1 ∈ jm_G ∧ me.1.name = "<init>" ∧ me.2.2.2.1 = none ∧ me.2.2.2.2.1 = []) ∧
      (9000 ≤ k → k = 9003 ∧ n = 0 ∧ Cond.methodLink own idx Lib.objectInit ∈ jm_G ∧ Cond.instanceMethod Lib.objectInit ∈ jm_G ∧ Cond.code Lib.objectInit ⟨#[0xb1]⟩ 1 none ∈ jm_G)
  | .new idx => ∃ ci, x = [ci] ∧ (10 ≤ ci → ∃ (cls : String) (T0 : u_T) (ic : Nat), jm_cl[ci]? = some (cls, T0, 0) ∧ Bundle.fit cls = true ∧ decode cc (pc + 3) = .ok (.dup, 1) ∧ decode cc (pc + 4) = .ok (.invokespecial ic, 3) ∧ decode cc (pc + 7) = .ok (.athrow, 1) ∧ Cond.classLink own idx cls ∈ jm_G ∧ Cond.instantiable cls 6 ∈ jm_G ∧ Cond.initialized cls ∈ jm_G ∧
      ∀ w ∈ Bundle.ownAtoms0 own ic cls ["java/lang/RuntimeException", "java/lang/Exception"], w ∈ jm_G ∨ jm_hs S w)
  | _ => True
end JX8
