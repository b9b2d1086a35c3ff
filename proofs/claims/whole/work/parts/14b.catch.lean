section JXC
/-- one entry of a table of handlers whose class is named by a link: the tables behind it, and where the search goes -/
theorem jc_one {Q : Handler → Pre} {E : CtlPost} {e : Env} {d : Bool} {acts : List Action} {s : State} {f : JFrame} {a : Addr} {x : ExceptionTableEntry} {t : List ExceptionTableEntry} {c : ClassId} {cell : Cell} {b : Bool} (hx : covers x f.pc = true) (h0 : x.catchType ≠ 0) (hl : s.vm.ClassLinks e.platform f.method.cls x.catchType c) (hcell : s.heap[a]? = some cell) (hobj : ∀ k, cell.vm ≠ .statics k)
    (hk : ∃ k, s.vm.classes[cell.cls]? = some k) (hc : ∃ k, s.vm.classes[c]? = some k) (hb : s.vm.assignable cell.cls c = b) :
    wp (findHandler.go f a (x :: t)) Q E e d acts s ↔ if b = true then Q (.found x.handlerPc) d acts (s.setVm (s.vm.noted f.method.cls x.catchType (.cls c)))
      else wp (findHandler.go f a t) Q E e d acts (s.setVm (s.vm.noted f.method.cls x.catchType (.cls c))) := by
  simp only [covers] at hx
  obtain ⟨ha, ht⟩ := (resolveClass_links e.toSetting hl).op (op := VmOp.resolveClass f.method.cls x.catchType) rfl
  have hal : s.vm.Alike (s.vm.noted f.method.cls x.catchType (.cls c)) := (Vm.Alike.refl s.vm).noted _ _ _
  obtain ⟨k1, hk1⟩ := hk
  obtain ⟨k2, hk2⟩ := hc
  obtain ⟨j1, hj1, -⟩ := hal.2.2 _ _ hk1
  obtain ⟨j2, hj2, -⟩ := hal.2.2 _ _ hk2
  have hb' : (s.vm.noted f.method.cls x.catchType (.cls c)).assignable cell.cls c = b := by rw [hal.assignable]; exact hb
  cases b <;> simp [findHandler.go, hx, h0, ha, ht, hcell, hobj, hj1, hj2, hb', VmOp.dirties, VmOp.acts]
/-- the search through a table: 'A' says of each entry whether it takes the object -/
theorem jc_all {e : Env} {s₀ : State} {f : JFrame} {a : Addr} {cell : Cell} (hobj : ∀ k, cell.vm ≠ .statics k) (hk0 : ∃ k, s₀.vm.classes[cell.cls]? = some k) (A : ExceptionTableEntry → Bool) :
    ∀ (L : List ExceptionTableEntry) (T : State), s₀.WarmedH T.vm → T.heap[a]? = some cell → (∀ y ∈ L, y.catchType ≠ 0 ∧ ∃ c, s₀.vm.ClassLinks e.platform f.method.cls y.catchType c ∧ s₀.vm.assignable cell.cls c = A y) →
      ∀ y, L.find? (fun y => covers y f.pc && A y) = some y → ∃ vm', s₀.WarmedH vm' ∧ ∀ (Q : Handler → Pre) (E : CtlPost) (d : Bool) (acts : List Action), wp (findHandler.go f a L) Q E e d acts T ↔ Q (.found y.handlerPc) d acts (T.setVm vm') := by
  obtain ⟨k0, hk0⟩ := hk0
  intro L
  induction L with
  | nil => intro T _ _ _ y hy; cases hy
  | cons x L ih =>
    intro T hW hcell hL y hy
    obtain ⟨j0, hj0, -⟩ := hW.alike.2.2 _ _ hk0
    have hL' : ∀ y ∈ L, y.catchType ≠ 0 ∧ ∃ c, s₀.vm.ClassLinks e.platform f.method.cls y.catchType c ∧ s₀.vm.assignable cell.cls c = A y := fun z hz => hL z (List.mem_cons_of_mem _ hz)
    rw [List.find?_cons] at hy
    by_cases hcov : covers x f.pc = true
    · obtain ⟨h0, c, hl, hA⟩ := hL x List.mem_cons_self
      obtain ⟨dk, _, _, kt, hd, _, _, _, _, hkt, _, hopen⟩ := hl.here
      obtain ⟨jt, hjt, -⟩ := hW.alike.2.2 _ _ hkt
      have hW1 : s₀.WarmedH (T.vm.noted f.method.cls x.catchType (.cls c)) := hW.noted hd hopen (State.rightAt_cls hl)
      have one := fun (Q : Handler → Pre) (E : CtlPost) (d : Bool) (acts : List Action) => jc_one (Q := Q) (E := E) (d := d) (acts := acts) (t := L) (b := A x) hcov h0 (hW.classLinks hl) hcell hobj ⟨j0, hj0⟩ ⟨jt, hjt⟩ (by rw [hW.alike.assignable]; exact hA)
      cases hAx : A x with
      | true =>
        simp only [hAx, if_true] at one
        simp only [hcov, hAx, Bool.and_self] at hy
        cases hy
        exact ⟨_, hW1, fun Q E d acts => one Q E d acts⟩
      | false =>
        simp only [hAx, Bool.false_eq_true, if_false] at one
        simp only [hcov, hAx, Bool.and_false] at hy
        obtain ⟨vm', hW', hq⟩ := ih (T.setVm (T.vm.noted f.method.cls x.catchType (.cls c))) hW1 hcell hL' y hy
        exact ⟨vm', hW', fun Q E d acts => (one Q E d acts).trans (hq Q E d acts)⟩
    · have hcov : covers x f.pc = false := by simpa using hcov
      simp only [hcov, Bool.false_and] at hy
      obtain ⟨vm', hW', hq⟩ := ih T hW hcell hL' y hy
      exact ⟨vm', hW', fun Q E d acts => by rw [W.findHandler_go_skip hcov]; exact hq Q E d acts⟩
theorem jc_frames (u : State) (vm' : Vm) (F F2 : List Frame) : ((u.setFrames F).setVm vm').setFrames F2 = (u.setVm vm').setFrames F2 := by
  show ((u.setVm vm').setFrames F).setFrames F2 = _
  rw [State.setFrames_setFrames]
theorem jc_step {tb : Tables} {e : Env} {s target : State} {g : JFrame} {c : Code} {below : List Frame} {a : Addr} (h : At s g.method c below) {pc : Nat} {vm' : Vm}
    (hfind : ∀ (Q : Handler → Pre) (E : CtlPost) (d : Bool) (acts : List Action), wp (findHandler g a) Q E e d acts ((s.setTop g).pushFrame (.throwing a)) ↔ Q (.found pc) d acts (((s.setTop g).pushFrame (.throwing a)).setVm vm')) (hrest : Steps tb e below ((s.setVm vm').setTop { g with pc := pc, stack := [.ref a] }) target) :
    Steps tb e below ((s.setTop g).pushFrame (.throwing a)) target := by
  have hst : ∀ r : List Frame, (stepThrowing e ((s.setTop g).pushFrame (.throwing a)) a (.java g :: r)).Is ((((s.setTop g).pushFrame (.throwing a)).setVm vm').setFrames (.java { g with pc := pc, stack := [.ref a] } :: r)) [] := by
    intro r
    simp only [stepThrowing, searchFrame, vmDo]
    generalize hr : Sem.go _ e false [] ((s.setTop g).pushFrame (.throwing a)) = res
    obtain ⟨as, rfl, ha⟩ := Sem.eq_ok_of hr (a := Handler.found pc) (s' := ((s.setTop g).pushFrame (.throwing a)).setVm vm') (acts' := []) (by simp [hfind _ _ _ _])
    exact ⟨rfl, ha⟩
  obtain ⟨hgo, hw⟩ := h.throwing a
  refine Steps.head hgo hw ?_
  rw [stepThread_throwing (frames_entered h.top _), (hst _).1]
  obtain ⟨g₀, hg⟩ := Option.isSome_iff_exists.mp h.top
  obtain ⟨r, hr⟩ := State.topJava?_eq_some.mp hg
  have hr' : (s.setVm vm').frames = .java g₀ :: r := hr
  rw [State.setTop_of_frames _ hr'] at hrest
  rw [hr, List.tail_cons, State.pushFrame, jc_frames, State.setTop_of_frames _ hr, jc_frames]
  exact hrest
variable {p : Program} {l : Launch} {e : Env} {Rm : Room} {s : State} {m : MethodId} {args : Array Value} {below : List Frame} {meth : Method} {c : Code} {Q : State → Prop}
variable {S : State} {D : va_G} {cl : List vw_C} {tys : List (ClassId × FieldType)} {G : List Cond} {cc : ByteArray} {nL pc dc ds : Nat} {own : String} {h : jm_H} {lw : List (Nat × Value)} {rest : List Value}
theorem jm_catch (X : jm_cx p s m args c S D cl tys G cc nL own) {b ci : Nat} {cls : String} {T0 : u_T} {fs : List Value} (hcl : cl[ci]? = some (cls, T0, 0)) (hb : h b = some (.inr (ci, fs))) (A : ExceptionTableEntry → Bool)
    (hL : ∀ y ∈ c.exceptionTable.toList, y.catchType ≠ 0 ∧ ∃ nm, Cond.classLink own y.catchType nm ∈ G ∧ ∃ cT, S.vm.findClass nm = some cT ∧ S.vm.assignable (D.1 ci) cT = A y) {y : ExceptionTableEntry} (hy : c.exceptionTable.toList.find? (fun y => covers y pc && A y) = some y)
    (kk : jm_W p l e Rm s m args below meth c S D cl Q nL y.handlerPc lw [.ref b] h dc ds) : jm_X p l e Rm s m args below meth c S D cl Q nL pc lw rest h b dc ds := by
  intro H ls locs hl hr hS T hT Y
  subst hT
  have hpl : e.platform.magicAccessors = ({} : Platform).magicAccessors := by rw [Y.admits.platform]
  have hev := X.2.2.2.2.2.2.1
  obtain ⟨r, hr1, cell, g1, g2, g3, -⟩ := (hr b _ hb).2
  have hKc := (X.2.2.2.2.2.1.1 ci _ hcl).2
  obtain ⟨hf, kC, hkC, -⟩ := hKc
  have hk0 : ∃ k, s.vm.classes[cell.cls]? = some k := ⟨kC, by rw [g2]; exact hkC⟩
  have hL' : ∀ y ∈ c.exceptionTable.toList, y.catchType ≠ 0 ∧ ∃ cT, s.vm.ClassLinks e.platform m.cls y.catchType cT ∧ s.vm.assignable cell.cls cT = A y := fun y hy => by
    obtain ⟨h0, nm, hw, cT, hcT, hA⟩ := hL y hy
    obtain ⟨c', hc', hcl'⟩ := Cond.classLink_spec X.2.2.2.1 (X.2.2.2.2.1 _ hw) e.platform hpl
    have e1 : c' = cT := by
      rw [hev.1.alike.findClass] at hc'
      exact Option.some.inj (hc'.symm.trans hcT)
    subst e1
    exact ⟨h0, c', hcl', by rw [g2, hev.1.alike.assignable]; exact hA⟩
  obtain ⟨vm', hW', hq⟩ := jc_all (e := e) (f := F0 m pc ls rest) (a := b) (fun k q => by rw [g3] at q; cases q) hk0 A c.exceptionTable.toList ((T.setTop (F0 m pc ls rest)).pushFrame (.throwing b)) Y.warmed g1 hL' y hy
  obtain ⟨t, a1, b1⟩ := kk T.heap ls locs hl hr hS (T.setVm vm') rfl (Y.noted hW')
  refine ⟨t, jc_step (g := F0 m pc ls rest) Y.here (fun Q E d acts => ?_) a1, b1⟩
  rw [W.findHandler_eq (meth := meth) (code := c) Y.method' Y.code]
  exact hq Q E d acts
end JXC
