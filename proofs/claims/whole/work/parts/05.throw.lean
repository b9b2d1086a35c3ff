section JM8
variable {p : Program} {l : Launch} {e : Env} {R : Room} {s : State} {m : MethodId} {args : Array Value} {below : List Frame} {meth : Method} {c : Code} {Q : State → Prop}
variable {S : State} {D : va_G} {cl : List vw_C} {tys : List (ClassId × FieldType)} {G : List Cond} {cc : ByteArray} {nL pc dc ds : Nat} {own : String} {lv : List (Nat × Value)} {rest st : List Value} {h : jm_H}
theorem jm_stat {S U : State} {a a' : Array Value} {C n d : String} (hev : jm_ev S U) (hw : (Cond.laysStatic C n d).before a S = true) : (Cond.laysStatic C n d).before a' U = true := by
  obtain ⟨c, k, i, f, ad, cell, hc, hi, hst, ha, hcell, hs, hcls, hlt, hty⟩ := Cond.laysStatic_spec hw
  obtain ⟨k', hi', he⟩ := State.fieldFound?_setVm hev.1.alike hi
  have hlt2 := (Array.getElem?_eq_some_iff.mp hcell).1
  exact Cond.laysStatic_of (by rw [hev.1.alike.findClass]; exact hc) hi' hst (by rw [he]; exact ha) (by rw [hev.2.2 ad hlt2]; exact hcell) hs hcls hlt (by rw [he]; exact hty)
theorem jm_evS {S U : State} {a a' : Array Value} {C n d : String} (hev : jm_ev S U) (hw : (Cond.laysStatic C n d).before a S = true) : (Term.static C n d).eval a' U none [] U = (Term.static C n d).eval a S none [] S := by
  obtain ⟨c, k, i, f, ad, cell, hc, hi, hst, ha, hcell, hs, hcls, hlt, hty⟩ := Cond.laysStatic_spec hw
  obtain ⟨k', hi', he⟩ := State.fieldFound?_setVm hev.1.alike hi
  have hlt2 := (Array.getElem?_eq_some_iff.mp hcell).1
  have ha' : k'.statics = some ad := by rw [he]; exact ha
  have hc' : U.heap[ad]? = some cell := by rw [hev.2.2 ad hlt2]; exact hcell
  have hi2 : U.fieldFound? C n d = some (c, k', i, f) := hi'
  simp [Term.eval, State.fieldNamed?, hi2, hi, hst, ha, ha', hcell, hc']
theorem jm_sref {S U : State} {a a' : Array Value} {C n d : String} (hev : jm_ev S U) (hw : (Cond.laysStatic C n d).before a S = true) (hr : (Cond.isRef (.static C n d)).before a S = true) : (Cond.isRef (.static C n d)).before a' U = true := by
  have e1 := jm_evS (a := a) (a' := a') hev hw
  simp only [Cond.before, Cond.holds, Cond.value, e1] at hr ⊢
  exact hr
theorem jm_cast {S U : State} {a a' : Array Value} {A B : String} (hev : jm_ev S U) (hw : (Cond.castable A B).before a S = true) : (Cond.castable A B).before a' U = true := by
  obtain ⟨c1, t1, h1, h2, h3⟩ := Cond.castable_spec hw
  have g1 : U.vm.findClass A = some c1 := by rw [hev.1.alike.findClass]; exact h1
  have g2 : U.vm.findClass B = some t1 := by rw [hev.1.alike.findClass]; exact h2
  have g3 : U.vm.assignable c1 t1 = true := by rw [hev.1.alike.assignable]; exact h3
  simp [Cond.before, Cond.holds, Cond.value, g1, g2, g3]
def jm_hs (S : State) (w : Cond) : Prop := (∃ C n d, w = .laysStatic C n d ∧ ∃ a0 : Array Value, (Cond.laysStatic C n d).before a0 S = true) ∨ (∃ C n d, w = .isRef (.static C n d) ∧ ∃ a0 : Array Value, (Cond.laysStatic C n d).before a0 S = true ∧ (Cond.isRef (.static C n d)).before a0 S = true) ∨ (∃ A B, w = .castable A B ∧ ∃ a0 : Array Value, (Cond.castable A B).before a0 S = true) ∨ ∃ x, w = .declares x ∧ va_Nw (.declares x) S
theorem jm_hs_w {S U : State} {a : Array Value} {w : Cond} (hev : jm_ev S U) (hw : jm_hs S w) : w.before a U = true := by
  rcases hw with ⟨C, n, d, rfl, a0, h1⟩ | ⟨C, n, d, rfl, a0, h1, h2⟩ | ⟨A, B, rfl, a0, h1⟩ | ⟨x, rfl, h1⟩
  · exact jm_stat hev h1
  · exact jm_sref hev h1 h2
  · exact jm_cast hev h1
  · exact va_Nw.use rfl (va_Nw.warmD hev.1 h1)
theorem jm_throw {Po : Outcome → jm_H → Prop} (X : jm_cx p s m args c S D cl tys G cc nL own) (hst : l.stackTraces = false) {cls : String} {names : List String} {ik ic ci : Nat} {T0 : u_T} (hcls : Bundle.fit cls = true) (hnames : ∀ n ∈ names, Bundle.fit n = true)
    (d0 : decode cc pc = .ok (.new ik, 3)) (d3 : decode cc (pc + 3) = .ok (.dup, 1)) (d4 : decode cc (pc + 4) = .ok (.invokespecial ic, 3)) (d7 : decode cc (pc + 7) = .ok (.athrow, 1))
    (w1 : Cond.classLink own ik cls ∈ G) (w2 : Cond.instantiable cls 6 ∈ G) (w3 : Cond.initialized cls ∈ G) (hat : ∀ w ∈ Bundle.ownAtoms0 own ic cls names, w ∈ G ∨ jm_hs S w) (hci : cl[ci]? = some (cls, T0, 0)) (hout : c.exceptionTable.isEmpty = true) (hk : meth.locks = false)
    (hR1 : names.length + 3 < R.frames) (hR2 : ((Value.ref 0 :: rest).map fun v => v.category).sum + (13 * (names.length + 1) + 41) ≤ R.locals) (hcells : dc + 1 ≤ R.cells) (hslots : ds + 6 ≤ R.slots)
    (hP : ∀ q : Nat, h q = none → S.heap.size ≤ q → Po (.threw q) (jm_up h q (.inr (ci, [])))) : jm_W p l e R s m args below meth c S D cl (jm_Q S D cl below s Po (dc + 1) (ds + 6)) nL pc lv rest h dc ds := by
  intro H ls locs hl hr hS T hT Y
  subst hT
  have htr : e.platform.stackTraces = false := (show e.platform.stackTraces = l.stackTraces by rw [Y.admits.platform]).trans hst
  have Z := jm_rebase Y (by omega) (by omega)
  have hevT := jm_evT X hS Y.warmed
  have hev : jm_ev S (T.setFrames (.invoking m args :: below)) := hevT
  have hts := jm_en_w X.2.2.2.2.2.2.2 hev.1 args
  have hown : (T.setFrames (.invoking m args :: below)).vm.findClass own = some m.cls := by
    show T.vm.findClass own = _
    rw [Y.warmed.alike.findClass]
    exact X.2.2.2.1
  obtain ⟨vm₁, cX, kX, hfX, hkX, -, -, Z1, st1⟩ := Z.newCold X.1 (own := own) (C := cls) (index := ik) (n := 6) hown (hts _ w1) (hts _ w2) (hts _ w3) (g := F0 m pc ls rest) rfl (by rw [X.2.1]; exact d0) (by show 0 + 1 ≤ R.cells - dc; omega) (by show 0 + 6 ≤ R.slots - ds; omega)
  generalize hT1 : (T.setVm vm₁).pushCell { cls := cX, slots := kX.instanceTypes.map defaultValue, vm := .none } = T1 at Z1 st1
  have hcellA : T1.heap[T.heap.size]? = some (freshCell cX kX) := by rw [← hT1]; exact State.heap_pushCell_size _ _
  obtain ⟨U, hsteps, hrun, hend, hW, hsame, ce, hce, K⟩ := Z1.ctorThrow0 X.1 htr (own := own) (cls := cls) (names := names) (ic := ic) hown hcls hnames (fun w hw => by
      rcases hat w hw with h1 | h1
      · exact hts w h1
      · exact jm_hs_w hev h1) (fun y hy => by cases hy) hfX hkX hcellA (Nat.le_refl _)
    (g := F0 m (pc + 4) ls (.ref T.heap.size :: .ref T.heap.size :: rest)) rfl (hl.1.trans X.2.2.1.symm) rfl rfl (rest := rest) rfl (by rw [X.2.1]; exact d4) (by rw [X.2.1]; exact d7) (covers_of_empty hout _) hR1 (by
      show 2 * 0 + _ + _ ≤ R.locals
      have : ((Value.ref T.heap.size :: rest).map fun v => v.category).sum = ((Value.ref 0 :: rest).map fun v => v.category).sum := rfl
      omega) (hlocks := hk)
  obtain ⟨hz, hold⟩ := jm_sameOf (s := T.setFrames (.invoking m args :: below)) (L := []) hsame
  have hz : T.heap.size ≤ U.heap.size := hz
  have hold : ∀ q : Nat, q < T.heap.size → U.heap[q]? = T.heap[q]? := hold
  have hnew : h T.heap.size = none := by
    cases hh : h T.heap.size with
    | none => rfl
    | some z => exact absurd (hr _ _ hh).2.lt (Nat.lt_irrefl _)
  have hsz : S.heap.size ≤ T.heap.size := hevT.2.1
  have hKc := (va_K.moved hevT.1.alike X.2.2.2.2.2.2.2.2.2).1 ci _ hci
  refine ⟨U, ?_, .threw T.heap.size, hrun, hend, ⟨_, hP _ hnew hsz, ?_⟩, ⟨Nat.le_trans hS.1 hz, fun q a b => (hold q (Nat.lt_of_lt_of_le a hS.1)).trans (hS.2.1 q a b)⟩, State.WarmedH.trans Y.warmed hW, locs ++ [], ?_, fun q hq => hS.2.2 q (by simpa using hq)⟩
  · refine st1 _ ?_
    show Steps p.tables e below (T1.setTop (F0 m (pc + 3) ls (.ref T.heap.size :: rest))) _
    jvm_step Z1.here [Z1.here.top, X.1, X.2.1, d3, Value.category]
    exact hsteps
  · intro a x hx
    by_cases e1 : a = T.heap.size
    · subst e1
      rw [jm_up_eq] at hx
      cases hx
      refine ⟨hsz, _, hci, ce, hce, ?_, K.vm, fun k hk => absurd hk (Nat.not_lt_zero _)⟩
      exact Option.some.inj (K.cls.symm.trans hKc.2.1)
    · rw [jm_up_ne _ _ e1] at hx
      obtain ⟨g1, g2⟩ := hr a x hx
      refine ⟨g1, ?_⟩
      have hk := hold a g2.lt
      exact va_at.kept g2 hk
  · have h1 : s.sameButNew ((T.setFrames (.invoking m args :: below)).setVm s.vm) locs dc ds := (Y.ends _).2
    have h2 := State.sameButNew.setVm hsame s.vm
    have h3 := h1.trans h2
    rw [Nat.zero_add, Nat.zero_add] at h3
    exact h3
end JM8
