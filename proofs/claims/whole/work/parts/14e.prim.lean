section JY
variable {p : Program} {l : Launch} {e : Env} {R : Room} {s : State} {m : MethodId} {args : Array Value} {below : List Frame} {meth : Method} {c : Code} {Q : State → Prop}
variable {S : State} {D : va_G} {cl : List vw_C} {tys : List (ClassId × FieldType)} {G : List Cond} {cc : ByteArray} {nL pc dc ds : Nat} {own : String} {lv : List (Nat × Value)} {rest st : List Value} {h : jm_H}
theorem jm_callVS (X : jm_cx p s m args c S D cl tys G cc nL own) {index b : Nat} {y : MethodName} {wc : Cond} {rm : Room} {As : List Value} {Po : Outcome → jm_H → Prop} {mc ms maxL : Nat} (hd : decode cc pc = .ok (.invokevirtual index, 3)) (hM : jm_M l S D cl y wc rm (.ref b :: As) h Po mc ms) (hci : jm_ci G y wc maxL As.length) (hlk : Cond.methodLink own index y ∈ G ∨ ∃ host, Cond.methodLinkNest own index y host ∈ G) (hin : Cond.instanceMethod y ∈ G) (hse : Cond.selects y.cls y y ∈ G) (hb : va_O y.cls b (fun q => S.heap.size ≤ q) S S.heap) (hst : st = As.reverse ++ .ref b :: rest) (hrest : (rest.map fun v => v.category).sum ≤ 8) (hR : rm.frames + 1 ≤ R.frames ∧ 8 + (maxL + 11) + rm.locals ≤ R.locals) (hrm : rm.cells = mc ∧ rm.slots = ms) (hcs : dc + mc ≤ R.cells ∧ ds + ms ≤ R.slots)
    (k : ∀ o h1, Po o h1 → jm_K p l e R s m args below meth c S D cl Q nL pc lv rest h1 (dc + mc) (ds + ms) o) : jm_W p l e R s m args below meth c S D cl Q nL pc lv st h dc ds := by
  intro H ls locs hl hr hS T hT Y
  have hts := X.2.2.2.2.1
  obtain ⟨mk, methM, cM, hn, hmM, hcM, hlM, hsig⟩ := jm_cod hci.2.1 (hts _ hci.1)
  obtain ⟨mk2, methM2, hn2, hmM2, hstM, habM⟩ := Cond.instanceMethod_spec (hts _ hin)
  cases hn.symm.trans hn2
  cases hmM.symm.trans hmM2
  have hlen : As.length = methM.sig.parameters.length := by
    have h2 := hci.2.2.2.2
    rw [hsig] at h2
    exact (Option.some.inj h2).symm
  obtain ⟨cellB, hcB, hoB, hclB, -⟩ := ((va_O.moved X.2.2.2.2.2.2.1.1.alike hb).kept (jm_keptS X)).kept hS.2.1
  obtain ⟨c2, r2, m2, q1, q2, q3, q4, kP, hkP, hkPi⟩ := Cond.selects_spec (hts _ hse)
  cases hclB.symm.trans q1
  cases (State.methodFound?_of_named hn hci.2.2.2.1).symm.trans q2
  cases hn.symm.trans q3
  have hselP : selectMethod e.platform s.vm cellB.cls mk = .method mk := by rw [Launch.admits_selectMethod Y.admits]; exact q4
  have key : ∃ vm', Stand p l e R s m args below meth c (T.setVm vm') locs dc ds ∧ ∀ target, (∀ acts, Steps p.tables e below (doInvoke e ((T.setVm vm').setTop (F0 m pc ls rest)) acts mk (Value.ref b :: As).toArray).1 target) → Steps p.tables e below (T.setTop (F0 m pc ls st)) target := by
    rcases hlk with hw | ⟨host, hw⟩
    · exact Y.invokevirtual X.1 X.2.2.2.1 (hts _ hw) hn hmM hstM hkP hkPi hci.2.2.2.1 (a := b) (cell := cellB) (by rw [hT]; exact hcB) (fun z hz => by rw [hz] at hoB; cases hoB) hselP hmM habM hkP hkPi (g := F0 m pc ls st) rfl (argsL := As) (rest := rest) hlen hst (by rw [X.2.1]; exact hd)
    · exact Y.invokevirtualNest X.1 X.2.2.2.1 (hts _ hw) hn hmM hstM hkP hkPi hci.2.2.2.1 (a := b) (cell := cellB) (by rw [hT]; exact hcB) (fun z hz => by rw [hz] at hoB; cases hoB) hselP hmM habM hkP hkPi (g := F0 m pc ls st) rfl (argsL := As) (rest := rest) hlen hst (by rw [X.2.1]; exact hd)
  obtain ⟨vm', Y1, st1⟩ := key
  exact jm_cal X (T1 := T.setVm vm') (As := .ref b :: As) hT hl hr hS Y1 hn st1 hd hM hci hrest hR hrm hcs k
theorem jm_getfK (X : jm_cx p s m args c S D cl tys G cc nL own) {C n d : String} {index b : Nat} {v : Value} (hd : decode cc pc = .ok (.getfield index, 3)) (hb : va_OF C n d v b (fun q => S.heap.size ≤ q) S S.heap) (hw : Cond.fieldLink own index C n d ∈ G) (kk : jm_W p l e R s m args below meth c S D cl Q nL (pc + 3) lv (v :: rest) h dc ds) : jm_W p l e R s m args below meth c S D cl Q nL pc lv (.ref b :: rest) h dc ds := fun H ls locs hl hr hS =>
  vk_getf X.1 X.2.1 ((va_OF.moved X.2.2.2.2.2.2.1.1.alike hb).kept (jm_keptS X)) hS X.2.2.2.1 (X.2.2.2.2.1 _ hw) (fun _ q => q) hd (kk H ls locs hl hr hS)
theorem jm_baldK (X : jm_cx p s m args c S D cl tys G cc nL own) {b n : Nat} {f : Nat → Value} {i : Int32} (hd : decode cc pc = .ok (.baload, 1)) (hT : va_T .byte b n f (fun q => S.heap.size ≤ q) S S.heap) (hin : vp_in i n) (kk : jm_W p l e R s m args below meth c S D cl Q nL (pc + 1) lv (f i.toNatClampNeg :: rest) h dc ds) : jm_W p l e R s m args below meth c S D cl Q nL pc lv (.int i :: .ref b :: rest) h dc ds := fun H ls locs hl hr hS =>
  va_tb X.1 X.2.1 ((va_T.moved X.2.2.2.2.2.2.1.1.alike hT).kept (jm_keptS X)) hS hin rfl hd (kk H ls locs hl hr hS)
theorem jm_i2c (X : jm_cx p s m args c S D cl tys G cc nL own) {x v : Int32} (hd : decode cc pc = .ok (.i2c, 1)) (hv : (x.toUInt32 % 65536).toInt32 = v) (k : jm_W p l e R s m args below meth c S D cl Q nL (pc + 1) lv (.int v :: rest) h dc ds) : jm_W p l e R s m args below meth c S D cl Q nL pc lv (.int x :: rest) h dc ds := fun H ls locs hl hr hS => lv_i2c X.1 X.2.1 hd hv (k H ls locs hl hr hS)
theorem jm_oinit (X : jm_cx p s m args c S D cl tys G cc nL own) {index b : Nat} (hd : decode cc pc = .ok (.invokespecial index, 3)) (w1 : Cond.methodLink own index Lib.objectInit ∈ G) (w2 : Cond.instanceMethod Lib.objectInit ∈ G) (w3 : Cond.code Lib.objectInit ⟨#[0xb1]⟩ 1 none ∈ G) (hf : 1 ≤ R.frames) (hlo : (rest.map fun v => v.category).sum + 12 ≤ R.locals)
    (kk : jm_W p l e R s m args below meth c S D cl Q nL (pc + 3) lv rest h dc ds) : jm_W p l e R s m args below meth c S D cl Q nL pc lv (.ref b :: rest) h dc ds := fun H ls locs hl hr hS =>
  W.objInit X.1 X.2.1 X.2.2.2.1 (X.2.2.2.2.1 _ w1) (X.2.2.2.2.1 _ w2) (X.2.2.2.2.1 _ w3) (g := F0 m pc ls (.ref b :: rest)) rfl (hl.1.trans X.2.2.1.symm) rfl hd hf (by show 2 * 0 + _ + 12 ≤ _; omega) (kk H ls locs hl hr hS)
theorem jm_natN {x : MethodName} {s U : State} (hW : s.WarmedH U.vm) (hZ : va_Nw (.native x) s) : va_Nw (.native x) U := va_tabs rfl (rfl : (s.setVm U.vm).vm = U.vm) (by rw [Cond.native_setVm hW.alike]; exact hZ)
theorem jm_copy (X : jm_cx p s m args c S D cl tys G cc nL own) {index t0 a b n0 n1 : Nat} {cA : ClassId} {f g : Nat → Int32} {sp dp n : Int32} (hd : decode cc pc = .ok (.invokestatic index, 3)) (w1 : Cond.methodLink own index arraycopyName ∈ G) (w2 : Cond.static arraycopyName ∈ G) (w3 : Cond.initialized "java/lang/System" ∈ G) (w4 : va_Nw (.native arraycopyName) S) (ht : tys[t0]? = some (cA, .int)) (ha : h a = some (.inl (cA, n0, .inl f))) (hb : h b = some (.inl (cA, n1, .inl g)))
    (h1 : ¬ sp < 0) (h2 : ¬ dp < 0) (h3 : ¬ n < 0) (h4 : sp.toNatClampNeg + n.toNatClampNeg ≤ n0) (h5 : dp.toNatClampNeg + n.toNatClampNeg ≤ n1) (hf : 1 ≤ R.frames) (hlo : (rest.map fun v => v.category).sum + 18 ≤ R.locals)
    (kk : jm_W p l e R s m args below meth c S D cl Q nL (pc + 3) lv rest (jm_up h b (.inl (cA, n1, .inl (va_cpy f g sp.toNatClampNeg dp.toNatClampNeg n.toNatClampNeg)))) dc ds) : jm_W p l e R s m args below meth c S D cl Q nL pc lv (.int n :: .int dp :: .ref b :: .int sp :: .ref a :: rest) h dc ds := by
  intro H ls locs hl hr hS
  obtain ⟨q0, hq0⟩ := jm_place hr ha
  obtain ⟨q1, hq1⟩ := jm_place hr hb
  exact va_copyi X.1 X.2.1 (X.2.2.1.trans hl.1.symm) X.2.2.2.1 (X.2.2.2.2.1 _ w1) (va_Nw.use rfl (jm_natN X.2.2.2.2.2.2.1.1 w4)) (X.2.2.2.2.1 _ w2) (X.2.2.2.2.1 _ w3) X.2.2.2.2.2.1 (jm_P hr) (jm_D hr) hS q0 q1 t0 t0 hq0 hq1 ht ht rfl h1 h2 h3 h4 h5 (fun _ _ => rfl) hf (by
    have : nativeFrameWords "java/lang/System" "arraycopy" 5 + 11 = 18 := by decide
    rw [this]; exact hlo) hd (fun H1 locs1 hP1 _ hS1 => kk H1 ls locs1 hl (jm_set hr hq1 hP1) hS1)
theorem jx_cp_len {sp dp n : Nat} {f g : List Value} (h1 : sp + n ≤ f.length) (h2 : dp + n ≤ g.length) : (jx_cp sp dp n f g).length = g.length := by
  simp only [jx_cp, List.length_append, List.length_take, List.length_drop]
  omega
theorem jx_cp_get {sp dp n : Nat} {f g : List Value} {f' g' : Nat → Int32} (h1 : sp + n ≤ f.length) (h2 : dp + n ≤ g.length) (hf : ∀ (i : Nat) (v : Value), f[i]? = some v → v = .int (f' i)) (hg : ∀ (i : Nat) (v : Value), g[i]? = some v → v = .int (g' i)) : ∀ (i : Nat) (v : Value), (jx_cp sp dp n f g)[i]? = some v → v = .int (va_cpy f' g' sp dp n i) := by
  intro i v hv
  unfold jx_cp at hv
  unfold va_cpy
  by_cases e1 : i < dp
  · rw [List.append_assoc, List.getElem?_append_left (by rw [List.length_take]; omega), List.getElem?_take_of_lt e1] at hv
    rw [if_neg (by omega)]
    exact hg i v hv
  · by_cases e2 : i < dp + n
    · rw [List.append_assoc, List.getElem?_append_right (by rw [List.length_take]; omega), List.getElem?_append_left (by simp only [List.length_take, List.length_drop]; omega)] at hv
      rw [List.length_take, List.getElem?_take_of_lt (by omega), List.getElem?_drop] at hv
      rw [if_pos (by omega)]
      have := hf _ v hv
      rw [this]
      congr 2
      omega
    · rw [List.getElem?_append_right (by simp only [List.length_append, List.length_take, List.length_drop]; omega), List.getElem?_drop] at hv
      rw [if_neg (by omega)]
      have := hg _ v hv
      rw [this]
      congr 2
      simp only [List.length_append, List.length_take, List.length_drop]
      omega
end JY
