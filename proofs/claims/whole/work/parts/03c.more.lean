section JM7
variable {p : Program} {l : Launch} {e : Env} {R : Room} {s : State} {m : MethodId} {args : Array Value} {below : List Frame} {meth : Method} {c : Code} {Q : State → Prop}
variable {S : State} {D : va_G} {cl : List vw_C} {tys : List (ClassId × FieldType)} {G : List Cond} {cc : ByteArray} {nL pc dc ds : Nat} {own : String} {lv : List (Nat × Value)} {rest : List Value} {h : jm_H}
theorem jm_lif_eq (X : jm_cx p s m args c S D cl tys G cc nL own) {x y : Int64} {off : Int} {tgt : Nat} (hd : decode cc pc = .ok (.ifCond .eq off, 3)) (ht : (pc : Int) + off = (tgt : Int)) (kt : x = y → jm_W p l e R s m args below meth c S D cl Q nL (tgt) lv (rest) h dc ds) (kf : ¬ x = y → jm_W p l e R s m args below meth c S D cl Q nL (pc + 3) lv (rest) h dc ds) : jm_W p l e R s m args below meth c S D cl Q nL (pc) lv (.int (lg_cmp x y) :: rest) h dc ds := jm_if_eq X hd ht (fun q => kt ((lg_cmp_eq x y).mp q)) (fun q => kf (fun z => q ((lg_cmp_eq x y).mpr z)))
theorem jm_lif_ne (X : jm_cx p s m args c S D cl tys G cc nL own) {x y : Int64} {off : Int} {tgt : Nat} (hd : decode cc pc = .ok (.ifCond .ne off, 3)) (ht : (pc : Int) + off = (tgt : Int)) (kt : ¬ x = y → jm_W p l e R s m args below meth c S D cl Q nL (tgt) lv (rest) h dc ds) (kf : x = y → jm_W p l e R s m args below meth c S D cl Q nL (pc + 3) lv (rest) h dc ds) : jm_W p l e R s m args below meth c S D cl Q nL (pc) lv (.int (lg_cmp x y) :: rest) h dc ds := jm_if_ne X hd ht (fun q => kt (fun z => q ((lg_cmp_eq x y).mpr z))) (fun q => kf ((lg_cmp_eq x y).mp q))
theorem jm_lif_lt (X : jm_cx p s m args c S D cl tys G cc nL own) {x y : Int64} {off : Int} {tgt : Nat} (hd : decode cc pc = .ok (.ifCond .lt off, 3)) (ht : (pc : Int) + off = (tgt : Int)) (kt : x < y → jm_W p l e R s m args below meth c S D cl Q nL (tgt) lv (rest) h dc ds) (kf : ¬ x < y → jm_W p l e R s m args below meth c S D cl Q nL (pc + 3) lv (rest) h dc ds) : jm_W p l e R s m args below meth c S D cl Q nL (pc) lv (.int (lg_cmp x y) :: rest) h dc ds := jm_if_lt X hd ht (fun q => kt ((lg_cmp_lt x y).mp q)) (fun q => kf (fun z => q ((lg_cmp_lt x y).mpr z)))
theorem jm_lif_ge (X : jm_cx p s m args c S D cl tys G cc nL own) {x y : Int64} {off : Int} {tgt : Nat} (hd : decode cc pc = .ok (.ifCond .ge off, 3)) (ht : (pc : Int) + off = (tgt : Int)) (kt : y ≤ x → jm_W p l e R s m args below meth c S D cl Q nL (tgt) lv (rest) h dc ds) (kf : ¬ y ≤ x → jm_W p l e R s m args below meth c S D cl Q nL (pc + 3) lv (rest) h dc ds) : jm_W p l e R s m args below meth c S D cl Q nL (pc) lv (.int (lg_cmp x y) :: rest) h dc ds := jm_if_ge X hd ht (fun q => kt ((lg_cmp_ge x y).mp q)) (fun q => kf (fun z => q ((lg_cmp_ge x y).mpr z)))
theorem jm_lif_gt (X : jm_cx p s m args c S D cl tys G cc nL own) {x y : Int64} {off : Int} {tgt : Nat} (hd : decode cc pc = .ok (.ifCond .gt off, 3)) (ht : (pc : Int) + off = (tgt : Int)) (kt : y < x → jm_W p l e R s m args below meth c S D cl Q nL (tgt) lv (rest) h dc ds) (kf : ¬ y < x → jm_W p l e R s m args below meth c S D cl Q nL (pc + 3) lv (rest) h dc ds) : jm_W p l e R s m args below meth c S D cl Q nL (pc) lv (.int (lg_cmp x y) :: rest) h dc ds := jm_if_gt X hd ht (fun q => kt ((lg_cmp_gt x y).mp q)) (fun q => kf (fun z => q ((lg_cmp_gt x y).mpr z)))
theorem jm_lif_le (X : jm_cx p s m args c S D cl tys G cc nL own) {x y : Int64} {off : Int} {tgt : Nat} (hd : decode cc pc = .ok (.ifCond .le off, 3)) (ht : (pc : Int) + off = (tgt : Int)) (kt : x ≤ y → jm_W p l e R s m args below meth c S D cl Q nL (tgt) lv (rest) h dc ds) (kf : ¬ x ≤ y → jm_W p l e R s m args below meth c S D cl Q nL (pc + 3) lv (rest) h dc ds) : jm_W p l e R s m args below meth c S D cl Q nL (pc) lv (.int (lg_cmp x y) :: rest) h dc ds := jm_if_le X hd ht (fun q => kt ((lg_cmp_le x y).mp q)) (fun q => kf (fun z => q ((lg_cmp_le x y).mpr z)))
theorem jm_tabEq (X : jm_cx p s m args c S D cl tys G cc nL own) {dflt lo hi : Int} {offs : Array Int} {len : Nat} {x k : Int32} {off : Int} {tgt : Nat} (hd : decode cc pc = .ok (.tableswitch dflt lo hi offs, len)) (hx : x = k) (h1 : ¬ k.toInt < lo) (h2 : ¬ hi < k.toInt) (ho : offs[(k.toInt - lo).toNat]? = some off) (ht : (pc : Int) + off = (tgt : Int)) (kk : jm_W p l e R s m args below meth c S D cl Q nL (tgt) lv (rest) h dc ds) : jm_W p l e R s m args below meth c S D cl Q nL (pc) lv (.int x :: rest) h dc ds := by
  subst hx
  exact jm_tabIn X hd h1 h2 ho ht kk
theorem jm_ofWF {y : MethodName} {maxL : Nat} {ret : Option FieldType} {rm : Room} {As : List Value} {Po : Outcome → jm_H → Prop} {mc ms : Nat} (E : jm_en S D cl tys G) (hy : plainFor y = true) (hL : (lg_sl As).length ≤ maxL)
    (body : ∀ (p : Program) (e : Env) (s : State) (m : MethodId) (below : List Frame) (meth : Method) (c : Code), jm_cx p s m As.toArray c S D cl tys G cc maxL y.cls → meth.sig.returnType = ret → meth.locks = false → meth.name = y.name → c.exceptionTable.isEmpty = true → l.admits e →
      jm_W p l e rm s m As.toArray below meth c S D cl (jm_Q S D cl below s Po mc ms) maxL 0 (lv_args 0 As) [] h 0 0) : jm_M l S D cl y (Cond.code y cc maxL ret) rm As h Po mc ms := by
  refine MetFree.of_bodySF (code := cc) (maxLocals := maxL) (ret := ret) hy ?_ ?_
  · intro args s m hp hn
    obtain ⟨meth, c, h1, h2, h3, h4, h5, h6, -, -⟩ := Cond.code_spec hn (atoms_spec (ws := [Cond.code y cc maxL ret]) hp _ List.mem_cons_self)
    exact ⟨meth, c, h1, h2, h3, h4, h5, h6⟩
  · intro p e s m args below meth c s₁ B hml hP _
    obtain ⟨rfl, hev, hld⟩ := hP
    have hh0 : s₁.heap = s.heap := by rw [B.state]; rfl
    have hcode := atoms_spec (ws := [Cond.code y cc maxL ret]) B.pre _ List.mem_cons_self
    obtain ⟨meth', c', q1, q2, -, -, -, -, q7, -⟩ := Cond.code_spec B.named hcode
    have X := Stand.of_body B
    have e1 : meth' = meth := Option.some.inj (q1.symm.trans B.method)
    subst e1
    have e2 : c' = c := Option.some.inj (q2.symm.trans X.code)
    subst e2
    have hl := lv_entry As (n := maxL) hL
    have hw := body p e s m below meth' c' ⟨B.exec, B.bytes, hml, findClass_of_methodNamed B.named, jm_en_w E hev.1 _, va_K.moved hev.1.alike E.2.2, hev, E⟩ B.returns B.notSynchronized (name_of_methodNamed B.named B.method).1 q7 B.admits s.heap _ [] hl hld va_S.rf
    rw [← lg_entry_eq] at hw
    obtain ⟨t, a1, o, b1, b2, b3⟩ := hw s₁ hh0 X
    exact ⟨t, o, a1, b1, b2, b3⟩
end JM7
