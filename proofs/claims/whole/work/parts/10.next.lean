section JX4
variable {p : Program} {l : Launch} {e : Env} {R : Room} {s : State} {m : MethodId} {args : Array Value} {below : List Frame} {meth : Method} {c : Code} {Q : State → Prop}
variable {S : State} {D : va_G} {cl : List vw_C} {tys : List (ClassId × FieldType)} {G : List Cond} {cc : ByteArray} {nL pc dc ds : Nat} {own : String} {lv : List (Nat × Value)} {rest : List Value} {h : jm_H}
theorem jm_keptS (X : jm_cx p s m args c S D cl tys G cc nL own) : ∀ a : Nat, a < S.heap.size → ¬ S.heap.size ≤ a → s.heap[a]? = S.heap[a]? := fun a h1 _ => X.2.2.2.2.2.2.1.2.2 a h1
theorem jm_aaldA (X : jm_cx p s m args c S D cl tys G cc nL own) {t0 a n : Nat} {cA : ClassId} {ty : FieldType} {f : Nat → Option Nat} {i : Int32} (hd : decode cc pc = .ok (.aaload, 1)) (ht : tys[t0]? = some (cA, ty)) (hty : ty.isReference = true) (ha : h a = some (.inl (cA, n, .inr (.inr (.inr (.inr f)))))) (hin : vp_in i n) (kk : jm_W p l e R s m args below meth c S D cl Q nL (pc + 1) lv (va_rf (f i.toNatClampNeg) :: rest) h dc ds) : jm_W p l e R s m args below meth c S D cl Q nL (pc) lv (.int i :: .ref a :: rest) h dc ds := by
  intro H ls locs hl hr hS
  obtain ⟨q0, hq⟩ := jm_place hr ha
  have hlt : i.toNatClampNeg < n := Nat.not_le.mp fun q => hin (Or.inr q)
  exact W.aald (v := va_rf (f i.toNatClampNeg)) (ty := ty) X.1 X.2.1 (jm_P hr q0 _ hq) ((X.2.2.2.2.2.1.2 t0 _ ht).1 n (fun j => va_rf (f j))) hty (fun q => by cases q) (by show ¬ (i < 0 ∨ (arrV _ _ _).slots.size ≤ _); rw [arrV_size]; exact hin) (by show (arrV _ _ _).slots[_]? = _; rw [arrV_read _ _ hlt]) rfl rfl hd (kk H ls locs hl hr hS)
theorem jm_ialdK (X : jm_cx p s m args c S D cl tys G cc nL own) {b L : Nat} {xs : Nat → Int32} {i : Int32} (hd : decode cc pc = .ok (.iaload, 1)) (hX : va_X b L xs S S.heap) (hb : b < S.heap.size) (hin : vp_in i L) (kk : jm_W p l e R s m args below meth c S D cl Q nL (pc + 1) lv (.int (xs i.toNatClampNeg) :: rest) h dc ds) : jm_W p l e R s m args below meth c S D cl Q nL (pc) lv (.int i :: .ref b :: rest) h dc ds := fun H ls locs hl hr hS =>
  va_sld X.1 X.2.1 (va_X.kept (va_X.moved X.2.2.2.2.2.2.1.1.alike hX) (jm_keptS X b hb (Nat.not_le.mpr hb))) (Nat.lt_of_lt_of_le hb X.2.2.2.2.2.2.1.2.1) (Nat.not_le.mpr hb) hS hin hd (kk H ls locs hl hr hS)
theorem jm_alenK (X : jm_cx p s m args c S D cl tys G cc nL own) {b L : Nat} {xs : Nat → Int32} (hd : decode cc pc = .ok (.arraylength, 1)) (hX : va_X b L xs S S.heap) (hb : b < S.heap.size) (kk : jm_W p l e R s m args below meth c S D cl Q nL (pc + 1) lv (.int (Int32.ofNat L) :: rest) h dc ds) : jm_W p l e R s m args below meth c S D cl Q nL (pc) lv (.ref b :: rest) h dc ds := fun H ls locs hl hr hS =>
  va_slen X.1 X.2.1 (va_X.kept (va_X.moved X.2.2.2.2.2.2.1.1.alike hX) (jm_keptS X b hb (Nat.not_le.mpr hb))) (Nat.lt_of_lt_of_le hb X.2.2.2.2.2.2.1.2.1) (Nat.not_le.mpr hb) hS hd (kk H ls locs hl hr hS)
theorem jm_aastS (X : jm_cx p s m args c S D cl tys G cc nL own) {t0 a n v : Nat} {cA : ClassId} {C : String} {f : Nat → Option Nat} {i : Int32} (hd : decode cc pc = .ok (.aastore, 1)) (ht : tys[t0]? = some (cA, .object C)) (ha : h a = some (.inl (cA, n, .inr (.inr (.inr (.inr f)))))) (hv : va_O C v (fun q => S.heap.size ≤ q) S S.heap) (hin : vp_in i n) (kk : jm_W p l e R s m args below meth c S D cl Q nL (pc + 1) lv (rest) (jm_up h a (.inl (cA, n, .inr (.inr (.inr (.inr (va_up f i.toNatClampNeg (some v)))))))) dc ds) : jm_W p l e R s m args below meth c S D cl Q nL (pc) lv (.ref v :: .int i :: .ref a :: rest) h dc ds := by
  intro H ls locs hl hr hS
  obtain ⟨q0, hq⟩ := jm_place hr ha
  have h1 := (va_O.moved X.2.2.2.2.2.2.1.1.alike hv).kept (jm_keptS X)
  obtain ⟨cell, g1, g2, g3, g4⟩ := h1.kept hS.2.1
  obtain ⟨kC, hkC, -⟩ := Vm.findClass_spec g3
  have hA : va_Any C s H v := ⟨cell, g1, g2, ⟨kC, hkC⟩, fun comp hc => by
    cases g3.symm.trans hc
    exact va_asg _ _⟩
  exact va_astqM X.1 X.2.1 X.2.2.2.2.2.1 (jm_P hr) (jm_D hr) hS q0 t0 hq ht hA hin hd (fun H1 locs1 hP1 _ hS1 => kk H1 ls locs1 hl (jm_set hr hq hP1) hS1)
theorem jm_getsK (X : jm_cx p s m args c S D cl tys G cc nL own) {C n d : String} {index : Nat} {v : Value} (hd : decode cc pc = .ok (.getstatic index, 3)) (hZ : va_Z C n d v (fun q => S.heap.size ≤ q) S S.heap) (hw : Cond.fieldLink own index C n d ∈ G) (kk : jm_W p l e R s m args below meth c S D cl Q nL (pc + 3) lv (v :: rest) h dc ds) : jm_W p l e R s m args below meth c S D cl Q nL (pc) lv rest h dc ds := fun H ls locs hl hr hS =>
  va_gets X.1 X.2.1 ((va_Z.moved X.2.2.2.2.2.2.1.1.alike hZ).kept (jm_keptS X)) hS X.2.2.2.1 (X.2.2.2.2.1 _ hw) (fun _ q => q) hd (kk H ls locs hl hr hS)
theorem jm_ldcS (X : jm_cx p s m args c S D cl tys G cc nL own) {tx : String} {index q : Nat} (hd : decode cc pc = .ok (.ldc index, 2)) (hZ : vk_R own index tx q S) (kk : jm_W p l e R s m args below meth c S D cl Q nL (pc + 2) lv (.ref q :: rest) h dc ds) : jm_W p l e R s m args below meth c S D cl Q nL (pc) lv rest h dc ds := fun H ls locs hl hr hS =>
  va_ldcS X.1 X.2.1 X.2.2.2.1 (vk_R.warm X.2.2.2.2.2.2.1.1 hZ) hd (kk H ls locs hl hr hS)
theorem jm_newqA (X : jm_cx p s m args c S D cl tys G cc nL own) {C : String} {index t0 N : Nat} {cA : ClassId} {n : Int32} (hd : decode cc pc = .ok (.anewarray index, 3)) (hw : Cond.classLink own index C ∈ G) (hv : va_AO C S) (ht : tys[t0]? = some (cA, .object C)) (hn : ¬ n < 0) (hN : n.toNatClampNeg = N) (hb : N * 4 ≤ 536870912) (hcells : dc + 1 ≤ R.cells) (hslots : ds + N ≤ R.slots)
    (kk : ∀ q : Nat, h q = none → S.heap.size ≤ q → jm_W p l e R s m args below meth c S D cl Q nL (pc + 3) lv (.ref q :: rest) (jm_up h q (.inl (cA, N, .inr (.inr (.inr (.inr (fun _ => none))))))) (dc + 1) (ds + N)) : jm_W p l e R s m args below meth c S D cl Q nL pc lv (.int n :: rest) h dc ds := by
  intro H ls locs hl hr hS
  refine va_newq X.1 X.2.1 X.2.2.2.1 (X.2.2.2.2.1 _ hw) (va_AO.moved X.2.2.2.2.2.2.1.1.alike hv) X.2.2.2.2.2.1 (jm_P hr) (jm_D hr) hS (jm_A X) hn hN hb hcells hslots hd (fun q cA1 H1 hK1 hP1 hD1 hS1 => ?_)
  obtain ⟨_, _, _, _, _, e1⟩ := (hK1.2 tys.length (cA1, .object C) (by simp)).2
  obtain ⟨_, _, _, _, _, e2⟩ := (X.2.2.2.2.2.1.2 t0 _ ht).2
  have e3 : cA1 = cA := Option.some.inj (e1.symm.trans e2)
  subst e3
  obtain ⟨h1, h2, h3⟩ := jm_app hr hP1 hD1
  exact kk q h2 h3 H1 ls locs hl h1 hS1
theorem jm_alenT (X : jm_cx p s m args c S D cl tys G cc nL own) {b n : Nat} {ty : FieldType} {f : Nat → Value} (hd : decode cc pc = .ok (.arraylength, 1)) (hT : va_T ty b n f (fun q => S.heap.size ≤ q) S S.heap) (kk : jm_W p l e R s m args below meth c S D cl Q nL (pc + 1) lv (.int (Int32.ofNat n) :: rest) h dc ds) : jm_W p l e R s m args below meth c S D cl Q nL pc lv (.ref b :: rest) h dc ds := fun H ls locs hl hr hS =>
  va_tlen X.1 X.2.1 ((va_T.moved X.2.2.2.2.2.2.1.1.alike hT).kept (jm_keptS X)) hS rfl hd (kk H ls locs hl hr hS)
theorem jm_ialdT (X : jm_cx p s m args c S D cl tys G cc nL own) {b n : Nat} {xs : Nat → Int32} {i : Int32} (hd : decode cc pc = .ok (.iaload, 1)) (hT : va_T .int b n (fun j => .int (xs j)) (fun q => S.heap.size ≤ q) S S.heap) (hin : vp_in i n) (kk : jm_W p l e R s m args below meth c S D cl Q nL (pc + 1) lv (.int (xs i.toNatClampNeg) :: rest) h dc ds) : jm_W p l e R s m args below meth c S D cl Q nL pc lv (.int i :: .ref b :: rest) h dc ds := fun H ls locs hl hr hS =>
  va_ti X.1 X.2.1 ((va_T.moved X.2.2.2.2.2.2.1.1.alike hT).kept (jm_keptS X)) hS hin rfl hd (kk H ls locs hl hr hS)
end JX4
