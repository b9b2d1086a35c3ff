section JW
abbrev jw_e : Type := ClassId × vp_A
def jw_c (q : jw_e) : Cell := vp_cell q.1 q.2
def jw_sz (L : List jw_e) : Nat := (L.map (fun q => q.2.1)).sum
theorem jw_sz_app (L1 L2 : List jw_e) : jw_sz (L1 ++ L2) = jw_sz L1 + jw_sz L2 := by simp [jw_sz]
theorem jw_c_size (q : jw_e) : (jw_c q).slots.size = q.2.1 := by
  obtain ⟨c, n, f⟩ := q
  rcases f with f | f | f | f | f <;> exact arrV_size _ _ _
/-- the state with these arrays made, one behind the other -/
def jw_pa (s : State) (L : List jw_e) : State := { s with heap := s.heap ++ (L.map jw_c).toArray, slotsUsed := s.slotsUsed + jw_sz L }
theorem jw_pa_nil (s : State) : jw_pa s [] = s := by simp [jw_pa, jw_sz]
theorem jw_pa_app (s : State) (L1 L2 : List jw_e) : jw_pa s (L1 ++ L2) = jw_pa (jw_pa s L1) L2 := by
  simp [jw_pa, jw_sz, Nat.add_assoc]
theorem jw_pa_one (s : State) (q : jw_e) : jw_pa s [q] = s.pushCell (jw_c q) := by
  simp [jw_pa, jw_sz, State.pushCell, jw_c_size]
theorem jw_pa_size (s : State) (L : List jw_e) : (jw_pa s L).heap.size = s.heap.size + L.length := by simp [jw_pa]
theorem jw_pa_get (s : State) (L : List jw_e) (j : Nat) : (jw_pa s L).heap[s.heap.size + j]? = (L[j]?).map jw_c := by
  simp only [jw_pa]
  rw [Array.getElem?_append_right (by omega)]
  simp
theorem jw_pa_old (s : State) (L : List jw_e) {j : Nat} (hj : j < s.heap.size) : (jw_pa s L).heap[j]? = s.heap[j]? := by
  simp [jw_pa, Array.getElem?_append, hj]
theorem jw_set (s : State) (x y : jw_e) (L : List jw_e) (h : y.2.1 = x.2.1) : (jw_pa s (x :: L)).setCell s.heap.size (jw_c y) = jw_pa s (y :: L) := by
  have e : (s.heap ++ ((x :: L).map jw_c).toArray).setIfInBounds s.heap.size (jw_c y) = s.heap ++ ((y :: L).map jw_c).toArray := by
    apply Array.toList_inj.mp
    simp [List.set_append]
  have e2 : jw_sz (x :: L) = jw_sz (y :: L) := by simp [jw_sz, h]
  unfold jw_pa State.setCell
  simp only [e, e2]
theorem jw_pa_top (s : State) (L : List jw_e) (f : JFrame) : (jw_pa s L).setTop f = jw_pa (s.setTop f) L := rfl
def jw_mk (e : Env) (vm : Vm) (act : Sem Addr) (cs : Nat → List jw_e) (kc ks : Nat) : Prop := (∀ h, (cs h).length = kc ∧ jw_sz (cs h) = ks) ∧
  ∀ (E : CtlPost) (d : Bool) (acts : List Action) (s : State) (Q : Addr → Pre), s.vm = vm → s.heap.size + kc ≤ e.platform.maxCells → s.slotsUsed + ks ≤ e.platform.maxSlots → (∀ d' acts', Q s.heap.size d' acts' (jw_pa s (cs s.heap.size))) → wp act Q E e d acts s
theorem jw_new {E : CtlPost} {e : Env} {d : Bool} {acts : List Action} {s : State} {c comp : ClassId} {k : Class} {ty : FieldType} {n : Nat} {v : Value} (hk : s.vm.classes[c]? = some k) (hkind : k.kind = .array comp ty)
    (hl : ¬ n > e.platform.arrayLengthLimit) (hh : ¬ n * componentBytes ty > e.platform.maxHeapBytes) (hf : fits ty v = true) (hd : v.isDefault = true) (h1 : s.heap.size < e.platform.maxCells) (h2 : s.slotsUsed + n ≤ e.platform.maxSlots)
    {Q : Addr → Pre} (hq : Q s.heap.size d acts (s.pushCell (arrV c n (fun _ => v)))) : wp (Jvm.newArray c n v) Q E e d acts s := by
  have hz : ∀ (i : Nat) (w : Value), (Array.replicate n v)[i]? = some w → s.fitsSlot c .none i w = true := fun i w hw => by
    rw [Array.getElem?_replicate] at hw
    split at hw
    · cases hw
      simp [State.fitsSlot, State.slotType?, hk, hkind, hf]
    · cases hw
  have ha : allocActs (Array.replicate n v) s.heap.size acts = acts := by
    have : ((Array.replicate n v).all (fun w => w.isDefault)) = true := by
      rw [Array.all_replicate]
      split <;> simp [hd]
    unfold allocActs
    rw [if_pos this]
  rw [← arrV_new] at hq
  simp only [Jvm.newArray, Jvm.arrayFits, wp_bind', W.ask, W.ite, hl, if_false, wp_pure', W.theClass, hk, hkind, hh, W.alloc, W.stop, Option.some.injEq, exists_eq_left', Array.size_replicate, ha]
  rw [if_neg (by omega)]
  exact ⟨h1, h2, hz, hq⟩
theorem jw_leaf {e : Env} {vm : Vm} {c comp : ClassId} {k : Class} {ty : FieldType} {m : Int32} {a0 : vp_A} (hk : vm.classes[c]? = some k) (hkind : k.kind = .array comp ty) (hm : ¬ m < 0) (hl : ¬ m.toNatClampNeg > e.platform.arrayLengthLimit) (hh : ¬ m.toNatClampNeg * componentBytes ty > e.platform.maxHeapBytes)
    (hf : fits ty (defaultValue ty) = true) (hd : (defaultValue ty).isDefault = true) (ha : vp_cell c a0 = arrV c m.toNatClampNeg (fun _ => defaultValue ty)) (hn : a0.1 = m.toNatClampNeg) : jw_mk e vm (Op.multianewarray.make c [m]) (fun _ => [(c, a0)]) 1 m.toNatClampNeg := by
  refine ⟨fun h => ⟨rfl, by simp [jw_sz, hn]⟩, fun E d acts s Q hvm h1 h2 hq => ?_⟩
  subst hvm
  rw [Op.multianewarray.make]
  simp only [wp_bind', W.ite, hm, if_false, wp_pure', W.theClass, hk, hkind, Option.some.injEq, exists_eq_left']
  refine jw_new hk hkind hl hh hf hd (by omega) h2 ?_
  have := hq d acts
  rw [jw_pa_one] at this
  rw [← ha]
  exact this
/-- the array of the rows, with its first i rows in place -/
def jw_oc (c : ClassId) (n h kc i : Nat) : jw_e := (c, n, .inr (.inr (.inr (.inr (fun j => if j < i then some (h + 1 + j * kc) else none)))))
def jw_in (cs : Nat → List jw_e) (kc h : Nat) : Nat → List jw_e
  | 0 => []
  | i + 1 => jw_in cs kc h i ++ cs (h + 1 + i * kc)
def jw_cs (c : ClassId) (n : Nat) (cs : Nat → List jw_e) (kc h : Nat) : List jw_e := jw_oc c n h kc n :: jw_in cs kc h n
theorem jw_in_len {cs : Nat → List jw_e} {kc ks : Nat} (hc : ∀ h, (cs h).length = kc ∧ jw_sz (cs h) = ks) (h : Nat) : ∀ i, (jw_in cs kc h i).length = i * kc ∧ jw_sz (jw_in cs kc h i) = i * ks
  | 0 => ⟨by simp [jw_in], by simp [jw_in, jw_sz]⟩
  | i + 1 => by
    obtain ⟨h1, h2⟩ := jw_in_len hc h i
    exact ⟨by rw [jw_in, List.length_append, h1, (hc _).1, Nat.succ_mul], by rw [jw_in, jw_sz_app, h2, (hc _).2, Nat.succ_mul]⟩
theorem jw_oc_st (c : ClassId) (n h kc i : Nat) : (jw_c (jw_oc c n h kc i)).setSlot i (.ref (h + 1 + i * kc)) = jw_c (jw_oc c n h kc (i + 1)) := by
  show (arrV c n (fun j => va_rf (if j < i then some (h + 1 + j * kc) else none))).setSlot i _ = arrV c n (fun j => va_rf (if j < i + 1 then some (h + 1 + j * kc) else none))
  rw [arrV_store]
  congr 1
  funext j
  by_cases e : j = i
  · subst e
    simp [updV, va_rf]
  · have : (j < i + 1) ↔ (j < i) := by omega
    simp [updV, e, this]
theorem jw_step {e : Env} {vm : Vm} {c comp : ClassId} {k : Class} {ty : FieldType} {n r0 : Int32} {rs : List Int32} {cs : Nat → List jw_e} {kc ks : Nat} (hk : vm.classes[c]? = some k) (hkind : k.kind = .array comp ty) (href : ty.isReference = true) (hn : ¬ n < 0) (hr : (r0 :: rs).find? (· < 0) = none)
    (hl : ¬ n.toNatClampNeg > e.platform.arrayLengthLimit) (hh : ¬ n.toNatClampNeg * componentBytes ty > e.platform.maxHeapBytes) (I : jw_mk e vm (Op.multianewarray.make comp (r0 :: rs)) cs kc ks) :
    jw_mk e vm (Op.multianewarray.make c (n :: r0 :: rs)) (jw_cs c n.toNatClampNeg cs kc) (1 + n.toNatClampNeg * kc) (n.toNatClampNeg + n.toNatClampNeg * ks) := by
  have hrf : ∀ v : Value, (v = .null ∨ ∃ a, v = .ref a) → fits ty v = true := fun v hv => by
    rcases hv with rfl | ⟨a, rfl⟩ <;> cases ty <;> simp [FieldType.isReference] at href <;> rfl
  have hlen := fun h i => jw_in_len I.1 h i
  refine ⟨fun h => ⟨?_, ?_⟩, fun E d acts s Q hvm h1 h2 hq => ?_⟩
  · simp only [jw_cs, List.length_cons, (hlen h _).1]
    omega
  · have : jw_sz (jw_cs c n.toNatClampNeg cs kc h) = n.toNatClampNeg + jw_sz (jw_in cs kc h n.toNatClampNeg) := by simp [jw_cs, jw_sz, jw_oc]
    rw [this, (hlen h _).2]
  subst hvm
  rw [Op.multianewarray.make]
  simp only [wp_bind', W.ite, hn, if_false, wp_pure', W.theClass, hk, hkind, Option.some.injEq, exists_eq_left']
  refine jw_new hk hkind hl hh (hrf _ (Or.inl rfl)) rfl (by omega) (by have := Nat.zero_le (n.toNatClampNeg * ks); omega) ?_
  simp only [hr]
  rw [ite_self, wp_bind', Std.Legacy.Range.forIn_eq_forIn_range']
  have hsz : ([:n.toNatClampNeg] : Std.Legacy.Range).size = n.toNatClampNeg := by simp [Std.Legacy.Range.size]
  rw [hsz]
  have h0 : s.pushCell (arrV c n.toNatClampNeg (fun _ => Value.null)) = jw_pa s (jw_oc c n.toNatClampNeg s.heap.size kc 0 :: jw_in cs kc s.heap.size 0) := by
    rw [jw_in, jw_pa_one]
    congr 1
  rw [h0]
  show wp (forIn (List.range' 0 n.toNatClampNeg 1) PUnit.unit _) _ E e d acts _
  refine wp_forIn_inv (fun rest s' => ∃ i, i ≤ n.toNatClampNeg ∧ rest = List.range' i (n.toNatClampNeg - i) ∧ s' = jw_pa s (jw_oc c n.toNatClampNeg s.heap.size kc i :: jw_in cs kc s.heap.size i)) _ _ ⟨0, Nat.zero_le _, rfl, rfl⟩ ?_ ?_
  · rintro x rest s' d' acts' Q' ⟨i, hi, hl2, rfl⟩ hnext
    have hlt : i < n.toNatClampNeg := by
      rcases Nat.lt_or_ge i n.toNatClampNeg with h | h
      · exact h
      · rw [show n.toNatClampNeg - i = 0 by omega] at hl2
        cases hl2
    rw [show n.toNatClampNeg - i = (n.toNatClampNeg - (i + 1)) + 1 by omega, List.range'_succ] at hl2
    obtain ⟨rfl, hrest⟩ := List.cons.inj hl2
    have hm1 : x * kc + kc ≤ n.toNatClampNeg * kc := by
      have := Nat.mul_le_mul_right kc (show x + 1 ≤ n.toNatClampNeg from hlt)
      rw [Nat.succ_mul] at this
      exact this
    have hm2 : x * ks + ks ≤ n.toNatClampNeg * ks := by
      have := Nat.mul_le_mul_right ks (show x + 1 ≤ n.toNatClampNeg from hlt)
      rw [Nat.succ_mul] at this
      exact this
    have z1 : (jw_pa s (jw_oc c n.toNatClampNeg s.heap.size kc x :: jw_in cs kc s.heap.size x)).heap.size = s.heap.size + 1 + x * kc := by
      rw [jw_pa_size, List.length_cons, (hlen _ _).1]
      omega
    have z2 : (jw_pa s (jw_oc c n.toNatClampNeg s.heap.size kc x :: jw_in cs kc s.heap.size x)).slotsUsed = s.slotsUsed + n.toNatClampNeg + x * ks := by
      show s.slotsUsed + jw_sz _ = _
      have : jw_sz (jw_oc c n.toNatClampNeg s.heap.size kc x :: jw_in cs kc s.heap.size x) = n.toNatClampNeg + jw_sz (jw_in cs kc s.heap.size x) := by simp [jw_sz, jw_oc]
      rw [this, (hlen _ _).2]
      omega
    simp only [wp_bind']
    refine I.2 E d' acts' _ _ rfl (by rw [z1]; omega) (by rw [z2]; omega) (fun d2 acts2 => ?_)
    rw [z1, ← jw_pa_app, List.cons_append]
    have e3 : jw_in cs kc s.heap.size x ++ cs (s.heap.size + 1 + x * kc) = jw_in cs kc s.heap.size (x + 1) := rfl
    rw [e3]
    simp only [wp_bind', W.writeLoc, wp_pure']
    refine ⟨jw_c (jw_oc c n.toNatClampNeg s.heap.size kc x), ?_, (fun q => by cases q), ?_, ?_, ?_⟩
    · have := jw_pa_get s (jw_oc c n.toNatClampNeg s.heap.size kc x :: jw_in cs kc s.heap.size (x + 1)) 0
      simpa using this
    · rw [jw_c_size]
      exact hlt
    · show State.fitsSlot _ c .none x _ = true
      have hk2 : (jw_pa s (jw_oc c n.toNatClampNeg s.heap.size kc x :: jw_in cs kc s.heap.size (x + 1))).vm.classes[c]? = some k := hk
      simp [State.fitsSlot, State.slotType?, hk2, hkind, hrf _ (Or.inr ⟨_, rfl⟩)]
    · rw [jw_oc_st, jw_set s (jw_oc c n.toNatClampNeg s.heap.size kc x) (jw_oc c n.toNatClampNeg s.heap.size kc (x + 1)) _ rfl]
      exact hnext _ _ _ ⟨x + 1, hlt, hrest, rfl⟩
  · rintro s' d' acts' ⟨i, hi, hl2, rfl⟩
    have : i = n.toNatClampNeg := by
      rcases Nat.lt_or_ge i n.toNatClampNeg with h | h
      · rw [show n.toNatClampNeg - i = (n.toNatClampNeg - (i + 1)) + 1 by omega, List.range'_succ] at hl2
        cases hl2
      · omega
    subst this
    simp only [wp_pure']
    exact hq _ _
theorem jw_ints {E : CtlPost} {e : Env} {s : State} {acts : List Action} {f : Value → Sem Int32} (hf : ∀ n, f (.int n) = Pure.pure n) : ∀ (Ls : List Int32) {d : Bool} {Q : List Int32 → Pre}, Q Ls d acts s → wp ((Ls.map Value.int).mapM f) Q E e d acts s
  | [], d, Q, h => by simpa using h
  | n :: Ls, d, Q, h => by
    rw [List.map_cons, List.mapM_cons, wp_bind', hf]
    show wp (do let rs ← (Ls.map Value.int).mapM f; Pure.pure (n :: rs)) Q E e d acts s
    rw [wp_bind']
    exact jw_ints hf Ls (Q := fun rs d acts s => Q (n :: rs) d acts s) h
theorem jw_sem {Q : Unit → Pre} {E : CtlPost} {e : Env} {d : Bool} {acts : List Action} {s : State} {f : JFrame} {index : Nat} {Ls : List Int32} {rest : List Value} {c : ClassId} {cs : Nat → List jw_e} {kc ks : Nat} (hs : s.topJava?.isSome) (hr : s.vm.classReady f.method.cls index c) (hstack : f.stack = (Ls.map Value.int).reverse ++ rest)
    (I : jw_mk e s.vm (Op.multianewarray.make c Ls) cs kc ks) (h1 : s.heap.size + kc ≤ e.platform.maxCells) (h2 : s.slotsUsed + ks ≤ e.platform.maxSlots) (hq : ∀ d' acts', Q () d' acts' ((jw_pa s (cs s.heap.size)).setTop { f with stack := .ref s.heap.size :: rest })) : wp (Op.multianewarray.sem index Ls.length) Q E e d acts (s.setTop f) := by
  have hle : Ls.length = (Ls.map Value.int).length := by simp
  unfold Op.multianewarray.sem
  simp only [wp_bind', W.resolveClassAt_ready (State.method?_setTop f hs) hr]
  rw [hle, Op.popN_top hs hstack, wp_bind']
  refine jw_ints ?_ Ls ?_
  · intro n
    rfl
  rw [wp_bind']
  refine I.2 E _ _ _ _ rfl h1 h2 (fun d' acts' => ?_)
  have ht : (jw_pa s (cs s.heap.size)).topJava?.isSome := hs
  have e1 : jw_pa (s.setTop { f with stack := rest }) (cs s.heap.size) = (jw_pa s (cs s.heap.size)).setTop { f with stack := rest } := rfl
  show wp _ _ E e d' acts' (jw_pa (s.setTop { f with stack := rest }) (cs s.heap.size))
  rw [e1]
  simp only [wp_bind', W.mark, W.pushRef, State.topJava?_setTop' _ ht, Option.some.injEq, exists_eq_left', State.setTop_setTop]
  exact hq _ _
theorem jw_cold {Q : Unit → Pre} {E : CtlPost} {e : Env} {d : Bool} {acts : List Action} {s : State} {f : JFrame} {index dm c : Nat} {vm' : Vm} (hs : s.topJava?.isSome) (hg : (Jvm.resolveClass f.method.cls index).Gives e.toSetting s.vm (.ok c) vm') (hr : vm'.classReady f.method.cls index c)
    (hsz : vm'.classes.size ≤ s.vm.classes.size) : wp (Op.multianewarray.sem index dm) Q E e d acts (s.setTop f) ↔ wp (Op.multianewarray.sem index dm) Q E e d acts ((s.setVm vm').setTop f) := by
  simp only [Op.multianewarray.sem, wp_bind']
  exact W.resolveClassAt_transfer (s := s.setTop f) (State.method?_setTop f hs) hg hr hsz
end JW
section JW2
variable {p : Program} {l : Launch} {e : Env} {R : Room} {s : State} {m : MethodId} {args : Array Value} {below : List Frame} {meth : Method} {c : Code} {Q : State → Prop}
variable {S : State} {D : va_G} {cl : List vw_C} {tys : List (ClassId × FieldType)} {G : List Cond} {cc : ByteArray} {nL pc dc ds : Nat} {own : String} {lv : List (Nat × Value)} {rest : List Value} {h : jm_H}
theorem jw_stand : ∀ (L : List jw_e) {T : State} {locs : List Loc} {cells slots : Nat}, Stand p l e R s m args below meth c T locs cells slots → Stand p l e R s m args below meth c (jw_pa T L) locs (cells + L.length) (slots + jw_sz L)
  | [], T, locs, cells, slots, X => by rw [jw_pa_nil]; exact X
  | q :: L, T, locs, cells, slots, X => by
    have h1 := X.pushed (jw_c q)
    rw [← jw_pa_one, jw_c_size] at h1
    have h2 := jw_stand L h1
    rw [← jw_pa_app] at h2
    have e1 : cells + (q :: L).length = cells + 1 + L.length := by rw [List.length_cons]; omega
    have e2 : slots + jw_sz (q :: L) = slots + q.2.1 + jw_sz L := by simp [jw_sz]; omega
    rw [e1, e2]
    exact h2
def jw_up (h : jm_H) (q : Nat) (L : List jw_e) : jm_H := fun b => if q ≤ b ∧ b < q + L.length then (L[b - q]?).map Sum.inl else h b
theorem jm_multi (X : jm_cx p s m args c S D cl tys G cc nL own) {C : String} {index : Nat} {Ls : List Int32} {c0 : ClassId} {cs : Nat → List jw_e} {kc ks : Nat} (hd : decode cc pc = .ok (.multianewarray index Ls.length, 4)) (hw : Cond.classLink own index C ∈ G) (hfc : s.vm.findClass C = some c0)
    (hI : l.admits e → ∀ vm : Vm, s.vm.Alike vm → jw_mk e vm (Op.multianewarray.make c0 Ls) cs kc ks) (hcells : dc + kc ≤ R.cells) (hslots : ds + ks ≤ R.slots)
    (kk : ∀ q : Nat, S.heap.size ≤ q → (∀ b : Nat, q ≤ b → h b = none) → jm_W p l e R s m args below meth c S D cl Q nL (pc + 4) lv (.ref q :: rest) (jw_up h q (cs q)) (dc + kc) (ds + ks)) : jm_W p l e R s m args below meth c S D cl Q nL pc lv ((Ls.map Value.int).reverse ++ rest) h dc ds := by
  intro H ls locs hl hr hS T hT Y
  have hpl : e.platform.magicAccessors = ({} : Platform).magicAccessors := by rw [Y.admits.platform]
  obtain ⟨c1, hfc1, hcl⟩ := Cond.classLink_spec X.2.2.2.1 (X.2.2.2.2.1 _ hw) e.platform hpl
  cases hfc.symm.trans hfc1
  obtain ⟨hg1, hwarm1, hready1⟩ := State.classEntry (e := e) Y.warmed hcl
  have hsz : (T.vm.noted m.cls index (.cls c0)).classes.size ≤ T.vm.classes.size := by no_record
  generalize T.vm.noted m.cls index (.cls c0) = vm1 at hg1 hwarm1 hready1 hsz
  have I := hI Y.admits vm1 hwarm1.alike
  have Y1 := jw_stand (cs T.heap.size) (Y.noted hwarm1)
  rw [(I.1 _).1, (I.1 _).2] at Y1
  obtain ⟨hr1, hr2⟩ := Y.roomAbove hcells hslots
  have hlS : S.heap.size ≤ H.size := Nat.le_trans X.2.2.2.2.2.2.1.2.1 hS.1
  have hfresh : ∀ b : Nat, H.size ≤ b → h b = none := fun b hb => by
    cases hh : h b with
    | none => rfl
    | some x =>
      have := (hr b x hh).2.lt
      exact absurd this (by show ¬ b < _; omega)
  have hH1 : (jw_pa (T.setVm vm1) (cs T.heap.size)).heap = H ++ ((cs H.size).map jw_c).toArray := by
    show T.heap ++ _ = _
    rw [hT]
  have old : ∀ b : Nat, b < H.size → (jw_pa (T.setVm vm1) (cs T.heap.size)).heap[b]? = H[b]? := fun b hb => by
    rw [jw_pa_old (T.setVm vm1) _ (show b < T.heap.size by rw [hT]; exact hb)]
    show T.heap[b]? = _
    rw [hT]
  obtain ⟨t, st, hq⟩ := kk H.size hlS hfresh (jw_pa (T.setVm vm1) (cs T.heap.size)).heap ls locs hl (fun b x hb => by
    unfold jw_up at hb
    split at hb
    next hc =>
      obtain ⟨y, hy, rfl⟩ := Option.map_eq_some_iff.mp hb
      refine ⟨by omega, ?_⟩
      show (jw_pa (T.setVm vm1) (cs T.heap.size)).heap[b]? = some (vp_cell y.1 y.2)
      have := jw_pa_get (T.setVm vm1) (cs T.heap.size) (b - H.size)
      rw [show (T.setVm vm1).heap.size + (b - H.size) = b by show T.heap.size + _ = b; rw [hT]; omega] at this
      rw [this, hT, hy]
      rfl
    next hc =>
      refine ⟨(hr b x hb).1, (hr b x hb).2.kept (old b ?_)⟩
      exact (hr b x hb).2.lt) ⟨Nat.le_trans hS.1 (by rw [hH1]; simp), fun b h1 h2 => (old b (Nat.lt_of_lt_of_le h1 hS.1)).trans (hS.2.1 b h1 h2), hS.2.2⟩ _ rfl Y1
  refine ⟨t, ?_, hq⟩
  rw [← hT] at st
  jvm_step Y.here [X.1, X.2.1, hd]
  rw [jw_cold (f := F0 m pc ls ((Ls.map Value.int).reverse ++ rest)) Y.here.top hg1 hready1 hsz]
  refine jw_sem (s := T.setVm vm1) (cs := cs) Y.here.top hready1 rfl I hr1 hr2 (fun d' acts' => ?_)
  intro acts
  rw [afterInstr_ok]
  exact st
end JW2
