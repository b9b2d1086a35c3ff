section JM0
abbrev jm_H : Type := Nat → Option va_E
def jm_up (h : jm_H) (a : Nat) (x : va_E) : jm_H := fun b => if b = a then some x else h b
theorem jm_up_eq (h : jm_H) (a : Nat) (x : va_E) : jm_up h a x a = some x := if_pos rfl
theorem jm_up_ne (h : jm_H) {a b : Nat} (x : va_E) (n : b ≠ a) : jm_up h a x b = h b := if_neg n
theorem jm_up_up (h : jm_H) (a : Nat) (x y : va_E) : jm_up (jm_up h a x) a y = jm_up h a y := by
  funext b
  by_cases e : b = a
  · subst e; rw [jm_up_eq, jm_up_eq]
  · rw [jm_up_ne _ _ e, jm_up_ne _ _ e, jm_up_ne _ _ e]
theorem jm_up_cm (h : jm_H) {a b : Nat} (x y : va_E) (n : a ≠ b) : jm_up (jm_up h a x) b y = jm_up (jm_up h b y) a x := by
  funext d
  by_cases e : d = a
  · subst e; rw [jm_up_ne _ _ n, jm_up_eq, jm_up_eq]
  · by_cases e2 : d = b
    · subst e2; rw [jm_up_eq, jm_up_ne _ _ e, jm_up_eq]
    · rw [jm_up_ne _ _ e2, jm_up_ne _ _ e, jm_up_ne _ _ e, jm_up_ne _ _ e2]
theorem jm_up_id {h : jm_H} {a : Nat} {x : va_E} (e : h a = some x) : jm_up h a x = h := by
  funext b
  by_cases q : b = a
  · subst q; rw [jm_up_eq, e]
  · rw [jm_up_ne _ _ q]
theorem jm_ap {h : jm_H} {a b : Nat} {x y : va_E} (ha : h a = some x) (hb : h b = some y) (n : x ≠ y) : a ≠ b := by
  intro e; subst e; rw [ha] at hb; exact n (Option.some.inj hb)
def jm_ld (D : va_G) (cl : List vw_C) (n0 : Nat) (h : jm_H) (H : Heap) : Prop := ∀ (a : Nat) (x : va_E), h a = some x → n0 ≤ a ∧ va_at D cl (a, x) H
def jm_tl (h : jm_H) (n : Nat) : va_W := (List.range n).filterMap (fun a => (h a).map (fun x => (a, x)))
theorem jm_tl_mem {h : jm_H} {n a : Nat} {x : va_E} : (a, x) ∈ jm_tl h n ↔ a < n ∧ h a = some x := by
  unfold jm_tl
  rw [List.mem_filterMap]
  constructor
  · rintro ⟨b, hb, hy⟩
    obtain ⟨y, hy, e⟩ := Option.map_eq_some_iff.mp hy
    cases e
    exact ⟨List.mem_range.mp hb, hy⟩
  · rintro ⟨h1, h2⟩
    exact ⟨a, List.mem_range.mpr h1, by rw [h2]; rfl⟩
theorem jm_tl_pw (h : jm_H) (n : Nat) : (jm_tl h n).Pairwise (fun x y => x.1 < y.1) := by
  unfold jm_tl
  rw [List.pairwise_filterMap]
  refine List.Pairwise.imp ?_ List.pairwise_lt_range
  intro a b hab x hx y hy
  obtain ⟨u, -, rfl⟩ := Option.map_eq_some_iff.mp hx
  obtain ⟨v, -, rfl⟩ := Option.map_eq_some_iff.mp hy
  exact hab
theorem jm_tl_inj {h : jm_H} {n i j : Nat} {x y : Nat × va_E} (hi : (jm_tl h n)[i]? = some x) (hj : (jm_tl h n)[j]? = some y) (e : x.1 = y.1) : i = j := by
  have pw := List.pairwise_iff_getElem.mp (jm_tl_pw h n)
  obtain ⟨hi1, hi2⟩ := List.getElem?_eq_some_iff.mp hi
  obtain ⟨hj1, hj2⟩ := List.getElem?_eq_some_iff.mp hj
  rcases Nat.lt_trichotomy i j with h1 | h1 | h1
  · have h2 := pw i j hi1 hj1 h1
    rw [hi2, hj2] at h2; omega
  · exact h1
  · have h2 := pw j i hj1 hi1 h1
    rw [hi2, hj2] at h2; omega
variable {D : va_G} {cl : List vw_C} {n0 : Nat} {h : jm_H} {H H1 : Heap}
theorem jm_P (hr : jm_ld D cl n0 h H) : va_P D cl (jm_tl h H.size) H := by
  intro k q hk
  obtain ⟨a, x⟩ := q
  exact (hr a x (jm_tl_mem.mp (List.mem_of_getElem? hk)).2).2
theorem jm_D (hr : jm_ld D cl n0 h H) : va_D (fun q => n0 ≤ q) (jm_tl h H.size) := by
  refine ⟨fun i j x y hx hy e => jm_tl_inj hx hy e, fun k q hk => ?_⟩
  obtain ⟨a, x⟩ := q
  exact (hr a x (jm_tl_mem.mp (List.mem_of_getElem? hk)).2).1
theorem jm_place (hr : jm_ld D cl n0 h H) {a : Nat} {x : va_E} (ha : h a = some x) : ∃ k : Nat, (jm_tl h H.size)[k]? = some (a, x) := List.getElem?_of_mem (jm_tl_mem.mpr ⟨(hr a x ha).2.lt, ha⟩)
theorem jm_set (hr : jm_ld D cl n0 h H) {a k : Nat} {x y : va_E} (hk : (jm_tl h H.size)[k]? = some (a, x)) (hP : va_P D cl ((jm_tl h H.size).set k (a, y)) H1) : jm_ld D cl n0 (jm_up h a y) H1 := by
  have hax := (jm_tl_mem.mp (List.mem_of_getElem? hk)).2
  intro b z hb
  by_cases e : b = a
  · subst e
    rw [jm_up_eq] at hb
    cases hb
    exact ⟨(hr b x hax).1, hP k (b, y) (by rw [List.getElem?_set_self (List.getElem?_eq_some_iff.mp hk).1])⟩
  · rw [jm_up_ne _ _ e] at hb
    obtain ⟨j, hj⟩ := jm_place hr hb
    refine ⟨(hr b z hb).1, hP j (b, z) ?_⟩
    rw [List.getElem?_set_ne, hj]
    intro he
    subst he
    rw [hk] at hj
    cases hj
    exact e rfl
theorem jm_app (hr : jm_ld D cl n0 h H) {q : Nat} {y : va_E} (hP : va_P D cl (jm_tl h H.size ++ [(q, y)]) H1) (hD : va_D (fun z => n0 ≤ z) (jm_tl h H.size ++ [(q, y)])) : jm_ld D cl n0 (jm_up h q y) H1 ∧ h q = none ∧ n0 ≤ q := by
  have hl : (jm_tl h H.size ++ [(q, y)])[(jm_tl h H.size).length]? = some (q, y) := by simp
  refine ⟨?_, ?_, hD.2 _ _ hl⟩
  · intro b z hb
    by_cases e : b = q
    · subst e
      rw [jm_up_eq] at hb
      cases hb
      exact ⟨hD.2 _ _ hl, hP _ _ hl⟩
    · rw [jm_up_ne _ _ e] at hb
      obtain ⟨j, hj⟩ := jm_place hr hb
      refine ⟨(hr b z hb).1, hP j (b, z) ?_⟩
      rw [List.getElem?_append_left (List.getElem?_eq_some_iff.mp hj).1]
      exact hj
  · cases hq : h q with
    | none => rfl
    | some z =>
      obtain ⟨j, hj⟩ := jm_place hr hq
      have hlt := (List.getElem?_eq_some_iff.mp hj).1
      have hj' : (jm_tl h H.size ++ [(q, y)])[j]? = some (q, z) := by rw [List.getElem?_append_left hlt]; exact hj
      have := hD.1 j _ _ _ hj' hl rfl
      omega
theorem jm_ld_le (hr : jm_ld D cl n0 h H) {h2 : jm_H} (hs : ∀ a x, h2 a = some x → h a = some x) : jm_ld D cl n0 h2 H := fun a x e => hr a x (hs a x e)
def jm_ev (S U : State) : Prop := S.WarmedH U.vm ∧ S.heap.size ≤ U.heap.size ∧ ∀ q : Nat, q < S.heap.size → U.heap[q]? = S.heap[q]?
def jm_gd (w : Cond) : Prop := ((w.onTables && w.keeps) = true ∨ ∃ ty, w = .arrayClass ty) ∨ (∃ a i b n d h, w = .fieldLinkNest a i b n d h) ∨ ∃ a i x h, w = .methodLinkNest a i x h
def jm_en (S : State) (D : va_G) (cl : List vw_C) (tys : List (ClassId × FieldType)) (G : List Cond) : Prop :=
  (∃ a0 : Array Value, ∀ w ∈ G, w.before a0 S = true) ∧ (∀ w ∈ G, jm_gd w) ∧ va_K D cl tys S
def jm_cx (p : Program) (s : State) (m : MethodId) (args : Array Value) (c : Code) (S : State) (D : va_G) (cl : List vw_C) (tys : List (ClassId × FieldType)) (G : List Cond) (cc : ByteArray) (nL : Nat) (own : String) : Prop :=
  p.tables.exec = Jvm.exec ∧ c.code = cc ∧ c.maxLocals = nL ∧ s.vm.findClass own = some m.cls ∧ (∀ w ∈ G, w.before args s = true) ∧ va_K D cl tys s ∧ jm_ev S s ∧ jm_en S D cl tys G
def jm_W (p : Program) (l : Launch) (e : Env) (R : Room) (s : State) (m : MethodId) (args : Array Value) (below : List Frame) (meth : Method) (c : Code) (S : State) (D : va_G) (cl : List vw_C) (Q : State → Prop) (nL pc : Nat) (lv : List (Nat × Value)) (st : List Value) (h : jm_H) (dc ds : Nat) : Prop :=
  ∀ (H : Heap) (ls : Array Slot) (locs : List Loc), lv_has ls nL lv → jm_ld D cl S.heap.size h H → va_S (fun q => S.heap.size ≤ q) s.heap H locs → W p l e R s m args below meth c H locs dc ds Q (F0 m pc ls st)
def jm_X (p : Program) (l : Launch) (e : Env) (R : Room) (s : State) (m : MethodId) (args : Array Value) (below : List Frame) (meth : Method) (c : Code) (S : State) (D : va_G) (cl : List vw_C) (Q : State → Prop) (nL pc : Nat) (lv : List (Nat × Value)) (st : List Value) (h : jm_H) (q : Addr) (dc ds : Nat) : Prop :=
  ∀ (H : Heap) (ls : Array Slot) (locs : List Loc), lv_has ls nL lv → jm_ld D cl S.heap.size h H → va_S (fun q => S.heap.size ≤ q) s.heap H locs → ∀ T : State, T.heap = H → Stand p l e R s m args below meth c T locs dc ds → ∃ t, Steps p.tables e below ((T.setTop (F0 m pc ls st)).pushFrame (.throwing q)) t ∧ Q t
end JM0
section JM1
variable {p : Program} {l : Launch} {e : Env} {R : Room} {s : State} {m : MethodId} {args : Array Value} {below : List Frame} {meth : Method} {c : Code} {Q : State → Prop}
variable {S : State} {D : va_G} {cl : List vw_C} {tys : List (ClassId × FieldType)} {G : List Cond} {cc : ByteArray} {nL pc dc ds : Nat} {own : String} {lv : List (Nat × Value)} {rest : List Value} {h : jm_H}
theorem jm_iadd (X : jm_cx p s m args c S D cl tys G cc nL own) {x y : Int32} (hd : decode cc pc = .ok (.iadd, 1))  (k : jm_W p l e R s m args below meth c S D cl Q nL (pc + 1) lv (.int (x + y) :: rest) h dc ds) : jm_W p l e R s m args below meth c S D cl Q nL (pc) lv (.int y :: .int x :: rest) h dc ds := fun H ls locs hl hr hS => lv_iadd X.1 X.2.1 hd (k H ls locs hl hr hS)
theorem jm_isub (X : jm_cx p s m args c S D cl tys G cc nL own) {x y : Int32} (hd : decode cc pc = .ok (.isub, 1))  (k : jm_W p l e R s m args below meth c S D cl Q nL (pc + 1) lv (.int (x - y) :: rest) h dc ds) : jm_W p l e R s m args below meth c S D cl Q nL (pc) lv (.int y :: .int x :: rest) h dc ds := fun H ls locs hl hr hS => lv_isub X.1 X.2.1 hd (k H ls locs hl hr hS)
theorem jm_imul (X : jm_cx p s m args c S D cl tys G cc nL own) {x y : Int32} (hd : decode cc pc = .ok (.imul, 1))  (k : jm_W p l e R s m args below meth c S D cl Q nL (pc + 1) lv (.int (x * y) :: rest) h dc ds) : jm_W p l e R s m args below meth c S D cl Q nL (pc) lv (.int y :: .int x :: rest) h dc ds := fun H ls locs hl hr hS => lv_imul X.1 X.2.1 hd (k H ls locs hl hr hS)
theorem jm_iand (X : jm_cx p s m args c S D cl tys G cc nL own) {x y : Int32} (hd : decode cc pc = .ok (.iand, 1))  (k : jm_W p l e R s m args below meth c S D cl Q nL (pc + 1) lv (.int (x &&& y) :: rest) h dc ds) : jm_W p l e R s m args below meth c S D cl Q nL (pc) lv (.int y :: .int x :: rest) h dc ds := fun H ls locs hl hr hS => lv_iand X.1 X.2.1 hd (k H ls locs hl hr hS)
theorem jm_ior (X : jm_cx p s m args c S D cl tys G cc nL own) {x y : Int32} (hd : decode cc pc = .ok (.ior, 1))  (k : jm_W p l e R s m args below meth c S D cl Q nL (pc + 1) lv (.int (x ||| y) :: rest) h dc ds) : jm_W p l e R s m args below meth c S D cl Q nL (pc) lv (.int y :: .int x :: rest) h dc ds := fun H ls locs hl hr hS => lv_ior X.1 X.2.1 hd (k H ls locs hl hr hS)
theorem jm_ixor (X : jm_cx p s m args c S D cl tys G cc nL own) {x y : Int32} (hd : decode cc pc = .ok (.ixor, 1))  (k : jm_W p l e R s m args below meth c S D cl Q nL (pc + 1) lv (.int (x ^^^ y) :: rest) h dc ds) : jm_W p l e R s m args below meth c S D cl Q nL (pc) lv (.int y :: .int x :: rest) h dc ds := fun H ls locs hl hr hS => lv_ixor X.1 X.2.1 hd (k H ls locs hl hr hS)
theorem jm_ishl (X : jm_cx p s m args c S D cl tys G cc nL own) {x y : Int32} (hd : decode cc pc = .ok (.ishl, 1))  (k : jm_W p l e R s m args below meth c S D cl Q nL (pc + 1) lv (.int (x <<< (y &&& 31)) :: rest) h dc ds) : jm_W p l e R s m args below meth c S D cl Q nL (pc) lv (.int y :: .int x :: rest) h dc ds := fun H ls locs hl hr hS => lv_ishl X.1 X.2.1 hd (k H ls locs hl hr hS)
theorem jm_ishr (X : jm_cx p s m args c S D cl tys G cc nL own) {x y : Int32} (hd : decode cc pc = .ok (.ishr, 1))  (k : jm_W p l e R s m args below meth c S D cl Q nL (pc + 1) lv (.int (x >>> (y &&& 31)) :: rest) h dc ds) : jm_W p l e R s m args below meth c S D cl Q nL (pc) lv (.int y :: .int x :: rest) h dc ds := fun H ls locs hl hr hS => lv_ishr X.1 X.2.1 hd (k H ls locs hl hr hS)
theorem jm_ladd (X : jm_cx p s m args c S D cl tys G cc nL own) {x y : Int64} (hd : decode cc pc = .ok (.ladd, 1))  (k : jm_W p l e R s m args below meth c S D cl Q nL (pc + 1) lv (.long (x + y) :: rest) h dc ds) : jm_W p l e R s m args below meth c S D cl Q nL (pc) lv (.long y :: .long x :: rest) h dc ds := fun H ls locs hl hr hS => lv_ladd X.1 X.2.1 hd (k H ls locs hl hr hS)
theorem jm_lsub (X : jm_cx p s m args c S D cl tys G cc nL own) {x y : Int64} (hd : decode cc pc = .ok (.lsub, 1))  (k : jm_W p l e R s m args below meth c S D cl Q nL (pc + 1) lv (.long (x - y) :: rest) h dc ds) : jm_W p l e R s m args below meth c S D cl Q nL (pc) lv (.long y :: .long x :: rest) h dc ds := fun H ls locs hl hr hS => lv_lsub X.1 X.2.1 hd (k H ls locs hl hr hS)
theorem jm_lmul (X : jm_cx p s m args c S D cl tys G cc nL own) {x y : Int64} (hd : decode cc pc = .ok (.lmul, 1))  (k : jm_W p l e R s m args below meth c S D cl Q nL (pc + 1) lv (.long (x * y) :: rest) h dc ds) : jm_W p l e R s m args below meth c S D cl Q nL (pc) lv (.long y :: .long x :: rest) h dc ds := fun H ls locs hl hr hS => lv_lmul X.1 X.2.1 hd (k H ls locs hl hr hS)
theorem jm_land (X : jm_cx p s m args c S D cl tys G cc nL own) {x y : Int64} (hd : decode cc pc = .ok (.land, 1))  (k : jm_W p l e R s m args below meth c S D cl Q nL (pc + 1) lv (.long (x &&& y) :: rest) h dc ds) : jm_W p l e R s m args below meth c S D cl Q nL (pc) lv (.long y :: .long x :: rest) h dc ds := fun H ls locs hl hr hS => lv_land X.1 X.2.1 hd (k H ls locs hl hr hS)
theorem jm_lor (X : jm_cx p s m args c S D cl tys G cc nL own) {x y : Int64} (hd : decode cc pc = .ok (.lor, 1))  (k : jm_W p l e R s m args below meth c S D cl Q nL (pc + 1) lv (.long (x ||| y) :: rest) h dc ds) : jm_W p l e R s m args below meth c S D cl Q nL (pc) lv (.long y :: .long x :: rest) h dc ds := fun H ls locs hl hr hS => lv_lor X.1 X.2.1 hd (k H ls locs hl hr hS)
theorem jm_lxor (X : jm_cx p s m args c S D cl tys G cc nL own) {x y : Int64} (hd : decode cc pc = .ok (.lxor, 1))  (k : jm_W p l e R s m args below meth c S D cl Q nL (pc + 1) lv (.long (x ^^^ y) :: rest) h dc ds) : jm_W p l e R s m args below meth c S D cl Q nL (pc) lv (.long y :: .long x :: rest) h dc ds := fun H ls locs hl hr hS => lv_lxor X.1 X.2.1 hd (k H ls locs hl hr hS)
theorem jm_idiv (X : jm_cx p s m args c S D cl tys G cc nL own) {x y : Int32} (hd : decode cc pc = .ok (.idiv, 1)) (hne : ¬ y = 0) (k : jm_W p l e R s m args below meth c S D cl Q nL (pc + 1) lv (.int (x / y) :: rest) h dc ds) : jm_W p l e R s m args below meth c S D cl Q nL (pc) lv (.int y :: .int x :: rest) h dc ds := fun H ls locs hl hr hS => lv_idiv X.1 X.2.1 hd hne (k H ls locs hl hr hS)
theorem jm_irem (X : jm_cx p s m args c S D cl tys G cc nL own) {x y : Int32} (hd : decode cc pc = .ok (.irem, 1)) (hne : ¬ y = 0) (k : jm_W p l e R s m args below meth c S D cl Q nL (pc + 1) lv (.int (x - x / y * y) :: rest) h dc ds) : jm_W p l e R s m args below meth c S D cl Q nL (pc) lv (.int y :: .int x :: rest) h dc ds := fun H ls locs hl hr hS => lv_irem X.1 X.2.1 hd hne (k H ls locs hl hr hS)
theorem jm_ldiv (X : jm_cx p s m args c S D cl tys G cc nL own) {x y : Int64} (hd : decode cc pc = .ok (.ldiv, 1)) (hne : ¬ y = 0) (k : jm_W p l e R s m args below meth c S D cl Q nL (pc + 1) lv (.long (x / y) :: rest) h dc ds) : jm_W p l e R s m args below meth c S D cl Q nL (pc) lv (.long y :: .long x :: rest) h dc ds := fun H ls locs hl hr hS => lv_ldiv X.1 X.2.1 hd hne (k H ls locs hl hr hS)
theorem jm_lrem (X : jm_cx p s m args c S D cl tys G cc nL own) {x y : Int64} (hd : decode cc pc = .ok (.lrem, 1)) (hne : ¬ y = 0) (k : jm_W p l e R s m args below meth c S D cl Q nL (pc + 1) lv (.long (x - x / y * y) :: rest) h dc ds) : jm_W p l e R s m args below meth c S D cl Q nL (pc) lv (.long y :: .long x :: rest) h dc ds := fun H ls locs hl hr hS => lv_lrem X.1 X.2.1 hd hne (k H ls locs hl hr hS)
theorem jm_ineg (X : jm_cx p s m args c S D cl tys G cc nL own) {x : Int32} (hd : decode cc pc = .ok (.ineg, 1))  (k : jm_W p l e R s m args below meth c S D cl Q nL (pc + 1) lv (.int (-x) :: rest) h dc ds) : jm_W p l e R s m args below meth c S D cl Q nL (pc) lv (.int x :: rest) h dc ds := fun H ls locs hl hr hS => lv_ineg X.1 X.2.1 hd (k H ls locs hl hr hS)
theorem jm_lneg (X : jm_cx p s m args c S D cl tys G cc nL own) {x : Int64} (hd : decode cc pc = .ok (.lneg, 1))  (k : jm_W p l e R s m args below meth c S D cl Q nL (pc + 1) lv (.long (-x) :: rest) h dc ds) : jm_W p l e R s m args below meth c S D cl Q nL (pc) lv (.long x :: rest) h dc ds := fun H ls locs hl hr hS => lv_lneg X.1 X.2.1 hd (k H ls locs hl hr hS)
theorem jm_i2l (X : jm_cx p s m args c S D cl tys G cc nL own) {x : Int32} (hd : decode cc pc = .ok (.i2l, 1))  (k : jm_W p l e R s m args below meth c S D cl Q nL (pc + 1) lv (.long x.toInt64 :: rest) h dc ds) : jm_W p l e R s m args below meth c S D cl Q nL (pc) lv (.int x :: rest) h dc ds := fun H ls locs hl hr hS => lv_i2l X.1 X.2.1 hd rfl (k H ls locs hl hr hS)
theorem jm_l2i (X : jm_cx p s m args c S D cl tys G cc nL own) {x : Int64} (hd : decode cc pc = .ok (.l2i, 1))  (k : jm_W p l e R s m args below meth c S D cl Q nL (pc + 1) lv (.int x.toInt32 :: rest) h dc ds) : jm_W p l e R s m args below meth c S D cl Q nL (pc) lv (.long x :: rest) h dc ds := fun H ls locs hl hr hS => lv_l2i X.1 X.2.1 hd rfl (k H ls locs hl hr hS)
theorem jm_i2b (X : jm_cx p s m args c S D cl tys G cc nL own) {x : Int32} (hd : decode cc pc = .ok (.i2b, 1))  (k : jm_W p l e R s m args below meth c S D cl Q nL (pc + 1) lv (.int x.toInt8.toInt32 :: rest) h dc ds) : jm_W p l e R s m args below meth c S D cl Q nL (pc) lv (.int x :: rest) h dc ds := fun H ls locs hl hr hS => lv_i2b X.1 X.2.1 hd rfl (k H ls locs hl hr hS)
theorem jm_lshl (X : jm_cx p s m args c S D cl tys G cc nL own) {x : Int64} {y : Int32} (hd : decode cc pc = .ok (.lshl, 1))  (k : jm_W p l e R s m args below meth c S D cl Q nL (pc + 1) lv (.long (x <<< (y.toInt64 &&& 63)) :: rest) h dc ds) : jm_W p l e R s m args below meth c S D cl Q nL (pc) lv (.int y :: .long x :: rest) h dc ds := fun H ls locs hl hr hS => lv_lshl X.1 X.2.1 hd rfl (k H ls locs hl hr hS)
theorem jm_lshr (X : jm_cx p s m args c S D cl tys G cc nL own) {x : Int64} {y : Int32} (hd : decode cc pc = .ok (.lshr, 1))  (k : jm_W p l e R s m args below meth c S D cl Q nL (pc + 1) lv (.long (x >>> (y.toInt64 &&& 63)) :: rest) h dc ds) : jm_W p l e R s m args below meth c S D cl Q nL (pc) lv (.int y :: .long x :: rest) h dc ds := fun H ls locs hl hr hS => lv_lshr X.1 X.2.1 hd rfl (k H ls locs hl hr hS)
theorem jm_lushr (X : jm_cx p s m args c S D cl tys G cc nL own) {x : Int64} {y : Int32} (hd : decode cc pc = .ok (.lushr, 1))  (k : jm_W p l e R s m args below meth c S D cl Q nL (pc + 1) lv (.long (x.toUInt64 >>> (y.toInt64.toUInt64 &&& Int64.toUInt64 63)).toInt64 :: rest) h dc ds) : jm_W p l e R s m args below meth c S D cl Q nL (pc) lv (.int y :: .long x :: rest) h dc ds := fun H ls locs hl hr hS => lv_lushr X.1 X.2.1 hd rfl (k H ls locs hl hr hS)
theorem jm_iushr (X : jm_cx p s m args c S D cl tys G cc nL own) {x y : Int32} (hd : decode cc pc = .ok (.iushr, 1))  (k : jm_W p l e R s m args below meth c S D cl Q nL (pc + 1) lv (.int (x.toUInt32 >>> (y.toUInt32 &&& Int32.toUInt32 31)).toInt32 :: rest) h dc ds) : jm_W p l e R s m args below meth c S D cl Q nL (pc) lv (.int y :: .int x :: rest) h dc ds := fun H ls locs hl hr hS => lv_iushr X.1 X.2.1 hd rfl (k H ls locs hl hr hS)
theorem jm_lcmp (X : jm_cx p s m args c S D cl tys G cc nL own) {x y : Int64} (hd : decode cc pc = .ok (.lcmp, 1))  (k : jm_W p l e R s m args below meth c S D cl Q nL (pc + 1) lv (.int (lg_cmp x y) :: rest) h dc ds) : jm_W p l e R s m args below meth c S D cl Q nL (pc) lv (.long y :: .long x :: rest) h dc ds := fun H ls locs hl hr hS => W.lcmp X.1 X.2.1 hd (k H ls locs hl hr hS)
theorem jm_dup (X : jm_cx p s m args c S D cl tys G cc nL own) {va : Value} (hd : decode cc pc = .ok (.dup, 1)) (hva : va.category = 1) (k : jm_W p l e R s m args below meth c S D cl Q nL (pc + 1) lv (va :: va :: rest) h dc ds) : jm_W p l e R s m args below meth c S D cl Q nL (pc) lv (va :: rest) h dc ds := fun H ls locs hl hr hS => lv_dup X.1 X.2.1 hd hva (k H ls locs hl hr hS)
theorem jm_pop (X : jm_cx p s m args c S D cl tys G cc nL own) {va : Value} (hd : decode cc pc = .ok (.pop, 1)) (hva : va.category = 1) (k : jm_W p l e R s m args below meth c S D cl Q nL (pc + 1) lv (rest) h dc ds) : jm_W p l e R s m args below meth c S D cl Q nL (pc) lv (va :: rest) h dc ds := fun H ls locs hl hr hS => lv_pop X.1 X.2.1 hd hva (k H ls locs hl hr hS)
theorem jm_dup_x1 (X : jm_cx p s m args c S D cl tys G cc nL own) {va vb : Value} (hd : decode cc pc = .ok (.dup_x1, 1)) (hva : va.category = 1) (hvb : vb.category = 1) (k : jm_W p l e R s m args below meth c S D cl Q nL (pc + 1) lv (va :: vb :: va :: rest) h dc ds) : jm_W p l e R s m args below meth c S D cl Q nL (pc) lv (va :: vb :: rest) h dc ds := fun H ls locs hl hr hS => lv_dup_x1 X.1 X.2.1 hd hva hvb (k H ls locs hl hr hS)
theorem jm_dup_x2 (X : jm_cx p s m args c S D cl tys G cc nL own) {va vb vd : Value} (hd : decode cc pc = .ok (.dup_x2, 1)) (hva : va.category = 1) (hvb : vb.category = 1) (hvd : vd.category = 1) (k : jm_W p l e R s m args below meth c S D cl Q nL (pc + 1) lv (va :: vb :: vd :: va :: rest) h dc ds) : jm_W p l e R s m args below meth c S D cl Q nL (pc) lv (va :: vb :: vd :: rest) h dc ds := fun H ls locs hl hr hS => lv_dup_x2 X.1 X.2.1 hd hva hvb hvd (k H ls locs hl hr hS)
theorem jm_dup2_11 (X : jm_cx p s m args c S D cl tys G cc nL own) {va vb : Value} (hd : decode cc pc = .ok (.dup2, 1)) (hva : va.category = 1) (hvb : vb.category = 1) (k : jm_W p l e R s m args below meth c S D cl Q nL (pc + 1) lv (va :: vb :: va :: vb :: rest) h dc ds) : jm_W p l e R s m args below meth c S D cl Q nL (pc) lv (va :: vb :: rest) h dc ds := fun H ls locs hl hr hS => lv_dup2_11 X.1 X.2.1 hd hva hvb (k H ls locs hl hr hS)
theorem jm_dup2_2 (X : jm_cx p s m args c S D cl tys G cc nL own) {va : Value} (hd : decode cc pc = .ok (.dup2, 1)) (hva : va.category = 2) (k : jm_W p l e R s m args below meth c S D cl Q nL (pc + 1) lv (va :: va :: rest) h dc ds) : jm_W p l e R s m args below meth c S D cl Q nL (pc) lv (va :: rest) h dc ds := fun H ls locs hl hr hS => lv_dup2_2 X.1 X.2.1 hd hva (k H ls locs hl hr hS)
theorem jm_iconst (X : jm_cx p s m args c S D cl tys G cc nL own) {n : Int} {v : Int32} (hd : decode cc pc = .ok (.iconst n, 1)) (hv : Int32.ofInt n = v) (k : jm_W p l e R s m args below meth c S D cl Q nL (pc + 1) lv (.int v :: rest) h dc ds) : jm_W p l e R s m args below meth c S D cl Q nL (pc) lv (rest) h dc ds := fun H ls locs hl hr hS => lv_iconst X.1 X.2.1 hd hv (k H ls locs hl hr hS)
theorem jm_bipush (X : jm_cx p s m args c S D cl tys G cc nL own) {n : Int} {v : Int32} (hd : decode cc pc = .ok (.bipush n, 2)) (hv : (Int8.ofInt n).toInt32 = v) (k : jm_W p l e R s m args below meth c S D cl Q nL (pc + 2) lv (.int v :: rest) h dc ds) : jm_W p l e R s m args below meth c S D cl Q nL (pc) lv (rest) h dc ds := fun H ls locs hl hr hS => lv_bipush X.1 X.2.1 hd hv (k H ls locs hl hr hS)
theorem jm_sipush (X : jm_cx p s m args c S D cl tys G cc nL own) {n : Int} {v : Int32} (hd : decode cc pc = .ok (.sipush n, 3)) (hv : (Int16.ofInt n).toInt32 = v) (k : jm_W p l e R s m args below meth c S D cl Q nL (pc + 3) lv (.int v :: rest) h dc ds) : jm_W p l e R s m args below meth c S D cl Q nL (pc) lv (rest) h dc ds := fun H ls locs hl hr hS => lv_sipush X.1 X.2.1 hd hv (k H ls locs hl hr hS)
theorem jm_lconst (X : jm_cx p s m args c S D cl tys G cc nL own) {n : Fin 2} {v : Int64} (hd : decode cc pc = .ok (.lconst n, 1)) (hv : Int64.ofNat (n : Nat) = v) (k : jm_W p l e R s m args below meth c S D cl Q nL (pc + 1) lv (.long v :: rest) h dc ds) : jm_W p l e R s m args below meth c S D cl Q nL (pc) lv (rest) h dc ds := fun H ls locs hl hr hS => lv_lconst X.1 X.2.1 hd hv (k H ls locs hl hr hS)
theorem jm_ldc (X : jm_cx p s m args c S D cl tys G cc nL own) {index : Nat} {v : Int32} (hd : decode cc pc = .ok (.ldc index, 2)) (hw : Cond.constant own index v ∈ G) (k : jm_W p l e R s m args below meth c S D cl Q nL (pc + 2) lv (.int v :: rest) h dc ds) : jm_W p l e R s m args below meth c S D cl Q nL (pc) lv (rest) h dc ds := fun H ls locs hl hr hS => lv_ldc X.1 X.2.1 X.2.2.2.1 (X.2.2.2.2.1 _ hw) hd (k H ls locs hl hr hS)
theorem jm_ldc_w (X : jm_cx p s m args c S D cl tys G cc nL own) {index : Nat} {v : Int32} (hd : decode cc pc = .ok (.ldc_w index, 3)) (hw : Cond.constant own index v ∈ G) (k : jm_W p l e R s m args below meth c S D cl Q nL (pc + 3) lv (.int v :: rest) h dc ds) : jm_W p l e R s m args below meth c S D cl Q nL (pc) lv (rest) h dc ds := fun H ls locs hl hr hS => lv_ldcw X.1 X.2.1 X.2.2.2.1 (X.2.2.2.2.1 _ hw) hd (k H ls locs hl hr hS)
theorem jm_ldc2 (X : jm_cx p s m args c S D cl tys G cc nL own) {index : Nat} {v : Int64} (hd : decode cc pc = .ok (.ldc2_w index, 3)) (hw : Cond.constantLong own index v ∈ G) (k : jm_W p l e R s m args below meth c S D cl Q nL (pc + 3) lv (.long v :: rest) h dc ds) : jm_W p l e R s m args below meth c S D cl Q nL (pc) lv (rest) h dc ds := fun H ls locs hl hr hS => lv_ldc2 X.1 X.2.1 X.2.2.2.1 (X.2.2.2.2.1 _ hw) hd (k H ls locs hl hr hS)
theorem jm_iload_n (X : jm_cx p s m args c S D cl tys G cc nL own) {n : Fin 4} {i : Nat} {x : Int32} (hd : decode cc pc = .ok (.iload_n n, 1)) (hi : (n : Nat) = i) (j : Nat) (hj : lv[j]? = some (i, .int x)) (k : jm_W p l e R s m args below meth c S D cl Q nL (pc + 1) lv (.int x :: rest) h dc ds) : jm_W p l e R s m args below meth c S D cl Q nL (pc) lv (rest) h dc ds := fun H ls locs hl hr hS => lv_iload_n X.1 X.2.1 hd hi (lv_at hl j hj) (k H ls locs hl hr hS)
theorem jm_iload (X : jm_cx p s m args c S D cl tys G cc nL own) {i : Nat} {x : Int32} (hd : decode cc pc = .ok (.iload i, 2)) (j : Nat) (hj : lv[j]? = some (i, .int x)) (k : jm_W p l e R s m args below meth c S D cl Q nL (pc + 2) lv (.int x :: rest) h dc ds) : jm_W p l e R s m args below meth c S D cl Q nL (pc) lv (rest) h dc ds := fun H ls locs hl hr hS => lv_iload X.1 X.2.1 hd (lv_at hl j hj) (k H ls locs hl hr hS)
theorem jm_istore_n (X : jm_cx p s m args c S D cl tys G cc nL own) {n : Fin 4} {i : Nat} {x : Int32} {lv1 : List (Nat × Value)} (hd : decode cc pc = .ok (.istore_n n, 1)) (hi : (n : Nat) = i) (hn : i < nL) (he : (i, Value.int x) :: lv.filter (fun q => !(q.1 == i) && !(q.1 + 1 == i && q.2.category == 2)) = lv1) (k : jm_W p l e R s m args below meth c S D cl Q nL (pc + 1) lv1 (rest) h dc ds) : jm_W p l e R s m args below meth c S D cl Q nL (pc) lv (.int x :: rest) h dc ds := fun H ls locs hl hr hS => lv_istore_n X.1 X.2.1 hd hi hl hn he (fun ls1 hl1 => k H ls1 locs hl1 hr hS)
theorem jm_istore (X : jm_cx p s m args c S D cl tys G cc nL own) {i : Nat} {x : Int32} {lv1 : List (Nat × Value)} (hd : decode cc pc = .ok (.istore i, 2)) (hn : i < nL) (he : (i, Value.int x) :: lv.filter (fun q => !(q.1 == i) && !(q.1 + 1 == i && q.2.category == 2)) = lv1) (k : jm_W p l e R s m args below meth c S D cl Q nL (pc + 2) lv1 (rest) h dc ds) : jm_W p l e R s m args below meth c S D cl Q nL (pc) lv (.int x :: rest) h dc ds := fun H ls locs hl hr hS => lv_istore X.1 X.2.1 hd hl hn he (fun ls1 hl1 => k H ls1 locs hl1 hr hS)
theorem jm_lload_n (X : jm_cx p s m args c S D cl tys G cc nL own) {n : Fin 4} {i : Nat} {x : Int64} (hd : decode cc pc = .ok (.lload_n n, 1)) (hi : (n : Nat) = i) (j : Nat) (hj : lv[j]? = some (i, .long x)) (k : jm_W p l e R s m args below meth c S D cl Q nL (pc + 1) lv (.long x :: rest) h dc ds) : jm_W p l e R s m args below meth c S D cl Q nL (pc) lv (rest) h dc ds := fun H ls locs hl hr hS => lv_lload_n X.1 X.2.1 hd hi (lv_at hl j hj) (k H ls locs hl hr hS)
theorem jm_lload (X : jm_cx p s m args c S D cl tys G cc nL own) {i : Nat} {x : Int64} (hd : decode cc pc = .ok (.lload i, 2)) (j : Nat) (hj : lv[j]? = some (i, .long x)) (k : jm_W p l e R s m args below meth c S D cl Q nL (pc + 2) lv (.long x :: rest) h dc ds) : jm_W p l e R s m args below meth c S D cl Q nL (pc) lv (rest) h dc ds := fun H ls locs hl hr hS => lv_lload X.1 X.2.1 hd (lv_at hl j hj) (k H ls locs hl hr hS)
theorem jm_lstore_n (X : jm_cx p s m args c S D cl tys G cc nL own) {n : Fin 4} {i : Nat} {x : Int64} {lv1 : List (Nat × Value)} (hd : decode cc pc = .ok (.lstore_n n, 1)) (hi : (n : Nat) = i) (hn : i + 1 < nL) (he : (i, Value.long x) :: lv.filter (fun q => !(q.1 == i) && (!(q.1 == i + 1) && !(q.1 + 1 == i && q.2.category == 2))) = lv1) (k : jm_W p l e R s m args below meth c S D cl Q nL (pc + 1) lv1 (rest) h dc ds) : jm_W p l e R s m args below meth c S D cl Q nL (pc) lv (.long x :: rest) h dc ds := fun H ls locs hl hr hS => lv_lstore_n X.1 X.2.1 hd hi hl hn he (fun ls1 hl1 => k H ls1 locs hl1 hr hS)
theorem jm_lstore (X : jm_cx p s m args c S D cl tys G cc nL own) {i : Nat} {x : Int64} {lv1 : List (Nat × Value)} (hd : decode cc pc = .ok (.lstore i, 2)) (hn : i + 1 < nL) (he : (i, Value.long x) :: lv.filter (fun q => !(q.1 == i) && (!(q.1 == i + 1) && !(q.1 + 1 == i && q.2.category == 2))) = lv1) (k : jm_W p l e R s m args below meth c S D cl Q nL (pc + 2) lv1 (rest) h dc ds) : jm_W p l e R s m args below meth c S D cl Q nL (pc) lv (.long x :: rest) h dc ds := fun H ls locs hl hr hS => lv_lstore X.1 X.2.1 hd hl hn he (fun ls1 hl1 => k H ls1 locs hl1 hr hS)
theorem jm_aload_n (X : jm_cx p s m args c S D cl tys G cc nL own) {n : Fin 4} {i : Nat} {x : Nat} (hd : decode cc pc = .ok (.aload_n n, 1)) (hi : (n : Nat) = i) (j : Nat) (hj : lv[j]? = some (i, .ref x)) (k : jm_W p l e R s m args below meth c S D cl Q nL (pc + 1) lv (.ref x :: rest) h dc ds) : jm_W p l e R s m args below meth c S D cl Q nL (pc) lv (rest) h dc ds := fun H ls locs hl hr hS => lv_aload_n X.1 X.2.1 hd hi (lv_at hl j hj) (k H ls locs hl hr hS)
theorem jm_aload (X : jm_cx p s m args c S D cl tys G cc nL own) {i : Nat} {x : Nat} (hd : decode cc pc = .ok (.aload i, 2)) (j : Nat) (hj : lv[j]? = some (i, .ref x)) (k : jm_W p l e R s m args below meth c S D cl Q nL (pc + 2) lv (.ref x :: rest) h dc ds) : jm_W p l e R s m args below meth c S D cl Q nL (pc) lv (rest) h dc ds := fun H ls locs hl hr hS => lv_aload X.1 X.2.1 hd (lv_at hl j hj) (k H ls locs hl hr hS)
theorem jm_astore_n (X : jm_cx p s m args c S D cl tys G cc nL own) {n : Fin 4} {i : Nat} {x : Nat} {lv1 : List (Nat × Value)} (hd : decode cc pc = .ok (.astore_n n, 1)) (hi : (n : Nat) = i) (hn : i < nL) (he : (i, Value.ref x) :: lv.filter (fun q => !(q.1 == i) && !(q.1 + 1 == i && q.2.category == 2)) = lv1) (k : jm_W p l e R s m args below meth c S D cl Q nL (pc + 1) lv1 (rest) h dc ds) : jm_W p l e R s m args below meth c S D cl Q nL (pc) lv (.ref x :: rest) h dc ds := fun H ls locs hl hr hS => lv_astore_n X.1 X.2.1 hd hi hl hn he (fun ls1 hl1 => k H ls1 locs hl1 hr hS)
theorem jm_astore (X : jm_cx p s m args c S D cl tys G cc nL own) {i : Nat} {x : Nat} {lv1 : List (Nat × Value)} (hd : decode cc pc = .ok (.astore i, 2)) (hn : i < nL) (he : (i, Value.ref x) :: lv.filter (fun q => !(q.1 == i) && !(q.1 + 1 == i && q.2.category == 2)) = lv1) (k : jm_W p l e R s m args below meth c S D cl Q nL (pc + 2) lv1 (rest) h dc ds) : jm_W p l e R s m args below meth c S D cl Q nL (pc) lv (.ref x :: rest) h dc ds := fun H ls locs hl hr hS => lv_astore X.1 X.2.1 hd hl hn he (fun ls1 hl1 => k H ls1 locs hl1 hr hS)
theorem jm_iinc (X : jm_cx p s m args c S D cl tys G cc nL own) {i : Nat} {n : Int} {x v : Int32} {lv1 : List (Nat × Value)} (hd : decode cc pc = .ok (.iinc i n, 3)) (j : Nat) (hj : lv[j]? = some (i, .int x)) (hv : x + Int32.ofInt n = v) (hn : i < nL) (he : (i, Value.int v) :: lv.filter (fun q => !(q.1 == i) && !(q.1 + 1 == i && q.2.category == 2)) = lv1) (k : jm_W p l e R s m args below meth c S D cl Q nL (pc + 3) lv1 (rest) h dc ds) : jm_W p l e R s m args below meth c S D cl Q nL (pc) lv (rest) h dc ds := fun H ls locs hl hr hS => lv_iinc X.1 X.2.1 hd hl hj hv hn he (fun ls1 hl1 => k H ls1 locs hl1 hr hS)
theorem jm_if_eq (X : jm_cx p s m args c S D cl tys G cc nL own) {x : Int32} {off : Int} {tgt : Nat} (hd : decode cc pc = .ok (.ifCond .eq off, 3)) (ht : (pc : Int) + off = (tgt : Int)) (kt : x = 0 → jm_W p l e R s m args below meth c S D cl Q nL (tgt) lv (rest) h dc ds) (kf : ¬ x = 0 → jm_W p l e R s m args below meth c S D cl Q nL (pc + 3) lv (rest) h dc ds) : jm_W p l e R s m args below meth c S D cl Q nL (pc) lv (.int x :: rest) h dc ds := fun H ls locs hl hr hS => lv_if_eq X.1 X.2.1 hd ht (fun q => kt q H ls locs hl hr hS) (fun q => kf q H ls locs hl hr hS)
theorem jm_if_ne (X : jm_cx p s m args c S D cl tys G cc nL own) {x : Int32} {off : Int} {tgt : Nat} (hd : decode cc pc = .ok (.ifCond .ne off, 3)) (ht : (pc : Int) + off = (tgt : Int)) (kt : ¬ x = 0 → jm_W p l e R s m args below meth c S D cl Q nL (tgt) lv (rest) h dc ds) (kf : x = 0 → jm_W p l e R s m args below meth c S D cl Q nL (pc + 3) lv (rest) h dc ds) : jm_W p l e R s m args below meth c S D cl Q nL (pc) lv (.int x :: rest) h dc ds := fun H ls locs hl hr hS => lv_if_ne X.1 X.2.1 hd ht (fun q => kt q H ls locs hl hr hS) (fun q => kf q H ls locs hl hr hS)
theorem jm_if_lt (X : jm_cx p s m args c S D cl tys G cc nL own) {x : Int32} {off : Int} {tgt : Nat} (hd : decode cc pc = .ok (.ifCond .lt off, 3)) (ht : (pc : Int) + off = (tgt : Int)) (kt : x < 0 → jm_W p l e R s m args below meth c S D cl Q nL (tgt) lv (rest) h dc ds) (kf : ¬ x < 0 → jm_W p l e R s m args below meth c S D cl Q nL (pc + 3) lv (rest) h dc ds) : jm_W p l e R s m args below meth c S D cl Q nL (pc) lv (.int x :: rest) h dc ds := fun H ls locs hl hr hS => lv_if_lt X.1 X.2.1 hd ht (fun q => kt q H ls locs hl hr hS) (fun q => kf q H ls locs hl hr hS)
theorem jm_if_ge (X : jm_cx p s m args c S D cl tys G cc nL own) {x : Int32} {off : Int} {tgt : Nat} (hd : decode cc pc = .ok (.ifCond .ge off, 3)) (ht : (pc : Int) + off = (tgt : Int)) (kt : 0 ≤ x → jm_W p l e R s m args below meth c S D cl Q nL (tgt) lv (rest) h dc ds) (kf : ¬ 0 ≤ x → jm_W p l e R s m args below meth c S D cl Q nL (pc + 3) lv (rest) h dc ds) : jm_W p l e R s m args below meth c S D cl Q nL (pc) lv (.int x :: rest) h dc ds := fun H ls locs hl hr hS => lv_if_ge X.1 X.2.1 hd ht (fun q => kt q H ls locs hl hr hS) (fun q => kf q H ls locs hl hr hS)
theorem jm_if_gt (X : jm_cx p s m args c S D cl tys G cc nL own) {x : Int32} {off : Int} {tgt : Nat} (hd : decode cc pc = .ok (.ifCond .gt off, 3)) (ht : (pc : Int) + off = (tgt : Int)) (kt : 0 < x → jm_W p l e R s m args below meth c S D cl Q nL (tgt) lv (rest) h dc ds) (kf : ¬ 0 < x → jm_W p l e R s m args below meth c S D cl Q nL (pc + 3) lv (rest) h dc ds) : jm_W p l e R s m args below meth c S D cl Q nL (pc) lv (.int x :: rest) h dc ds := fun H ls locs hl hr hS => lv_if_gt X.1 X.2.1 hd ht (fun q => kt q H ls locs hl hr hS) (fun q => kf q H ls locs hl hr hS)
theorem jm_if_le (X : jm_cx p s m args c S D cl tys G cc nL own) {x : Int32} {off : Int} {tgt : Nat} (hd : decode cc pc = .ok (.ifCond .le off, 3)) (ht : (pc : Int) + off = (tgt : Int)) (kt : x ≤ 0 → jm_W p l e R s m args below meth c S D cl Q nL (tgt) lv (rest) h dc ds) (kf : ¬ x ≤ 0 → jm_W p l e R s m args below meth c S D cl Q nL (pc + 3) lv (rest) h dc ds) : jm_W p l e R s m args below meth c S D cl Q nL (pc) lv (.int x :: rest) h dc ds := fun H ls locs hl hr hS => lv_if_le X.1 X.2.1 hd ht (fun q => kt q H ls locs hl hr hS) (fun q => kf q H ls locs hl hr hS)
theorem jm_icmp_eq (X : jm_cx p s m args c S D cl tys G cc nL own) {x y : Int32} {off : Int} {tgt : Nat} (hd : decode cc pc = .ok (.if_icmp .eq off, 3)) (ht : (pc : Int) + off = (tgt : Int)) (kt : x = y → jm_W p l e R s m args below meth c S D cl Q nL (tgt) lv (rest) h dc ds) (kf : ¬ x = y → jm_W p l e R s m args below meth c S D cl Q nL (pc + 3) lv (rest) h dc ds) : jm_W p l e R s m args below meth c S D cl Q nL (pc) lv (.int y :: .int x :: rest) h dc ds := fun H ls locs hl hr hS => lv_icmp_eq X.1 X.2.1 hd ht (fun q => kt q H ls locs hl hr hS) (fun q => kf q H ls locs hl hr hS)
theorem jm_icmp_ne (X : jm_cx p s m args c S D cl tys G cc nL own) {x y : Int32} {off : Int} {tgt : Nat} (hd : decode cc pc = .ok (.if_icmp .ne off, 3)) (ht : (pc : Int) + off = (tgt : Int)) (kt : ¬ x = y → jm_W p l e R s m args below meth c S D cl Q nL (tgt) lv (rest) h dc ds) (kf : x = y → jm_W p l e R s m args below meth c S D cl Q nL (pc + 3) lv (rest) h dc ds) : jm_W p l e R s m args below meth c S D cl Q nL (pc) lv (.int y :: .int x :: rest) h dc ds := fun H ls locs hl hr hS => lv_icmp_ne X.1 X.2.1 hd ht (fun q => kt q H ls locs hl hr hS) (fun q => kf q H ls locs hl hr hS)
theorem jm_icmp_lt (X : jm_cx p s m args c S D cl tys G cc nL own) {x y : Int32} {off : Int} {tgt : Nat} (hd : decode cc pc = .ok (.if_icmp .lt off, 3)) (ht : (pc : Int) + off = (tgt : Int)) (kt : x < y → jm_W p l e R s m args below meth c S D cl Q nL (tgt) lv (rest) h dc ds) (kf : ¬ x < y → jm_W p l e R s m args below meth c S D cl Q nL (pc + 3) lv (rest) h dc ds) : jm_W p l e R s m args below meth c S D cl Q nL (pc) lv (.int y :: .int x :: rest) h dc ds := fun H ls locs hl hr hS => lv_icmp_lt X.1 X.2.1 hd ht (fun q => kt q H ls locs hl hr hS) (fun q => kf q H ls locs hl hr hS)
theorem jm_icmp_ge (X : jm_cx p s m args c S D cl tys G cc nL own) {x y : Int32} {off : Int} {tgt : Nat} (hd : decode cc pc = .ok (.if_icmp .ge off, 3)) (ht : (pc : Int) + off = (tgt : Int)) (kt : y ≤ x → jm_W p l e R s m args below meth c S D cl Q nL (tgt) lv (rest) h dc ds) (kf : ¬ y ≤ x → jm_W p l e R s m args below meth c S D cl Q nL (pc + 3) lv (rest) h dc ds) : jm_W p l e R s m args below meth c S D cl Q nL (pc) lv (.int y :: .int x :: rest) h dc ds := fun H ls locs hl hr hS => lv_icmp_ge X.1 X.2.1 hd ht (fun q => kt q H ls locs hl hr hS) (fun q => kf q H ls locs hl hr hS)
theorem jm_icmp_gt (X : jm_cx p s m args c S D cl tys G cc nL own) {x y : Int32} {off : Int} {tgt : Nat} (hd : decode cc pc = .ok (.if_icmp .gt off, 3)) (ht : (pc : Int) + off = (tgt : Int)) (kt : y < x → jm_W p l e R s m args below meth c S D cl Q nL (tgt) lv (rest) h dc ds) (kf : ¬ y < x → jm_W p l e R s m args below meth c S D cl Q nL (pc + 3) lv (rest) h dc ds) : jm_W p l e R s m args below meth c S D cl Q nL (pc) lv (.int y :: .int x :: rest) h dc ds := fun H ls locs hl hr hS => lv_icmp_gt X.1 X.2.1 hd ht (fun q => kt q H ls locs hl hr hS) (fun q => kf q H ls locs hl hr hS)
theorem jm_icmp_le (X : jm_cx p s m args c S D cl tys G cc nL own) {x y : Int32} {off : Int} {tgt : Nat} (hd : decode cc pc = .ok (.if_icmp .le off, 3)) (ht : (pc : Int) + off = (tgt : Int)) (kt : x ≤ y → jm_W p l e R s m args below meth c S D cl Q nL (tgt) lv (rest) h dc ds) (kf : ¬ x ≤ y → jm_W p l e R s m args below meth c S D cl Q nL (pc + 3) lv (rest) h dc ds) : jm_W p l e R s m args below meth c S D cl Q nL (pc) lv (.int y :: .int x :: rest) h dc ds := fun H ls locs hl hr hS => lv_icmp_le X.1 X.2.1 hd ht (fun q => kt q H ls locs hl hr hS) (fun q => kf q H ls locs hl hr hS)
theorem jm_goto (X : jm_cx p s m args c S D cl tys G cc nL own) {off : Int} {tgt : Nat} (hd : decode cc pc = .ok (.goto off, 3)) (ht : (pc : Int) + off = (tgt : Int)) (k : jm_W p l e R s m args below meth c S D cl Q nL (tgt) lv (rest) h dc ds) : jm_W p l e R s m args below meth c S D cl Q nL (pc) lv (rest) h dc ds := fun H ls locs hl hr hS => lv_goto X.1 X.2.1 hd ht (k H ls locs hl hr hS)
theorem jm_tabOut (X : jm_cx p s m args c S D cl tys G cc nL own) {dflt lo hi : Int} {offs : Array Int} {len : Nat} {x : Int32} {tgt : Nat} (hd : decode cc pc = .ok (.tableswitch dflt lo hi offs, len)) (hx : x.toInt < lo ∨ hi < x.toInt) (ht : (pc : Int) + dflt = (tgt : Int)) (k : jm_W p l e R s m args below meth c S D cl Q nL (tgt) lv (rest) h dc ds) : jm_W p l e R s m args below meth c S D cl Q nL (pc) lv (.int x :: rest) h dc ds := fun H ls locs hl hr hS => lv_tableOut X.1 X.2.1 hd hx ht (k H ls locs hl hr hS)
theorem jm_tabIn (X : jm_cx p s m args c S D cl tys G cc nL own) {dflt lo hi : Int} {offs : Array Int} {len : Nat} {x : Int32} {off : Int} {tgt : Nat} (hd : decode cc pc = .ok (.tableswitch dflt lo hi offs, len)) (h1 : ¬ x.toInt < lo) (h2 : ¬ hi < x.toInt) (ho : offs[(x.toInt - lo).toNat]? = some off) (ht : (pc : Int) + off = (tgt : Int)) (k : jm_W p l e R s m args below meth c S D cl Q nL (tgt) lv (rest) h dc ds) : jm_W p l e R s m args below meth c S D cl Q nL (pc) lv (.int x :: rest) h dc ds := fun H ls locs hl hr hS => lv_tableIn X.1 X.2.1 hd h1 h2 ho ht (k H ls locs hl hr hS)
theorem jm_lookup (X : jm_cx p s m args c S D cl tys G cc nL own) {dflt : Int} {ps : Array (Int × Int)} {len : Nat} {x : Int32} {off : Int} {tgt : Nat} (hd : decode cc pc = .ok (.lookupswitch dflt ps, len)) (hp : (ps.toList.zip (ps.toList.drop 1)).all (fun (a, next) => a.1 < next.1) = true) (ho : Op.lookupswitch.offset ps.toList dflt x.toInt = off) (ht : (pc : Int) + off = (tgt : Int)) (k : jm_W p l e R s m args below meth c S D cl Q nL (tgt) lv (rest) h dc ds) : jm_W p l e R s m args below meth c S D cl Q nL (pc) lv (.int x :: rest) h dc ds := fun H ls locs hl hr hS => lv_lookup X.1 X.2.1 hd hp ho ht (k H ls locs hl hr hS)
theorem jm_topi {x : Int32} (k : ∀ y : Int32, y = x → jm_W p l e R s m args below meth c S D cl Q nL (pc) lv (.int y :: rest) h dc ds) : jm_W p l e R s m args below meth c S D cl Q nL (pc) lv (.int x :: rest) h dc ds := k x rfl
theorem jm_topl {x : Int64} (k : ∀ y : Int64, y = x → jm_W p l e R s m args below meth c S D cl Q nL (pc) lv (.long y :: rest) h dc ds) : jm_W p l e R s m args below meth c S D cl Q nL (pc) lv (.long x :: rest) h dc ds := k x rfl
end JM1
section JM2
variable {p : Program} {l : Launch} {e : Env} {R : Room} {s : State} {m : MethodId} {args : Array Value} {below : List Frame} {meth : Method} {c : Code} {Q : State → Prop}
variable {S : State} {D : va_G} {cl : List vw_C} {tys : List (ClassId × FieldType)} {G : List Cond} {cc : ByteArray} {nL pc dc ds : Nat} {own : String} {lv : List (Nat × Value)} {rest : List Value} {h : jm_H}
theorem jm_A (X : jm_cx p s m args c S D cl tys G cc nL own) : ∀ q : Nat, s.heap.size ≤ q → (fun z => S.heap.size ≤ z) q := fun _ hq => Nat.le_trans X.2.2.2.2.2.2.1.2.1 hq
def jm_fs (cl : List vw_C) (G : List Cond) (own : String) (index ci k : Nat) (ty : FieldType) (fin : Bool) : Prop :=
  ∃ (C : String) (T : u_T) (N : Nat) (ty0 : Nat → FieldType), cl[ci]? = some (C, T, N) ∧ k < N ∧ (∀ w ∈ u_ws C T N, w ∈ G) ∧ (∀ k, k < N → parseFieldDescriptor (T k).2.2.1 = some (ty0 k)) ∧ (∀ a, a < N → ∀ b, b < N → a ≠ b → (T a).2.1 ≠ (T b).2.1) ∧ (T k).2.2.2 = fin ∧ (T k).1 = C ∧ parseFieldDescriptor (T k).2.2.1 = some ty ∧
    (Cond.fieldLink own index (T k).1 (T k).2.1 (T k).2.2.1 ∈ G ∨ ∃ host : String, Cond.fieldLinkNest own index (T k).1 (T k).2.1 (T k).2.2.1 host ∈ G)
theorem jm_get (X : jm_cx p s m args c S D cl tys G cc nL own) {index ci k a : Nat} {ty : FieldType} {fin : Bool} {fs : List Value} {v : Value} (hd : decode cc pc = .ok (.getfield index, 3)) (hf : jm_fs cl G own index ci k ty fin) (ha : h a = some (.inr (ci, fs))) (hv : fs[k]? = some v)
    (kk : jm_W p l e R s m args below meth c S D cl Q nL (pc + 3) lv (v :: rest) h dc ds) : jm_W p l e R s m args below meth c S D cl Q nL pc lv (.ref a :: rest) h dc ds := by
  intro H ls locs hl hr hS
  obtain ⟨C, T, N, ty0, hc, hk, hin, hty, hnm, hfin, hC, hpd, hlk⟩ := hf
  obtain ⟨q0, hq⟩ := jm_place hr ha
  rcases hlk with hw | ⟨host, hw⟩
  · exact va_get X.1 X.2.1 X.2.2.2.2.1 hin X.2.2.2.1 X.2.2.2.2.2.1 (jm_P hr) q0 hq hc k hk (X.2.2.2.2.1 _ hw) (fun _ h9 => h9) hv hd (kk H ls locs hl hr hS)
  · exact va_getN X.1 X.2.1 X.2.2.2.2.1 hin X.2.2.2.1 X.2.2.2.2.2.1 (jm_P hr) q0 hq hc k hk (X.2.2.2.2.1 _ hw) (fun _ h9 => h9) hv hd (kk H ls locs hl hr hS)
theorem jm_put (X : jm_cx p s m args c S D cl tys G cc nL own) {index ci k a : Nat} {ty : FieldType} {fs fs1 : List Value} {v : Value} (hd : decode cc pc = .ok (.putfield index, 3)) (hf : jm_fs cl G own index ci k ty false) (ha : h a = some (.inr (ci, fs))) (hn : narrow ty v = v) (hfit : fits ty v = true) (hlen : k < fs.length) (he : fs.set k v = fs1)
    (kk : jm_W p l e R s m args below meth c S D cl Q nL (pc + 3) lv rest (jm_up h a (.inr (ci, fs1))) dc ds) : jm_W p l e R s m args below meth c S D cl Q nL pc lv (v :: .ref a :: rest) h dc ds := by
  intro H ls locs hl hr hS
  subst he
  obtain ⟨C, T, N, ty0, hc, hk, hin, hty, hnm, hfin, hC, hpd, hlk⟩ := hf
  obtain ⟨q0, hq⟩ := jm_place hr ha
  rcases hlk with hw | ⟨host, hw⟩
  · exact va_put X.1 X.2.1 X.2.2.2.2.1 hin ty0 hty hnm X.2.2.2.1 X.2.2.2.2.2.1 (jm_P hr) (jm_D hr) hS q0 hq hc k hk (X.2.2.2.2.1 _ hw) (fun _ h9 => h9) hfin hpd hn hfit hlen hd (fun H1 locs1 hP1 _ hS1 => kk H1 ls locs1 hl (jm_set hr hq hP1) hS1)
  · exact va_putN X.1 X.2.1 X.2.2.2.2.1 hin ty0 hty hnm X.2.2.2.1 X.2.2.2.2.2.1 (jm_P hr) (jm_D hr) hS q0 hq hc k hk (X.2.2.2.2.1 _ hw) (fun _ h9 => h9) hfin hpd hn hfit hlen hd (fun H1 locs1 hP1 _ hS1 => kk H1 ls locs1 hl (jm_set hr hq hP1) hS1)
def jm_ff (cl : List vw_C) (G : List Cond) (own : String) (index ci k : Nat) (ty : FieldType) : Prop :=
  ∃ (T : u_T) (N : Nat) (ty0 : Nat → FieldType), cl[ci]? = some (own, T, N) ∧ k < N ∧ (∀ w ∈ u_ws own T N, w ∈ G) ∧ (∀ k, k < N → parseFieldDescriptor (T k).2.2.1 = some (ty0 k)) ∧ (∀ a, a < N → ∀ b, b < N → a ≠ b → (T a).2.1 ≠ (T b).2.1) ∧ (T k).2.2.2 = true ∧ (T k).1 = own ∧ parseFieldDescriptor (T k).2.2.1 = some ty ∧ Cond.fieldLink own index (T k).1 (T k).2.1 (T k).2.2.1 ∈ G
theorem jm_putF (X : jm_cx p s m args c S D cl tys G cc nL own) {index ci k a : Nat} {ty : FieldType} {fs fs1 : List Value} {v : Value} (hmn : meth.name = "<init>") (hd : decode cc pc = .ok (.putfield index, 3)) (hf : jm_ff cl G own index ci k ty) (ha : h a = some (.inr (ci, fs))) (hn : narrow ty v = v) (hfit : fits ty v = true) (hlen : k < fs.length) (he : fs.set k v = fs1)
    (kk : jm_W p l e R s m args below meth c S D cl Q nL (pc + 3) lv rest (jm_up h a (.inr (ci, fs1))) dc ds) : jm_W p l e R s m args below meth c S D cl Q nL pc lv (v :: .ref a :: rest) h dc ds := by
  intro H ls locs hl hr hS
  subst he
  obtain ⟨T, N, ty0, hc, hk, hin, hty, hnm, hfin, hC, hpd, hw⟩ := hf
  obtain ⟨q0, hq⟩ := jm_place hr ha
  exact va_putF X.1 X.2.1 X.2.2.2.2.1 hin ty0 hty hnm X.2.2.2.1 X.2.2.2.2.2.1 (jm_P hr) (jm_D hr) hS q0 hq hc k hk (X.2.2.2.2.1 _ hw) (fun _ h9 => h9) hfin hmn hC hpd hn hfit hlen hd (fun H1 locs1 hP1 _ hS1 => kk H1 ls locs1 hl (jm_set hr hq hP1) hS1)
theorem jm_iald (X : jm_cx p s m args c S D cl tys G cc nL own) {t0 a n : Nat} {cA : ClassId} {f : Nat → Int32} {i : Int32} (hd : decode cc pc = .ok (.iaload, 1)) (ht : tys[t0]? = some (cA, .int)) (ha : h a = some (.inl (cA, n, .inl f))) (hin : vp_in i n) (kk : jm_W p l e R s m args below meth c S D cl Q nL (pc + 1) lv (.int (f i.toNatClampNeg) :: rest) h dc ds) : jm_W p l e R s m args below meth c S D cl Q nL (pc) lv (.int i :: .ref a :: rest) h dc ds := by
  intro H ls locs hl hr hS
  obtain ⟨q0, hq⟩ := jm_place hr ha
  exact va_iald X.1 X.2.1 X.2.2.2.2.2.1 (jm_P hr) q0 t0 hq ht hin hd (kk H ls locs hl hr hS)
theorem jm_bald (X : jm_cx p s m args c S D cl tys G cc nL own) {t0 a n : Nat} {cA : ClassId} {f : Nat → Int32} {i : Int32} (hd : decode cc pc = .ok (.baload, 1)) (ht : tys[t0]? = some (cA, .byte)) (ha : h a = some (.inl (cA, n, .inl f))) (hin : vp_in i n) (kk : jm_W p l e R s m args below meth c S D cl Q nL (pc + 1) lv (.int (f i.toNatClampNeg) :: rest) h dc ds) : jm_W p l e R s m args below meth c S D cl Q nL (pc) lv (.int i :: .ref a :: rest) h dc ds := by
  intro H ls locs hl hr hS
  obtain ⟨q0, hq⟩ := jm_place hr ha
  exact va_bald X.1 X.2.1 X.2.2.2.2.2.1 (jm_P hr) q0 t0 hq ht hin hd (kk H ls locs hl hr hS)
theorem jm_zald (X : jm_cx p s m args c S D cl tys G cc nL own) {t0 a n : Nat} {cA : ClassId} {f : Nat → Int32} {i : Int32} (hd : decode cc pc = .ok (.baload, 1)) (ht : tys[t0]? = some (cA, .boolean)) (ha : h a = some (.inl (cA, n, .inl f))) (hin : vp_in i n) (kk : jm_W p l e R s m args below meth c S D cl Q nL (pc + 1) lv (.int (f i.toNatClampNeg) :: rest) h dc ds) : jm_W p l e R s m args below meth c S D cl Q nL (pc) lv (.int i :: .ref a :: rest) h dc ds := by
  intro H ls locs hl hr hS
  obtain ⟨q0, hq⟩ := jm_place hr ha
  exact va_zald X.1 X.2.1 X.2.2.2.2.2.1 (jm_P hr) q0 t0 hq ht hin hd (kk H ls locs hl hr hS)
theorem jm_lald (X : jm_cx p s m args c S D cl tys G cc nL own) {t0 a n : Nat} {cA : ClassId} {f : Nat → Int64} {i : Int32} (hd : decode cc pc = .ok (.laload, 1)) (ht : tys[t0]? = some (cA, .long)) (ha : h a = some (.inl (cA, n, .inr (.inl f)))) (hin : vp_in i n) (kk : jm_W p l e R s m args below meth c S D cl Q nL (pc + 1) lv (.long (f i.toNatClampNeg) :: rest) h dc ds) : jm_W p l e R s m args below meth c S D cl Q nL (pc) lv (.int i :: .ref a :: rest) h dc ds := by
  intro H ls locs hl hr hS
  obtain ⟨q0, hq⟩ := jm_place hr ha
  exact va_lald X.1 X.2.1 X.2.2.2.2.2.1 (jm_P hr) q0 t0 hq ht hin hd (kk H ls locs hl hr hS)
theorem jm_aald (X : jm_cx p s m args c S D cl tys G cc nL own) {t0 a n : Nat} {cA : ClassId} {C : String} {f : Nat → Option Nat} {i : Int32} (hd : decode cc pc = .ok (.aaload, 1)) (ht : tys[t0]? = some (cA, .object C)) (ha : h a = some (.inl (cA, n, .inr (.inr (.inr (.inr f)))))) (hin : vp_in i n) (kk : jm_W p l e R s m args below meth c S D cl Q nL (pc + 1) lv (va_rf (f i.toNatClampNeg) :: rest) h dc ds) : jm_W p l e R s m args below meth c S D cl Q nL (pc) lv (.int i :: .ref a :: rest) h dc ds := by
  intro H ls locs hl hr hS
  obtain ⟨q0, hq⟩ := jm_place hr ha
  exact va_aldq X.1 X.2.1 X.2.2.2.2.2.1 (jm_P hr) q0 t0 hq ht hin hd (kk H ls locs hl hr hS)
theorem jm_iast (X : jm_cx p s m args c S D cl tys G cc nL own) {t0 a n : Nat} {cA : ClassId} {f : Nat → Int32} {i : Int32} {x : Int32} (hd : decode cc pc = .ok (.iastore, 1)) (ht : tys[t0]? = some (cA, .int)) (ha : h a = some (.inl (cA, n, .inl f))) (hin : vp_in i n) (kk : jm_W p l e R s m args below meth c S D cl Q nL (pc + 1) lv (rest) (jm_up h a (.inl (cA, n, .inl (upd f i.toNatClampNeg x)))) dc ds) : jm_W p l e R s m args below meth c S D cl Q nL (pc) lv (.int x :: .int i :: .ref a :: rest) h dc ds := by
  intro H ls locs hl hr hS
  obtain ⟨q0, hq⟩ := jm_place hr ha
  exact va_iast X.1 X.2.1 X.2.2.2.2.2.1 (jm_P hr) (jm_D hr) hS q0 t0 hq ht hin hd (fun H1 locs1 hP1 _ hS1 => kk H1 ls locs1 hl (jm_set hr hq hP1) hS1)
theorem jm_bast (X : jm_cx p s m args c S D cl tys G cc nL own) {t0 a n : Nat} {cA : ClassId} {f : Nat → Int32} {i : Int32} {x : Int32} (hd : decode cc pc = .ok (.bastore, 1)) (ht : tys[t0]? = some (cA, .byte)) (ha : h a = some (.inl (cA, n, .inl f))) (hin : vp_in i n) (kk : jm_W p l e R s m args below meth c S D cl Q nL (pc + 1) lv (rest) (jm_up h a (.inl (cA, n, .inl (upd f i.toNatClampNeg (vp_nar .byte x))))) dc ds) : jm_W p l e R s m args below meth c S D cl Q nL (pc) lv (.int x :: .int i :: .ref a :: rest) h dc ds := by
  intro H ls locs hl hr hS
  obtain ⟨q0, hq⟩ := jm_place hr ha
  exact va_bast X.1 X.2.1 X.2.2.2.2.2.1 (jm_P hr) (jm_D hr) hS q0 t0 hq ht hin hd (fun H1 locs1 hP1 _ hS1 => kk H1 ls locs1 hl (jm_set hr hq hP1) hS1)
theorem jm_zast (X : jm_cx p s m args c S D cl tys G cc nL own) {t0 a n : Nat} {cA : ClassId} {f : Nat → Int32} {i : Int32} {x : Int32} (hd : decode cc pc = .ok (.bastore, 1)) (ht : tys[t0]? = some (cA, .boolean)) (ha : h a = some (.inl (cA, n, .inl f))) (hin : vp_in i n) (kk : jm_W p l e R s m args below meth c S D cl Q nL (pc + 1) lv (rest) (jm_up h a (.inl (cA, n, .inl (upd f i.toNatClampNeg (vp_nar .boolean x))))) dc ds) : jm_W p l e R s m args below meth c S D cl Q nL (pc) lv (.int x :: .int i :: .ref a :: rest) h dc ds := by
  intro H ls locs hl hr hS
  obtain ⟨q0, hq⟩ := jm_place hr ha
  exact va_zast X.1 X.2.1 X.2.2.2.2.2.1 (jm_P hr) (jm_D hr) hS q0 t0 hq ht hin hd (fun H1 locs1 hP1 _ hS1 => kk H1 ls locs1 hl (jm_set hr hq hP1) hS1)
theorem jm_last (X : jm_cx p s m args c S D cl tys G cc nL own) {t0 a n : Nat} {cA : ClassId} {f : Nat → Int64} {i : Int32} {x : Int64} (hd : decode cc pc = .ok (.lastore, 1)) (ht : tys[t0]? = some (cA, .long)) (ha : h a = some (.inl (cA, n, .inr (.inl f)))) (hin : vp_in i n) (kk : jm_W p l e R s m args below meth c S D cl Q nL (pc + 1) lv (rest) (jm_up h a (.inl (cA, n, .inr (.inl (vp_updL f i.toNatClampNeg x))))) dc ds) : jm_W p l e R s m args below meth c S D cl Q nL (pc) lv (.long x :: .int i :: .ref a :: rest) h dc ds := by
  intro H ls locs hl hr hS
  obtain ⟨q0, hq⟩ := jm_place hr ha
  exact va_last X.1 X.2.1 X.2.2.2.2.2.1 (jm_P hr) (jm_D hr) hS q0 t0 hq ht hin hd (fun H1 locs1 hP1 _ hS1 => kk H1 ls locs1 hl (jm_set hr hq hP1) hS1)
theorem jm_aast (X : jm_cx p s m args c S D cl tys G cc nL own) {t0 a n v ci : Nat} {cA : ClassId} {r : vw_C} {vs : List Value} {f : Nat → Option Nat} {i : Int32} (hd : decode cc pc = .ok (.aastore, 1)) (ht : tys[t0]? = some (cA, .object r.1)) (hc : cl[ci]? = some r) (ha : h a = some (.inl (cA, n, .inr (.inr (.inr (.inr f)))))) (hv : h v = some (.inr (ci, vs))) (hin : vp_in i n) (kk : jm_W p l e R s m args below meth c S D cl Q nL (pc + 1) lv (rest) (jm_up h a (.inl (cA, n, .inr (.inr (.inr (.inr (va_up f i.toNatClampNeg (some v)))))))) dc ds) : jm_W p l e R s m args below meth c S D cl Q nL (pc) lv (.ref v :: .int i :: .ref a :: rest) h dc ds := by
  intro H ls locs hl hr hS
  obtain ⟨q0, hq⟩ := jm_place hr ha
  obtain ⟨q1, hq1⟩ := jm_place hr hv
  exact va_astq X.1 X.2.1 X.2.2.2.2.2.1 (jm_P hr) (jm_D hr) hS q0 t0 q1 ci hq ht hq1 hc hin hd (fun H1 locs1 hP1 _ hS1 => kk H1 ls locs1 hl (jm_set hr hq hP1) hS1)
theorem jm_alen (X : jm_cx p s m args c S D cl tys G cc nL own) {t0 a : Nat} {cA : ClassId} {x : vp_A} {ty : FieldType} {v : Int32} (hd : decode cc pc = .ok (.arraylength, 1)) (ht : tys[t0]? = some (cA, ty)) (ha : h a = some (.inl (cA, x))) (hv : Int32.ofNat x.1 = v) (kk : jm_W p l e R s m args below meth c S D cl Q nL (pc + 1) lv (.int v :: rest) h dc ds) : jm_W p l e R s m args below meth c S D cl Q nL (pc) lv (.ref a :: rest) h dc ds := by
  intro H ls locs hl hr hS
  obtain ⟨q0, hq⟩ := jm_place hr ha
  exact va_alen X.1 X.2.1 X.2.2.2.2.2.1 (jm_P hr) q0 t0 hq ht hv hd (kk H ls locs hl hr hS)
def jm_nw (cl : List vw_C) (G : List Cond) (own : String) (index ci N : Nat) (fs : List Value) : Prop :=
  ∃ (C : String) (T : u_T) (ty : Nat → FieldType), cl[ci]? = some (C, T, N) ∧ (∀ w ∈ u_ws C T N, w ∈ G) ∧ (∀ k, k < N → parseFieldDescriptor (T k).2.2.1 = some (ty k)) ∧ (∀ j, j < N → defaultValue (ty j) = vp_V fs j) ∧ Cond.classLink own index C ∈ G ∧ Cond.instantiable C N ∈ G ∧ Cond.initialized C ∈ G
theorem jm_new (X : jm_cx p s m args c S D cl tys G cc nL own) {index ci N : Nat} {fs : List Value} (hd : decode cc pc = .ok (.new index, 3)) (hf : jm_nw cl G own index ci N fs) (hcells : dc + 1 ≤ R.cells) (hslots : ds + N ≤ R.slots)
    (kk : ∀ q : Nat, h q = none → S.heap.size ≤ q → jm_W p l e R s m args below meth c S D cl Q nL (pc + 3) lv (.ref q :: rest) (jm_up h q (.inr (ci, fs))) (dc + 1) (ds + N)) : jm_W p l e R s m args below meth c S D cl Q nL pc lv rest h dc ds := by
  intro H ls locs hl hr hS
  obtain ⟨C, T, ty, hc, hin, hty, hfs, w1, w2, w3⟩ := hf
  refine va_new X.1 X.2.1 X.2.2.2.2.1 hin ty hty X.2.2.2.1 (X.2.2.2.2.1 _ w1) (X.2.2.2.2.1 _ w2) (X.2.2.2.2.1 _ w3) X.2.2.2.2.2.1 (jm_P hr) (jm_D hr) hS (jm_A X) hc hfs hcells hslots hd (fun q H1 hP1 hD1 hS1 => ?_)
  obtain ⟨h1, h2, h3⟩ := jm_app hr hP1 hD1
  exact kk q h2 h3 H1 ls locs hl h1 hS1
theorem jm_newa (X : jm_cx p s m args c S D cl tys G cc nL own) {atype : ArrayType} {ty : FieldType} {t0 N : Nat} {cA : ClassId} {n : Int32} {a0 : vp_A} (hd : decode cc pc = .ok (.newarray atype, 2)) (hw : Cond.arrayClass (newarray.typeOf atype) ∈ G) (hty : newarray.typeOf atype = ty) (ht : tys[t0]? = some (cA, ty)) (ha : ∀ cA : ClassId, vp_cell cA a0 = arrV cA N (fun _ => defaultValue ty)) (hn : ¬ n < 0) (hN : n.toNatClampNeg = N) (hb : N * componentBytes ty ≤ 536870912) (hcells : dc + 1 ≤ R.cells) (hslots : ds + N ≤ R.slots)
    (kk : ∀ q : Nat, h q = none → S.heap.size ≤ q → jm_W p l e R s m args below meth c S D cl Q nL (pc + 2) lv (.ref q :: rest) (jm_up h q (.inl (cA, a0))) (dc + 1) (ds + N)) : jm_W p l e R s m args below meth c S D cl Q nL pc lv (.int n :: rest) h dc ds := by
  intro H ls locs hl hr hS
  refine va_newa X.1 X.2.1 (X.2.2.2.2.1 _ hw) hty X.2.2.2.2.2.1 (jm_P hr) (jm_D hr) hS (jm_A X) ha hn hN hb hcells hslots hd (fun q cA1 H1 hK1 hP1 hD1 hS1 => ?_)
  have e1 := (hK1.2 tys.length (cA1, ty) (by simp)).2
  have e2 := (X.2.2.2.2.2.1.2 t0 _ ht).2
  have e3 : cA1 = cA := by
    subst hty
    cases atype <;> exact Option.some.inj (e1.symm.trans e2)
  subst e3
  obtain ⟨h1, h2, h3⟩ := jm_app hr hP1 hD1
  exact kk q h2 h3 H1 ls locs hl h1 hS1
theorem jm_newq (X : jm_cx p s m args c S D cl tys G cc nL own) {C : String} {index t0 N : Nat} {cA : ClassId} {n : Int32} (hd : decode cc pc = .ok (.anewarray index, 3)) (hw : Cond.classLink own index C ∈ G) (hv : Cond.arrayOver (.object C) ∈ G) (ht : tys[t0]? = some (cA, .object C)) (hn : ¬ n < 0) (hN : n.toNatClampNeg = N) (hb : N * 4 ≤ 536870912) (hcells : dc + 1 ≤ R.cells) (hslots : ds + N ≤ R.slots)
    (kk : ∀ q : Nat, h q = none → S.heap.size ≤ q → jm_W p l e R s m args below meth c S D cl Q nL (pc + 3) lv (.ref q :: rest) (jm_up h q (.inl (cA, N, .inr (.inr (.inr (.inr (fun _ => none))))))) (dc + 1) (ds + N)) : jm_W p l e R s m args below meth c S D cl Q nL pc lv (.int n :: rest) h dc ds := by
  intro H ls locs hl hr hS
  refine va_newq X.1 X.2.1 X.2.2.2.1 (X.2.2.2.2.1 _ hw) (va_AO.of (X.2.2.2.2.1 _ hv)) X.2.2.2.2.2.1 (jm_P hr) (jm_D hr) hS (jm_A X) hn hN hb hcells hslots hd (fun q cA1 H1 hK1 hP1 hD1 hS1 => ?_)
  obtain ⟨_, _, _, _, _, e1⟩ := (hK1.2 tys.length (cA1, .object C) (by simp)).2
  obtain ⟨_, _, _, _, _, e2⟩ := (X.2.2.2.2.2.1.2 t0 _ ht).2
  have e3 : cA1 = cA := Option.some.inj (e1.symm.trans e2)
  subst e3
  obtain ⟨h1, h2, h3⟩ := jm_app hr hP1 hD1
  exact kk q h2 h3 H1 ls locs hl h1 hS1
end JM2
