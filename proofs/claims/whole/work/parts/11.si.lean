section JX5
variable {p : Program} {l : Launch} {e : Env} {Rm : Room} {s : State} {m : MethodId} {args : Array Value} {below : List Frame} {meth : Method} {c : Code} {Q : State → Prop}
variable {S : State} {D : va_G} {dA : Nat → ClassId} {cc : ByteArray} {nL pc dc ds : Nat} {own : String} {K : (Nat × List Value) → Nat → Prop} {R R0 : List Nat} {M : jx_H} {h : jm_H} {lv lw : List (Nat × Value)} {st sw : List Value} {z : jx_N}
/-- the type of a field, by its number -/
def jx_tk (t : Nat) (ty : FieldType) : Prop := (t = 0 ∧ ty = .int) ∨ (t = 1 ∧ ty = .long) ∨ (t = 2 ∧ ty = .boolean) ∨ (t = 4 ∧ ((∃ C, ty = .object C) ∨ ∃ t1, ty = .array t1))
theorem jx_fit_ok {t : Nat} {ty : FieldType} {v u : Value} {R : List Nat} (ht : jx_tk t ty) (hf : jx_fit t v = true) (hv : jx_v R v u) : narrow ty u = u ∧ fits ty u = true := by
  rcases ht with ⟨rfl, rfl⟩ | ⟨rfl, rfl⟩ | ⟨rfl, rfl⟩ | ⟨rfl, ht⟩
  · cases v <;> simp [jx_fit] at hf
    have hv : u = _ := hv
    subst hv
    exact ⟨rfl, rfl⟩
  · cases v <;> simp [jx_fit] at hf
    have hv : u = _ := hv
    subst hv
    exact ⟨rfl, rfl⟩
  · cases v <;> simp [jx_fit] at hf
    have hv : u = _ := hv
    subst hv
    rcases hf with rfl | rfl <;> exact ⟨by decide, by decide⟩
  · cases v with
    | null =>
      have hv : u = _ := hv
      subst hv
      rcases ht with ⟨C, rfl⟩ | ⟨t1, rfl⟩ <;> exact ⟨rfl, rfl⟩
    | ref a =>
      obtain ⟨b, -, rfl⟩ := hv
      rcases ht with ⟨C, rfl⟩ | ⟨t1, rfl⟩ <;> exact ⟨rfl, rfl⟩
    | _ => simp [jx_fit] at hf
/-- the first is the class of arrays over the second -/
def jx_kd (S : State) (a b : ClassId) : Prop := ∃ (k : Class) (ty : FieldType), S.vm.classes[a]? = some k ∧ k.kind = .array b ty ∧ ty.isReference = true ∧ componentBytes ty = 4
theorem jx_kd.moved {S : State} {a b : ClassId} {vm : Vm} (hvm : S.vm.Alike vm) (h : jx_kd S a b) : ∃ (k : Class) (ty : FieldType), vm.classes[a]? = some k ∧ k.kind = .array b ty ∧ ty.isReference = true ∧ componentBytes ty = 4 := by
  obtain ⟨k, ty, h1, h2, h3, h4⟩ := h
  obtain ⟨k', hk', he⟩ := hvm.2.2 _ _ h1
  exact ⟨k', ty, hk', by rw [he]; exact h2, h3, h4⟩
def jx_si (S : State) (dA : Nat → ClassId) (R0 : List Nat) (df : List (List Value)) (own : String) (i : Instr) (x : List Nat) (va : Value) : Prop := match i with
  | .iconst n => va = .int (Int32.ofInt n)
  | .bipush n => va = .int (Int8.ofInt n).toInt32
  | .sipush n => va = .int (Int16.ofInt n).toInt32
  | .lconst n => va = .long (Int64.ofNat n.val)
  | .ldc idx => (∃ v, va = .int v ∧ Cond.constant own idx v ∈ jm_G) ∨ (∃ (a b : Nat) (tx : String), va = .ref a ∧ R0[a]? = some b ∧ vk_R own idx tx b S)
  | .ldc_w idx => ∃ v, va = .int v ∧ Cond.constant own idx v ∈ jm_G
  | .ldc2_w idx => ∃ v, va = .long v ∧ Cond.constantLong own idx v ∈ jm_G
  | .getfield idx => ∃ (ci k : Nat) (ty : FieldType) (fin : Bool), x = [ci, k] ∧ ci < 100 ∧ jm_fs jm_cl jm_G own idx ci k ty fin
  | .putfield idx => ∃ (ci k t f : Nat) (ty : FieldType), x = [ci, k, t, f] ∧ ci < 100 ∧ jx_tk t ty ∧ ((f = 0 ∧ jm_fs jm_cl jm_G own idx ci k ty false) ∨ (f = 1 ∧ jm_ff jm_cl jm_G own idx ci k ty))
  | .getstatic idx => ∃ (a b : Nat) (C n d : String), va = .ref a ∧ R0[a]? = some b ∧ va_Z C n d (.ref b) (fun q => S.heap.size ≤ q) S S.heap ∧ Cond.fieldLink own idx C n d ∈ jm_G
  | .new idx => ∃ ci, x = [ci] ∧ ∀ fs, df[ci]? = some fs → jm_nw jm_cl jm_G own idx ci fs.length fs
  | .newarray at1 => ∃ t ty, x = [t] ∧ t < 4 ∧ newarray.typeOf at1 = ty ∧ (jm_ty dA)[t]? = some (dA t, ty) ∧ Cond.arrayClass (newarray.typeOf at1) ∈ jm_G
  | .anewarray idx => ∃ t C, x = [t] ∧ 4 ≤ t ∧ (jm_ty dA)[t]? = some (dA t, .object C) ∧ Cond.classLink own idx C ∈ jm_G ∧ va_AO C S
  | .multianewarray idx dm => (∃ (t1 t2 : Nat) (C : String), x = [t1, t2] ∧ dm = 2 ∧ 4 ≤ t1 ∧ t1 < 13 ∧ t2 < 4 ∧ Cond.classLink own idx C ∈ jm_G ∧ S.vm.findClass C = some (dA t1) ∧ jx_kd S (dA t1) (dA t2)) ∨
      (∃ (t1 t2 t3 : Nat) (C : String), x = [t1, t2, t3] ∧ dm = 3 ∧ 4 ≤ t1 ∧ t1 < 13 ∧ 4 ≤ t2 ∧ t2 < 13 ∧ t3 < 4 ∧ Cond.classLink own idx C ∈ jm_G ∧ S.vm.findClass C = some (dA t1) ∧ jx_kd S (dA t1) (dA t2) ∧ jx_kd S (dA t2) (dA t3))
  | _ => True
def jx_len (i : Instr) : Nat := match i with
  | .aload _ | .iload _ | .lload _ | .astore _ | .istore _ | .lstore _ | .bipush _ | .ldc _ | .newarray _ => 2
  | .sipush _ | .ldc_w _ | .ldc2_w _ | .getfield _ | .putfield _ | .getstatic _ | .new _ | .anewarray _ | .invokestatic _ | .invokevirtual _ | .invokespecial _ | .ifCond _ _ | .if_icmp _ _ | .goto _ | .iinc _ _ => 3
  | .multianewarray _ _ => 4
  | _ => 1
/-- what is known of constants -/
def jx_KK (S : State) (K : (Nat × List Value) → Nat → Prop) : Prop := (∀ (L : List Value) (b : Nat), K (200, L) b → ∃ xs : Nat → Int32, va_T .int b L.length (fun j => .int (xs j)) (fun q => S.heap.size ≤ q) S S.heap ∧ ∀ (i : Nat) (v : Value), L[i]? = some v → v = .int (xs i)) ∧
  (∀ (L : List Value) (b : Nat), K (300, L) b → va_O "java/lang/String" b (fun q => S.heap.size ≤ q) S S.heap ∧ va_OF "java/lang/String" "coder" "B" (.int 0) b (fun q => S.heap.size ≤ q) S S.heap ∧ ∃ (v : Nat) (xs : Nat → Int32), va_OF "java/lang/String" "value" "[B" (.ref v) b (fun q => S.heap.size ≤ q) S S.heap ∧ va_T .byte v L.length (fun j => .int (xs j)) (fun q => S.heap.size ≤ q) S S.heap ∧ L.length < 1000 ∧ ∀ (i : Nat) (w : Value), L[i]? = some w → w = .int (xs i) ∧ xs i &&& 255 = xs i) ∧ va_Z "java/lang/String" "COMPACT_STRINGS" "Z" (.int 1) (fun q => S.heap.size ≤ q) S S.heap ∧ ∃ v : Value, (v = .null ∨ ∃ q, v = .ref q) ∧ va_Z "jdk/internal/util/Preconditions" "SIOOBE_FORMATTER" "Ljava/util/function/BiFunction;" v (fun q => S.heap.size ≤ q) S S.heap
theorem jx_jz (X : jm_cx p s m args c S D jm_cl (jm_ty dA) jm_G cc nL own) {cd : ClassFile.Cond} {off : Int} (hd : decode cc pc = .ok (.ifCond cd off, 3)) (x : Int32) (r : List Value) (t : Nat) (ht : (pc : Int) + off = (t : Int))
    (kt : jx_cz cd x = true → jm_W p l e Rm s m args below meth c S D jm_cl Q nL t lw r h dc ds) (kf : jx_cz cd x = false → jm_W p l e Rm s m args below meth c S D jm_cl Q nL (pc + 3) lw r h dc ds) : jm_W p l e Rm s m args below meth c S D jm_cl Q nL pc lw (.int x :: r) h dc ds := by
  cases cd with
  | eq => exact jm_if_eq X hd ht (fun q => kt (by simp only [jx_cz, q]; rfl)) (fun q => kf (by simp only [jx_cz, q]; rfl))
  | ne => exact jm_if_ne X hd ht (fun q => kt (by simp [jx_cz, q])) (fun q => kf (by simp [jx_cz, q]))
  | lt => exact jm_if_lt X hd ht (fun q => kt (by simp only [jx_cz, q]; rfl)) (fun q => kf (by simp only [jx_cz, q]; rfl))
  | ge => exact jm_if_ge X hd ht (fun q => kt (by simp only [jx_cz, q]; rfl)) (fun q => kf (by simp only [jx_cz, q]; rfl))
  | gt => exact jm_if_gt X hd ht (fun q => kt (by simp only [jx_cz, q]; rfl)) (fun q => kf (by simp only [jx_cz, q]; rfl))
  | le => exact jm_if_le X hd ht (fun q => kt (by simp only [jx_cz, q]; rfl)) (fun q => kf (by simp only [jx_cz, q]; rfl))
theorem jx_jc (X : jm_cx p s m args c S D jm_cl (jm_ty dA) jm_G cc nL own) {cd : ClassFile.Cond} {off : Int} (hd : decode cc pc = .ok (.if_icmp cd off, 3)) (x y : Int32) (r : List Value) (t : Nat) (ht : (pc : Int) + off = (t : Int))
    (kt : jx_cc cd x y = true → jm_W p l e Rm s m args below meth c S D jm_cl Q nL t lw r h dc ds) (kf : jx_cc cd x y = false → jm_W p l e Rm s m args below meth c S D jm_cl Q nL (pc + 3) lw r h dc ds) : jm_W p l e Rm s m args below meth c S D jm_cl Q nL pc lw (.int y :: .int x :: r) h dc ds := by
  cases cd with
  | eq => exact jm_icmp_eq X hd ht (fun q => kt (by simp only [jx_cc, q]; rfl)) (fun q => kf (by simp only [jx_cc, q]; rfl))
  | ne => exact jm_icmp_ne X hd ht (fun q => kt (by simp [jx_cc, q])) (fun q => kf (by simp [jx_cc, q]))
  | lt => exact jm_icmp_lt X hd ht (fun q => kt (by simp only [jx_cc, q]; rfl)) (fun q => kf (by simp only [jx_cc, q]; rfl))
  | ge => exact jm_icmp_ge X hd ht (fun q => kt (by simp only [jx_cc, q]; rfl)) (fun q => kf (by simp only [jx_cc, q]; rfl))
  | gt => exact jm_icmp_gt X hd ht (fun q => kt (by simp only [jx_cc, q]; rfl)) (fun q => kf (by simp only [jx_cc, q]; rfl))
  | le => exact jm_icmp_le X hd ht (fun q => kt (by simp only [jx_cc, q]; rfl)) (fun q => kf (by simp only [jx_cc, q]; rfl))
theorem jx_in {i : Int32} {n : Nat} (h1 : ¬ i < 0) (h2 : i.toNatClampNeg < n) : vp_in i n := fun q => q.elim h1 (fun z => absurd h2 (Nat.not_lt.mpr z))
theorem jx_in' {i : Int32} {L : List Value} {v : Value} (h1 : ¬ i < 0) (h2 : L[i.toNatClampNeg]? = some v) : vp_in i L.length := jx_in h1 (List.getElem?_eq_some_iff.mp h2).1
theorem jx_upd {L : List Value} {f : Nat → Int32} {i : Nat} {y : Int32} (hL : ∀ (j : Nat) (v : Value), L[j]? = some v → v = .int (f j)) : ∀ (j : Nat) (v : Value), (L.set i (.int y))[j]? = some v → v = .int (upd f i y j) := fun j v hv => by
  by_cases e : i = j
  · subst e
    have hl := (List.getElem?_eq_some_iff.mp hv).1
    rw [List.length_set] at hl
    rw [List.getElem?_set_self hl] at hv
    cases hv
    simp [upd]
  · rw [List.getElem?_set_ne e] at hv
    have := hL j v hv
    simpa [upd, Ne.symm e] using this
theorem jx_updL {L : List Value} {f : Nat → Int64} {i : Nat} {y : Int64} (hL : ∀ (j : Nat) (v : Value), L[j]? = some v → v = .long (f j)) : ∀ (j : Nat) (v : Value), (L.set i (.long y))[j]? = some v → v = .long (vp_updL f i y j) := fun j v hv => by
  by_cases e : i = j
  · subst e
    have hl := (List.getElem?_eq_some_iff.mp hv).1
    rw [List.length_set] at hl
    rw [List.getElem?_set_self hl] at hv
    cases hv
    simp [vp_updL]
  · rw [List.getElem?_set_ne e] at hv
    have := hL j v hv
    simpa [vp_updL, Ne.symm e] using this
end JX5
