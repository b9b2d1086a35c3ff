section JX0
abbrev jx_H : Type := List (Nat × List Value)
abbrev jx_N : Type := Nat × List (Nat × Value) × List Value × jx_H × Nat × Nat
abbrev jx_A : Type := jx_N ⊕ ((Nat × List Value × List Value) ⊕ (Option Value ⊕ Nat))
abbrev jx_L : Type := Nat × Instr × Nat × List Nat × Value
abbrev jx_Me : Type := MethodName × ByteArray × Nat × Option FieldType × List (Nat × Nat × Nat × Nat × Nat) × List jx_L
abbrev jx_O : Type := (Option Value ⊕ Nat) × jx_H × Nat × Nat
def jx_lk (lv : List (Nat × Value)) (i : Nat) : Option Value := (lv.find? (fun q => q.1 == i)).map Prod.snd
def jx_s1 (lv : List (Nat × Value)) (i : Nat) (v : Value) : List (Nat × Value) := (i, v) :: lv.filter (fun q => !(q.1 == i) && !(q.1 + 1 == i && q.2.category == 2))
def jx_s2 (lv : List (Nat × Value)) (i : Nat) (v : Value) : List (Nat × Value) := (i, v) :: lv.filter (fun q => !(q.1 == i) && (!(q.1 == i + 1) && !(q.1 + 1 == i && q.2.category == 2)))
def jx_k (pc : Nat) (lv : List (Nat × Value)) (st : Option (List Value)) (M : jx_H) (dc ds : Nat) : Option jx_A := match st with
  | some st => some (.inl (pc, lv, st, M, dc, ds))
  | none => none
def jx_ii (f : Int32 → Int32 → Int32) (st : List Value) : Option (List Value) := match st with
  | .int y :: .int x :: r => some (.int (f x y) :: r)
  | _ => none
def jx_ll (f : Int64 → Int64 → Int64) (st : List Value) : Option (List Value) := match st with
  | .long y :: .long x :: r => some (.long (f x y) :: r)
  | _ => none
def jx_iz (f : Int32 → Int32 → Int32) (st : List Value) : Option (List Value) := match st with
  | .int y :: .int x :: r => if y = 0 then none else some (.int (f x y) :: r)
  | _ => none
def jx_lz (f : Int64 → Int64 → Int64) (st : List Value) : Option (List Value) := match st with
  | .long y :: .long x :: r => if y = 0 then none else some (.long (f x y) :: r)
  | _ => none
def jx_li (f : Int64 → Int32 → Int64) (st : List Value) : Option (List Value) := match st with
  | .int y :: .long x :: r => some (.long (f x y) :: r)
  | _ => none
def jx_lc (f : Int64 → Int64 → Int32) (st : List Value) : Option (List Value) := match st with
  | .long y :: .long x :: r => some (.int (f x y) :: r)
  | _ => none
def jx_i1 (f : Int32 → Value) (st : List Value) : Option (List Value) := match st with
  | .int x :: r => some (f x :: r)
  | _ => none
def jx_l1 (f : Int64 → Value) (st : List Value) : Option (List Value) := match st with
  | .long x :: r => some (f x :: r)
  | _ => none
def jx_jp (pc : Nat) (off : Int) : Option Nat := match (pc : Int) + off with
  | .ofNat t => some t
  | .negSucc _ => none
def jx_cz (c : ClassFile.Cond) (x : Int32) : Bool := match c with
  | .eq => decide (x = 0)
  | .ne => !decide (x = 0)
  | .lt => decide (x < 0)
  | .ge => decide (0 ≤ x)
  | .gt => decide (0 < x)
  | .le => decide (x ≤ 0)
def jx_cc (c : ClassFile.Cond) (x y : Int32) : Bool := match c with
  | .eq => decide (x = y)
  | .ne => !decide (x = y)
  | .lt => decide (x < y)
  | .ge => decide (y ≤ x)
  | .gt => decide (y < x)
  | .le => decide (x ≤ y)
def jx_to (b : Bool) (pc len : Nat) (off : Int) (lv : List (Nat × Value)) (st : List Value) (M : jx_H) (dc ds : Nat) : Option jx_A := match jx_jp pc off with
  | some t => some (.inl ((match b with
    | true => t
    | false => pc + len), lv, st, M, dc, ds))
  | none => none
def jx_ty : Nat → FieldType
  | 0 => .int
  | 1 => .long
  | 2 => .boolean
  | 3 => .byte
  | _ => .object ""
def jx_fit (t : Nat) (v : Value) : Bool := match t, v with
  | 0, .int _ => true
  | 1, .long _ => true
  | 2, .int x => decide (x = 0) || decide (x = 1)
  | 4, .null => true
  | 4, .ref _ => true
  | _, _ => false
/-- the elements an array of the kind takes at the start -/
def jx_el (t : Nat) : Value := if t < 3 then .int 0 else if t = 3 then .long 0 else .null
def jx_cat (st : List Value) : Nat := (st.map fun v => v.category).sum
def jx_gf (pc : Nat) (lv : List (Nat × Value)) (M : jx_H) (dc ds : Nat) (x : List Nat) (st : List Value) : Option jx_A := match x, st with
  | [ci, k], .ref a :: r => match M[a]? with
    | some (cj, fs) => if cj = ci then (match fs[k]? with
      | some v => some (.inl (pc + 3, lv, v :: r, M, dc, ds))
      | none => none) else none
    | none => none
  | _, _ => none
def jx_pf (ini : Bool) (pc : Nat) (lv : List (Nat × Value)) (M : jx_H) (dc ds : Nat) (x : List Nat) (st : List Value) : Option jx_A := match x, st with
  | [ci, k, t, f], v :: .ref a :: r => match M[a]? with
    | some (cj, fs) => if cj = ci ∧ k < fs.length ∧ jx_fit t v = true ∧ (f = 0 ∨ ini = true) then some (.inl (pc + 3, lv, r, M.set a (ci, fs.set k v), dc, ds)) else none
    | none => none
  | _, _ => none
def jx_ald (ks : List Nat) (w : Value → Bool) (pc : Nat) (lv : List (Nat × Value)) (M : jx_H) (dc ds : Nat) (st : List Value) : Option jx_A := match st with
  | .int i :: .ref a :: r => match M[a]? with
    | some (k, L) => if ks.contains k = true ∧ ¬ i < 0 then (match L[i.toNatClampNeg]? with
      | some v => if w v = true then some (.inl (pc + 1, lv, v :: r, M, dc, ds)) else none
      | none => none) else none
    | none => none
  | _ => none
def jx_isI : Value → Bool
  | .int _ => true
  | _ => false
def jx_isL : Value → Bool
  | .long _ => true
  | _ => false
def jx_isR : Value → Bool
  | .null => true
  | .ref _ => true
  | _ => false
def jx_nar (k : Nat) (v : Value) : Value := match k, v with
  | 100, .int x => .int (vp_nar .byte x)
  | 101, .int x => .int (vp_nar .boolean x)
  | _, v => v
def jx_ast (ks : List Nat) (w : Value → Bool) (pc : Nat) (lv : List (Nat × Value)) (M : jx_H) (dc ds : Nat) (st : List Value) : Option jx_A := match st with
  | v :: .int i :: .ref a :: r => match M[a]? with
    | some (k, L) => if ks.contains k = true ∧ ¬ i < 0 ∧ i.toNatClampNeg < L.length ∧ w v = true then some (.inl (pc + 1, lv, r, M.set a (k, L.set i.toNatClampNeg (jx_nar k v)), dc, ds)) else none
    | none => none
  | _ => none
/-- the class of an object that an array of references takes -/
def jx_of (k : Nat) : Nat := match k with
  | 104 => 2
  | 105 => 4
  | 106 => 5
  | 107 => 7
  | _ => 1000
def jx_aas (pc : Nat) (lv : List (Nat × Value)) (M : jx_H) (dc ds : Nat) (st : List Value) : Option jx_A := match st with
  | .ref b :: .int i :: .ref a :: r => match M[a]?, M[b]? with
    | some (k, L), some (k2, _) => if (104 ≤ k ∧ k < 108) ∧ k2 = jx_of k ∧ ¬ i < 0 ∧ i.toNatClampNeg < L.length then some (.inl (pc + 1, lv, r, M.set a (k, L.set i.toNatClampNeg (.ref b)), dc, ds)) else none
    | _, _ => none
  | _ => none
def jx_aat (pc : Nat) (lv : List (Nat × Value)) (M : jx_H) (dc ds : Nat) (st : List Value) : Option jx_A := match st with
  | .ref b :: .int i :: .ref a :: r => match M[a]?, M[b]? with
    | some (k, L), some (k2, _) => if k = 108 ∧ k2 = 300 ∧ ¬ i < 0 ∧ i.toNatClampNeg < L.length then some (.inl (pc + 1, lv, r, M.set a (108, L.set i.toNatClampNeg (.ref b)), dc, ds)) else none
    | _, _ => none
  | _ => none
def jx_or (a b : Option jx_A) : Option jx_A := match a with
  | some z => some z
  | none => b
def jx_al (pc : Nat) (lv : List (Nat × Value)) (M : jx_H) (dc ds : Nat) (st : List Value) : Option jx_A := match st with
  | .ref a :: r => match M[a]? with
    | some (k, L) => if (100 ≤ k ∧ k < 113) ∨ k = 200 then some (.inl (pc + 1, lv, .int (Int32.ofNat L.length) :: r, M, dc, ds)) else none
    | none => none
  | _ => none
def jx_nw (pc : Nat) (lv : List (Nat × Value)) (M : jx_H) (dc ds : Nat) (df : List (List Value)) (x : List Nat) (st : List Value) : Option jx_A := match x with
  | [ci] => match df[ci]? with
    | some fs => some (.inl (pc + 3, lv, .ref M.length :: st, M ++ [(ci, fs)], dc + 1, ds + fs.length))
    | none => if ci < 15 then some (.inr (.inr (.inr ci))) else none
  | _ => none
def jx_na (len pc : Nat) (lv : List (Nat × Value)) (M : jx_H) (dc ds : Nat) (x : List Nat) (st : List Value) : Option jx_A := match x, st with
  | [t], .int n :: r => if n < 0 ∨ 67108864 < n.toNatClampNeg ∨ 13 ≤ t then none else some (.inl (pc + len, lv, .ref M.length :: r, M ++ [(100 + t, List.replicate n.toNatClampNeg (jx_el t))], dc + 1, ds + n.toNatClampNeg))
  | _, _ => none
/-- rows of an array of arrays: their cells, from the address a on -/
def jx_m2 (a n1 n2 t1 t2 : Nat) : jx_H := (100 + t1, (List.range n1).map (fun i => .ref (a + 1 + i))) :: List.replicate n1 (100 + t2, List.replicate n2 (jx_el t2))
def jx_m3 (a n2 n3 t2 t3 : Nat) : Nat → jx_H
  | 0 => []
  | n + 1 => jx_m2 a n2 n3 t2 t3 ++ jx_m3 (a + 1 + n2) n2 n3 t2 t3 n
def jx_mu (pc : Nat) (lv : List (Nat × Value)) (M : jx_H) (dc ds : Nat) (x : List Nat) (st : List Value) : Option jx_A := match x, st with
  | [t1, t2], .int b :: .int a :: r => if a < 0 ∨ b < 0 ∨ 1000 < a.toNatClampNeg ∨ 1000000 < b.toNatClampNeg then none else some (.inl (pc + 4, lv, .ref M.length :: r, M ++ jx_m2 M.length a.toNatClampNeg b.toNatClampNeg t1 t2, dc + (1 + a.toNatClampNeg), ds + (a.toNatClampNeg + a.toNatClampNeg * b.toNatClampNeg)))
  | [t1, t2, t3], .int c :: .int b :: .int a :: r => if a < 0 ∨ b < 0 ∨ c < 0 ∨ 1000 < a.toNatClampNeg ∨ 1000 < b.toNatClampNeg ∨ 1000000 < c.toNatClampNeg then none else
    some (.inl (pc + 4, lv, .ref M.length :: r, M ++ (100 + t1, (List.range a.toNatClampNeg).map (fun i => .ref (M.length + 1 + i * (1 + b.toNatClampNeg)))) :: jx_m3 (M.length + 1) b.toNatClampNeg c.toNatClampNeg t2 t3 a.toNatClampNeg, dc + (1 + a.toNatClampNeg + a.toNatClampNeg * b.toNatClampNeg), ds + (a.toNatClampNeg + a.toNatClampNeg * b.toNatClampNeg + a.toNatClampNeg * b.toNatClampNeg * c.toNatClampNeg)))
  | _, _ => none
def jx_cs (x : List Nat) (st : List Value) : Option jx_A := match x with
  | [k, n] => if n ≤ st.length ∧ jx_cat (st.drop n) ≤ 8 then some (.inr (.inl (k, (st.take n).reverse, st.drop n))) else none
  | _ => none
def jx_cv (M : jx_H) (x : List Nat) (st : List Value) : Option jx_A := match x with
  | [k, n, ci] => match st.drop n with
    | .ref b :: r => match M[b]? with
      | some (cj, _) => if cj = ci ∧ jx_cat r ≤ 8 then some (.inr (.inl (k, .ref b :: (st.take n).reverse, r))) else none
      | none => none
    | _ => none
  | _ => none
def jx_ci (x : List Nat) (st : List Value) : Option jx_A := match x with
  | [k, n] => match st.drop n with
    | .ref b :: r => if jx_cat r ≤ 8 then some (.inr (.inl (k, .ref b :: (st.take n).reverse, r))) else none
    | _ => none
  | _ => none
def jx_ri (ret : Option FieldType) (st : List Value) : Option jx_A := match ret, st with
  | some ty, [.int v] => if narrow ty (.int v) = .int v then some (.inr (.inr (.inl (some (.int v))))) else none
  | _, _ => none
def jx_rl (ret : Option FieldType) (st : List Value) : Option jx_A := match ret, st with
  | some .long, [.long v] => some (.inr (.inr (.inl (some (.long v)))))
  | _, _ => none
def jx_ra (ret : Option FieldType) (st : List Value) : Option jx_A := match ret, st with
  | some (.object _), [.ref a] => some (.inr (.inr (.inl (some (.ref a)))))
  | some (.array _), [.ref a] => some (.inr (.inr (.inl (some (.ref a)))))
  | _, _ => none
def jx_rv (ret : Option FieldType) (st : List Value) : Option jx_A := match ret, st with
  | none, [] => some (.inr (.inr (.inl none)))
  | _, _ => none
def jx_ld (n : Nat) (w : Value → Bool) (pc : Nat) (lv : List (Nat × Value)) (M : jx_H) (dc ds i : Nat) (st : List Value) : Option jx_A := match jx_lk lv i with
  | some v => if w v = true then some (.inl (pc + n, lv, v :: st, M, dc, ds)) else none
  | none => none
def jx_sr (n nL : Nat) (w : Value → Bool) (pc : Nat) (lv : List (Nat × Value)) (M : jx_H) (dc ds i : Nat) (st : List Value) : Option jx_A := match st with
  | v :: r => if w v = true ∧ i < nL then some (.inl (pc + n, jx_s1 lv i v, r, M, dc, ds)) else none
  | [] => none
def jx_sr2 (n nL : Nat) (pc : Nat) (lv : List (Nat × Value)) (M : jx_H) (dc ds i : Nat) (st : List Value) : Option jx_A := match st with
  | .long v :: r => if i + 1 < nL then some (.inl (pc + n, jx_s2 lv i (.long v), r, M, dc, ds)) else none
  | _ => none
def jx_isA : Value → Bool
  | .ref _ => true
  | _ => false
def jx_inc (nL pc : Nat) (lv : List (Nat × Value)) (M : jx_H) (dc ds i : Nat) (n : Int) (st : List Value) : Option jx_A := match jx_lk lv i with
  | some (.int x) => if i < nL then some (.inl (pc + 3, jx_s1 lv i (.int (x + Int32.ofInt n)), st, M, dc, ds)) else none
  | _ => none
def jx_du (pc : Nat) (lv : List (Nat × Value)) (M : jx_H) (dc ds : Nat) (st : List Value) : Option jx_A := match st with
  | v :: r => if v.category = 1 then some (.inl (pc + 1, lv, v :: v :: r, M, dc, ds)) else none
  | [] => none
def jx_po (pc : Nat) (lv : List (Nat × Value)) (M : jx_H) (dc ds : Nat) (st : List Value) : Option jx_A := match st with
  | v :: r => if v.category = 1 then some (.inl (pc + 1, lv, r, M, dc, ds)) else none
  | [] => none
def jx_d2 (pc : Nat) (lv : List (Nat × Value)) (M : jx_H) (dc ds : Nat) (st : List Value) : Option jx_A := match st with
  | v :: w :: r => if v.category = 1 ∧ w.category = 1 then some (.inl (pc + 1, lv, v :: w :: v :: w :: r, M, dc, ds)) else if v.category = 2 then some (.inl (pc + 1, lv, v :: v :: w :: r, M, dc, ds)) else none
  | _ => none
def jx_ts (pc : Nat) (d lo hi : Int) (offs : Array Int) (lv : List (Nat × Value)) (M : jx_H) (dc ds : Nat) (st : List Value) : Option jx_A := match st with
  | .int x :: r => if x.toInt < lo ∨ hi < x.toInt then jx_to true pc 0 d lv r M dc ds else match offs[(x.toInt - lo).toNat]? with
    | some off => jx_to true pc 0 off lv r M dc ds
    | none => none
  | _ => none
def jx_lus (pc : Nat) (d : Int) (ps : Array (Int × Int)) (lv : List (Nat × Value)) (M : jx_H) (dc ds : Nat) (st : List Value) : Option jx_A := match st with
  | .int x :: r => if (ps.toList.zip (ps.toList.drop 1)).all (fun (a, next) => a.1 < next.1) = true then jx_to true pc 0 (Op.lookupswitch.offset ps.toList d x.toInt) lv r M dc ds else none
  | _ => none
def jx_bz (c : ClassFile.Cond) (pc : Nat) (off : Int) (lv : List (Nat × Value)) (M : jx_H) (dc ds : Nat) (st : List Value) : Option jx_A := match st with
  | .int x :: r => jx_to (jx_cz c x) pc 3 off lv r M dc ds
  | _ => none
def jx_bc (c : ClassFile.Cond) (pc : Nat) (off : Int) (lv : List (Nat × Value)) (M : jx_H) (dc ds : Nat) (st : List Value) : Option jx_A := match st with
  | .int y :: .int x :: r => jx_to (jx_cc c x y) pc 3 off lv r M dc ds
  | _ => none
def jx_step (df : List (List Value)) (nL : Nat) (ret : Option FieldType) (ini : Bool) (i : Instr) (x : List Nat) (va : Value) (pc : Nat) (lv : List (Nat × Value)) (st : List Value) (M : jx_H) (dc ds : Nat) : Option jx_A := match i with
  | .iadd => jx_k (pc + 1) lv (jx_ii (fun x y => x + y) st) M dc ds
  | .isub => jx_k (pc + 1) lv (jx_ii (fun x y => x - y) st) M dc ds
  | .imul => jx_k (pc + 1) lv (jx_ii (fun x y => x * y) st) M dc ds
  | .iand => jx_k (pc + 1) lv (jx_ii (fun x y => x &&& y) st) M dc ds
  | .ior => jx_k (pc + 1) lv (jx_ii (fun x y => x ||| y) st) M dc ds
  | .ixor => jx_k (pc + 1) lv (jx_ii (fun x y => x ^^^ y) st) M dc ds
  | .ishl => jx_k (pc + 1) lv (jx_ii (fun x y => x <<< (y &&& 31)) st) M dc ds
  | .ishr => jx_k (pc + 1) lv (jx_ii (fun x y => x >>> (y &&& 31)) st) M dc ds
  | .iushr => jx_k (pc + 1) lv (jx_ii (fun x y => (x.toUInt32 >>> (y.toUInt32 &&& Int32.toUInt32 31)).toInt32) st) M dc ds
  | .ladd => jx_k (pc + 1) lv (jx_ll (fun x y => x + y) st) M dc ds
  | .lsub => jx_k (pc + 1) lv (jx_ll (fun x y => x - y) st) M dc ds
  | .lmul => jx_k (pc + 1) lv (jx_ll (fun x y => x * y) st) M dc ds
  | .land => jx_k (pc + 1) lv (jx_ll (fun x y => x &&& y) st) M dc ds
  | .lor => jx_k (pc + 1) lv (jx_ll (fun x y => x ||| y) st) M dc ds
  | .lxor => jx_k (pc + 1) lv (jx_ll (fun x y => x ^^^ y) st) M dc ds
  | .idiv => jx_k (pc + 1) lv (jx_iz (fun x y => x / y) st) M dc ds
  | .irem => jx_k (pc + 1) lv (jx_iz (fun x y => x - x / y * y) st) M dc ds
  | .ldiv => jx_k (pc + 1) lv (jx_lz (fun x y => x / y) st) M dc ds
  | .lrem => jx_k (pc + 1) lv (jx_lz (fun x y => x - x / y * y) st) M dc ds
  | .lshl => jx_k (pc + 1) lv (jx_li (fun x y => x <<< (y.toInt64 &&& 63)) st) M dc ds
  | .lshr => jx_k (pc + 1) lv (jx_li (fun x y => x >>> (y.toInt64 &&& 63)) st) M dc ds
  | .lushr => jx_k (pc + 1) lv (jx_li (fun x y => (x.toUInt64 >>> (y.toInt64.toUInt64 &&& Int64.toUInt64 63)).toInt64) st) M dc ds
  | .lcmp => jx_k (pc + 1) lv (jx_lc (fun x y => lg_cmp x y) st) M dc ds
  | .ineg => jx_k (pc + 1) lv (jx_i1 (fun x => .int (-x)) st) M dc ds
  | .i2l => jx_k (pc + 1) lv (jx_i1 (fun x => .long x.toInt64) st) M dc ds
  | .i2b => jx_k (pc + 1) lv (jx_i1 (fun x => .int x.toInt8.toInt32) st) M dc ds
  | .lneg => jx_k (pc + 1) lv (jx_l1 (fun x => .long (-x)) st) M dc ds
  | .l2i => jx_k (pc + 1) lv (jx_l1 (fun x => .int x.toInt32) st) M dc ds
  | .iconst _ => some (.inl (pc + 1, lv, va :: st, M, dc, ds))
  | .bipush _ => some (.inl (pc + 2, lv, va :: st, M, dc, ds))
  | .sipush _ => some (.inl (pc + 3, lv, va :: st, M, dc, ds))
  | .lconst _ => some (.inl (pc + 1, lv, va :: st, M, dc, ds))
  | .ldc _ => some (.inl (pc + 2, lv, va :: st, M, dc, ds))
  | .ldc_w _ => some (.inl (pc + 3, lv, va :: st, M, dc, ds))
  | .ldc2_w _ => some (.inl (pc + 3, lv, va :: st, M, dc, ds))
  | .iload i => jx_ld 2 jx_isI pc lv M dc ds i st
  | .iload_n i => jx_ld 1 jx_isI pc lv M dc ds i.val st
  | .lload i => jx_ld 2 jx_isL pc lv M dc ds i st
  | .lload_n i => jx_ld 1 jx_isL pc lv M dc ds i.val st
  | .aload i => jx_ld 2 jx_isA pc lv M dc ds i st
  | .aload_n i => jx_ld 1 jx_isA pc lv M dc ds i.val st
  | .istore i => jx_sr 2 nL jx_isI pc lv M dc ds i st
  | .istore_n i => jx_sr 1 nL jx_isI pc lv M dc ds i.val st
  | .astore i => jx_sr 2 nL jx_isA pc lv M dc ds i st
  | .astore_n i => jx_sr 1 nL jx_isA pc lv M dc ds i.val st
  | .lstore i => jx_sr2 2 nL pc lv M dc ds i st
  | .lstore_n i => jx_sr2 1 nL pc lv M dc ds i.val st
  | .iinc i n => jx_inc nL pc lv M dc ds i n st
  | .dup => jx_du pc lv M dc ds st
  | .pop => jx_po pc lv M dc ds st
  | .dup2 => jx_d2 pc lv M dc ds st
  | .ifCond c off => jx_bz c pc off lv M dc ds st
  | .if_icmp c off => jx_bc c pc off lv M dc ds st
  | .goto off => jx_to true pc 3 off lv st M dc ds
  | .tableswitch d lo hi offs => jx_ts pc d lo hi offs lv M dc ds st
  | .lookupswitch d ps => jx_lus pc d ps lv M dc ds st
  | .getfield _ => jx_gf pc lv M dc ds x st
  | .putfield _ => jx_pf ini pc lv M dc ds x st
  | .iaload => jx_or (jx_ald [102] jx_isI pc lv M dc ds st) (jx_ald [200] jx_isI pc lv M dc ds st)
  | .baload => jx_ald [100, 101] jx_isI pc lv M dc ds st
  | .laload => jx_ald [103] jx_isL pc lv M dc ds st
  | .aaload => jx_ald [104, 105, 106, 107, 108, 109, 110, 111, 112] jx_isA pc lv M dc ds st
  | .iastore => jx_ast [102] jx_isI pc lv M dc ds st
  | .bastore => jx_ast [100, 101] jx_isI pc lv M dc ds st
  | .lastore => jx_ast [103] jx_isL pc lv M dc ds st
  | .aastore => jx_or (jx_aas pc lv M dc ds st) (jx_aat pc lv M dc ds st)
  | .arraylength => jx_al pc lv M dc ds st
  | .getstatic _ => some (.inl (pc + 3, lv, va :: st, M, dc, ds))
  | .multianewarray _ _ => jx_mu pc lv M dc ds x st
  | .new _ => jx_nw pc lv M dc ds df x st
  | .newarray _ => jx_na 2 pc lv M dc ds x st
  | .anewarray _ => jx_na 3 pc lv M dc ds x st
  | .invokestatic _ => jx_cs x st
  | .invokevirtual _ => jx_cv M x st
  | .invokespecial _ => jx_ci x st
  | .ireturn => jx_ri ret st
  | .lreturn => jx_rl ret st
  | .areturn => jx_ra ret st
  | .return_ => jx_rv ret st
  | _ => none
def jx_at (pc : Nat) : List jx_L → Option (Instr × Nat × List Nat × Value)
  | [] => none
  | q :: L => if q.1 = pc then some q.2 else jx_at pc L
/-- where a thrown object of the class is caught -/
def jx_hd (pc ci : Nat) : List (Nat × Nat × Nat × Nat × Nat) → Option Nat
  | [] => none
  | q :: hs => if q.1 ≤ pc ∧ pc < q.2.1 ∧ q.2.2.2.2 = ci then some q.2.2.1 else jx_hd pc ci hs
/-- length and charAt of a constant String; System.arraycopy of ints; Object's constructor -/
def jx_cp (sp dp n : Nat) (f g : List Value) : List Value := g.take dp ++ (f.drop sp).take n ++ g.drop (dp + n)
def jx_pr (k : Nat) (As : List Value) (M : jx_H) : Option (Option Value × jx_H) := match k, As with
  | 9003, [.ref _] => some (none, M)
  | 9000, [.ref a] => match M[a]? with
    | some (300, L) => some (some (.int (Int32.ofNat L.length)), M)
    | _ => none
  | 9001, [.ref a, .int i] => match M[a]? with
    | some (300, L) => if i < 0 then none else (match L[i.toNatClampNeg]? with
      | some (.int v) => some (some (.int v), M)
      | _ => none)
    | _ => none
  | 9002, [.ref a, .int sp, .ref b, .int dp, .int n] => match M[a]?, M[b]? with
    | some (102, f), some (102, g) => if ¬ sp < 0 ∧ ¬ dp < 0 ∧ ¬ n < 0 ∧ sp.toNatClampNeg + n.toNatClampNeg ≤ f.length ∧ dp.toNatClampNeg + n.toNatClampNeg ≤ g.length then some (none, M.set b (102, jx_cp sp.toNatClampNeg dp.toNatClampNeg n.toNatClampNeg f g)) else none
    | _, _ => none
  | _, _ => none
def jx_run (df : List (List Value)) (P : List jx_Me) : Nat → jx_Me → Nat → Nat → Nat → List (Nat × Value) → List Value → jx_H → Nat → Nat → Option jx_O
  | 0, _, _, _, _, _, _, _, _, _ => none
  | n + 1, me, fr, lo, pc, lv, st, M, dc, ds => match jx_at pc me.2.2.2.2.2 with
    | none => none
    | some (i, _, x, va) => match jx_step df me.2.2.1 me.2.2.2.1 (me.1.name == "<init>") i x va pc lv st M dc ds with
      | none => none
      | some (.inl z) => jx_run df P n me fr lo z.1 z.2.1 z.2.2.1 z.2.2.2.1 z.2.2.2.2.1 z.2.2.2.2.2
      | some (.inr (.inl (k, As, r))) => if 9000 ≤ k then (if 6 ≤ fr ∧ 150 ≤ lo then (match jx_pr k As M with
          | some (v, M1) => jx_run df P n me fr lo (pc + 3) lv (v.toList ++ r) M1 dc ds
          | none => none) else none) else match P[k]? with
        | none => none
        | some m2 => if 1 ≤ fr ∧ m2.2.2.1 + 19 ≤ lo ∧ (lg_sl As).length ≤ m2.2.2.1 then
            (match jx_run df P n m2 (fr - 1) (lo - (m2.2.2.1 + 19)) 0 (lv_args 0 As) [] M 0 0 with
            | none => none
            | some (.inl v, M1, c1, s1) => jx_run df P n me fr lo (pc + 3) lv (v.toList ++ r) M1 (dc + c1) (ds + s1)
            | some (.inr a, M1, c1, s1) => match M1[a]? with
              | none => none
              | some (ci, _) => match me.2.2.2.2.1, jx_hd pc ci me.2.2.2.2.1 with
                | [], _ => some (.inr a, M1, dc + c1, ds + s1)
                | _ :: _, none => none
                | _ :: _, some t => jx_run df P n me fr lo t lv [.ref a] M1 (dc + c1) (ds + s1)) else none
      | some (.inr (.inr (.inl v))) => some (.inl v, M, dc, ds)
      | some (.inr (.inr (.inr ci))) => match me.2.2.2.2.1 with
        | [] => if 5 < fr ∧ jx_cat st + 81 ≤ lo then some (.inr M.length, M ++ [(ci, [])], dc + 1, ds + 6) else none
        | _ => none
end JX0
