section JZ
def jz_len : MethodName := ⟨"java/lang/String", "length", "()I"⟩
abbrev jz_len_b : ByteArray := prog_21_method_54_code
theorem jz_len_ci : jm_ci jm_G jz_len (Cond.code jz_len jz_len_b 1 (some .int)) 1 0 := ⟨jm_g3 65 rfl rfl, Or.inl ⟨_, _, rfl⟩, jm_g1 19 rfl rfl, ⟨by decide, by decide⟩, by decide +kernel⟩
def jz_cod : MethodName := ⟨"java/lang/String", "coder", "()B"⟩
abbrev jz_cod_b : ByteArray := prog_21_method_152_code
theorem jz_cod_ci : jm_ci jm_G jz_cod (Cond.code jz_cod jz_cod_b 1 (some .byte)) 1 0 := ⟨jm_g3 69 rfl rfl, Or.inl ⟨_, _, rfl⟩, jm_g1 19 rfl rfl, ⟨by decide, by decide⟩, by decide +kernel⟩
def jz_chr : MethodName := ⟨"java/lang/String", "charAt", "(I)C"⟩
abbrev jz_chr_b : ByteArray := prog_21_method_56_code
theorem jz_chr_ci : jm_ci jm_G jz_chr (Cond.code jz_chr jz_chr_b 2 (some .char)) 2 1 := ⟨jm_g3 75 rfl rfl, Or.inl ⟨_, _, rfl⟩, jm_g1 19 rfl rfl, ⟨by decide, by decide⟩, by decide +kernel⟩
def jz_lat : MethodName := ⟨"java/lang/String", "isLatin1", "()Z"⟩
abbrev jz_lat_b : ByteArray := prog_21_method_154_code
theorem jz_lat_ci : jm_ci jm_G jz_lat (Cond.code jz_lat jz_lat_b 1 (some .boolean)) 1 0 := ⟨jm_g3 79 rfl rfl, Or.inl ⟨_, _, rfl⟩, jm_g1 19 rfl rfl, ⟨by decide, by decide⟩, by decide +kernel⟩
def jz_lch : MethodName := ⟨"java/lang/StringLatin1", "charAt", "([BI)C"⟩
abbrev jz_lch_b : ByteArray := prog_22_method_2_code
theorem jz_lch_ci : jm_ci jm_G jz_lch (Cond.code jz_lch jz_lch_b 2 (some .char)) 2 2 := ⟨jm_g3 82 rfl rfl, Or.inl ⟨_, _, rfl⟩, jm_g1 20 rfl rfl, ⟨by decide, by decide⟩, by decide +kernel⟩
def jz_chk : MethodName := ⟨"java/lang/String", "checkIndex", "(II)V"⟩
abbrev jz_chk_b : ByteArray := prog_21_method_155_code
theorem jz_chk_ci : jm_ci jm_G jz_chk (Cond.code jz_chk jz_chk_b 2 none) 2 2 := ⟨jm_g3 85 rfl rfl, Or.inl ⟨_, _, rfl⟩, jm_g1 19 rfl rfl, ⟨by decide, by decide⟩, by decide +kernel⟩
def jz_pre : MethodName := ⟨"jdk/internal/util/Preconditions", "checkIndex", "(IILjava/util/function/BiFunction;)I"⟩
abbrev jz_pre_b : ByteArray := prog_28_method_11_code
theorem jz_pre_ci : jm_ci jm_G jz_pre (Cond.code jz_pre jz_pre_b 3 (some .int)) 3 3 := ⟨jm_g3 90 rfl rfl, Or.inl ⟨_, _, rfl⟩, jm_g1 21 rfl rfl, ⟨by decide, by decide⟩, by decide +kernel⟩
variable {l : Launch} {S : State} {D : va_G} {dA : Nat → ClassId} {h : jm_H}
theorem jz_pre_ok (E : jm_en S D jm_cl (jm_ty dA) jm_G) {i n : Int32} {v : Value} (hv : v = .null ∨ ∃ q, v = .ref q) (h0 : ¬ i < 0) (h1 : i < n) : jm_M l S D jm_cl jz_pre (Cond.code jz_pre jz_pre_b 3 (some .int)) { frames := 0, cells := 0, slots := 0, locals := 0 } [.int i, .int n, v] h (jm_R (some (.int i)) h) 0 0 := by
  rcases hv with rfl | ⟨q, rfl⟩
  · refine jm_ofWF E (by decide +kernel) (Nat.le_of_ble_eq_true rfl) (fun p e s m below meth c X hr hk hmn hout hadm => ?_)
    have X : jm_cx p s m ([.int i, .int n, .null] : List Value).toArray c S D jm_cl (jm_ty dA) jm_G jz_pre_b 3 "jdk/internal/util/Preconditions" := X
    show jm_W p l e _ s m _ below meth c S D jm_cl _ 3 0 [(0, .int i), (1, .int n), (2, .null)] [] h 0 0
    refine jm_iload_n X (show decode jz_pre_b 0 = .ok (.iload_n 0, 1) by decide +kernel) rfl 0 rfl ?_
    refine jm_if_lt (tgt := 9) X (show decode jz_pre_b 1 = .ok (.ifCond .lt 8, 3) by decide +kernel) (by decide) (fun q => absurd q h0) (fun _ => ?_)
    refine jm_iload_n X (show decode jz_pre_b 4 = .ok (.iload_n 0, 1) by decide +kernel) rfl 0 rfl ?_
    refine jm_iload_n X (show decode jz_pre_b 5 = .ok (.iload_n 1, 1) by decide +kernel) rfl 1 rfl ?_
    refine jm_icmp_lt (tgt := 16) X (show decode jz_pre_b 6 = .ok (.if_icmp .lt 10, 3) by decide +kernel) (by decide) (fun _ => ?_) (fun q => absurd h1 q)
    refine jm_iload_n X (show decode jz_pre_b 16 = .ok (.iload_n 0, 1) by decide +kernel) rfl 0 rfl ?_
    exact jm_iret X hr hk (show decode jz_pre_b 17 = .ok (.ireturn, 1) by decide +kernel) ⟨rfl, rfl⟩
  · refine jm_ofWF E (by decide +kernel) (Nat.le_of_ble_eq_true rfl) (fun p e s m below meth c X hr hk hmn hout hadm => ?_)
    have X : jm_cx p s m ([.int i, .int n, .ref q] : List Value).toArray c S D jm_cl (jm_ty dA) jm_G jz_pre_b 3 "jdk/internal/util/Preconditions" := X
    show jm_W p l e _ s m _ below meth c S D jm_cl _ 3 0 [(0, .int i), (1, .int n), (2, .ref q)] [] h 0 0
    refine jm_iload_n X (show decode jz_pre_b 0 = .ok (.iload_n 0, 1) by decide +kernel) rfl 0 rfl ?_
    refine jm_if_lt (tgt := 9) X (show decode jz_pre_b 1 = .ok (.ifCond .lt 8, 3) by decide +kernel) (by decide) (fun q => absurd q h0) (fun _ => ?_)
    refine jm_iload_n X (show decode jz_pre_b 4 = .ok (.iload_n 0, 1) by decide +kernel) rfl 0 rfl ?_
    refine jm_iload_n X (show decode jz_pre_b 5 = .ok (.iload_n 1, 1) by decide +kernel) rfl 1 rfl ?_
    refine jm_icmp_lt (tgt := 16) X (show decode jz_pre_b 6 = .ok (.if_icmp .lt 10, 3) by decide +kernel) (by decide) (fun _ => ?_) (fun q => absurd h1 q)
    refine jm_iload_n X (show decode jz_pre_b 16 = .ok (.iload_n 0, 1) by decide +kernel) rfl 0 rfl ?_
    exact jm_iret X hr hk (show decode jz_pre_b 17 = .ok (.ireturn, 1) by decide +kernel) ⟨rfl, rfl⟩
theorem jz_chk_ok (E : jm_en S D jm_cl (jm_ty dA) jm_G) (hz : ∃ v : Value, (v = .null ∨ ∃ q, v = .ref q) ∧ va_Z "jdk/internal/util/Preconditions" "SIOOBE_FORMATTER" "Ljava/util/function/BiFunction;" v (fun q => S.heap.size ≤ q) S S.heap) {i n : Int32} (h0 : ¬ i < 0) (h1 : i < n) : jm_M l S D jm_cl jz_chk (Cond.code jz_chk jz_chk_b 2 none) { frames := 1, cells := 0, slots := 0, locals := 22 } [.int i, .int n] h (jm_R none h) 0 0 := by
  obtain ⟨v, hv, hz⟩ := hz
  refine jm_ofWF E (by decide +kernel) (Nat.le_of_ble_eq_true rfl) (fun p e s m below meth c X hr hk hmn hout hadm => ?_)
  have X : jm_cx p s m ([.int i, .int n] : List Value).toArray c S D jm_cl (jm_ty dA) jm_G jz_chk_b 2 "java/lang/String" := X
  show jm_W p l e _ s m _ below meth c S D jm_cl _ 2 0 [(0, .int i), (1, .int n)] [] h 0 0
  refine jm_iload_n X (show decode jz_chk_b 0 = .ok (.iload_n 0, 1) by decide +kernel) rfl 0 rfl ?_
  refine jm_iload_n X (show decode jz_chk_b 1 = .ok (.iload_n 1, 1) by decide +kernel) rfl 1 rfl ?_
  refine jm_getsK X (show decode jz_chk_b 2 = .ok (.getstatic 1053, 3) by decide +kernel) hz (jm_g3 86 rfl rfl) ?_
  refine jm_callS (rest := []) X (show decode jz_chk_b 5 = .ok (.invokestatic 1059, 3) by decide +kernel) (jz_pre_ok E hv h0 h1) jz_pre_ci (Or.inl (jm_g3 88 rfl rfl)) (jm_g3 89 rfl rfl) rfl (Nat.le_of_ble_eq_true rfl) ⟨Nat.le_of_ble_eq_true rfl, Nat.le_of_ble_eq_true rfl⟩ ⟨rfl, rfl⟩ ⟨Nat.le_of_ble_eq_true rfl, Nat.le_of_ble_eq_true rfl⟩ (jm_k1 ?_)
  refine jm_pop X (show decode jz_chk_b 8 = .ok (.pop, 1) by decide +kernel) rfl ?_
  exact jm_vret X hr hk (show decode jz_chk_b 9 = .ok (.return_, 1) by decide +kernel) ⟨rfl, rfl⟩
theorem jz_lt {x : Int32} (h : x &&& 255 = x) : x.toUInt32.toNat ≤ 255 := by
  have h1 : (x &&& 255).toUInt32.toNat ≤ 255 := by
    show (x.toUInt32 &&& 255).toNat ≤ 255
    rw [UInt32.toNat_and]
    exact Nat.and_le_right
  rw [h] at h1
  exact h1
theorem jz_and {x : Int32} (h : x &&& 255 = x) : ((x &&& 255).toUInt32 % 65536).toInt32 = x := by
  rw [h]
  have h1 := jz_lt h
  have h2 : x.toUInt32 % 65536 = x.toUInt32 := by
    apply UInt32.toNat_inj.mp
    rw [UInt32.toNat_mod]
    exact Nat.mod_eq_of_lt (Nat.lt_of_le_of_lt h1 (by decide))
  rw [h2]
  rfl
theorem jz_shr (z : Int32) : z >>> ((0 : Int32) &&& 31) = z := by
  have e : ((0 : Int32) &&& 31) = 0 := by decide
  rw [e]
  simp
theorem jz_cnar {x : Int32} (h : x &&& 255 = x) : narrow .char (.int x) = .int x := by
  have h1 := jz_lt h
  have h2 : x.toUInt32.toUInt16.toUInt32 = x.toUInt32 := by
    apply UInt32.toNat_inj.mp
    rw [UInt16.toNat_toUInt32, UInt32.toNat_toUInt16]
    exact Nat.mod_eq_of_lt (Nat.lt_of_le_of_lt h1 (by decide))
  show Value.int x.toUInt32.toUInt16.toUInt32.toInt32 = Value.int x
  rw [h2]
  rfl
theorem jz_lch_ok (E : jm_en S D jm_cl (jm_ty dA) jm_G) (hz : ∃ v : Value, (v = .null ∨ ∃ q, v = .ref q) ∧ va_Z "jdk/internal/util/Preconditions" "SIOOBE_FORMATTER" "Ljava/util/function/BiFunction;" v (fun q => S.heap.size ≤ q) S S.heap) {i : Int32} {b n : Nat} {xs : Nat → Int32} (hT : va_T .byte b n (fun j => .int (xs j)) (fun q => S.heap.size ≤ q) S S.heap) (hn : n < 1000) (hin : vp_in i n) (h8 : xs i.toNatClampNeg &&& 255 = xs i.toNatClampNeg) : jm_M l S D jm_cl jz_lch (Cond.code jz_lch jz_lch_b 2 (some .char)) { frames := 2, cells := 0, slots := 0, locals := 43 } [.ref b, .int i] h (jm_R (some (.int (xs i.toNatClampNeg))) h) 0 0 := by
  have h0 : ¬ i < 0 := fun q => hin (Or.inl q)
  have h1 : i < Int32.ofNat n := by
    have h2 := (vp_in_iff.mp hin).2
    rw [Int32.lt_iff_toInt_lt]
    have : (Int32.ofNat n).toInt = n := Int32.toInt_ofNat_of_lt (by omega)
    omega
  refine jm_ofWF E (by decide +kernel) (Nat.le_of_ble_eq_true rfl) (fun p e s m below meth c X hr hk hmn hout hadm => ?_)
  have X : jm_cx p s m ([.ref b, .int i] : List Value).toArray c S D jm_cl (jm_ty dA) jm_G jz_lch_b 2 "java/lang/StringLatin1" := X
  show jm_W p l e _ s m _ below meth c S D jm_cl _ 2 0 [(0, .ref b), (1, .int i)] [] h 0 0
  refine jm_iload_n X (show decode jz_lch_b 0 = .ok (.iload_n 1, 1) by decide +kernel) rfl 1 rfl ?_
  refine jm_aload_n X (show decode jz_lch_b 1 = .ok (.aload_n 0, 1) by decide +kernel) rfl 0 rfl ?_
  refine jm_alenT X (show decode jz_lch_b 2 = .ok (.arraylength, 1) by decide +kernel) hT ?_
  refine jm_callS (rest := []) X (show decode jz_lch_b 3 = .ok (.invokestatic 9, 3) by decide +kernel) (jz_chk_ok E hz h0 h1) jz_chk_ci (Or.inl (jm_g3 83 rfl rfl)) (jm_g3 84 rfl rfl) rfl (Nat.le_of_ble_eq_true rfl) ⟨Nat.le_of_ble_eq_true rfl, Nat.le_of_ble_eq_true rfl⟩ ⟨rfl, rfl⟩ ⟨Nat.le_of_ble_eq_true rfl, Nat.le_of_ble_eq_true rfl⟩ (jm_k0 ?_)
  refine jm_aload_n X (show decode jz_lch_b 6 = .ok (.aload_n 0, 1) by decide +kernel) rfl 0 rfl ?_
  refine jm_iload_n X (show decode jz_lch_b 7 = .ok (.iload_n 1, 1) by decide +kernel) rfl 1 rfl ?_
  refine jm_baldK X (show decode jz_lch_b 8 = .ok (.baload, 1) by decide +kernel) hT hin ?_
  refine jm_sipush (v := 255) X (show decode jz_lch_b 9 = .ok (.sipush 255, 3) by decide +kernel) (by decide) ?_
  refine jm_iand X (show decode jz_lch_b 12 = .ok (.iand, 1) by decide +kernel) ?_
  refine jm_i2c X (show decode jz_lch_b 13 = .ok (.i2c, 1) by decide +kernel) (jz_and h8) ?_
  exact jm_zret X hr (jz_cnar h8) hk (show decode jz_lch_b 14 = .ok (.ireturn, 1) by decide +kernel) ⟨rfl, rfl⟩
theorem jz_lat_ok (E : jm_en S D jm_cl (jm_ty dA) jm_G) (hZ : va_Z "java/lang/String" "COMPACT_STRINGS" "Z" (.int 1) (fun q => S.heap.size ≤ q) S S.heap) {b : Nat} (hc : va_OF "java/lang/String" "coder" "B" (.int 0) b (fun q => S.heap.size ≤ q) S S.heap) : jm_M l S D jm_cl jz_lat (Cond.code jz_lat jz_lat_b 1 (some .boolean)) { frames := 0, cells := 0, slots := 0, locals := 0 } [.ref b] h (jm_R (some (.int 1)) h) 0 0 := by
  refine jm_ofWF E (by decide +kernel) (Nat.le_of_ble_eq_true rfl) (fun p e s m below meth c X hr hk hmn hout hadm => ?_)
  have X : jm_cx p s m ([.ref b] : List Value).toArray c S D jm_cl (jm_ty dA) jm_G jz_lat_b 1 "java/lang/String" := X
  show jm_W p l e _ s m _ below meth c S D jm_cl _ 1 0 [(0, .ref b)] [] h 0 0
  refine jm_getsK X (show decode jz_lat_b 0 = .ok (.getstatic 38, 3) by decide +kernel) hZ (jm_g3 70 rfl rfl) ?_
  refine jm_if_eq (tgt := 17) X (show decode jz_lat_b 3 = .ok (.ifCond .eq 14, 3) by decide +kernel) (by decide) (fun q => absurd q (by decide)) (fun _ => ?_)
  refine jm_aload_n X (show decode jz_lat_b 6 = .ok (.aload_n 0, 1) by decide +kernel) rfl 0 rfl ?_
  refine jm_getfK X (show decode jz_lat_b 7 = .ok (.getfield 15, 3) by decide +kernel) hc (jm_g7 29 rfl rfl) ?_
  refine jm_if_ne (tgt := 17) X (show decode jz_lat_b 10 = .ok (.ifCond .ne 7, 3) by decide +kernel) (by decide) (fun q => absurd rfl q) (fun _ => ?_)
  refine jm_iconst (v := 1) X (show decode jz_lat_b 13 = .ok (.iconst 1, 1) by decide +kernel) (by decide) ?_
  refine jm_goto (tgt := 18) X (show decode jz_lat_b 14 = .ok (.goto 4, 3) by decide +kernel) (by decide) ?_
  exact jm_zret X hr (by decide) hk (show decode jz_lat_b 18 = .ok (.ireturn, 1) by decide +kernel) ⟨rfl, rfl⟩
theorem jz_cod_ok (E : jm_en S D jm_cl (jm_ty dA) jm_G) (hZ : va_Z "java/lang/String" "COMPACT_STRINGS" "Z" (.int 1) (fun q => S.heap.size ≤ q) S S.heap) {b : Nat} (hc : va_OF "java/lang/String" "coder" "B" (.int 0) b (fun q => S.heap.size ≤ q) S S.heap) : jm_M l S D jm_cl jz_cod (Cond.code jz_cod jz_cod_b 1 (some .byte)) { frames := 0, cells := 0, slots := 0, locals := 0 } [.ref b] h (jm_R (some (.int 0)) h) 0 0 := by
  refine jm_ofWF E (by decide +kernel) (Nat.le_of_ble_eq_true rfl) (fun p e s m below meth c X hr hk hmn hout hadm => ?_)
  have X : jm_cx p s m ([.ref b] : List Value).toArray c S D jm_cl (jm_ty dA) jm_G jz_cod_b 1 "java/lang/String" := X
  show jm_W p l e _ s m _ below meth c S D jm_cl _ 1 0 [(0, .ref b)] [] h 0 0
  refine jm_getsK X (show decode jz_cod_b 0 = .ok (.getstatic 38, 3) by decide +kernel) hZ (jm_g3 70 rfl rfl) ?_
  refine jm_if_eq (tgt := 13) X (show decode jz_cod_b 3 = .ok (.ifCond .eq 10, 3) by decide +kernel) (by decide) (fun q => absurd q (by decide)) (fun _ => ?_)
  refine jm_aload_n X (show decode jz_cod_b 6 = .ok (.aload_n 0, 1) by decide +kernel) rfl 0 rfl ?_
  refine jm_getfK X (show decode jz_cod_b 7 = .ok (.getfield 15, 3) by decide +kernel) hc (jm_g7 29 rfl rfl) ?_
  refine jm_goto (tgt := 14) X (show decode jz_cod_b 10 = .ok (.goto 4, 3) by decide +kernel) (by decide) ?_
  exact jm_zret X hr (by decide) hk (show decode jz_cod_b 14 = .ok (.ireturn, 1) by decide +kernel) ⟨rfl, rfl⟩
theorem jz_len_ok (E : jm_en S D jm_cl (jm_ty dA) jm_G) (hZ : va_Z "java/lang/String" "COMPACT_STRINGS" "Z" (.int 1) (fun q => S.heap.size ≤ q) S S.heap) {b v n : Nat} {f : Nat → Value} (hO : va_O "java/lang/String" b (fun q => S.heap.size ≤ q) S S.heap) (hc : va_OF "java/lang/String" "coder" "B" (.int 0) b (fun q => S.heap.size ≤ q) S S.heap) (hv : va_OF "java/lang/String" "value" "[B" (.ref v) b (fun q => S.heap.size ≤ q) S S.heap) (hT : va_T .byte v n f (fun q => S.heap.size ≤ q) S S.heap) : jm_M l S D jm_cl jz_len (Cond.code jz_len jz_len_b 1 (some .int)) { frames := 1, cells := 0, slots := 0, locals := 20 } [.ref b] h (jm_R (some (.int (Int32.ofNat n))) h) 0 0 := by
  refine jm_ofWF E (by decide +kernel) (Nat.le_of_ble_eq_true rfl) (fun p e s m below meth c X hr hk hmn hout hadm => ?_)
  have X : jm_cx p s m ([.ref b] : List Value).toArray c S D jm_cl (jm_ty dA) jm_G jz_len_b 1 "java/lang/String" := X
  show jm_W p l e _ s m _ below meth c S D jm_cl _ 1 0 [(0, .ref b)] [] h 0 0
  refine jm_aload_n X (show decode jz_len_b 0 = .ok (.aload_n 0, 1) by decide +kernel) rfl 0 rfl ?_
  refine jm_getfK X (show decode jz_len_b 1 = .ok (.getfield 9, 3) by decide +kernel) hv (jm_g7 28 rfl rfl) ?_
  refine jm_alenT X (show decode jz_len_b 4 = .ok (.arraylength, 1) by decide +kernel) hT ?_
  refine jm_aload_n X (show decode jz_len_b 5 = .ok (.aload_n 0, 1) by decide +kernel) rfl 0 rfl ?_
  refine jm_callVS (As := []) (rest := [.int (Int32.ofNat n)]) X (show decode jz_len_b 6 = .ok (.invokevirtual 335, 3) by decide +kernel) (jz_cod_ok E hZ hc) jz_cod_ci (Or.inl (jm_g3 66 rfl rfl)) (jm_g3 67 rfl rfl) (jm_g3 68 rfl rfl) hO rfl (Nat.le_of_ble_eq_true rfl) ⟨Nat.le_of_ble_eq_true rfl, Nat.le_of_ble_eq_true rfl⟩ ⟨rfl, rfl⟩ ⟨Nat.le_of_ble_eq_true rfl, Nat.le_of_ble_eq_true rfl⟩ (jm_k1 ?_)
  refine jm_ishr X (show decode jz_len_b 9 = .ok (.ishr, 1) by decide +kernel) ?_
  rw [jz_shr]
  exact jm_iret X hr hk (show decode jz_len_b 10 = .ok (.ireturn, 1) by decide +kernel) ⟨rfl, rfl⟩
theorem jz_chr_ok (E : jm_en S D jm_cl (jm_ty dA) jm_G) (hZ : va_Z "java/lang/String" "COMPACT_STRINGS" "Z" (.int 1) (fun q => S.heap.size ≤ q) S S.heap) (hz : ∃ v : Value, (v = .null ∨ ∃ q, v = .ref q) ∧ va_Z "jdk/internal/util/Preconditions" "SIOOBE_FORMATTER" "Ljava/util/function/BiFunction;" v (fun q => S.heap.size ≤ q) S S.heap) {i : Int32} {b v n : Nat} {xs : Nat → Int32} (hO : va_O "java/lang/String" b (fun q => S.heap.size ≤ q) S S.heap) (hc : va_OF "java/lang/String" "coder" "B" (.int 0) b (fun q => S.heap.size ≤ q) S S.heap) (hv : va_OF "java/lang/String" "value" "[B" (.ref v) b (fun q => S.heap.size ≤ q) S S.heap) (hT : va_T .byte v n (fun j => .int (xs j)) (fun q => S.heap.size ≤ q) S S.heap) (hn : n < 1000) (hin : vp_in i n) (h8 : xs i.toNatClampNeg &&& 255 = xs i.toNatClampNeg) :
    jm_M l S D jm_cl jz_chr (Cond.code jz_chr jz_chr_b 2 (some .char)) { frames := 3, cells := 0, slots := 0, locals := 64 } [.ref b, .int i] h (jm_R (some (.int (xs i.toNatClampNeg))) h) 0 0 := by
  refine jm_ofWF E (by decide +kernel) (Nat.le_of_ble_eq_true rfl) (fun p e s m below meth c X hr hk hmn hout hadm => ?_)
  have X : jm_cx p s m ([.ref b, .int i] : List Value).toArray c S D jm_cl (jm_ty dA) jm_G jz_chr_b 2 "java/lang/String" := X
  show jm_W p l e _ s m _ below meth c S D jm_cl _ 2 0 [(0, .ref b), (1, .int i)] [] h 0 0
  refine jm_aload_n X (show decode jz_chr_b 0 = .ok (.aload_n 0, 1) by decide +kernel) rfl 0 rfl ?_
  refine jm_callVS (As := []) (rest := []) X (show decode jz_chr_b 1 = .ok (.invokevirtual 492, 3) by decide +kernel) (jz_lat_ok E hZ hc) jz_lat_ci (Or.inl (jm_g3 76 rfl rfl)) (jm_g3 77 rfl rfl) (jm_g3 78 rfl rfl) hO rfl (Nat.le_of_ble_eq_true rfl) ⟨Nat.le_of_ble_eq_true rfl, Nat.le_of_ble_eq_true rfl⟩ ⟨rfl, rfl⟩ ⟨Nat.le_of_ble_eq_true rfl, Nat.le_of_ble_eq_true rfl⟩ (jm_k1 ?_)
  refine jm_if_eq (tgt := 16) X (show decode jz_chr_b 4 = .ok (.ifCond .eq 12, 3) by decide +kernel) (by decide) (fun q => absurd q (by decide)) (fun _ => ?_)
  refine jm_aload_n X (show decode jz_chr_b 7 = .ok (.aload_n 0, 1) by decide +kernel) rfl 0 rfl ?_
  refine jm_getfK X (show decode jz_chr_b 8 = .ok (.getfield 9, 3) by decide +kernel) hv (jm_g7 28 rfl rfl) ?_
  refine jm_iload_n X (show decode jz_chr_b 11 = .ok (.iload_n 1, 1) by decide +kernel) rfl 1 rfl ?_
  refine jm_callS (rest := []) X (show decode jz_chr_b 12 = .ok (.invokestatic 495, 3) by decide +kernel) (jz_lch_ok E hz hT hn hin h8) jz_lch_ci (Or.inl (jm_g3 80 rfl rfl)) (jm_g3 81 rfl rfl) rfl (Nat.le_of_ble_eq_true rfl) ⟨Nat.le_of_ble_eq_true rfl, Nat.le_of_ble_eq_true rfl⟩ ⟨rfl, rfl⟩ ⟨Nat.le_of_ble_eq_true rfl, Nat.le_of_ble_eq_true rfl⟩ (jm_k1 ?_)
  exact jm_zret X hr (jz_cnar h8) hk (show decode jz_chr_b 15 = .ok (.ireturn, 1) by decide +kernel) ⟨rfl, rfl⟩
variable {p : Program} {e : Env} {Rm : Room} {s : State} {m : MethodId} {args : Array Value} {below : List Frame} {meth : Method} {c : Code} {Q : State → Prop} {cc : ByteArray} {nL pc dc ds : Nat} {own : String} {lw : List (Nat × Value)} {rest : List Value}
theorem jy_callLen (X : jm_cx p s m args c S D jm_cl (jm_ty dA) jm_G cc nL own) {idx b v n : Nat} {xs : Nat → Int32} (hd : decode cc pc = .ok (.invokevirtual idx, 3)) (hw : Cond.methodLink own idx ⟨"java/lang/String", "length", "()I"⟩ ∈ jm_G) (hO : va_O "java/lang/String" b (fun q => S.heap.size ≤ q) S S.heap) (hc : va_OF "java/lang/String" "coder" "B" (.int 0) b (fun q => S.heap.size ≤ q) S S.heap) (hv : va_OF "java/lang/String" "value" "[B" (.ref v) b (fun q => S.heap.size ≤ q) S S.heap) (hT : va_T .byte v n (fun j => .int (xs j)) (fun q => S.heap.size ≤ q) S S.heap) (hZ : va_Z "java/lang/String" "COMPACT_STRINGS" "Z" (.int 1) (fun q => S.heap.size ≤ q) S S.heap) (_ : n < 1000) (hcat : (rest.map fun v => v.category).sum ≤ 8) (hroom : 6 ≤ Rm.frames ∧ 150 ≤ Rm.locals) (hcs : dc ≤ Rm.cells ∧ ds ≤ Rm.slots)
    (kk : jm_W p l e Rm s m args below meth c S D jm_cl Q nL (pc + 3) lw (.int (Int32.ofNat n) :: rest) h dc ds) : jm_W p l e Rm s m args below meth c S D jm_cl Q nL pc lw (.ref b :: rest) h dc ds := by
  refine jm_callVS (As := []) (rest := rest) X hd (jz_len_ok X.2.2.2.2.2.2.2 hZ hO hc hv hT) jz_len_ci (Or.inl hw) (jm_g3 63 rfl rfl) (jm_g3 64 rfl rfl) hO rfl hcat ⟨by show 1 + 1 ≤ _; omega, by show 8 + (1 + 11) + 20 ≤ _; omega⟩ ⟨rfl, rfl⟩ ⟨hcs.1, hcs.2⟩ (jm_k1 ?_)
  exact kk
theorem jy_callCh (X : jm_cx p s m args c S D jm_cl (jm_ty dA) jm_G cc nL own) {i : Int32} {idx b v n : Nat} {xs : Nat → Int32} (hd : decode cc pc = .ok (.invokevirtual idx, 3)) (hw : Cond.methodLink own idx ⟨"java/lang/String", "charAt", "(I)C"⟩ ∈ jm_G) (hO : va_O "java/lang/String" b (fun q => S.heap.size ≤ q) S S.heap) (hc : va_OF "java/lang/String" "coder" "B" (.int 0) b (fun q => S.heap.size ≤ q) S S.heap) (hv : va_OF "java/lang/String" "value" "[B" (.ref v) b (fun q => S.heap.size ≤ q) S S.heap) (hT : va_T .byte v n (fun j => .int (xs j)) (fun q => S.heap.size ≤ q) S S.heap) (hZ : va_Z "java/lang/String" "COMPACT_STRINGS" "Z" (.int 1) (fun q => S.heap.size ≤ q) S S.heap ∧ ∃ v : Value, (v = .null ∨ ∃ q, v = .ref q) ∧ va_Z "jdk/internal/util/Preconditions" "SIOOBE_FORMATTER" "Ljava/util/function/BiFunction;" v (fun q => S.heap.size ≤ q) S S.heap) (hn : n < 1000) (hin : vp_in i n) (h8 : xs i.toNatClampNeg &&& 255 = xs i.toNatClampNeg) (hcat : (rest.map fun v => v.category).sum ≤ 8) (hroom : 6 ≤ Rm.frames ∧ 150 ≤ Rm.locals) (hcs : dc ≤ Rm.cells ∧ ds ≤ Rm.slots)
    (kk : jm_W p l e Rm s m args below meth c S D jm_cl Q nL (pc + 3) lw (.int (xs i.toNatClampNeg) :: rest) h dc ds) : jm_W p l e Rm s m args below meth c S D jm_cl Q nL pc lw (.int i :: .ref b :: rest) h dc ds := by
  refine jm_callVS (As := [.int i]) (rest := rest) X hd (jz_chr_ok X.2.2.2.2.2.2.2 hZ.1 hZ.2 hO hc hv hT hn hin h8) jz_chr_ci (Or.inl hw) (jm_g3 73 rfl rfl) (jm_g3 74 rfl rfl) hO rfl hcat ⟨by show 3 + 1 ≤ _; omega, by show 8 + (2 + 11) + 64 ≤ _; omega⟩ ⟨rfl, rfl⟩ ⟨hcs.1, hcs.2⟩ (jm_k1 ?_)
  exact kk
end JZ
