def f_Math_min (x : Int32) (y : Int32) : Int32 :=
  let v10 : Int32 := if y < x then y else x
  v10
set_option maxRecDepth 20000 in
set_option maxHeartbeats 4000000 in
theorem k_Math_min {l : Launch} {S : State} {D : va_G} {dA : Nat → ClassId} (E : jm_en S D jm_cl (jm_ty dA) jm_G) (x : Int32) (y : Int32) (h : jm_H)    : jm_M l S D jm_cl y_Math_min (Cond.code y_Math_min b_Math_min 2 (some FieldType.int)) { frames := 0, cells := 0, slots := 0, locals := 0 } [.int x, .int y] h (jm_R (some (.int (f_Math_min x y))) h) 0 0 := by
  refine jm_ofWF E (by decide +kernel) (Nat.le_of_ble_eq_true rfl) (fun p e s m below meth c X hr hk hmn hout hadm => ?_)
  have X : jm_cx p s m ([.int x, .int y] : List Value).toArray c S D jm_cl (jm_ty dA) jm_G b_Math_min 2 "java/lang/Math" := X
  show jm_W p l e ({ frames := 0, cells := 0, slots := 0, locals := 0 }) s m ([.int x, .int y] : List Value).toArray below meth c S D jm_cl (jm_Q S D jm_cl below s (jm_R (some (.int (f_Math_min x y))) h) 0 0) 2 0 [(0, .int x), (1, .int y)] [] (h) 0 0
  refine jm_iload_n X d_Math_min_0 rfl 0 rfl ?_
  refine jm_iload_n X d_Math_min_1 rfl 1 rfl ?_
  have J10_2 : ∀ (v10 : Int32), v10 = (if y < x then y else x : Int32) → jm_W p l e ({ frames := 0, cells := 0, slots := 0, locals := 0 }) s m ([.int x, .int y] : List Value).toArray below meth c S D jm_cl (jm_Q S D jm_cl below s (jm_R (some (.int (f_Math_min x y))) h) 0 0) 2 10 [(0, .int x), (1, .int y)] [.int v10] (h) 0 0 := by
    intro v10 ev10
    exact jm_iret X hr hk d_Math_min_10 ⟨(by show Outcome.returned _ = Outcome.returned _; unfold f_Math_min; subst ev10; rfl), rfl⟩
  refine jm_icmp_gt (tgt := 9) X d_Math_min_2 (by decide) (fun c1 => ?_) (fun c1 => ?_)
  · refine jm_iload_n X d_Math_min_9 rfl 1 rfl ?_
    exact J10_2 _ (by first | (simp only [if_pos c1, reduceIte]; done) | (with_reducible rfl))
  · refine jm_iload_n X d_Math_min_5 rfl 0 rfl ?_
    refine jm_goto (tgt := 10) X d_Math_min_6 (by decide) ?_
    exact J10_2 _ (by first | (simp only [if_neg c1, reduceIte]; done) | (with_reducible rfl))
def f_Math_max (x : Int32) (y : Int32) : Int32 :=
  let v10 : Int32 := if x < y then y else x
  v10
set_option maxRecDepth 20000 in
set_option maxHeartbeats 4000000 in
theorem k_Math_max {l : Launch} {S : State} {D : va_G} {dA : Nat → ClassId} (E : jm_en S D jm_cl (jm_ty dA) jm_G) (x : Int32) (y : Int32) (h : jm_H)    : jm_M l S D jm_cl y_Math_max (Cond.code y_Math_max b_Math_max 2 (some FieldType.int)) { frames := 0, cells := 0, slots := 0, locals := 0 } [.int x, .int y] h (jm_R (some (.int (f_Math_max x y))) h) 0 0 := by
  refine jm_ofWF E (by decide +kernel) (Nat.le_of_ble_eq_true rfl) (fun p e s m below meth c X hr hk hmn hout hadm => ?_)
  have X : jm_cx p s m ([.int x, .int y] : List Value).toArray c S D jm_cl (jm_ty dA) jm_G b_Math_max 2 "java/lang/Math" := X
  show jm_W p l e ({ frames := 0, cells := 0, slots := 0, locals := 0 }) s m ([.int x, .int y] : List Value).toArray below meth c S D jm_cl (jm_Q S D jm_cl below s (jm_R (some (.int (f_Math_max x y))) h) 0 0) 2 0 [(0, .int x), (1, .int y)] [] (h) 0 0
  refine jm_iload_n X d_Math_max_0 rfl 0 rfl ?_
  refine jm_iload_n X d_Math_max_1 rfl 1 rfl ?_
  have J10_2 : ∀ (v10 : Int32), v10 = (if x < y then y else x : Int32) → jm_W p l e ({ frames := 0, cells := 0, slots := 0, locals := 0 }) s m ([.int x, .int y] : List Value).toArray below meth c S D jm_cl (jm_Q S D jm_cl below s (jm_R (some (.int (f_Math_max x y))) h) 0 0) 2 10 [(0, .int x), (1, .int y)] [.int v10] (h) 0 0 := by
    intro v10 ev10
    exact jm_iret X hr hk d_Math_max_10 ⟨(by show Outcome.returned _ = Outcome.returned _; unfold f_Math_max; subst ev10; rfl), rfl⟩
  refine jm_icmp_lt (tgt := 9) X d_Math_max_2 (by decide) (fun c1 => ?_) (fun c1 => ?_)
  · refine jm_iload_n X d_Math_max_9 rfl 1 rfl ?_
    exact J10_2 _ (by first | (simp only [if_pos c1, reduceIte]; done) | (with_reducible rfl))
  · refine jm_iload_n X d_Math_max_5 rfl 0 rfl ?_
    refine jm_goto (tgt := 10) X d_Math_max_6 (by decide) ?_
    exact J10_2 _ (by first | (simp only [if_neg c1, reduceIte]; done) | (with_reducible rfl))
def f_Math_min2 (x : Int64) (y : Int64) : Int64 :=
  let v11 : Int64 := if y < x then y else x
  v11
set_option maxRecDepth 20000 in
set_option maxHeartbeats 4000000 in
theorem k_Math_min2 {l : Launch} {S : State} {D : va_G} {dA : Nat → ClassId} (E : jm_en S D jm_cl (jm_ty dA) jm_G) (x : Int64) (y : Int64) (h : jm_H)    : jm_M l S D jm_cl y_Math_min2 (Cond.code y_Math_min2 b_Math_min2 4 (some FieldType.long)) { frames := 0, cells := 0, slots := 0, locals := 0 } [.long x, .long y] h (jm_R (some (.long (f_Math_min2 x y))) h) 0 0 := by
  refine jm_ofWF E (by decide +kernel) (Nat.le_of_ble_eq_true rfl) (fun p e s m below meth c X hr hk hmn hout hadm => ?_)
  have X : jm_cx p s m ([.long x, .long y] : List Value).toArray c S D jm_cl (jm_ty dA) jm_G b_Math_min2 4 "java/lang/Math" := X
  show jm_W p l e ({ frames := 0, cells := 0, slots := 0, locals := 0 }) s m ([.long x, .long y] : List Value).toArray below meth c S D jm_cl (jm_Q S D jm_cl below s (jm_R (some (.long (f_Math_min2 x y))) h) 0 0) 4 0 [(0, .long x), (2, .long y)] [] (h) 0 0
  refine jm_lload_n X d_Math_min2_0 rfl 0 rfl ?_
  refine jm_lload_n X d_Math_min2_1 rfl 1 rfl ?_
  refine jm_lcmp X d_Math_min2_2 ?_
  have J11_2 : ∀ (v11 : Int64), v11 = (if y < x then y else x : Int64) → jm_W p l e ({ frames := 0, cells := 0, slots := 0, locals := 0 }) s m ([.long x, .long y] : List Value).toArray below meth c S D jm_cl (jm_Q S D jm_cl below s (jm_R (some (.long (f_Math_min2 x y))) h) 0 0) 4 11 [(0, .long x), (2, .long y)] [.long v11] (h) 0 0 := by
    intro v11 ev11
    exact jm_lret X hr hk d_Math_min2_11 ⟨(by show Outcome.returned _ = Outcome.returned _; unfold f_Math_min2; subst ev11; rfl), rfl⟩
  refine jm_lif_gt (tgt := 10) X d_Math_min2_3 (by decide) (fun c1 => ?_) (fun c1 => ?_)
  · refine jm_lload_n X d_Math_min2_10 rfl 1 rfl ?_
    exact J11_2 _ (by first | (simp only [if_pos c1, reduceIte]; done) | (with_reducible rfl))
  · refine jm_lload_n X d_Math_min2_6 rfl 0 rfl ?_
    refine jm_goto (tgt := 11) X d_Math_min2_7 (by decide) ?_
    exact J11_2 _ (by first | (simp only [if_neg c1, reduceIte]; done) | (with_reducible rfl))
def f_Math_max2 (x : Int64) (y : Int64) : Int64 :=
  let v11 : Int64 := if x < y then y else x
  v11
set_option maxRecDepth 20000 in
set_option maxHeartbeats 4000000 in
theorem k_Math_max2 {l : Launch} {S : State} {D : va_G} {dA : Nat → ClassId} (E : jm_en S D jm_cl (jm_ty dA) jm_G) (x : Int64) (y : Int64) (h : jm_H)    : jm_M l S D jm_cl y_Math_max2 (Cond.code y_Math_max2 b_Math_max2 4 (some FieldType.long)) { frames := 0, cells := 0, slots := 0, locals := 0 } [.long x, .long y] h (jm_R (some (.long (f_Math_max2 x y))) h) 0 0 := by
  refine jm_ofWF E (by decide +kernel) (Nat.le_of_ble_eq_true rfl) (fun p e s m below meth c X hr hk hmn hout hadm => ?_)
  have X : jm_cx p s m ([.long x, .long y] : List Value).toArray c S D jm_cl (jm_ty dA) jm_G b_Math_max2 4 "java/lang/Math" := X
  show jm_W p l e ({ frames := 0, cells := 0, slots := 0, locals := 0 }) s m ([.long x, .long y] : List Value).toArray below meth c S D jm_cl (jm_Q S D jm_cl below s (jm_R (some (.long (f_Math_max2 x y))) h) 0 0) 4 0 [(0, .long x), (2, .long y)] [] (h) 0 0
  refine jm_lload_n X d_Math_max2_0 rfl 0 rfl ?_
  refine jm_lload_n X d_Math_max2_1 rfl 1 rfl ?_
  refine jm_lcmp X d_Math_max2_2 ?_
  have J11_2 : ∀ (v11 : Int64), v11 = (if x < y then y else x : Int64) → jm_W p l e ({ frames := 0, cells := 0, slots := 0, locals := 0 }) s m ([.long x, .long y] : List Value).toArray below meth c S D jm_cl (jm_Q S D jm_cl below s (jm_R (some (.long (f_Math_max2 x y))) h) 0 0) 4 11 [(0, .long x), (2, .long y)] [.long v11] (h) 0 0 := by
    intro v11 ev11
    exact jm_lret X hr hk d_Math_max2_11 ⟨(by show Outcome.returned _ = Outcome.returned _; unfold f_Math_max2; subst ev11; rfl), rfl⟩
  refine jm_lif_lt (tgt := 10) X d_Math_max2_3 (by decide) (fun c1 => ?_) (fun c1 => ?_)
  · refine jm_lload_n X d_Math_max2_10 rfl 1 rfl ?_
    exact J11_2 _ (by first | (simp only [if_pos c1, reduceIte]; done) | (with_reducible rfl))
  · refine jm_lload_n X d_Math_max2_6 rfl 0 rfl ?_
    refine jm_goto (tgt := 11) X d_Math_max2_7 (by decide) ?_
    exact J11_2 _ (by first | (simp only [if_neg c1, reduceIte]; done) | (with_reducible rfl))
def f_Math_floorDiv (x : Int32) (y : Int32) : Int32 :=
  if 0 ≤ (x ^^^ y) then (x / y) else (if ((x / y) * y) = x then (x / y) else ((x / y) - 1))
set_option maxRecDepth 20000 in
set_option maxHeartbeats 4000000 in
theorem k_Math_floorDiv {l : Launch} {S : State} {D : va_G} {dA : Nat → ClassId} (E : jm_en S D jm_cl (jm_ty dA) jm_G) (x : Int32) (y : Int32) (h : jm_H)   (p0 : ¬ y = 0) : jm_M l S D jm_cl y_Math_floorDiv (Cond.code y_Math_floorDiv b_Math_floorDiv 3 (some FieldType.int)) { frames := 0, cells := 0, slots := 0, locals := 0 } [.int x, .int y] h (jm_R (some (.int (f_Math_floorDiv x y))) h) 0 0 := by
  refine jm_ofWF E (by decide +kernel) (Nat.le_of_ble_eq_true rfl) (fun p e s m below meth c X hr hk hmn hout hadm => ?_)
  have X : jm_cx p s m ([.int x, .int y] : List Value).toArray c S D jm_cl (jm_ty dA) jm_G b_Math_floorDiv 3 "java/lang/Math" := X
  show jm_W p l e ({ frames := 0, cells := 0, slots := 0, locals := 0 }) s m ([.int x, .int y] : List Value).toArray below meth c S D jm_cl (jm_Q S D jm_cl below s (jm_R (some (.int (f_Math_floorDiv x y))) h) 0 0) 3 0 [(0, .int x), (1, .int y)] [] (h) 0 0
  refine jm_iload_n X d_Math_floorDiv_0 rfl 0 rfl ?_
  refine jm_iload_n X d_Math_floorDiv_1 rfl 1 rfl ?_
  refine jm_idiv X d_Math_floorDiv_2 (by with_reducible assumption) ?_
  refine jm_istore_n X d_Math_floorDiv_3 rfl (by decide) (lv1 := [(2, .int (x / y)), (0, .int x), (1, .int y)]) rfl ?_
  refine jm_iload_n X d_Math_floorDiv_4 rfl 1 rfl ?_
  refine jm_iload_n X d_Math_floorDiv_5 rfl 2 rfl ?_
  refine jm_ixor X d_Math_floorDiv_6 ?_
  refine jm_if_ge (tgt := 21) X d_Math_floorDiv_7 (by decide) (fun c1 => ?_) (fun c1 => ?_)
  · refine jm_iload_n X d_Math_floorDiv_21 rfl 0 rfl ?_
    exact jm_iret X hr hk d_Math_floorDiv_22 ⟨(by show Outcome.returned _ = Outcome.returned _; unfold f_Math_floorDiv; first | (simp only [if_pos c1, reduceIte]; done) | (simp only [if_pos c1, reduceIte]; rfl) | rfl), rfl⟩
  · refine jm_iload_n X d_Math_floorDiv_10 rfl 0 rfl ?_
    refine jm_iload_n X d_Math_floorDiv_11 rfl 2 rfl ?_
    refine jm_imul X d_Math_floorDiv_12 ?_
    refine jm_iload_n X d_Math_floorDiv_13 rfl 1 rfl ?_
    refine jm_icmp_eq (tgt := 21) X d_Math_floorDiv_14 (by decide) (fun c2 => ?_) (fun c2 => ?_)
    · refine jm_iload_n X d_Math_floorDiv_21 rfl 0 rfl ?_
      exact jm_iret X hr hk d_Math_floorDiv_22 ⟨(by show Outcome.returned _ = Outcome.returned _; unfold f_Math_floorDiv; first | (simp only [if_neg c1, if_pos c2, reduceIte]; done) | (simp only [if_neg c1, if_pos c2, reduceIte]; rfl) | rfl), rfl⟩
    · refine jm_iload_n X d_Math_floorDiv_17 rfl 0 rfl ?_
      refine jm_iconst (v := 1) X d_Math_floorDiv_18 (by decide) ?_
      refine jm_isub X d_Math_floorDiv_19 ?_
      exact jm_iret X hr hk d_Math_floorDiv_20 ⟨(by show Outcome.returned _ = Outcome.returned _; unfold f_Math_floorDiv; first | (simp only [if_neg c1, if_neg c2, reduceIte]; done) | (simp only [if_neg c1, if_neg c2, reduceIte]; rfl) | rfl), rfl⟩
def f_Math_floorMod (x : Int32) (y : Int32) : Int32 :=
  if 0 ≤ (x ^^^ y) then (x - x / y * y) else (if (x - x / y * y) = 0 then (x - x / y * y) else ((x - x / y * y) + y))
set_option maxRecDepth 20000 in
set_option maxHeartbeats 4000000 in
theorem k_Math_floorMod {l : Launch} {S : State} {D : va_G} {dA : Nat → ClassId} (E : jm_en S D jm_cl (jm_ty dA) jm_G) (x : Int32) (y : Int32) (h : jm_H)   (p0 : ¬ y = 0) : jm_M l S D jm_cl y_Math_floorMod (Cond.code y_Math_floorMod b_Math_floorMod 3 (some FieldType.int)) { frames := 0, cells := 0, slots := 0, locals := 0 } [.int x, .int y] h (jm_R (some (.int (f_Math_floorMod x y))) h) 0 0 := by
  refine jm_ofWF E (by decide +kernel) (Nat.le_of_ble_eq_true rfl) (fun p e s m below meth c X hr hk hmn hout hadm => ?_)
  have X : jm_cx p s m ([.int x, .int y] : List Value).toArray c S D jm_cl (jm_ty dA) jm_G b_Math_floorMod 3 "java/lang/Math" := X
  show jm_W p l e ({ frames := 0, cells := 0, slots := 0, locals := 0 }) s m ([.int x, .int y] : List Value).toArray below meth c S D jm_cl (jm_Q S D jm_cl below s (jm_R (some (.int (f_Math_floorMod x y))) h) 0 0) 3 0 [(0, .int x), (1, .int y)] [] (h) 0 0
  refine jm_iload_n X d_Math_floorMod_0 rfl 0 rfl ?_
  refine jm_iload_n X d_Math_floorMod_1 rfl 1 rfl ?_
  refine jm_irem X d_Math_floorMod_2 (by with_reducible assumption) ?_
  refine jm_istore_n X d_Math_floorMod_3 rfl (by decide) (lv1 := [(2, .int (x - x / y * y)), (0, .int x), (1, .int y)]) rfl ?_
  refine jm_iload_n X d_Math_floorMod_4 rfl 1 rfl ?_
  refine jm_iload_n X d_Math_floorMod_5 rfl 2 rfl ?_
  refine jm_ixor X d_Math_floorMod_6 ?_
  refine jm_if_ge (tgt := 18) X d_Math_floorMod_7 (by decide) (fun c1 => ?_) (fun c1 => ?_)
  · refine jm_iload_n X d_Math_floorMod_18 rfl 0 rfl ?_
    exact jm_iret X hr hk d_Math_floorMod_19 ⟨(by show Outcome.returned _ = Outcome.returned _; unfold f_Math_floorMod; first | (simp only [if_pos c1, reduceIte]; done) | (simp only [if_pos c1, reduceIte]; rfl) | rfl), rfl⟩
  · refine jm_iload_n X d_Math_floorMod_10 rfl 0 rfl ?_
    refine jm_if_eq (tgt := 18) X d_Math_floorMod_11 (by decide) (fun c2 => ?_) (fun c2 => ?_)
    · refine jm_iload_n X d_Math_floorMod_18 rfl 0 rfl ?_
      exact jm_iret X hr hk d_Math_floorMod_19 ⟨(by show Outcome.returned _ = Outcome.returned _; unfold f_Math_floorMod; first | (simp only [if_neg c1, if_pos c2, reduceIte]; done) | (simp only [if_neg c1, if_pos c2, reduceIte]; rfl) | rfl), rfl⟩
    · refine jm_iload_n X d_Math_floorMod_14 rfl 0 rfl ?_
      refine jm_iload_n X d_Math_floorMod_15 rfl 2 rfl ?_
      refine jm_iadd X d_Math_floorMod_16 ?_
      exact jm_iret X hr hk d_Math_floorMod_17 ⟨(by show Outcome.returned _ = Outcome.returned _; unfold f_Math_floorMod; first | (simp only [if_neg c1, if_neg c2, reduceIte]; done) | (simp only [if_neg c1, if_neg c2, reduceIte]; rfl) | rfl), rfl⟩
def f_Math_floorDiv2 (x : Int64) (y : Int64) : Int64 :=
  if ((0 : Int64)) ≤ (x ^^^ y) then (x / y) else (if ((x / y) * y) = x then (x / y) else ((x / y) - 1))
set_option maxRecDepth 20000 in
set_option maxHeartbeats 4000000 in
theorem k_Math_floorDiv2 {l : Launch} {S : State} {D : va_G} {dA : Nat → ClassId} (E : jm_en S D jm_cl (jm_ty dA) jm_G) (x : Int64) (y : Int64) (h : jm_H)   (p0 : ¬ y = 0) : jm_M l S D jm_cl y_Math_floorDiv2 (Cond.code y_Math_floorDiv2 b_Math_floorDiv2 6 (some FieldType.long)) { frames := 0, cells := 0, slots := 0, locals := 0 } [.long x, .long y] h (jm_R (some (.long (f_Math_floorDiv2 x y))) h) 0 0 := by
  refine jm_ofWF E (by decide +kernel) (Nat.le_of_ble_eq_true rfl) (fun p e s m below meth c X hr hk hmn hout hadm => ?_)
  have X : jm_cx p s m ([.long x, .long y] : List Value).toArray c S D jm_cl (jm_ty dA) jm_G b_Math_floorDiv2 6 "java/lang/Math" := X
  show jm_W p l e ({ frames := 0, cells := 0, slots := 0, locals := 0 }) s m ([.long x, .long y] : List Value).toArray below meth c S D jm_cl (jm_Q S D jm_cl below s (jm_R (some (.long (f_Math_floorDiv2 x y))) h) 0 0) 6 0 [(0, .long x), (2, .long y)] [] (h) 0 0
  refine jm_lload_n X d_Math_floorDiv2_0 rfl 0 rfl ?_
  refine jm_lload_n X d_Math_floorDiv2_1 rfl 1 rfl ?_
  refine jm_ldiv X d_Math_floorDiv2_2 (by with_reducible assumption) ?_
  refine jm_lstore X d_Math_floorDiv2_3 (by decide) (lv1 := [(4, .long (x / y)), (0, .long x), (2, .long y)]) rfl ?_
  refine jm_lload_n X d_Math_floorDiv2_5 rfl 1 rfl ?_
  refine jm_lload_n X d_Math_floorDiv2_6 rfl 2 rfl ?_
  refine jm_lxor X d_Math_floorDiv2_7 ?_
  refine jm_lconst (v := 0) X d_Math_floorDiv2_8 (by decide) ?_
  refine jm_lcmp X d_Math_floorDiv2_9 ?_
  refine jm_lif_ge (tgt := 27) X d_Math_floorDiv2_10 (by decide) (fun c1 => ?_) (fun c1 => ?_)
  · refine jm_lload X d_Math_floorDiv2_27 0 rfl ?_
    exact jm_lret X hr hk d_Math_floorDiv2_29 ⟨(by show Outcome.returned _ = Outcome.returned _; unfold f_Math_floorDiv2; first | (simp only [if_pos c1, reduceIte]; done) | (simp only [if_pos c1, reduceIte]; rfl) | rfl), rfl⟩
  · refine jm_lload X d_Math_floorDiv2_13 0 rfl ?_
    refine jm_lload_n X d_Math_floorDiv2_15 rfl 2 rfl ?_
    refine jm_lmul X d_Math_floorDiv2_16 ?_
    refine jm_lload_n X d_Math_floorDiv2_17 rfl 1 rfl ?_
    refine jm_lcmp X d_Math_floorDiv2_18 ?_
    refine jm_lif_eq (tgt := 27) X d_Math_floorDiv2_19 (by decide) (fun c2 => ?_) (fun c2 => ?_)
    · refine jm_lload X d_Math_floorDiv2_27 0 rfl ?_
      exact jm_lret X hr hk d_Math_floorDiv2_29 ⟨(by show Outcome.returned _ = Outcome.returned _; unfold f_Math_floorDiv2; first | (simp only [if_neg c1, if_pos c2, reduceIte]; done) | (simp only [if_neg c1, if_pos c2, reduceIte]; rfl) | rfl), rfl⟩
    · refine jm_lload X d_Math_floorDiv2_22 0 rfl ?_
      refine jm_lconst (v := 1) X d_Math_floorDiv2_24 (by decide) ?_
      refine jm_lsub X d_Math_floorDiv2_25 ?_
      exact jm_lret X hr hk d_Math_floorDiv2_26 ⟨(by show Outcome.returned _ = Outcome.returned _; unfold f_Math_floorDiv2; first | (simp only [if_neg c1, if_neg c2, reduceIte]; done) | (simp only [if_neg c1, if_neg c2, reduceIte]; rfl) | rfl), rfl⟩
def f_Math_floorMod2 (x : Int64) (y : Int64) : Int64 :=
  if ((0 : Int64)) ≤ (x ^^^ y) then (x - x / y * y) else (if (x - x / y * y) = 0 then (x - x / y * y) else ((x - x / y * y) + y))
set_option maxRecDepth 20000 in
set_option maxHeartbeats 4000000 in
theorem k_Math_floorMod2 {l : Launch} {S : State} {D : va_G} {dA : Nat → ClassId} (E : jm_en S D jm_cl (jm_ty dA) jm_G) (x : Int64) (y : Int64) (h : jm_H)   (p0 : ¬ y = 0) : jm_M l S D jm_cl y_Math_floorMod2 (Cond.code y_Math_floorMod2 b_Math_floorMod2 6 (some FieldType.long)) { frames := 0, cells := 0, slots := 0, locals := 0 } [.long x, .long y] h (jm_R (some (.long (f_Math_floorMod2 x y))) h) 0 0 := by
  refine jm_ofWF E (by decide +kernel) (Nat.le_of_ble_eq_true rfl) (fun p e s m below meth c X hr hk hmn hout hadm => ?_)
  have X : jm_cx p s m ([.long x, .long y] : List Value).toArray c S D jm_cl (jm_ty dA) jm_G b_Math_floorMod2 6 "java/lang/Math" := X
  show jm_W p l e ({ frames := 0, cells := 0, slots := 0, locals := 0 }) s m ([.long x, .long y] : List Value).toArray below meth c S D jm_cl (jm_Q S D jm_cl below s (jm_R (some (.long (f_Math_floorMod2 x y))) h) 0 0) 6 0 [(0, .long x), (2, .long y)] [] (h) 0 0
  refine jm_lload_n X d_Math_floorMod2_0 rfl 0 rfl ?_
  refine jm_lload_n X d_Math_floorMod2_1 rfl 1 rfl ?_
  refine jm_lrem X d_Math_floorMod2_2 (by with_reducible assumption) ?_
  refine jm_lstore X d_Math_floorMod2_3 (by decide) (lv1 := [(4, .long (x - x / y * y)), (0, .long x), (2, .long y)]) rfl ?_
  refine jm_lload_n X d_Math_floorMod2_5 rfl 1 rfl ?_
  refine jm_lload_n X d_Math_floorMod2_6 rfl 2 rfl ?_
  refine jm_lxor X d_Math_floorMod2_7 ?_
  refine jm_lconst (v := 0) X d_Math_floorMod2_8 (by decide) ?_
  refine jm_lcmp X d_Math_floorMod2_9 ?_
  refine jm_lif_ge (tgt := 25) X d_Math_floorMod2_10 (by decide) (fun c1 => ?_) (fun c1 => ?_)
  · refine jm_lload X d_Math_floorMod2_25 0 rfl ?_
    exact jm_lret X hr hk d_Math_floorMod2_27 ⟨(by show Outcome.returned _ = Outcome.returned _; unfold f_Math_floorMod2; first | (simp only [if_pos c1, reduceIte]; done) | (simp only [if_pos c1, reduceIte]; rfl) | rfl), rfl⟩
  · refine jm_lload X d_Math_floorMod2_13 0 rfl ?_
    refine jm_lconst (v := 0) X d_Math_floorMod2_15 (by decide) ?_
    refine jm_lcmp X d_Math_floorMod2_16 ?_
    refine jm_lif_eq (tgt := 25) X d_Math_floorMod2_17 (by decide) (fun c2 => ?_) (fun c2 => ?_)
    · refine jm_lload X d_Math_floorMod2_25 0 rfl ?_
      exact jm_lret X hr hk d_Math_floorMod2_27 ⟨(by show Outcome.returned _ = Outcome.returned _; unfold f_Math_floorMod2; first | (simp only [if_neg c1, if_pos c2, reduceIte]; done) | (simp only [if_neg c1, if_pos c2, reduceIte]; rfl) | rfl), rfl⟩
    · refine jm_lload X d_Math_floorMod2_20 0 rfl ?_
      refine jm_lload_n X d_Math_floorMod2_22 rfl 2 rfl ?_
      refine jm_ladd X d_Math_floorMod2_23 ?_
      exact jm_lret X hr hk d_Math_floorMod2_24 ⟨(by show Outcome.returned _ = Outcome.returned _; unfold f_Math_floorMod2; first | (simp only [if_neg c1, if_neg c2, reduceIte]; done) | (simp only [if_neg c1, if_neg c2, reduceIte]; rfl) | rfl), rfl⟩
def f_Long_bitCount (x : Int64) : Int32 :=
  let w9 : Int64 := x - ((((x : Int64).toUInt64 >>> ((1 : Int32).toInt64.toUInt64 &&& Int64.toUInt64 63)).toInt64) &&& 6148914691236517205)
  let w23 : Int64 := (w9 &&& 3689348814741910323) + ((((w9 : Int64).toUInt64 >>> ((2 : Int32).toInt64.toUInt64 &&& Int64.toUInt64 63)).toInt64) &&& 3689348814741910323)
  let w33 : Int64 := (w23 + (((w23 : Int64).toUInt64 >>> ((4 : Int32).toInt64.toUInt64 &&& Int64.toUInt64 63)).toInt64)) &&& 1085102592571150095
  let w40 : Int64 := w33 + (((w33 : Int64).toUInt64 >>> ((8 : Int32).toInt64.toUInt64 &&& Int64.toUInt64 63)).toInt64)
  let w47 : Int64 := w40 + (((w40 : Int64).toUInt64 >>> ((16 : Int32).toInt64.toUInt64 &&& Int64.toUInt64 63)).toInt64)
  let w54 : Int64 := w47 + (((w47 : Int64).toUInt64 >>> ((32 : Int32).toInt64.toUInt64 &&& Int64.toUInt64 63)).toInt64)
  ((w54 : Int64).toInt32) &&& 127
set_option maxRecDepth 20000 in
set_option maxHeartbeats 4000000 in
theorem k_Long_bitCount {l : Launch} {S : State} {D : va_G} {dA : Nat → ClassId} (E : jm_en S D jm_cl (jm_ty dA) jm_G) (x : Int64) (h : jm_H)    : jm_M l S D jm_cl y_Long_bitCount (Cond.code y_Long_bitCount b_Long_bitCount 2 (some FieldType.int)) { frames := 0, cells := 0, slots := 0, locals := 0 } [.long x] h (jm_R (some (.int (f_Long_bitCount x))) h) 0 0 := by
  refine jm_ofWF E (by decide +kernel) (Nat.le_of_ble_eq_true rfl) (fun p e s m below meth c X hr hk hmn hout hadm => ?_)
  have X : jm_cx p s m ([.long x] : List Value).toArray c S D jm_cl (jm_ty dA) jm_G b_Long_bitCount 2 "java/lang/Long" := X
  show jm_W p l e ({ frames := 0, cells := 0, slots := 0, locals := 0 }) s m ([.long x] : List Value).toArray below meth c S D jm_cl (jm_Q S D jm_cl below s (jm_R (some (.int (f_Long_bitCount x))) h) 0 0) 2 0 [(0, .long x)] [] (h) 0 0
  refine jm_lload_n X d_Long_bitCount_0 rfl 0 rfl ?_
  refine jm_lload_n X d_Long_bitCount_1 rfl 0 rfl ?_
  refine jm_iconst (v := 1) X d_Long_bitCount_2 (by decide) ?_
  refine jm_lushr X d_Long_bitCount_3 ?_
  refine jm_ldc2 (v := 6148914691236517205) X d_Long_bitCount_4 (jm_g4 60 rfl rfl) ?_
  refine jm_land X d_Long_bitCount_7 ?_
  refine jm_lsub X d_Long_bitCount_8 ?_
  refine jm_topl (fun w9 ew9 => ?_)
  refine jm_lstore_n X d_Long_bitCount_9 rfl (by decide) (lv1 := [(0, .long w9)]) rfl ?_
  refine jm_lload_n X d_Long_bitCount_10 rfl 0 rfl ?_
  refine jm_ldc2 (v := 3689348814741910323) X d_Long_bitCount_11 (jm_g4 61 rfl rfl) ?_
  refine jm_land X d_Long_bitCount_14 ?_
  refine jm_lload_n X d_Long_bitCount_15 rfl 0 rfl ?_
  refine jm_iconst (v := 2) X d_Long_bitCount_16 (by decide) ?_
  refine jm_lushr X d_Long_bitCount_17 ?_
  refine jm_ldc2 (v := 3689348814741910323) X d_Long_bitCount_18 (jm_g4 61 rfl rfl) ?_
  refine jm_land X d_Long_bitCount_21 ?_
  refine jm_ladd X d_Long_bitCount_22 ?_
  refine jm_topl (fun w23 ew23 => ?_)
  refine jm_lstore_n X d_Long_bitCount_23 rfl (by decide) (lv1 := [(0, .long w23)]) rfl ?_
  refine jm_lload_n X d_Long_bitCount_24 rfl 0 rfl ?_
  refine jm_lload_n X d_Long_bitCount_25 rfl 0 rfl ?_
  refine jm_iconst (v := 4) X d_Long_bitCount_26 (by decide) ?_
  refine jm_lushr X d_Long_bitCount_27 ?_
  refine jm_ladd X d_Long_bitCount_28 ?_
  refine jm_ldc2 (v := 1085102592571150095) X d_Long_bitCount_29 (jm_g4 62 rfl rfl) ?_
  refine jm_land X d_Long_bitCount_32 ?_
  refine jm_topl (fun w33 ew33 => ?_)
  refine jm_lstore_n X d_Long_bitCount_33 rfl (by decide) (lv1 := [(0, .long w33)]) rfl ?_
  refine jm_lload_n X d_Long_bitCount_34 rfl 0 rfl ?_
  refine jm_lload_n X d_Long_bitCount_35 rfl 0 rfl ?_
  refine jm_bipush (v := 8) X d_Long_bitCount_36 (by decide) ?_
  refine jm_lushr X d_Long_bitCount_38 ?_
  refine jm_ladd X d_Long_bitCount_39 ?_
  refine jm_topl (fun w40 ew40 => ?_)
  refine jm_lstore_n X d_Long_bitCount_40 rfl (by decide) (lv1 := [(0, .long w40)]) rfl ?_
  refine jm_lload_n X d_Long_bitCount_41 rfl 0 rfl ?_
  refine jm_lload_n X d_Long_bitCount_42 rfl 0 rfl ?_
  refine jm_bipush (v := 16) X d_Long_bitCount_43 (by decide) ?_
  refine jm_lushr X d_Long_bitCount_45 ?_
  refine jm_ladd X d_Long_bitCount_46 ?_
  refine jm_topl (fun w47 ew47 => ?_)
  refine jm_lstore_n X d_Long_bitCount_47 rfl (by decide) (lv1 := [(0, .long w47)]) rfl ?_
  refine jm_lload_n X d_Long_bitCount_48 rfl 0 rfl ?_
  refine jm_lload_n X d_Long_bitCount_49 rfl 0 rfl ?_
  refine jm_bipush (v := 32) X d_Long_bitCount_50 (by decide) ?_
  refine jm_lushr X d_Long_bitCount_52 ?_
  refine jm_ladd X d_Long_bitCount_53 ?_
  refine jm_topl (fun w54 ew54 => ?_)
  refine jm_lstore_n X d_Long_bitCount_54 rfl (by decide) (lv1 := [(0, .long w54)]) rfl ?_
  refine jm_lload_n X d_Long_bitCount_55 rfl 0 rfl ?_
  refine jm_l2i X d_Long_bitCount_56 ?_
  refine jm_bipush (v := 127) X d_Long_bitCount_57 (by decide) ?_
  refine jm_iand X d_Long_bitCount_59 ?_
  exact jm_iret X hr hk d_Long_bitCount_60 ⟨(by show Outcome.returned _ = Outcome.returned _; unfold f_Long_bitCount; subst ew54; subst ew47; subst ew40; subst ew33; subst ew23; subst ew9; rfl), rfl⟩
