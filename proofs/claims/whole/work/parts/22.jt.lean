section JT
theorem jx_run_up {df : List (List Value)} {P : List jx_Me} : ∀ (n : Nat) {me : jx_Me} {fr lo pc : Nat} {lv : List (Nat × Value)} {st : List Value} {M : jx_H} {dc ds : Nat} {o : jx_O}, jx_run df P n me fr lo pc lv st M dc ds = some o → jx_run df P (n + 1) me fr lo pc lv st M dc ds = some o := by
  intro n
  induction n with
  | zero => intro me fr lo pc lv st M dc ds o hs; cases hs
  | succ n ih =>
    intro me fr lo pc lv st M dc ds o hs
    rw [jx_run] at hs ⊢
    split at hs
    · cases hs
    next i len x va hat =>
      try rw [hat]
      try dsimp only
      split at hs
      · cases hs
      next z hz =>
        try rw [hz]
        exact ih hs
      next k As r hz =>
        try rw [hz]
        try dsimp only
        split at hs
        next h9 =>
          try rw [if_pos h9]
          split at hs
          next hroom =>
            try rw [if_pos hroom]
            split at hs
            next v M1 hpr =>
              try rw [hpr]
              exact ih hs
            next => cases hs
          next => cases hs
        next h9 =>
          try rw [if_neg h9]
          split at hs
          · cases hs
          next m2 hP =>
            try rw [hP]
            try dsimp only
            split at hs
            next hc =>
              try rw [if_pos hc]
              split at hs
              · cases hs
              next v M1 c1 s1 hr =>
                try rw [ih hr]
                exact ih hs
              next a M1 c1 s1 hr =>
                try rw [ih hr]
                try dsimp only
                split at hs
                · cases hs
                next ci fs hM =>
                  try rw [hM]
                  try dsimp only
                  split at hs
                  next h1 => (try rw [h1]); exact hs
                  next => cases hs
                  next q hs0 t h1 h2 =>
                    try rw [h2, h1]
                    exact ih hs
            next => cases hs
      next v hz =>
        try rw [hz]
        exact hs
      next ci hz =>
        try rw [hz]
        exact hs
theorem jx_run_le {df : List (List Value)} {P : List jx_Me} {n k : Nat} (hk : n ≤ k) {me : jx_Me} {fr lo pc : Nat} {lv : List (Nat × Value)} {st : List Value} {M : jx_H} {dc ds : Nat} {o : jx_O} (h : jx_run df P n me fr lo pc lv st M dc ds = some o) : jx_run df P k me fr lo pc lv st M dc ds = some o := by
  induction hk with
  | refl => exact h
  | step _ ih => exact jx_run_up _ ih
/-- the small machine comes to this end -/
def jt (me : jx_Me) (fr lo pc : Nat) (lv : List (Nat × Value)) (st : List Value) (M : jx_H) (dc ds : Nat) (o : jx_O) : Prop := ∃ n, jx_run jx_df jx_P n me fr lo pc lv st M dc ds = some o
variable {me : jx_Me} {fr lo pc : Nat} {lv : List (Nat × Value)} {st : List Value} {M : jx_H} {dc ds : Nat} {o : jx_O}
theorem jt_go {i : Instr} {len : Nat} {x : List Nat} {va : Value} {pc1 dc1 ds1 : Nat} {lv1 : List (Nat × Value)} {st1 : List Value} {M1 : jx_H} (ha : jx_at pc me.2.2.2.2.2 = some (i, len, x, va)) (hs : jx_step jx_df me.2.2.1 me.2.2.2.1 (me.1.name == "<init>") i x va pc lv st M dc ds = some (.inl (pc1, lv1, st1, M1, dc1, ds1))) (k : jt me fr lo pc1 lv1 st1 M1 dc1 ds1 o) : jt me fr lo pc lv st M dc ds o := by
  obtain ⟨n, h⟩ := k
  refine ⟨n + 1, ?_⟩
  rw [jx_run, ha]
  try dsimp only
  rw [hs]
  exact h
/-- some steps on, none of which ends or calls -/
def jx_sg (me : jx_Me) : Nat → Nat → List (Nat × Value) → List Value → jx_H → Nat → Nat → Option jx_N
  | 0, pc, lv, st, M, dc, ds => some (pc, lv, st, M, dc, ds)
  | n + 1, pc, lv, st, M, dc, ds => match jx_at pc me.2.2.2.2.2 with
    | none => none
    | some (i, _, x, va) => match jx_step jx_df me.2.2.1 me.2.2.2.1 (me.1.name == "<init>") i x va pc lv st M dc ds with
      | some (.inl z) => jx_sg me n z.1 z.2.1 z.2.2.1 z.2.2.2.1 z.2.2.2.2.1 z.2.2.2.2.2
      | _ => none
theorem jt_sg : ∀ (n : Nat) {pc pc1 dc ds dc1 ds1 : Nat} {lv lv1 : List (Nat × Value)} {st st1 : List Value} {M M1 : jx_H} (_ : jx_sg me n pc lv st M dc ds = some (pc1, lv1, st1, M1, dc1, ds1)) (_ : jt me fr lo pc1 lv1 st1 M1 dc1 ds1 o), jt me fr lo pc lv st M dc ds o
  | 0, _, _, _, _, _, _, _, _, _, _, _, _, h, k => by
    cases h
    exact k
  | n + 1, _, _, _, _, _, _, _, _, _, _, _, _, h, k => by
    unfold jx_sg at h
    split at h
    next => cases h
    next i len x va ha =>
      split at h
      next z hz =>
        obtain ⟨z1, z2, z3, z4, z5, z6⟩ := z
        exact jt_go ha hz (jt_sg n h k)
      next => cases h
theorem jt_ret {i : Instr} {len : Nat} {x : List Nat} {va : Value} {v : Option Value} (ha : jx_at pc me.2.2.2.2.2 = some (i, len, x, va)) (hs : jx_step jx_df me.2.2.1 me.2.2.2.1 (me.1.name == "<init>") i x va pc lv st M dc ds = some (.inr (.inr (.inl v)))) (k : (.inl v, M, dc, ds) = o) : jt me fr lo pc lv st M dc ds o := by
  refine ⟨1, ?_⟩
  rw [jx_run, ha]
  try dsimp only
  rw [hs, ← k]
theorem jt_call {i : Instr} {len k : Nat} {x : List Nat} {va : Value} {As r : List Value} {m2 : jx_Me} {mx : Nat} {v : Option Value} {M1 : jx_H} {c1 s1 : Nat} (ha : jx_at pc me.2.2.2.2.2 = some (i, len, x, va)) (hs : jx_step jx_df me.2.2.1 me.2.2.2.1 (me.1.name == "<init>") i x va pc lv st M dc ds = some (.inr (.inl (k, As, r)))) (hk : Nat.ble 9000 k = false) (hP : jx_P[k]? = some m2) (hmx : m2.2.2.1 = mx) (hf : 1 ≤ fr) (hl : mx + 19 ≤ lo) (hA : (lg_sl As).length ≤ mx)
    (hc : jt m2 (fr - 1) (lo - (mx + 19)) 0 (lv_args 0 As) [] M 0 0 (.inl v, M1, c1, s1)) (kk : jt me fr lo (pc + 3) lv (v.toList ++ r) M1 (dc + c1) (ds + s1) o) : jt me fr lo pc lv st M dc ds o := by
  subst hmx
  obtain ⟨n, h⟩ := hc
  obtain ⟨n2, h2⟩ := kk
  have hk : ¬ 9000 ≤ k := fun q => by rw [Nat.ble_eq_true_of_le q] at hk; cases hk
  refine ⟨max n n2 + 1, ?_⟩
  rw [jx_run, ha]
  try dsimp only
  rw [hs]
  try dsimp only
  rw [if_neg hk, hP]
  try dsimp only
  rw [if_pos ⟨hf, hl, hA⟩, jx_run_le (Nat.le_max_left n n2) h]
  exact jx_run_le (Nat.le_max_right n n2) h2
theorem jt_prim {i : Instr} {len k : Nat} {x : List Nat} {va : Value} {As r : List Value} {v : Option Value} {M1 : jx_H} (ha : jx_at pc me.2.2.2.2.2 = some (i, len, x, va)) (hs : jx_step jx_df me.2.2.1 me.2.2.2.1 (me.1.name == "<init>") i x va pc lv st M dc ds = some (.inr (.inl (k, As, r)))) (hk : Nat.ble 9000 k = true) (hf : 6 ≤ fr) (hl : 150 ≤ lo) (hp : jx_pr k As M = some (v, M1)) (kk : jt me fr lo (pc + 3) lv (v.toList ++ r) M1 dc ds o) : jt me fr lo pc lv st M dc ds o := by
  obtain ⟨n2, h2⟩ := kk
  refine ⟨n2 + 1, ?_⟩
  rw [jx_run, ha]
  try dsimp only
  rw [hs]
  try dsimp only
  rw [if_pos (Nat.le_of_ble_eq_true hk), if_pos ⟨hf, hl⟩, hp]
  exact h2
/-- a call that throws, where this method has no handler -/
theorem jt_callX {i : Instr} {len k : Nat} {x : List Nat} {va : Value} {As r : List Value} {m2 : jx_Me} {mx : Nat} {a ci : Nat} {fs : List Value} {M1 : jx_H} {c1 s1 : Nat} (ha : jx_at pc me.2.2.2.2.2 = some (i, len, x, va)) (hs : jx_step jx_df me.2.2.1 me.2.2.2.1 (me.1.name == "<init>") i x va pc lv st M dc ds = some (.inr (.inl (k, As, r)))) (hk : Nat.ble 9000 k = false) (hP : jx_P[k]? = some m2) (hmx : m2.2.2.1 = mx) (hf : 1 ≤ fr) (hl : mx + 19 ≤ lo) (hA : (lg_sl As).length ≤ mx)
    (hc : jt m2 (fr - 1) (lo - (mx + 19)) 0 (lv_args 0 As) [] M 0 0 (.inr a, M1, c1, s1)) (hM : M1[a]? = some (ci, fs)) (hh : me.2.2.2.2.1 = []) (kk : (.inr a, M1, dc + c1, ds + s1) = o) : jt me fr lo pc lv st M dc ds o := by
  subst hmx
  obtain ⟨n, h⟩ := hc
  have hk : ¬ 9000 ≤ k := fun q => by rw [Nat.ble_eq_true_of_le q] at hk; cases hk
  refine ⟨n + 1, ?_⟩
  rw [jx_run, ha]
  try dsimp only
  rw [hs]
  try dsimp only
  rw [if_neg hk, hP]
  try dsimp only
  rw [if_pos ⟨hf, hl, hA⟩, h]
  try dsimp only
  rw [hM]
  try dsimp only
  rw [hh, ← kk]
/-- a call that throws, caught here -/
theorem jt_callC {i : Instr} {len k t : Nat} {x : List Nat} {va : Value} {As r : List Value} {m2 : jx_Me} {mx : Nat} {a ci : Nat} {fs : List Value} {M1 : jx_H} {c1 s1 : Nat} {q : Nat × Nat × Nat × Nat × Nat} {hs0 : List (Nat × Nat × Nat × Nat × Nat)} (ha : jx_at pc me.2.2.2.2.2 = some (i, len, x, va)) (hs : jx_step jx_df me.2.2.1 me.2.2.2.1 (me.1.name == "<init>") i x va pc lv st M dc ds = some (.inr (.inl (k, As, r)))) (hk : Nat.ble 9000 k = false) (hP : jx_P[k]? = some m2) (hmx : m2.2.2.1 = mx) (hf : 1 ≤ fr) (hl : mx + 19 ≤ lo) (hA : (lg_sl As).length ≤ mx)
    (hc : jt m2 (fr - 1) (lo - (mx + 19)) 0 (lv_args 0 As) [] M 0 0 (.inr a, M1, c1, s1)) (hM : M1[a]? = some (ci, fs)) (hh : me.2.2.2.2.1 = q :: hs0) (ht : jx_hd pc ci (q :: hs0) = some t) (kk : jt me fr lo t lv [.ref a] M1 (dc + c1) (ds + s1) o) : jt me fr lo pc lv st M dc ds o := by
  subst hmx
  obtain ⟨n, h⟩ := hc
  obtain ⟨n2, h2⟩ := kk
  have hk : ¬ 9000 ≤ k := fun q => by rw [Nat.ble_eq_true_of_le q] at hk; cases hk
  refine ⟨max n n2 + 1, ?_⟩
  rw [jx_run, ha]
  try dsimp only
  rw [hs]
  try dsimp only
  rw [if_neg hk, hP]
  try dsimp only
  rw [if_pos ⟨hf, hl, hA⟩, jx_run_le (Nat.le_max_left n n2) h]
  try dsimp only
  rw [hM]
  try dsimp only
  rw [hh]
  try dsimp only
  rw [ht]
  exact jx_run_le (Nat.le_max_right n n2) h2
theorem jt_throw {i : Instr} {len ci : Nat} {x : List Nat} {va : Value} (ha : jx_at pc me.2.2.2.2.2 = some (i, len, x, va)) (hs : jx_step jx_df me.2.2.1 me.2.2.2.1 (me.1.name == "<init>") i x va pc lv st M dc ds = some (.inr (.inr (.inr ci)))) (hh : me.2.2.2.2.1 = []) (hf : 5 < fr) (hl : jx_cat st + 81 ≤ lo) (kk : (.inr M.length, M ++ [(ci, [])], dc + 1, ds + 6) = o) : jt me fr lo pc lv st M dc ds o := by
  refine ⟨1, ?_⟩
  rw [jx_run, ha]
  try dsimp only
  rw [hs]
  try dsimp only
  rw [hh]
  try dsimp only
  rw [if_pos ⟨hf, hl⟩, ← kk]
theorem jt_iret {len : Nat} {x : List Nat} {va : Value} {ty : FieldType} {v : Int32} (ha : jx_at pc me.2.2.2.2.2 = some (.ireturn, len, x, va)) (hr : me.2.2.2.1 = some ty) (hn : narrow ty (.int v) = .int v) (k : (.inl (some (.int v)), M, dc, ds) = o) : jt me fr lo pc lv [.int v] M dc ds o := by
  refine jt_ret ha ?_ k
  show jx_ri me.2.2.2.1 [.int v] = _
  rw [hr]
  simp only [jx_ri]
  rw [if_pos hn]
theorem jt_jz {len t : Nat} {x : List Nat} {va : Value} {cd : ClassFile.Cond} {off : Int} {y : Int32} {r : List Value} (ha : jx_at pc me.2.2.2.2.2 = some (.ifCond cd off, len, x, va)) (ht : jx_jp pc off = some t) (kt : jx_cz cd y = true → jt me fr lo t lv r M dc ds o) (kf : jx_cz cd y = false → jt me fr lo (pc + 3) lv r M dc ds o) : jt me fr lo pc lv (.int y :: r) M dc ds o := by
  cases h : jx_cz cd y with
  | true => exact jt_go ha (by show jx_to (jx_cz cd y) pc 3 off lv r M dc ds = _; rw [h]; simp only [jx_to, ht]) (kt h)
  | false => exact jt_go ha (by show jx_to (jx_cz cd y) pc 3 off lv r M dc ds = _; rw [h]; simp only [jx_to, ht]) (kf h)
theorem jt_jc {len t : Nat} {x : List Nat} {va : Value} {cd : ClassFile.Cond} {off : Int} {y z : Int32} {r : List Value} (ha : jx_at pc me.2.2.2.2.2 = some (.if_icmp cd off, len, x, va)) (ht : jx_jp pc off = some t) (kt : jx_cc cd y z = true → jt me fr lo t lv r M dc ds o) (kf : jx_cc cd y z = false → jt me fr lo (pc + 3) lv r M dc ds o) : jt me fr lo pc lv (.int z :: .int y :: r) M dc ds o := by
  cases h : jx_cc cd y z with
  | true => exact jt_go ha (by show jx_to (jx_cc cd y z) pc 3 off lv r M dc ds = _; rw [h]; simp only [jx_to, ht]) (kt h)
  | false => exact jt_go ha (by show jx_to (jx_cc cd y z) pc 3 off lv r M dc ds = _; rw [h]; simp only [jx_to, ht]) (kf h)
theorem jt_get {len idx ci k a : Nat} {va v : Value} {fs r : List Value} (ha : jx_at pc me.2.2.2.2.2 = some (.getfield idx, len, [ci, k], va)) (hM : M[a]? = some (ci, fs)) (hk : fs[k]? = some v) (kk : jt me fr lo (pc + 3) lv (v :: r) M dc ds o) : jt me fr lo pc lv (.ref a :: r) M dc ds o := by
  refine jt_go ha ?_ kk
  show jx_gf pc lv M dc ds [ci, k] (.ref a :: r) = _
  simp only [jx_gf, hM, if_true, hk]
theorem jt_put {len idx ci k t f a : Nat} {va v : Value} {fs r : List Value} {M1 : jx_H} (ha : jx_at pc me.2.2.2.2.2 = some (.putfield idx, len, [ci, k, t, f], va)) (hM : M[a]? = some (ci, fs)) (hk : k < fs.length) (hf : jx_fit t v = true) (hi : f = 0 ∨ (me.1.name == "<init>") = true) (hM1 : M.set a (ci, fs.set k v) = M1) (kk : jt me fr lo (pc + 3) lv r M1 dc ds o) : jt me fr lo pc lv (v :: .ref a :: r) M dc ds o := by
  subst hM1
  refine jt_go ha ?_ kk
  show jx_pf (me.1.name == "<init>") pc lv M dc ds [ci, k, t, f] (v :: .ref a :: r) = _
  simp only [jx_pf, hM]
  rw [if_pos ⟨trivial, hk, hf, hi⟩]
theorem jx_vn {i : Int32} {n : Nat} (h : vp_in i n) : ¬ i < 0 := fun q => h (Or.inl q)
theorem jx_vb {i : Int32} {n : Nat} (h : vp_in i n) : i.toNatClampNeg < n := Nat.not_le.mp fun q => h (Or.inr q)
theorem jt_iald {len a n : Nat} {x : List Nat} {va : Value} {f : Nat → Int32} {i : Int32} {r : List Value} (ha : jx_at pc me.2.2.2.2.2 = some (.iaload, len, x, va)) (hM : M[a]? = some (102, jx_vi n f)) (hin : vp_in i n) (kk : jt me fr lo (pc + 1) lv (.int (f i.toNatClampNeg) :: r) M dc ds o) : jt me fr lo pc lv (.int i :: .ref a :: r) M dc ds o := by
  refine jt_go ha ?_ kk
  show jx_or (jx_ald [102] jx_isI pc lv M dc ds (.int i :: .ref a :: r)) _ = _
  have : jx_ald [102] jx_isI pc lv M dc ds (.int i :: .ref a :: r) = some (.inl (pc + 1, lv, .int (f i.toNatClampNeg) :: r, M, dc, ds)) := by
    simp only [jx_ald, hM]
    rw [if_pos ⟨rfl, jx_vn hin⟩, jx_vi_get (jx_vb hin)]
    rfl
  rw [this]
  rfl
theorem jt_bald {len a t n : Nat} {x : List Nat} {va : Value} {f : Nat → Int32} {i : Int32} {r : List Value} (ha : jx_at pc me.2.2.2.2.2 = some (.baload, len, x, va)) (ht : [100, 101].contains t = true) (hM : M[a]? = some (t, jx_vi n f)) (hin : vp_in i n) (kk : jt me fr lo (pc + 1) lv (.int (f i.toNatClampNeg) :: r) M dc ds o) : jt me fr lo pc lv (.int i :: .ref a :: r) M dc ds o := by
  refine jt_go ha ?_ kk
  show jx_ald [100, 101] jx_isI pc lv M dc ds (.int i :: .ref a :: r) = _
  simp only [jx_ald, hM]
  rw [if_pos ⟨ht, jx_vn hin⟩, jx_vi_get (jx_vb hin)]
  rfl
theorem jt_lald {len a n : Nat} {x : List Nat} {va : Value} {f : Nat → Int64} {i : Int32} {r : List Value} (ha : jx_at pc me.2.2.2.2.2 = some (.laload, len, x, va)) (hM : M[a]? = some (103, jx_vl n f)) (hin : vp_in i n) (kk : jt me fr lo (pc + 1) lv (.long (f i.toNatClampNeg) :: r) M dc ds o) : jt me fr lo pc lv (.int i :: .ref a :: r) M dc ds o := by
  refine jt_go ha ?_ kk
  show jx_ald [103] jx_isL pc lv M dc ds (.int i :: .ref a :: r) = _
  simp only [jx_ald, hM]
  rw [if_pos ⟨rfl, jx_vn hin⟩, jx_vl_get (jx_vb hin)]
  rfl
theorem jt_aald {len a t n : Nat} {x : List Nat} {va : Value} {f : Nat → Nat} {i : Int32} {r : List Value} (ha : jx_at pc me.2.2.2.2.2 = some (.aaload, len, x, va)) (ht : [104, 105, 106, 107, 108, 109, 110, 111, 112].contains t = true) (hM : M[a]? = some (t, jx_vr n f)) (hin : vp_in i n) (kk : jt me fr lo (pc + 1) lv (.ref (f i.toNatClampNeg) :: r) M dc ds o) : jt me fr lo pc lv (.int i :: .ref a :: r) M dc ds o := by
  refine jt_go ha ?_ kk
  show jx_ald [104, 105, 106, 107, 108, 109, 110, 111, 112] jx_isA pc lv M dc ds (.int i :: .ref a :: r) = _
  simp only [jx_ald, hM]
  rw [if_pos ⟨ht, jx_vn hin⟩, jx_vr_get (jx_vb hin)]
  rfl
theorem jt_iast {len a n : Nat} {x : List Nat} {va : Value} {f : Nat → Int32} {i v : Int32} {r : List Value} {M1 : jx_H} (ha : jx_at pc me.2.2.2.2.2 = some (.iastore, len, x, va)) (hM : M[a]? = some (102, jx_vi n f)) (hin : vp_in i n) (hM1 : M.set a (102, jx_vi n (upd f i.toNatClampNeg v)) = M1) (kk : jt me fr lo (pc + 1) lv r M1 dc ds o) : jt me fr lo pc lv (.int v :: .int i :: .ref a :: r) M dc ds o := by
  subst hM1
  refine jt_go ha ?_ kk
  show jx_ast [102] jx_isI pc lv M dc ds (.int v :: .int i :: .ref a :: r) = _
  simp only [jx_ast, hM]
  rw [if_pos ⟨rfl, jx_vn hin, by rw [jx_vi_len]; exact jx_vb hin, rfl⟩, ← jx_vi_set]
  rfl
theorem jt_bast {len a t n : Nat} {x : List Nat} {va : Value} {f : Nat → Int32} {i v w : Int32} {r : List Value} {M1 : jx_H} (ha : jx_at pc me.2.2.2.2.2 = some (.bastore, len, x, va)) (ht : [100, 101].contains t = true) (hM : M[a]? = some (t, jx_vi n f)) (hin : vp_in i n) (hv : jx_nar t (.int v) = .int w) (hM1 : M.set a (t, jx_vi n (upd f i.toNatClampNeg w)) = M1) (kk : jt me fr lo (pc + 1) lv r M1 dc ds o) : jt me fr lo pc lv (.int v :: .int i :: .ref a :: r) M dc ds o := by
  subst hM1
  refine jt_go ha ?_ kk
  show jx_ast [100, 101] jx_isI pc lv M dc ds (.int v :: .int i :: .ref a :: r) = _
  simp only [jx_ast, hM]
  rw [if_pos ⟨ht, jx_vn hin, by rw [jx_vi_len]; exact jx_vb hin, rfl⟩, ← jx_vi_set, hv]
theorem jt_last {len a n : Nat} {x : List Nat} {va : Value} {f : Nat → Int64} {i : Int32} {v : Int64} {r : List Value} {M1 : jx_H} (ha : jx_at pc me.2.2.2.2.2 = some (.lastore, len, x, va)) (hM : M[a]? = some (103, jx_vl n f)) (hin : vp_in i n) (hM1 : M.set a (103, jx_vl n (vp_updL f i.toNatClampNeg v)) = M1) (kk : jt me fr lo (pc + 1) lv r M1 dc ds o) : jt me fr lo pc lv (.long v :: .int i :: .ref a :: r) M dc ds o := by
  subst hM1
  refine jt_go ha ?_ kk
  show jx_ast [103] jx_isL pc lv M dc ds (.long v :: .int i :: .ref a :: r) = _
  simp only [jx_ast, hM]
  rw [if_pos ⟨rfl, jx_vn hin, by rw [jx_vl_len]; exact jx_vb hin, rfl⟩, ← jx_vl_set]
  rfl
theorem jt_alen {len a k n : Nat} {x : List Nat} {va : Value} {L r : List Value} (ha : jx_at pc me.2.2.2.2.2 = some (.arraylength, len, x, va)) (hk : (100 ≤ k ∧ k < 113) ∨ k = 200) (hM : M[a]? = some (k, L)) (hn : L.length = n) (kk : jt me fr lo (pc + 1) lv (.int (Int32.ofNat n) :: r) M dc ds o) : jt me fr lo pc lv (.ref a :: r) M dc ds o := by
  subst hn
  refine jt_go ha ?_ kk
  show jx_al pc lv M dc ds (.ref a :: r) = _
  simp only [jx_al, hM]
  rw [if_pos hk]
theorem jt_iaK {len a n : Nat} {x : List Nat} {va : Value} {f : Nat → Int32} {i : Int32} {r : List Value} (ha : jx_at pc me.2.2.2.2.2 = some (.iaload, len, x, va)) (hM : M[a]? = some (200, jx_vi n f)) (hin : vp_in i n) (kk : jt me fr lo (pc + 1) lv (.int (f i.toNatClampNeg) :: r) M dc ds o) : jt me fr lo pc lv (.int i :: .ref a :: r) M dc ds o := by
  refine jt_go ha ?_ kk
  show jx_or (jx_ald [102] jx_isI pc lv M dc ds (.int i :: .ref a :: r)) (jx_ald [200] jx_isI pc lv M dc ds (.int i :: .ref a :: r)) = _
  have h1 : jx_ald [102] jx_isI pc lv M dc ds (.int i :: .ref a :: r) = none := by
    simp only [jx_ald, hM]
    rw [if_neg (fun q => by simp at q)]
  have h2 : jx_ald [200] jx_isI pc lv M dc ds (.int i :: .ref a :: r) = some (.inl (pc + 1, lv, .int (f i.toNatClampNeg) :: r, M, dc, ds)) := by
    simp only [jx_ald, hM]
    rw [if_pos ⟨rfl, jx_vn hin⟩, jx_vi_get (jx_vb hin)]
    rfl
  rw [h1, h2]
  rfl
end JT
