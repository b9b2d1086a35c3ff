section JBG
theorem jt_newo {me : jx_Me} {fr lo i len ci q n : Nat} {va : Value} {o : jx_O} {pc dc ds : Nat} {lv : List (Nat × Value)} {st fs : List Value} {M : jx_H} (hi : jx_at pc me.2.2.2.2.2 = some (.new i, len, [ci], va)) (hd : jx_df[ci]? = some fs) (hl : M.length = q) (hn : fs.length = n) (k : jt me fr lo (pc + 3) lv (.ref q :: st) (M ++ [(ci, fs)]) (dc + 1) (ds + n) o) : jt me fr lo pc lv st M dc ds o := by
  subst hl hn
  refine jt_go hi ?_ k
  show jx_nw pc lv M dc ds jx_df [ci] st = _
  simp only [jx_nw, hd]
theorem jt_newa {me : jx_Me} {fr lo len t q m : Nat} {ty : ArrayType} {va : Value} {o : jx_O} {pc dc ds : Nat} {lv : List (Nat × Value)} {st : List Value} {n : Int32} {M : jx_H} (hi : jx_at pc me.2.2.2.2.2 = some (.newarray ty, len, [t], va)) (hl : M.length = q) (h : ¬ (n < 0 ∨ 67108864 < n.toNatClampNeg ∨ 13 ≤ t)) (hn : n.toNatClampNeg = m) (k : jt me fr lo (pc + 2) lv (.ref q :: st) (M ++ [(100 + t, List.replicate m (jx_el t))]) (dc + 1) (ds + m) o) : jt me fr lo pc lv (.int n :: st) M dc ds o := by
  subst hl hn
  refine jt_go hi ?_ k
  show jx_na 2 pc lv M dc ds [t] (.int n :: st) = _
  simp only [jx_na]
  rw [if_neg h]
def ja_J0 : List Value := [.null, .null, .null, .null, .null, .null, .null, .null, .long 0, .null, .int 0, .int 0, .int 0, .null, .int 0, .int 0, .int 0, .null]
theorem ja_f0 (L : Nat) (xs : Nat → Int32) : jx_fq (jx_C (200, jx_vi L xs)) (jx_bad0 ++ [(0, ja_J0)]) (jx_M0 L xs ++ [(0, ja_J0)]) := by
  have hl : (jx_bad0 ++ [(0, ja_J0)]).length = 25 := by decide +kernel
  refine ⟨rfl, fun b hb => ?_, fun b hb => ?_⟩
  · match b with
    | 0 => rw [hl] at hb; exact absurd hb (by decide)
    | b + 1 => rfl
  · rw [hl] at hb
    match b with
    | 0 => exact ⟨rfl, rfl⟩
    | b + 1 =>
      exfalso
      simp only [jx_SS, Bool.and_eq_true, Bool.or_eq_true, decide_eq_true_eq] at hb
      omega
theorem ja_pc : jx_cln jx_P = true := by decide +kernel
theorem ja_lJ0 : (jx_bad0 ++ [(0, ja_J0)]).length = 25 := by decide +kernel
theorem ja_lJ : (jx_bad0 ++ jx_HJ).length = 215 := by decide +kernel
theorem ja_J_init (L : Nat) (xs : Nat → Int32) : ∃ N, jt jp_J_init 14 571 0 [(0, .ref 24)] [] (jx_M0 L xs ++ [(0, ja_J0)]) 0 0 (.inl none, N, 190, 4698) ∧ jx_fq (jx_C (200, jx_vi L xs)) (jx_bad0 ++ jx_HJ) N := by
  obtain ⟨N, h1, h2, -⟩ := jx_run_g ja_pc 2000 (by decide +kernel) (ja_f0 L xs) jx_J_init0
  exact ⟨N, ⟨2000, h1⟩, jx_fq_up ja_lJ0 h2 ja_lJ (fun b h1 h2 => by simp only [jx_SS, Bool.or_eq_false_iff, Bool.and_eq_false_iff, decide_eq_false_iff_not]; omega) (by omega)⟩
def ja_h6 : jx_H := ja_h5 ++ [(103, [.long 0])]
theorem ja_df9 : jx_df[9]? = some [.int 0, .null, .int 0, .int 0, .int 0, .int 0, .int 0, .int 0, .null, .null, .null, .null, .null, .null, .null, .null, .null, .null, .null, .null, .int 0, .int 0, .int 0, .null, .null, .null, .null, .null, .null, .null, .null, .null, .null, .null, .null, .null, .null, .null, .null, .null, .null, .long 0, .int 0, .long 0, .long 0, .int 0, .null, .null, .null, .int 0] := by decide +kernel
set_option maxRecDepth 20000 in
/-- the law up to its loop -/
theorem jl_begin (L : Nat) (xs : Nat → Int32) : ∃ N, jx_fq (jx_C (200, jx_vi L xs)) ja_h6 N ∧ ∀ o, jt jp_W_law 15 592 23 [(0, .ref 0), (1, .ref 24), (2, .ref 215), (3, .ref 453), (4, .int 0)] [] N 430 540387 o → jt jp_W_law 15 592 0 [(0, .ref 0)] [] (jx_M0 L xs) 0 0 o := by
  obtain ⟨N1, r1, f1⟩ := ja_J_init L xs
  have l1 : N1.length = 215 := f1.1.trans ja_lJ
  have f2 : jx_fq (jx_C (200, jx_vi L xs)) ja_h0 (N1 ++ [(9, [.int 0, .null, .int 0, .int 0, .int 0, .int 0, .int 0, .int 0, .null, .null, .null, .null, .null, .null, .null, .null, .null, .null, .null, .null, .int 0, .int 0, .int 0, .null, .null, .null, .null, .null, .null, .null, .null, .null, .null, .null, .null, .null, .null, .null, .null, .null, .null, .long 0, .int 0, .long 0, .long 0, .int 0, .null, .null, .null, .int 0])]) := jx_fq_one f1 _ (by rw [ja_lJ]; rfl)
  obtain ⟨N2, r2, f3⟩ := jx_M_init f2 14 571 (by decide) (by decide)
  have l2 : N2.length = 453 := f3.1.trans ja_l5
  have f4 : jx_fq (jx_C (200, jx_vi L xs)) ja_h6 (N2 ++ [(103, [.long 0])]) := jx_fq_one f3 _ (by rw [ja_l5]; rfl)
  refine ⟨_, f4, fun o k => ?_⟩
  refine jt_newo (q := 24) (n := 18) (fs := ja_J0) rfl rfl rfl rfl ?_
  refine jt_sgp 1 (pc1 := 4) (lv1 := [(0, .ref 0)]) (st1 := [.ref 24, .ref 24]) rfl ?_
  refine jt_call (k := 0) (m2 := jp_J_init) (As := [.ref 24]) (r := [.ref 24]) (mx := 2) rfl rfl rfl rfl rfl (by decide) (by decide) (Nat.le_of_ble_eq_true rfl) r1 ?_
  show jt jp_W_law 15 592 7 [(0, .ref 0)] [.ref 24] N1 191 4716 o
  refine jt_sgp 1 (pc1 := 8) (lv1 := [(1, .ref 24), (0, .ref 0)]) (st1 := []) rfl ?_
  refine jt_newo (q := 215) (n := 50) rfl ja_df9 l1 rfl ?_
  refine jt_sgp 1 (pc1 := 12) (lv1 := [(1, .ref 24), (0, .ref 0)]) (st1 := [.ref 215, .ref 215]) rfl ?_
  refine jt_call (k := 36) (m2 := jp_M_init) (As := [.ref 215]) (r := [.ref 215]) (mx := 2) rfl rfl rfl rfl rfl (by decide) (by decide) (Nat.le_of_ble_eq_true rfl) r2 ?_
  show jt jp_W_law 15 592 15 [(1, .ref 24), (0, .ref 0)] [.ref 215] N2 429 540386 o
  refine jt_sgp 2 (pc1 := 17) (lv1 := [(2, .ref 215), (1, .ref 24), (0, .ref 0)]) (st1 := [.int 1]) rfl ?_
  refine jt_newa (q := 453) (m := 1) rfl l2 (by decide) rfl ?_
  refine jt_sgp 3 (pc1 := 23) (lv1 := [(4, .int 0), (3, .ref 453), (2, .ref 215), (1, .ref 24), (0, .ref 0)]) (st1 := []) rfl ?_
  refine jt_lvs (l1 := [(0, .ref 0), (1, .ref 24), (2, .ref 215), (3, .ref 453), (4, .int 0)]) rfl rfl ⟨rfl, rfl, rfl, rfl, rfl, trivial⟩ ?_
  exact k
variable {N : jx_H} {L : Nat} {xs : Nat → Int32} {i : Int32} {dc ds : Nat} {o : jx_O}
set_option maxRecDepth 20000 in
/-- the loop's head: out -/
theorem jl_out_ (hs : N[0]? = some (200, jx_vi L xs)) (h : Int32.ofNat L - 11 < i) (k : (.inl (some (.int 1)), N, dc, ds) = o) : jt jp_W_law 15 592 23 [(0, .ref 0), (1, .ref 24), (2, .ref 215), (3, .ref 453), (4, .int i)] [] N dc ds o := by
  refine jt_sgp 2 (pc1 := 26) (lv1 := [(0, .ref 0), (1, .ref 24), (2, .ref 215), (3, .ref 453), (4, .int i)]) (st1 := [.ref 0, .int i]) rfl ?_
  refine jt_alen rfl (by decide) hs (jx_vi_len L xs) ?_
  refine jt_sgp 2 (pc1 := 30) (lv1 := [(0, .ref 0), (1, .ref 24), (2, .ref 215), (3, .ref 453), (4, .int i)]) (st1 := [.int (Int32.ofNat L - 11), .int i]) rfl ?_
  refine jt_icmp_gt (t := 1777) rfl rfl (fun _ => ?_) (fun q => absurd h q)
  refine jt_sgp 1 (pc1 := 1778) (lv1 := [(0, .ref 0), (1, .ref 24), (2, .ref 215), (3, .ref 453), (4, .int i)]) (st1 := [.int 1]) rfl ?_
  exact jt_iret rfl rfl rfl k
set_option maxRecDepth 20000 in
/-- the loop's head: in, up to the switch -/
theorem jl_in_ (hs : N[0]? = some (200, jx_vi L xs)) (h : ¬ Int32.ofNat L - 11 < i) (hv : vp_in i L) (k : jt jp_W_law 15 592 40 [(0, .ref 0), (1, .ref 24), (2, .ref 215), (3, .ref 453), (4, .int i)] [.int (xs i.toNatClampNeg &&& 31)] N dc ds o) : jt jp_W_law 15 592 23 [(0, .ref 0), (1, .ref 24), (2, .ref 215), (3, .ref 453), (4, .int i)] [] N dc ds o := by
  refine jt_sgp 2 (pc1 := 26) (lv1 := [(0, .ref 0), (1, .ref 24), (2, .ref 215), (3, .ref 453), (4, .int i)]) (st1 := [.ref 0, .int i]) rfl ?_
  refine jt_alen rfl (by decide) hs (jx_vi_len L xs) ?_
  refine jt_sgp 2 (pc1 := 30) (lv1 := [(0, .ref 0), (1, .ref 24), (2, .ref 215), (3, .ref 453), (4, .int i)]) (st1 := [.int (Int32.ofNat L - 11), .int i]) rfl ?_
  refine jt_icmp_gt (t := 1777) rfl rfl (fun q => absurd q h) (fun _ => ?_)
  refine jt_sgp 2 (pc1 := 36) (lv1 := [(0, .ref 0), (1, .ref 24), (2, .ref 215), (3, .ref 453), (4, .int i)]) (st1 := [.int i, .ref 0]) rfl ?_
  refine jt_iaK rfl hs hv ?_
  refine jt_sgp 2 (pc1 := 40) (lv1 := [(0, .ref 0), (1, .ref 24), (2, .ref 215), (3, .ref 453), (4, .int i)]) (st1 := [.int (xs i.toNatClampNeg &&& 31)]) rfl ?_
  exact k
set_option maxRecDepth 20000 in
/-- from a case's end to the head -/
theorem jl_nx_ (k : jt jp_W_law 15 592 23 [(0, .ref 0), (1, .ref 24), (2, .ref 215), (3, .ref 453), (4, .int (i + 11))] [] N dc ds o) : jt jp_W_law 15 592 1771 [(0, .ref 0), (1, .ref 24), (2, .ref 215), (3, .ref 453), (4, .int i)] [] N dc ds o := by
  refine jt_sgp 2 (pc1 := 23) (lv1 := [(4, .int (i + 11)), (0, .ref 0), (1, .ref 24), (2, .ref 215), (3, .ref 453)]) (st1 := []) rfl ?_
  refine jt_lvs (l1 := [(0, .ref 0), (1, .ref 24), (2, .ref 215), (3, .ref 453), (4, .int (i + 11))]) rfl rfl ⟨rfl, rfl, rfl, rfl, rfl, trivial⟩ ?_
  exact k
end JBG
