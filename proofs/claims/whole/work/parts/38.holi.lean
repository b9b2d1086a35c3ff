theorem jm_mid {lo hi siz : Int32} (i1 : 0 ≤ lo) (c : ¬ hi ≤ lo) (i3 : hi ≤ siz) (p3 : siz ≤ 200) : ((lo + hi) / 2).toInt = (lo.toInt + hi.toInt) / 2 ∧ ((lo + hi) / 2 + 1).toInt = (lo.toInt + hi.toInt) / 2 + 1 := by
  simp only [Int32.le_iff_toInt_le] at *
  have h0 : (0 : Int32).toInt = 0 := rfl
  have h2 : (2 : Int32).toInt = 2 := rfl
  have h200 : (200 : Int32).toInt = 200 := rfl
  have e1 : (lo + hi).toInt = lo.toInt + hi.toInt := by
    rw [Int32.toInt_add]; simp only [Int.bmod]; omega
  have e2 : ((lo + hi) / 2).toInt = (lo.toInt + hi.toInt) / 2 := by
    rw [Int32.toInt_div, e1, h2, Int.tdiv_eq_ediv_of_nonneg (by omega)]
    simp only [Int.bmod]; omega
  refine ⟨e2, ?_⟩
  rw [Int32.toInt_add, e2, show (1 : Int32).toInt = 1 from rfl]
  simp only [Int.bmod]; omega
theorem jm_midin {lo hi siz : Int32} {hn : Nat} (i1 : 0 ≤ lo) (c : ¬ hi ≤ lo) (i3 : hi ≤ siz) (p3 : siz ≤ 200) (p2 : siz.toInt ≤ hn) : vp_in ((lo + hi) / 2) hn := by
  have e := (jm_mid i1 c i3 p3).1
  rw [vp_in_iff]
  simp only [Int32.le_iff_toInt_le] at *
  have h0 : (0 : Int32).toInt = 0 := rfl
  omega
theorem jm_bs {lo hi siz : Int32} {P : Prop} [Decidable P] {k : Nat} (i1 : 0 ≤ lo) (c : ¬ hi ≤ lo) (i3 : hi ≤ siz) (p3 : siz ≤ 200) (hm : (hi.toInt - lo.toInt).toNat < k + 1) : 0 ≤ (if P then lo else (lo + hi) / 2 + 1) ∧ (if P then lo else (lo + hi) / 2 + 1) ≤ (if P then (lo + hi) / 2 else hi) ∧ (if P then (lo + hi) / 2 else hi) ≤ siz ∧ ((if P then (lo + hi) / 2 else hi).toInt - (if P then lo else (lo + hi) / 2 + 1).toInt).toNat < k := by
  obtain ⟨e1, e2⟩ := jm_mid i1 c i3 p3
  simp only [Int32.le_iff_toInt_le] at *
  have h0 : (0 : Int32).toInt = 0 := rfl
  by_cases q : P
  · simp only [if_pos q, e1]; omega
  · simp only [if_neg q, e2]; omega
theorem jm_zz {lo hi : Int32} {n : Nat} (i2 : lo ≤ hi) (h : hi.toInt < n) (h0 : 0 ≤ lo) : (hi.toInt - lo.toInt).toNat < n := by
  simp only [Int32.le_iff_toInt_le] at *
  have h0 : (0 : Int32).toInt = 0 := rfl
  omega
theorem jm_lt200 {x : Int32} (h : x ≤ 200) : x.toInt < (201 : Nat) := by
  simp only [Int32.le_iff_toInt_le] at *
  have h200 : (200 : Int32).toInt = 200 := rfl
  omega
theorem jm_inN {i n : Int32} {N : Nat} (h0 : 0 ≤ i) (h1 : ¬ n ≤ i) (h2 : n.toInt ≤ N) : vp_in i N := by
  rw [vp_in_iff]
  simp only [Int32.le_iff_toInt_le] at *
  have h3 : (0 : Int32).toInt = 0 := rfl
  omega
def G_H_placeOf_7 (da : Int32) (siz : Int32) (hf : Nat → Int32) : Nat → (Int32) → (Int32) → Int32
  | 0, _, _ => 0
  | n + 1, lo, hi =>
    let v69 : Int32 := if siz ≤ lo then ((-1) - lo) else (if (hf (lo : Int32).toNatClampNeg) = da then lo else ((-1) - lo))
    let v41 : Int32 := if da ≤ (hf ((lo + hi) / 2 : Int32).toNatClampNeg) then lo else (((lo + hi) / 2) + 1)
    let v41_1 : Int32 := if da ≤ (hf ((lo + hi) / 2 : Int32).toNatClampNeg) then ((lo + hi) / 2) else hi
    if hi ≤ lo then v69 else (G_H_placeOf_7 da siz hf n v41 v41_1)
termination_by n _ _ => n
def g_H_placeOf (da : Int32) (siz : Int32) (hf : Nat → Int32) : Int32 :=
  G_H_placeOf_7 da siz hf 201 0 siz
set_option maxRecDepth 20000 in
set_option maxHeartbeats 4000000 in
theorem q_H_placeOf (a : Nat) (da : Int32) (hq : Nat) (siz : Int32) (hn : Nat) (hf : Nat → Int32) (M : jx_H) (h_a : M[a]? = some (5, [.ref hq, .int siz])) (h_hq : M[hq]? = some (102, jx_vi hn hf)) (hnd : ([a, hq] : List Nat).Nodup) (p1 : 0 ≤ siz) (p2 : siz.toInt ≤ hn) (p3 : siz ≤ 200) (rF rL : Nat) (hfr : 0 ≤ rF) (hlo : 0 ≤ rL) : jt jp_H_placeOf rF rL 0 [(0, .ref a), (1, .int da)] [] M 0 0 (.inl (some (.int (g_H_placeOf da siz hf))), M, 0, 0) := by
  have hL : ∀ zz ∈ ([(a, (5, [.ref hq, .int siz])), (hq, (102, jx_vi hn hf))] : List (Nat × (Nat × List Value))), M[zz.1]? = some zz.2 := List.forall_mem_cons.mpr ⟨h_a, List.forall_mem_cons.mpr ⟨h_hq, fun _ hz => absurd hz List.not_mem_nil⟩⟩
  have hlt : ∀ zz ∈ ([a, hq] : List Nat), zz < M.length := jx_lts hL
  refine jt_hq (jx_us_id hL).symm ?_
  show jt jp_H_placeOf rF rL 0 [(0, .ref a), (1, .int da)] [] (jx_us M [(a, (5, [.ref hq, .int siz])), (hq, (102, jx_vi hn hf))]) 0 0 (.inl (some (.int (g_H_placeOf da siz hf))), M, 0, 0)
  refine jt_sgp 3 (pc1 := 3) (lv1 := [(2, .int 0), (0, .ref a), (1, .int da)]) (st1 := [.ref a]) rfl ?_
  refine jt_get rfl (jx_us_get (by exact hnd) (by exact hlt) 0 rfl) rfl ?_
  refine jt_sgp 1 (pc1 := 7) (lv1 := [(3, .int siz), (2, .int 0), (0, .ref a), (1, .int da)]) (st1 := []) rfl ?_
  refine jt_lvs (l1 := [(0, .ref a), (1, .int da), (2, .int 0), (3, .int siz)]) rfl rfl ⟨rfl, rfl, rfl, rfl, trivial⟩ ?_
  obtain ⟨ro, hro⟩ : ∃ ro, ro = G_H_placeOf_7 da siz hf 201 0 siz := ⟨_, rfl⟩
  have LP7 : ∀ (n : Nat) (lo : Int32) (hi : Int32), (0 ≤ lo) → (lo ≤ hi) → (hi ≤ siz) → (hi.toInt - lo.toInt).toNat < n → G_H_placeOf_7 da siz hf n lo hi = ro → jt jp_H_placeOf rF rL 7 [(0, .ref a), (1, .int da), (2, .int lo), (3, .int hi)] [] (jx_us M [(a, (5, [.ref hq, .int siz])), (hq, (102, jx_vi hn hf))]) 0 0 (.inl (some (.int (g_H_placeOf da siz hf))), M, 0, 0) := by
    intro n
    induction n with
    | zero => intro lo hi i1 i2 i3 hm _; exact absurd hm (Nat.not_lt_zero _)
    | succ n ih =>
      intro lo hi i1 i2 i3 hm hF
      simp only [G_H_placeOf_7] at hF
      refine jt_sgp 2 (pc1 := 9) (lv1 := [(0, .ref a), (1, .int da), (2, .int lo), (3, .int hi)]) (st1 := [.int hi, .int lo]) rfl ?_
      refine jt_icmp_ge (t := 44) rfl rfl (fun c1 => ?_) (fun c1 => ?_)
      · refine jt_sgp 2 (pc1 := 46) (lv1 := [(0, .ref a), (1, .int da), (2, .int lo), (3, .int hi)]) (st1 := [.ref a, .int lo]) rfl ?_
        refine jt_get rfl (jx_us_get (by exact hnd) (by exact hlt) 0 rfl) rfl ?_
        have J69_3 : ∀ (v69 : Int32), v69 = (if siz ≤ lo then ((-1) - lo) else (if (hf (lo : Int32).toNatClampNeg) = da then lo else ((-1) - lo)) : Int32) → jt jp_H_placeOf rF rL 69 [(0, .ref a), (1, .int da), (2, .int lo), (3, .int hi)] [.int v69] (jx_us M [(a, (5, [.ref hq, .int siz])), (hq, (102, jx_vi hn hf))]) 0 0 (.inl (some (.int (g_H_placeOf da siz hf))), M, 0, 0) := by
          intro v69 ev69
          exact jt_iret rfl rfl rfl (jx_oe (by show (some (Value.int _) : Option Value) = some (Value.int _); subst ev69; simp only [if_pos c1, reduceIte] at hF; unfold g_H_placeOf; (try dsimp only); rw [← hro, ← hF]) (jx_us_id hL))
        refine jt_icmp_ge (t := 66) rfl rfl (fun c2 => ?_) (fun c2 => ?_)
        · refine jt_sgp 3 (pc1 := 69) (lv1 := [(0, .ref a), (1, .int da), (2, .int lo), (3, .int hi)]) (st1 := [.int ((-1) - lo)]) rfl ?_
          exact J69_3 _ (by first | (simp only [if_pos c2, reduceIte]; done) | (with_reducible rfl))
        · refine jt_sgp 1 (pc1 := 53) (lv1 := [(0, .ref a), (1, .int da), (2, .int lo), (3, .int hi)]) (st1 := [.ref a]) rfl ?_
          refine jt_get rfl (jx_us_get (by exact hnd) (by exact hlt) 0 rfl) rfl ?_
          refine jt_sgp 1 (pc1 := 57) (lv1 := [(0, .ref a), (1, .int da), (2, .int lo), (3, .int hi)]) (st1 := [.int lo, .ref hq]) rfl ?_
          refine jt_iald rfl (jx_us_get (by exact hnd) (by exact hlt) 1 rfl) (by first | exact jm_inN i1 c2 p2 | exact jm_inN i1 c3 p2) ?_
          refine jt_sgp 1 (pc1 := 59) (lv1 := [(0, .ref a), (1, .int da), (2, .int lo), (3, .int hi)]) (st1 := [.int da, .int (hf (lo : Int32).toNatClampNeg)]) rfl ?_
          refine jt_icmp_ne (t := 66) rfl rfl (fun c4 => ?_) (fun c4 => ?_)
          · refine jt_sgp 3 (pc1 := 69) (lv1 := [(0, .ref a), (1, .int da), (2, .int lo), (3, .int hi)]) (st1 := [.int ((-1) - lo)]) rfl ?_
            exact J69_3 _ (by first | (simp only [if_neg c2, if_neg c4, reduceIte]; done) | (with_reducible rfl))
          · refine jt_sgp 2 (pc1 := 69) (lv1 := [(0, .ref a), (1, .int da), (2, .int lo), (3, .int hi)]) (st1 := [.int lo]) rfl ?_
            exact J69_3 _ (by first | (simp only [if_neg c2, if_pos c4, reduceIte]; done) | (with_reducible rfl))
      · refine jt_sgp 4 (pc1 := 16) (lv1 := [(0, .ref a), (1, .int da), (2, .int lo), (3, .int hi)]) (st1 := [.int 2, .int (lo + hi)]) rfl ?_
        refine jt_idiv rfl (by decide +kernel) ?_
        refine jt_sgp 2 (pc1 := 20) (lv1 := [(4, .int ((lo + hi) / 2)), (0, .ref a), (1, .int da), (2, .int lo), (3, .int hi)]) (st1 := [.ref a]) rfl ?_
        refine jt_get rfl (jx_us_get (by exact hnd) (by exact hlt) 0 rfl) rfl ?_
        refine jt_sgp 1 (pc1 := 25) (lv1 := [(4, .int ((lo + hi) / 2)), (0, .ref a), (1, .int da), (2, .int lo), (3, .int hi)]) (st1 := [.int ((lo + hi) / 2), .ref hq]) rfl ?_
        refine jt_iald rfl (jx_us_get (by exact hnd) (by exact hlt) 1 rfl) (jm_midin i1 c1 i3 p3 p2) ?_
        refine jt_sgp 1 (pc1 := 27) (lv1 := [(4, .int ((lo + hi) / 2)), (0, .ref a), (1, .int da), (2, .int lo), (3, .int hi)]) (st1 := [.int da, .int (hf ((lo + hi) / 2 : Int32).toNatClampNeg)]) rfl ?_
        have J41_6 : ∀ (v41 : Int32) (v41_1 : Int32), v41 = (if da ≤ (hf ((lo + hi) / 2 : Int32).toNatClampNeg) then lo else (((lo + hi) / 2) + 1) : Int32) → v41_1 = (if da ≤ (hf ((lo + hi) / 2 : Int32).toNatClampNeg) then ((lo + hi) / 2) else hi : Int32) → jt jp_H_placeOf rF rL 41 [(0, .ref a), (1, .int da), (2, .int v41), (3, .int v41_1), (4, .int ((lo + hi) / 2))] [] (jx_us M [(a, (5, [.ref hq, .int siz])), (hq, (102, jx_vi hn hf))]) 0 0 (.inl (some (.int (g_H_placeOf da siz hf))), M, 0, 0) := by
          intro v41 v41_1 ev41 ev41_1
          refine jt_sgp 1 (pc1 := 7) (lv1 := [(0, .ref a), (1, .int da), (2, .int v41), (3, .int v41_1), (4, .int ((lo + hi) / 2))]) (st1 := []) rfl ?_
          refine jt_lvs (l1 := [(0, .ref a), (1, .int da), (2, .int v41), (3, .int v41_1)]) rfl rfl ⟨rfl, rfl, rfl, rfl, trivial⟩ ?_
          exact ih v41 v41_1 (by subst ev41; exact (jm_bs (P := da ≤ hf (((lo + hi) / 2 : Int32).toNatClampNeg)) i1 c1 i3 p3 hm).1) (by subst ev41; subst ev41_1; exact (jm_bs (P := da ≤ hf (((lo + hi) / 2 : Int32).toNatClampNeg)) i1 c1 i3 p3 hm).2.1) (by subst ev41_1; exact (jm_bs (P := da ≤ hf (((lo + hi) / 2 : Int32).toNatClampNeg)) i1 c1 i3 p3 hm).2.2.1) (by subst ev41; subst ev41_1; exact (jm_bs (P := da ≤ hf (((lo + hi) / 2 : Int32).toNatClampNeg)) i1 c1 i3 p3 hm).2.2.2) (by subst ev41_1; subst ev41; simp only [if_neg c1, reduceIte] at hF; exact hF)
        refine jt_icmp_ge (t := 38) rfl rfl (fun c5 => ?_) (fun c5 => ?_)
        · refine jt_sgp 2 (pc1 := 41) (lv1 := [(3, .int ((lo + hi) / 2)), (4, .int ((lo + hi) / 2)), (0, .ref a), (1, .int da), (2, .int lo)]) (st1 := []) rfl ?_
          refine jt_lvs (l1 := [(0, .ref a), (1, .int da), (2, .int lo), (3, .int ((lo + hi) / 2)), (4, .int ((lo + hi) / 2))]) rfl rfl ⟨rfl, rfl, rfl, rfl, rfl, trivial⟩ ?_
          exact J41_6 _ _ (by first | (simp only [if_pos c5, reduceIte]; done) | (with_reducible rfl)) (by first | (simp only [if_pos c5, reduceIte]; done) | (with_reducible rfl))
        · refine jt_sgp 5 (pc1 := 41) (lv1 := [(2, .int (((lo + hi) / 2) + 1)), (4, .int ((lo + hi) / 2)), (0, .ref a), (1, .int da), (3, .int hi)]) (st1 := []) rfl ?_
          refine jt_lvs (l1 := [(0, .ref a), (1, .int da), (2, .int (((lo + hi) / 2) + 1)), (3, .int hi), (4, .int ((lo + hi) / 2))]) rfl rfl ⟨rfl, rfl, rfl, rfl, rfl, trivial⟩ ?_
          exact J41_6 _ _ (by first | (simp only [if_neg c5, reduceIte]; done) | (with_reducible rfl)) (by first | (simp only [if_neg c5, reduceIte]; done) | (with_reducible rfl))
  exact LP7 201 0 siz (by decide) p1 (Int32.le_refl siz) (jm_zz p1 (jm_lt200 p3) (by decide)) hro.symm
