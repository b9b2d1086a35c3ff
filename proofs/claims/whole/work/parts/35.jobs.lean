def g_B_isAheadOf (sta : Int32) (kin : Int32) (ord : Int32) (sts : Int32) (nom : Int64) (end_ : Int64) (per : Int64) (dur : Int64) (pri : Int32) (pol : Int32) (fai : Int32) (cro : Int32) (zon : Int32) (cal : Int32) (osta : Int32) (okin : Int32) (oord : Int32) (osts : Int32) (onom : Int64) (oend_ : Int64) (oper : Int64) (odur : Int64) (opri : Int32) (opol : Int32) (ofai : Int32) (ocro : Int32) (ozon : Int32) (ocal : Int32) : Int32 :=
  let v74 : Int32 := if oord ≤ ord then 0 else 1
  let v57 : Int32 := if pri ≤ opri then 0 else 1
  let v29 : Int32 := if onom ≤ nom then 0 else 1
  if nom = onom then (if pri = opri then v74 else v57) else v29
set_option maxRecDepth 20000 in
set_option maxHeartbeats 4000000 in
theorem q_B_isAheadOf (a : Nat) (b : Nat) (sta : Int32) (kin : Int32) (ord : Int32) (sts : Int32) (nom : Int64) (end_ : Int64) (per : Int64) (dur : Int64) (pri : Int32) (pol : Int32) (fai : Int32) (cro : Int32) (zon : Int32) (cal : Int32) (osta : Int32) (okin : Int32) (oord : Int32) (osts : Int32) (onom : Int64) (oend_ : Int64) (oper : Int64) (odur : Int64) (opri : Int32) (opol : Int32) (ofai : Int32) (ocro : Int32) (ozon : Int32) (ocal : Int32) (M : jx_H) (h_a : M[a]? = some (7, [.int sta, .int kin, .int ord, .int sts, .long nom, .long end_, .long per, .long dur, .int pri, .int pol, .int fai, .int cro, .int zon, .int cal])) (h_b : M[b]? = some (7, [.int osta, .int okin, .int oord, .int osts, .long onom, .long oend_, .long oper, .long odur, .int opri, .int opol, .int ofai, .int ocro, .int ozon, .int ocal])) (hnd : ([a, b] : List Nat).Nodup)  (rF rL : Nat) (hfr : 0 ≤ rF) (hlo : 0 ≤ rL) : jt jp_B_isAheadOf rF rL 0 [(0, .ref a), (1, .ref b)] [] M 0 0 (.inl (some (.int (g_B_isAheadOf sta kin ord sts nom end_ per dur pri pol fai cro zon cal osta okin oord osts onom oend_ oper odur opri opol ofai ocro ozon ocal))), M, 0, 0) := by
  have hL : ∀ zz ∈ ([(a, (7, [.int sta, .int kin, .int ord, .int sts, .long nom, .long end_, .long per, .long dur, .int pri, .int pol, .int fai, .int cro, .int zon, .int cal])), (b, (7, [.int osta, .int okin, .int oord, .int osts, .long onom, .long oend_, .long oper, .long odur, .int opri, .int opol, .int ofai, .int ocro, .int ozon, .int ocal]))] : List (Nat × (Nat × List Value))), M[zz.1]? = some zz.2 := List.forall_mem_cons.mpr ⟨h_a, List.forall_mem_cons.mpr ⟨h_b, fun _ hz => absurd hz List.not_mem_nil⟩⟩
  have hlt : ∀ zz ∈ ([a, b] : List Nat), zz < M.length := jx_lts hL
  refine jt_hq (jx_us_id hL).symm ?_
  show jt jp_B_isAheadOf rF rL 0 [(0, .ref a), (1, .ref b)] [] (jx_us M [(a, (7, [.int sta, .int kin, .int ord, .int sts, .long nom, .long end_, .long per, .long dur, .int pri, .int pol, .int fai, .int cro, .int zon, .int cal])), (b, (7, [.int osta, .int okin, .int oord, .int osts, .long onom, .long oend_, .long oper, .long odur, .int opri, .int opol, .int ofai, .int ocro, .int ozon, .int ocal]))]) 0 0 (.inl (some (.int (g_B_isAheadOf sta kin ord sts nom end_ per dur pri pol fai cro zon cal osta okin oord osts onom oend_ oper odur opri opol ofai ocro ozon ocal))), M, 0, 0)
  refine jt_sgp 1 (pc1 := 1) (lv1 := [(0, .ref a), (1, .ref b)]) (st1 := [.ref a]) rfl ?_
  refine jt_get rfl (jx_us_get (by exact hnd) (by exact hlt) 0 rfl) rfl ?_
  refine jt_sgp 1 (pc1 := 5) (lv1 := [(0, .ref a), (1, .ref b)]) (st1 := [.ref b, .long nom]) rfl ?_
  refine jt_get rfl (jx_us_get (by exact hnd) (by exact hlt) 1 rfl) rfl ?_
  refine jt_sgp 1 (pc1 := 9) (lv1 := [(0, .ref a), (1, .ref b)]) (st1 := [.int (lg_cmp nom onom)]) rfl ?_
  refine jt_lif_eq (t := 30) rfl rfl (fun c1 => ?_) (fun c1 => ?_)
  · refine jt_sgp 1 (pc1 := 31) (lv1 := [(0, .ref a), (1, .ref b)]) (st1 := [.ref a]) rfl ?_
    refine jt_get rfl (jx_us_get (by exact hnd) (by exact hlt) 0 rfl) rfl ?_
    refine jt_sgp 1 (pc1 := 35) (lv1 := [(0, .ref a), (1, .ref b)]) (st1 := [.ref b, .int pri]) rfl ?_
    refine jt_get rfl (jx_us_get (by exact hnd) (by exact hlt) 1 rfl) rfl ?_
    refine jt_icmp_eq (t := 58) rfl rfl (fun c2 => ?_) (fun c2 => ?_)
    · refine jt_sgp 1 (pc1 := 59) (lv1 := [(0, .ref a), (1, .ref b)]) (st1 := [.ref a]) rfl ?_
      refine jt_get rfl (jx_us_get (by exact hnd) (by exact hlt) 0 rfl) rfl ?_
      refine jt_sgp 1 (pc1 := 63) (lv1 := [(0, .ref a), (1, .ref b)]) (st1 := [.ref b, .int ord]) rfl ?_
      refine jt_get rfl (jx_us_get (by exact hnd) (by exact hlt) 1 rfl) rfl ?_
      have J74_4 : ∀ (v74 : Int32), v74 = (if oord ≤ ord then 0 else 1 : Int32) → jt jp_B_isAheadOf rF rL 74 [(0, .ref a), (1, .ref b)] [.int v74] (jx_us M [(a, (7, [.int sta, .int kin, .int ord, .int sts, .long nom, .long end_, .long per, .long dur, .int pri, .int pol, .int fai, .int cro, .int zon, .int cal])), (b, (7, [.int osta, .int okin, .int oord, .int osts, .long onom, .long oend_, .long oper, .long odur, .int opri, .int opol, .int ofai, .int ocro, .int ozon, .int ocal]))]) 0 0 (.inl (some (.int (g_B_isAheadOf sta kin ord sts nom end_ per dur pri pol fai cro zon cal osta okin oord osts onom oend_ oper odur opri opol ofai ocro ozon ocal))), M, 0, 0) := by
        intro v74 ev74
        exact jt_iret rfl rfl (by first | rfl | (subst ev74; (repeat' split) <;> rfl)) (jx_oe (by show (some (Value.int _) : Option Value) = some (Value.int _); unfold g_B_isAheadOf; subst ev74; first | (simp only [if_pos c1, if_pos c2, reduceIte]; done) | (simp only [if_pos c1, if_pos c2, reduceIte]; rfl) | rfl) (jx_us_id hL))
      refine jt_icmp_ge (t := 73) rfl rfl (fun c3 => ?_) (fun c3 => ?_)
      · refine jt_sgp 1 (pc1 := 74) (lv1 := [(0, .ref a), (1, .ref b)]) (st1 := [.int 0]) rfl ?_
        exact J74_4 _ (by first | (simp only [if_pos c3, reduceIte]; done) | (with_reducible rfl))
      · refine jt_sgp 2 (pc1 := 74) (lv1 := [(0, .ref a), (1, .ref b)]) (st1 := [.int 1]) rfl ?_
        exact J74_4 _ (by first | (simp only [if_neg c3, reduceIte]; done) | (with_reducible rfl))
    · refine jt_sgp 1 (pc1 := 42) (lv1 := [(0, .ref a), (1, .ref b)]) (st1 := [.ref a]) rfl ?_
      refine jt_get rfl (jx_us_get (by exact hnd) (by exact hlt) 0 rfl) rfl ?_
      refine jt_sgp 1 (pc1 := 46) (lv1 := [(0, .ref a), (1, .ref b)]) (st1 := [.ref b, .int pri]) rfl ?_
      refine jt_get rfl (jx_us_get (by exact hnd) (by exact hlt) 1 rfl) rfl ?_
      have J57_6 : ∀ (v57 : Int32), v57 = (if pri ≤ opri then 0 else 1 : Int32) → jt jp_B_isAheadOf rF rL 57 [(0, .ref a), (1, .ref b)] [.int v57] (jx_us M [(a, (7, [.int sta, .int kin, .int ord, .int sts, .long nom, .long end_, .long per, .long dur, .int pri, .int pol, .int fai, .int cro, .int zon, .int cal])), (b, (7, [.int osta, .int okin, .int oord, .int osts, .long onom, .long oend_, .long oper, .long odur, .int opri, .int opol, .int ofai, .int ocro, .int ozon, .int ocal]))]) 0 0 (.inl (some (.int (g_B_isAheadOf sta kin ord sts nom end_ per dur pri pol fai cro zon cal osta okin oord osts onom oend_ oper odur opri opol ofai ocro ozon ocal))), M, 0, 0) := by
        intro v57 ev57
        exact jt_iret rfl rfl (by first | rfl | (subst ev57; (repeat' split) <;> rfl)) (jx_oe (by show (some (Value.int _) : Option Value) = some (Value.int _); unfold g_B_isAheadOf; subst ev57; first | (simp only [if_pos c1, if_neg c2, reduceIte]; done) | (simp only [if_pos c1, if_neg c2, reduceIte]; rfl) | rfl) (jx_us_id hL))
      refine jt_icmp_le (t := 56) rfl rfl (fun c5 => ?_) (fun c5 => ?_)
      · refine jt_sgp 1 (pc1 := 57) (lv1 := [(0, .ref a), (1, .ref b)]) (st1 := [.int 0]) rfl ?_
        exact J57_6 _ (by first | (simp only [if_pos c5, reduceIte]; done) | (with_reducible rfl))
      · refine jt_sgp 2 (pc1 := 57) (lv1 := [(0, .ref a), (1, .ref b)]) (st1 := [.int 1]) rfl ?_
        exact J57_6 _ (by first | (simp only [if_neg c5, reduceIte]; done) | (with_reducible rfl))
  · refine jt_sgp 1 (pc1 := 13) (lv1 := [(0, .ref a), (1, .ref b)]) (st1 := [.ref a]) rfl ?_
    refine jt_get rfl (jx_us_get (by exact hnd) (by exact hlt) 0 rfl) rfl ?_
    refine jt_sgp 1 (pc1 := 17) (lv1 := [(0, .ref a), (1, .ref b)]) (st1 := [.ref b, .long nom]) rfl ?_
    refine jt_get rfl (jx_us_get (by exact hnd) (by exact hlt) 1 rfl) rfl ?_
    refine jt_sgp 1 (pc1 := 21) (lv1 := [(0, .ref a), (1, .ref b)]) (st1 := [.int (lg_cmp nom onom)]) rfl ?_
    have J29_8 : ∀ (v29 : Int32), v29 = (if onom ≤ nom then 0 else 1 : Int32) → jt jp_B_isAheadOf rF rL 29 [(0, .ref a), (1, .ref b)] [.int v29] (jx_us M [(a, (7, [.int sta, .int kin, .int ord, .int sts, .long nom, .long end_, .long per, .long dur, .int pri, .int pol, .int fai, .int cro, .int zon, .int cal])), (b, (7, [.int osta, .int okin, .int oord, .int osts, .long onom, .long oend_, .long oper, .long odur, .int opri, .int opol, .int ofai, .int ocro, .int ozon, .int ocal]))]) 0 0 (.inl (some (.int (g_B_isAheadOf sta kin ord sts nom end_ per dur pri pol fai cro zon cal osta okin oord osts onom oend_ oper odur opri opol ofai ocro ozon ocal))), M, 0, 0) := by
      intro v29 ev29
      exact jt_iret rfl rfl (by first | rfl | (subst ev29; (repeat' split) <;> rfl)) (jx_oe (by show (some (Value.int _) : Option Value) = some (Value.int _); unfold g_B_isAheadOf; subst ev29; first | (simp only [if_neg c1, reduceIte]; done) | (simp only [if_neg c1, reduceIte]; rfl) | rfl) (jx_us_id hL))
    refine jt_lif_ge (t := 28) rfl rfl (fun c7 => ?_) (fun c7 => ?_)
    · refine jt_sgp 1 (pc1 := 29) (lv1 := [(0, .ref a), (1, .ref b)]) (st1 := [.int 0]) rfl ?_
      exact J29_8 _ (by first | (simp only [if_pos c7, reduceIte]; done) | (with_reducible rfl))
    · refine jt_sgp 2 (pc1 := 29) (lv1 := [(0, .ref a), (1, .ref b)]) (st1 := [.int 1]) rfl ?_
      exact J29_8 _ (by first | (simp only [if_neg c7, reduceIte]; done) | (with_reducible rfl))
def g_B_isOver (sta : Int32) (kin : Int32) (ord : Int32) (sts : Int32) (nom : Int64) (end_ : Int64) (per : Int64) (dur : Int64) (pri : Int32) (pol : Int32) (fai : Int32) (cro : Int32) (zon : Int32) (cal : Int32) : Int32 :=
  let v31 : Int32 := if sta = 3 then 1 else (if kin = 0 then 1 else (if sts = fai then 1 else 0))
  v31
set_option maxRecDepth 20000 in
set_option maxHeartbeats 4000000 in
theorem q_B_isOver (a : Nat) (sta : Int32) (kin : Int32) (ord : Int32) (sts : Int32) (nom : Int64) (end_ : Int64) (per : Int64) (dur : Int64) (pri : Int32) (pol : Int32) (fai : Int32) (cro : Int32) (zon : Int32) (cal : Int32) (M : jx_H) (h_a : M[a]? = some (7, [.int sta, .int kin, .int ord, .int sts, .long nom, .long end_, .long per, .long dur, .int pri, .int pol, .int fai, .int cro, .int zon, .int cal])) (hnd : ([a] : List Nat).Nodup)  (rF rL : Nat) (hfr : 0 ≤ rF) (hlo : 0 ≤ rL) : jt jp_B_isOver rF rL 0 [(0, .ref a)] [] M 0 0 (.inl (some (.int (g_B_isOver sta kin ord sts nom end_ per dur pri pol fai cro zon cal))), M, 0, 0) := by
  have hL : ∀ zz ∈ ([(a, (7, [.int sta, .int kin, .int ord, .int sts, .long nom, .long end_, .long per, .long dur, .int pri, .int pol, .int fai, .int cro, .int zon, .int cal]))] : List (Nat × (Nat × List Value))), M[zz.1]? = some zz.2 := List.forall_mem_cons.mpr ⟨h_a, fun _ hz => absurd hz List.not_mem_nil⟩
  have hlt : ∀ zz ∈ ([a] : List Nat), zz < M.length := jx_lts hL
  refine jt_hq (jx_us_id hL).symm ?_
  show jt jp_B_isOver rF rL 0 [(0, .ref a)] [] (jx_us M [(a, (7, [.int sta, .int kin, .int ord, .int sts, .long nom, .long end_, .long per, .long dur, .int pri, .int pol, .int fai, .int cro, .int zon, .int cal]))]) 0 0 (.inl (some (.int (g_B_isOver sta kin ord sts nom end_ per dur pri pol fai cro zon cal))), M, 0, 0)
  refine jt_sgp 1 (pc1 := 1) (lv1 := [(0, .ref a)]) (st1 := [.ref a]) rfl ?_
  refine jt_get rfl (jx_us_get (by exact hnd) (by exact hlt) 0 rfl) rfl ?_
  refine jt_sgp 1 (pc1 := 5) (lv1 := [(0, .ref a)]) (st1 := [.int 3, .int sta]) rfl ?_
  have J31_2 : ∀ (v31 : Int32), v31 = (if sta = 3 then 1 else (if kin = 0 then 1 else (if sts = fai then 1 else 0)) : Int32) → jt jp_B_isOver rF rL 31 [(0, .ref a)] [.int v31] (jx_us M [(a, (7, [.int sta, .int kin, .int ord, .int sts, .long nom, .long end_, .long per, .long dur, .int pri, .int pol, .int fai, .int cro, .int zon, .int cal]))]) 0 0 (.inl (some (.int (g_B_isOver sta kin ord sts nom end_ per dur pri pol fai cro zon cal))), M, 0, 0) := by
    intro v31 ev31
    exact jt_iret rfl rfl (by first | rfl | (subst ev31; (repeat' split) <;> rfl)) (jx_oe (by show (some (Value.int _) : Option Value) = some (Value.int _); unfold g_B_isOver; subst ev31; rfl) (jx_us_id hL))
  refine jt_icmp_eq (t := 26) rfl rfl (fun c1 => ?_) (fun c1 => ?_)
  · refine jt_sgp 2 (pc1 := 31) (lv1 := [(0, .ref a)]) (st1 := [.int 1]) rfl ?_
    exact J31_2 _ (by first | (simp only [if_pos c1, reduceIte]; done) | (with_reducible rfl))
  · refine jt_sgp 1 (pc1 := 9) (lv1 := [(0, .ref a)]) (st1 := [.ref a]) rfl ?_
    refine jt_get rfl (jx_us_get (by exact hnd) (by exact hlt) 0 rfl) rfl ?_
    refine jt_if_eq (t := 26) rfl rfl (fun c3 => ?_) (fun c3 => ?_)
    · refine jt_sgp 2 (pc1 := 31) (lv1 := [(0, .ref a)]) (st1 := [.int 1]) rfl ?_
      exact J31_2 _ (by first | (simp only [if_neg c1, if_pos c3, reduceIte]; done) | (with_reducible rfl))
    · refine jt_sgp 1 (pc1 := 16) (lv1 := [(0, .ref a)]) (st1 := [.ref a]) rfl ?_
      refine jt_get rfl (jx_us_get (by exact hnd) (by exact hlt) 0 rfl) rfl ?_
      refine jt_sgp 1 (pc1 := 20) (lv1 := [(0, .ref a)]) (st1 := [.ref a, .int sts]) rfl ?_
      refine jt_get rfl (jx_us_get (by exact hnd) (by exact hlt) 0 rfl) rfl ?_
      refine jt_icmp_ne (t := 30) rfl rfl (fun c4 => ?_) (fun c4 => ?_)
      · refine jt_sgp 1 (pc1 := 31) (lv1 := [(0, .ref a)]) (st1 := [.int 0]) rfl ?_
        exact J31_2 _ (by first | (simp only [if_neg c1, if_neg c3, if_neg c4, reduceIte]; done) | (with_reducible rfl))
      · refine jt_sgp 2 (pc1 := 31) (lv1 := [(0, .ref a)]) (st1 := [.int 1]) rfl ?_
        exact J31_2 _ (by first | (simp only [if_neg c1, if_neg c3, if_pos c4, reduceIte]; done) | (with_reducible rfl))
def g_B_rateTimeBehind (ti : Int64) (sta : Int32) (kin : Int32) (ord : Int32) (sts : Int32) (nom : Int64) (end_ : Int64) (per : Int64) (dur : Int64) (pri : Int32) (pol : Int32) (fai : Int32) (cro : Int32) (zon : Int32) (cal : Int32) : Int64 :=
  if ((1 : Int64)) ≤ per then (if pol = 2 then (nom + ((((ti - nom) / per) + 1) * per)) else (if pol = 1 then (if ((ti - nom) / per) ≤ 1 then (nom + per) else (nom + (((ti - nom) / per) * per))) else (nom + per))) else (-1)
set_option maxRecDepth 20000 in
set_option maxHeartbeats 4000000 in
theorem q_B_rateTimeBehind (a : Nat) (ti : Int64) (sta : Int32) (kin : Int32) (ord : Int32) (sts : Int32) (nom : Int64) (end_ : Int64) (per : Int64) (dur : Int64) (pri : Int32) (pol : Int32) (fai : Int32) (cro : Int32) (zon : Int32) (cal : Int32) (M : jx_H) (h_a : M[a]? = some (7, [.int sta, .int kin, .int ord, .int sts, .long nom, .long end_, .long per, .long dur, .int pri, .int pol, .int fai, .int cro, .int zon, .int cal])) (hnd : ([a] : List Nat).Nodup)  (rF rL : Nat) (hfr : 0 ≤ rF) (hlo : 0 ≤ rL) : jt jp_B_rateTimeBehind rF rL 0 [(0, .ref a), (1, .long ti)] [] M 0 0 (.inl (some (.long (g_B_rateTimeBehind ti sta kin ord sts nom end_ per dur pri pol fai cro zon cal))), M, 0, 0) := by
  have hL : ∀ zz ∈ ([(a, (7, [.int sta, .int kin, .int ord, .int sts, .long nom, .long end_, .long per, .long dur, .int pri, .int pol, .int fai, .int cro, .int zon, .int cal]))] : List (Nat × (Nat × List Value))), M[zz.1]? = some zz.2 := List.forall_mem_cons.mpr ⟨h_a, fun _ hz => absurd hz List.not_mem_nil⟩
  have hlt : ∀ zz ∈ ([a] : List Nat), zz < M.length := jx_lts hL
  refine jt_hq (jx_us_id hL).symm ?_
  show jt jp_B_rateTimeBehind rF rL 0 [(0, .ref a), (1, .long ti)] [] (jx_us M [(a, (7, [.int sta, .int kin, .int ord, .int sts, .long nom, .long end_, .long per, .long dur, .int pri, .int pol, .int fai, .int cro, .int zon, .int cal]))]) 0 0 (.inl (some (.long (g_B_rateTimeBehind ti sta kin ord sts nom end_ per dur pri pol fai cro zon cal))), M, 0, 0)
  refine jt_sgp 1 (pc1 := 1) (lv1 := [(0, .ref a), (1, .long ti)]) (st1 := [.ref a]) rfl ?_
  refine jt_get rfl (jx_us_get (by exact hnd) (by exact hlt) 0 rfl) rfl ?_
  refine jt_sgp 2 (pc1 := 6) (lv1 := [(0, .ref a), (1, .long ti)]) (st1 := [.int (lg_cmp per 1)]) rfl ?_
  refine jt_lif_ge (t := 13) rfl rfl (fun c1 => ?_) (fun c1 => ?_)
  · refine jt_sgp 2 (pc1 := 15) (lv1 := [(0, .ref a), (1, .long ti)]) (st1 := [.ref a, .long ti]) rfl ?_
    refine jt_get rfl (jx_us_get (by exact hnd) (by exact hlt) 0 rfl) rfl ?_
    refine jt_sgp 2 (pc1 := 20) (lv1 := [(0, .ref a), (1, .long ti)]) (st1 := [.ref a, .long (ti - nom)]) rfl ?_
    refine jt_get rfl (jx_us_get (by exact hnd) (by exact hlt) 0 rfl) rfl ?_
    refine jt_ldiv rfl (by intro q; rw [q] at c1; revert c1; decide) ?_
    refine jt_sgp 2 (pc1 := 26) (lv1 := [(3, .long ((ti - nom) / per)), (0, .ref a), (1, .long ti)]) (st1 := [.ref a]) rfl ?_
    refine jt_get rfl (jx_us_get (by exact hnd) (by exact hlt) 0 rfl) rfl ?_
    refine jt_sgp 1 (pc1 := 30) (lv1 := [(3, .long ((ti - nom) / per)), (0, .ref a), (1, .long ti)]) (st1 := [.int 2, .int pol]) rfl ?_
    refine jt_icmp_ne (t := 47) rfl rfl (fun c2 => ?_) (fun c2 => ?_)
    · refine jt_sgp 1 (pc1 := 48) (lv1 := [(3, .long ((ti - nom) / per)), (0, .ref a), (1, .long ti)]) (st1 := [.ref a]) rfl ?_
      refine jt_get rfl (jx_us_get (by exact hnd) (by exact hlt) 0 rfl) rfl ?_
      refine jt_sgp 1 (pc1 := 52) (lv1 := [(3, .long ((ti - nom) / per)), (0, .ref a), (1, .long ti)]) (st1 := [.int 1, .int pol]) rfl ?_
      refine jt_icmp_ne (t := 73) rfl rfl (fun c3 => ?_) (fun c3 => ?_)
      · refine jt_sgp 1 (pc1 := 74) (lv1 := [(3, .long ((ti - nom) / per)), (0, .ref a), (1, .long ti)]) (st1 := [.ref a]) rfl ?_
        refine jt_get rfl (jx_us_get (by exact hnd) (by exact hlt) 0 rfl) rfl ?_
        refine jt_sgp 1 (pc1 := 78) (lv1 := [(3, .long ((ti - nom) / per)), (0, .ref a), (1, .long ti)]) (st1 := [.ref a, .long nom]) rfl ?_
        refine jt_get rfl (jx_us_get (by exact hnd) (by exact hlt) 0 rfl) rfl ?_
        refine jt_sgp 1 (pc1 := 82) (lv1 := [(3, .long ((ti - nom) / per)), (0, .ref a), (1, .long ti)]) (st1 := [.long (nom + per)]) rfl ?_
        exact jt_lret rfl rfl (jx_oe (by show (some (Value.long _) : Option Value) = some (Value.long _); unfold g_B_rateTimeBehind; first | (simp only [if_pos c1, if_neg c2, if_neg c3, reduceIte]; done) | (simp only [if_pos c1, if_neg c2, if_neg c3, reduceIte]; rfl) | rfl) (jx_us_id hL))
      · refine jt_sgp 3 (pc1 := 58) (lv1 := [(3, .long ((ti - nom) / per)), (0, .ref a), (1, .long ti)]) (st1 := [.int (lg_cmp ((ti - nom) / per) 1)]) rfl ?_
        refine jt_lif_le (t := 73) rfl rfl (fun c4 => ?_) (fun c4 => ?_)
        · refine jt_sgp 1 (pc1 := 74) (lv1 := [(3, .long ((ti - nom) / per)), (0, .ref a), (1, .long ti)]) (st1 := [.ref a]) rfl ?_
          refine jt_get rfl (jx_us_get (by exact hnd) (by exact hlt) 0 rfl) rfl ?_
          refine jt_sgp 1 (pc1 := 78) (lv1 := [(3, .long ((ti - nom) / per)), (0, .ref a), (1, .long ti)]) (st1 := [.ref a, .long nom]) rfl ?_
          refine jt_get rfl (jx_us_get (by exact hnd) (by exact hlt) 0 rfl) rfl ?_
          refine jt_sgp 1 (pc1 := 82) (lv1 := [(3, .long ((ti - nom) / per)), (0, .ref a), (1, .long ti)]) (st1 := [.long (nom + per)]) rfl ?_
          exact jt_lret rfl rfl (jx_oe (by show (some (Value.long _) : Option Value) = some (Value.long _); unfold g_B_rateTimeBehind; first | (simp only [if_pos c1, if_neg c2, if_pos c3, if_pos c4, reduceIte]; done) | (simp only [if_pos c1, if_neg c2, if_pos c3, if_pos c4, reduceIte]; rfl) | rfl) (jx_us_id hL))
        · refine jt_sgp 1 (pc1 := 62) (lv1 := [(3, .long ((ti - nom) / per)), (0, .ref a), (1, .long ti)]) (st1 := [.ref a]) rfl ?_
          refine jt_get rfl (jx_us_get (by exact hnd) (by exact hlt) 0 rfl) rfl ?_
          refine jt_sgp 2 (pc1 := 67) (lv1 := [(3, .long ((ti - nom) / per)), (0, .ref a), (1, .long ti)]) (st1 := [.ref a, .long ((ti - nom) / per), .long nom]) rfl ?_
          refine jt_get rfl (jx_us_get (by exact hnd) (by exact hlt) 0 rfl) rfl ?_
          refine jt_sgp 2 (pc1 := 72) (lv1 := [(3, .long ((ti - nom) / per)), (0, .ref a), (1, .long ti)]) (st1 := [.long (nom + (((ti - nom) / per) * per))]) rfl ?_
          exact jt_lret rfl rfl (jx_oe (by show (some (Value.long _) : Option Value) = some (Value.long _); unfold g_B_rateTimeBehind; first | (simp only [if_pos c1, if_neg c2, if_pos c3, if_neg c4, reduceIte]; done) | (simp only [if_pos c1, if_neg c2, if_pos c3, if_neg c4, reduceIte]; rfl) | rfl) (jx_us_id hL))
    · refine jt_sgp 1 (pc1 := 34) (lv1 := [(3, .long ((ti - nom) / per)), (0, .ref a), (1, .long ti)]) (st1 := [.ref a]) rfl ?_
      refine jt_get rfl (jx_us_get (by exact hnd) (by exact hlt) 0 rfl) rfl ?_
      refine jt_sgp 4 (pc1 := 41) (lv1 := [(3, .long ((ti - nom) / per)), (0, .ref a), (1, .long ti)]) (st1 := [.ref a, .long (((ti - nom) / per) + 1), .long nom]) rfl ?_
      refine jt_get rfl (jx_us_get (by exact hnd) (by exact hlt) 0 rfl) rfl ?_
      refine jt_sgp 2 (pc1 := 46) (lv1 := [(3, .long ((ti - nom) / per)), (0, .ref a), (1, .long ti)]) (st1 := [.long (nom + ((((ti - nom) / per) + 1) * per))]) rfl ?_
      exact jt_lret rfl rfl (jx_oe (by show (some (Value.long _) : Option Value) = some (Value.long _); unfold g_B_rateTimeBehind; first | (simp only [if_pos c1, if_pos c2, reduceIte]; done) | (simp only [if_pos c1, if_pos c2, reduceIte]; rfl) | rfl) (jx_us_id hL))
  · refine jt_sgp 1 (pc1 := 12) (lv1 := [(0, .ref a), (1, .long ti)]) (st1 := [.long (-1)]) rfl ?_
    exact jt_lret rfl rfl (jx_oe (by show (some (Value.long _) : Option Value) = some (Value.long _); unfold g_B_rateTimeBehind; first | (simp only [if_neg c1, reduceIte]; done) | (simp only [if_neg c1, reduceIte]; rfl) | rfl) (jx_us_id hL))
def g_L_add_a_3 (ti : Int64) (sl : Int32) (no : Int64) (siz : Int32) (tot : Int64) (tf : Nat → Int64) (sf : Nat → Int32) (nf : Nat → Int64) : Int32 :=
  let v61 : Int32 := if 500 ≤ siz then siz else (siz + 1)
  v61
def g_L_add_a_4 (ti : Int64) (sl : Int32) (no : Int64) (siz : Int32) (tot : Int64) (tf : Nat → Int64) (sf : Nat → Int32) (nf : Nat → Int64) : Int64 :=
  let v61_1 : Int64 := if 500 ≤ siz then tot else (tot + 1)
  v61_1
def g_L_add_tq (ti : Int64) (sl : Int32) (no : Int64) (siz : Int32) (tot : Int64) (tf : Nat → Int64) (sf : Nat → Int32) (nf : Nat → Int64) : Nat → Int64 :=
  let v61_2 : Nat → Int64 := if 500 ≤ siz then tf else (vp_updL tf (siz : Int32).toNatClampNeg ti)
  v61_2
def g_L_add_sq (ti : Int64) (sl : Int32) (no : Int64) (siz : Int32) (tot : Int64) (tf : Nat → Int64) (sf : Nat → Int32) (nf : Nat → Int64) : Nat → Int32 :=
  let v61_3 : Nat → Int32 := if 500 ≤ siz then sf else (upd sf (siz : Int32).toNatClampNeg sl)
  v61_3
def g_L_add_nq (ti : Int64) (sl : Int32) (no : Int64) (siz : Int32) (tot : Int64) (tf : Nat → Int64) (sf : Nat → Int32) (nf : Nat → Int64) : Nat → Int64 :=
  let v61_4 : Nat → Int64 := if 500 ≤ siz then nf else (vp_updL nf (siz : Int32).toNatClampNeg no)
  v61_4
set_option maxRecDepth 20000 in
set_option maxHeartbeats 4000000 in
theorem q_L_add (a : Nat) (ti : Int64) (sl : Int32) (no : Int64) (tq : Nat) (sq : Nat) (nq : Nat) (siz : Int32) (tot : Int64) (tf : Nat → Int64) (sf : Nat → Int32) (nf : Nat → Int64) (M : jx_H) (h_a : M[a]? = some (8, [.ref tq, .ref sq, .ref nq, .int siz, .long tot])) (h_tq : M[tq]? = some (103, jx_vl 500 tf)) (h_sq : M[sq]? = some (102, jx_vi 500 sf)) (h_nq : M[nq]? = some (103, jx_vl 500 nf)) (hnd : ([a, tq, sq, nq] : List Nat).Nodup) (p1 : 0 ≤ siz) (rF rL : Nat) (hfr : 0 ≤ rF) (hlo : 0 ≤ rL) : jt jp_L_add rF rL 0 [(0, .ref a), (1, .long ti), (3, .int sl), (4, .long no)] [] M 0 0 (.inl none, (jx_us M [(a, (8, [.ref tq, .ref sq, .ref nq, .int (g_L_add_a_3 ti sl no siz tot tf sf nf), .long (g_L_add_a_4 ti sl no siz tot tf sf nf)])), (tq, (103, jx_vl 500 (g_L_add_tq ti sl no siz tot tf sf nf))), (sq, (102, jx_vi 500 (g_L_add_sq ti sl no siz tot tf sf nf))), (nq, (103, jx_vl 500 (g_L_add_nq ti sl no siz tot tf sf nf)))]), 0, 0) := by
  have hL : ∀ zz ∈ ([(a, (8, [.ref tq, .ref sq, .ref nq, .int siz, .long tot])), (tq, (103, jx_vl 500 tf)), (sq, (102, jx_vi 500 sf)), (nq, (103, jx_vl 500 nf))] : List (Nat × (Nat × List Value))), M[zz.1]? = some zz.2 := List.forall_mem_cons.mpr ⟨h_a, List.forall_mem_cons.mpr ⟨h_tq, List.forall_mem_cons.mpr ⟨h_sq, List.forall_mem_cons.mpr ⟨h_nq, fun _ hz => absurd hz List.not_mem_nil⟩⟩⟩⟩
  have hlt : ∀ zz ∈ ([a, tq, sq, nq] : List Nat), zz < M.length := jx_lts hL
  refine jt_hq (jx_us_id hL).symm ?_
  show jt jp_L_add rF rL 0 [(0, .ref a), (1, .long ti), (3, .int sl), (4, .long no)] [] (jx_us M [(a, (8, [.ref tq, .ref sq, .ref nq, .int siz, .long tot])), (tq, (103, jx_vl 500 tf)), (sq, (102, jx_vi 500 sf)), (nq, (103, jx_vl 500 nf))]) 0 0 (.inl none, (jx_us M [(a, (8, [.ref tq, .ref sq, .ref nq, .int (g_L_add_a_3 ti sl no siz tot tf sf nf), .long (g_L_add_a_4 ti sl no siz tot tf sf nf)])), (tq, (103, jx_vl 500 (g_L_add_tq ti sl no siz tot tf sf nf))), (sq, (102, jx_vi 500 (g_L_add_sq ti sl no siz tot tf sf nf))), (nq, (103, jx_vl 500 (g_L_add_nq ti sl no siz tot tf sf nf)))]), 0, 0)
  refine jt_sgp 1 (pc1 := 1) (lv1 := [(0, .ref a), (1, .long ti), (3, .int sl), (4, .long no)]) (st1 := [.ref a]) rfl ?_
  refine jt_get rfl (jx_us_get (by exact hnd) (by exact hlt) 0 rfl) rfl ?_
  refine jt_sgp 1 (pc1 := 7) (lv1 := [(0, .ref a), (1, .long ti), (3, .int sl), (4, .long no)]) (st1 := [.int 500, .int siz]) rfl ?_
  have J61_2 : ∀ (v61 : Int32) (v61_1 : Int64) (v61_2 : Nat → Int64) (v61_3 : Nat → Int32) (v61_4 : Nat → Int64), v61 = (if 500 ≤ siz then siz else (siz + 1) : Int32) → v61_1 = (if 500 ≤ siz then tot else (tot + 1) : Int64) → v61_2 = (if 500 ≤ siz then tf else (vp_updL tf (siz : Int32).toNatClampNeg ti) : Nat → Int64) → v61_3 = (if 500 ≤ siz then sf else (upd sf (siz : Int32).toNatClampNeg sl) : Nat → Int32) → v61_4 = (if 500 ≤ siz then nf else (vp_updL nf (siz : Int32).toNatClampNeg no) : Nat → Int64) → jt jp_L_add rF rL 61 [(0, .ref a), (1, .long ti), (3, .int sl), (4, .long no)] [] (jx_us M [(a, (8, [.ref tq, .ref sq, .ref nq, .int v61, .long v61_1])), (tq, (103, jx_vl 500 v61_2)), (sq, (102, jx_vi 500 v61_3)), (nq, (103, jx_vl 500 v61_4))]) 0 0 (.inl none, (jx_us M [(a, (8, [.ref tq, .ref sq, .ref nq, .int (g_L_add_a_3 ti sl no siz tot tf sf nf), .long (g_L_add_a_4 ti sl no siz tot tf sf nf)])), (tq, (103, jx_vl 500 (g_L_add_tq ti sl no siz tot tf sf nf))), (sq, (102, jx_vi 500 (g_L_add_sq ti sl no siz tot tf sf nf))), (nq, (103, jx_vl 500 (g_L_add_nq ti sl no siz tot tf sf nf)))]), 0, 0) := by
    intro v61 v61_1 v61_2 v61_3 v61_4 ev61 ev61_1 ev61_2 ev61_3 ev61_4
    exact jt_vret rfl rfl (jx_oe rfl (by show jx_us M _ = jx_us M _; unfold g_L_add_a_3 g_L_add_a_4 g_L_add_tq g_L_add_sq g_L_add_nq; subst ev61_4; subst ev61_3; subst ev61_2; subst ev61_1; subst ev61; rfl))
  refine jt_icmp_ge (t := 61) rfl rfl (fun c1 => ?_) (fun c1 => ?_)
  · exact J61_2 _ _ _ _ _ (by first | (simp only [if_pos c1, reduceIte]; done) | (with_reducible rfl)) (by first | (simp only [if_pos c1, reduceIte]; done) | (with_reducible rfl)) (by first | (simp only [if_pos c1, reduceIte]; done) | (with_reducible rfl)) (by first | (simp only [if_pos c1, reduceIte]; done) | (with_reducible rfl)) (by first | (simp only [if_pos c1, reduceIte]; done) | (with_reducible rfl))
  · refine jt_sgp 1 (pc1 := 11) (lv1 := [(0, .ref a), (1, .long ti), (3, .int sl), (4, .long no)]) (st1 := [.ref a]) rfl ?_
    refine jt_get rfl (jx_us_get (by exact hnd) (by exact hlt) 0 rfl) rfl ?_
    refine jt_sgp 1 (pc1 := 15) (lv1 := [(0, .ref a), (1, .long ti), (3, .int sl), (4, .long no)]) (st1 := [.ref a, .ref tq]) rfl ?_
    refine jt_get rfl (jx_us_get (by exact hnd) (by exact hlt) 0 rfl) rfl ?_
    refine jt_sgp 1 (pc1 := 19) (lv1 := [(0, .ref a), (1, .long ti), (3, .int sl), (4, .long no)]) (st1 := [.long ti, .int siz, .ref tq]) rfl ?_
    refine jt_last rfl (jx_us_get (by exact hnd) (by exact hlt) 1 rfl) (jm_in (M := 500) p1 c1 (by decide) rfl) (jx_us_set (by exact hnd) 1 rfl (L1 := [(a, (8, [.ref tq, .ref sq, .ref nq, .int siz, .long tot])), (tq, (103, jx_vl 500 (vp_updL tf (siz : Int32).toNatClampNeg ti))), (sq, (102, jx_vi 500 sf)), (nq, (103, jx_vl 500 nf))]) rfl) ?_
    refine jt_sgp 1 (pc1 := 21) (lv1 := [(0, .ref a), (1, .long ti), (3, .int sl), (4, .long no)]) (st1 := [.ref a]) rfl ?_
    refine jt_get rfl (jx_us_get (by exact hnd) (by exact hlt) 0 rfl) rfl ?_
    refine jt_sgp 1 (pc1 := 25) (lv1 := [(0, .ref a), (1, .long ti), (3, .int sl), (4, .long no)]) (st1 := [.ref a, .ref sq]) rfl ?_
    refine jt_get rfl (jx_us_get (by exact hnd) (by exact hlt) 0 rfl) rfl ?_
    refine jt_sgp 1 (pc1 := 29) (lv1 := [(0, .ref a), (1, .long ti), (3, .int sl), (4, .long no)]) (st1 := [.int sl, .int siz, .ref sq]) rfl ?_
    refine jt_iast rfl (jx_us_get (by exact hnd) (by exact hlt) 2 rfl) (jm_in (M := 500) p1 c1 (by decide) rfl) (jx_us_set (by exact hnd) 2 rfl (L1 := [(a, (8, [.ref tq, .ref sq, .ref nq, .int siz, .long tot])), (tq, (103, jx_vl 500 (vp_updL tf (siz : Int32).toNatClampNeg ti))), (sq, (102, jx_vi 500 (upd sf (siz : Int32).toNatClampNeg sl))), (nq, (103, jx_vl 500 nf))]) rfl) ?_
    refine jt_sgp 1 (pc1 := 31) (lv1 := [(0, .ref a), (1, .long ti), (3, .int sl), (4, .long no)]) (st1 := [.ref a]) rfl ?_
    refine jt_get rfl (jx_us_get (by exact hnd) (by exact hlt) 0 rfl) rfl ?_
    refine jt_sgp 1 (pc1 := 35) (lv1 := [(0, .ref a), (1, .long ti), (3, .int sl), (4, .long no)]) (st1 := [.ref a, .ref nq]) rfl ?_
    refine jt_get rfl (jx_us_get (by exact hnd) (by exact hlt) 0 rfl) rfl ?_
    refine jt_sgp 1 (pc1 := 40) (lv1 := [(0, .ref a), (1, .long ti), (3, .int sl), (4, .long no)]) (st1 := [.long no, .int siz, .ref nq]) rfl ?_
    refine jt_last rfl (jx_us_get (by exact hnd) (by exact hlt) 3 rfl) (jm_in (M := 500) p1 c1 (by decide) rfl) (jx_us_set (by exact hnd) 3 rfl (L1 := [(a, (8, [.ref tq, .ref sq, .ref nq, .int siz, .long tot])), (tq, (103, jx_vl 500 (vp_updL tf (siz : Int32).toNatClampNeg ti))), (sq, (102, jx_vi 500 (upd sf (siz : Int32).toNatClampNeg sl))), (nq, (103, jx_vl 500 (vp_updL nf (siz : Int32).toNatClampNeg no)))]) rfl) ?_
    refine jt_sgp 2 (pc1 := 43) (lv1 := [(0, .ref a), (1, .long ti), (3, .int sl), (4, .long no)]) (st1 := [.ref a, .ref a]) rfl ?_
    refine jt_get rfl (jx_us_get (by exact hnd) (by exact hlt) 0 rfl) rfl ?_
    refine jt_sgp 2 (pc1 := 48) (lv1 := [(0, .ref a), (1, .long ti), (3, .int sl), (4, .long no)]) (st1 := [.int (siz + 1), .ref a]) rfl ?_
    refine jt_put rfl (jx_us_get (by exact hnd) (by exact hlt) 0 rfl) (Nat.le_of_ble_eq_true rfl) rfl (Or.inl rfl) (jx_us_set (by exact hnd) 0 rfl (L1 := [(a, (8, [.ref tq, .ref sq, .ref nq, .int (siz + 1), .long tot])), (tq, (103, jx_vl 500 (vp_updL tf (siz : Int32).toNatClampNeg ti))), (sq, (102, jx_vi 500 (upd sf (siz : Int32).toNatClampNeg sl))), (nq, (103, jx_vl 500 (vp_updL nf (siz : Int32).toNatClampNeg no)))]) rfl) ?_
    refine jt_sgp 2 (pc1 := 53) (lv1 := [(0, .ref a), (1, .long ti), (3, .int sl), (4, .long no)]) (st1 := [.ref a, .ref a]) rfl ?_
    refine jt_get rfl (jx_us_get (by exact hnd) (by exact hlt) 0 rfl) rfl ?_
    refine jt_sgp 2 (pc1 := 58) (lv1 := [(0, .ref a), (1, .long ti), (3, .int sl), (4, .long no)]) (st1 := [.long (tot + 1), .ref a]) rfl ?_
    refine jt_put rfl (jx_us_get (by exact hnd) (by exact hlt) 0 rfl) (Nat.le_of_ble_eq_true rfl) rfl (Or.inl rfl) (jx_us_set (by exact hnd) 0 rfl (L1 := [(a, (8, [.ref tq, .ref sq, .ref nq, .int (siz + 1), .long (tot + 1)])), (tq, (103, jx_vl 500 (vp_updL tf (siz : Int32).toNatClampNeg ti))), (sq, (102, jx_vi 500 (upd sf (siz : Int32).toNatClampNeg sl))), (nq, (103, jx_vl 500 (vp_updL nf (siz : Int32).toNatClampNeg no)))]) rfl) ?_
    exact J61_2 _ _ _ _ _ (by first | (simp only [if_neg c1, reduceIte]; done) | (with_reducible rfl)) (by first | (simp only [if_neg c1, reduceIte]; done) | (with_reducible rfl)) (by first | (simp only [if_neg c1, reduceIte]; done) | (with_reducible rfl)) (by first | (simp only [if_neg c1, reduceIte]; done) | (with_reducible rfl)) (by first | (simp only [if_neg c1, reduceIte]; done) | (with_reducible rfl))
