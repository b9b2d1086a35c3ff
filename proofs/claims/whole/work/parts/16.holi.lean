theorem fs_H_13 : jm_fs jm_cl jm_G "JobHouse$Holidays" 13 5 1 (.int) false := ⟨_, jn_T5, 2, jn_y5, rfl, by decide, jn_i5, jn_o5, jn_n5, rfl, rfl, by decide +kernel, Or.inl (jm_g1 71 rfl rfl)⟩
theorem fs_H_7 : jm_fs jm_cl jm_G "JobHouse$Holidays" 7 5 0 (.array .int) true := ⟨_, jn_T5, 2, jn_y5, rfl, by decide, jn_i5, jn_o5, jn_n5, rfl, rfl, by decide +kernel, Or.inl (jm_g1 70 rfl rfl)⟩
theorem jm_mid {lo hi siz : Int32} (i1 : 0 ≤ lo) (c : ¬ hi ≤ lo) (i3 : hi ≤ siz) (p3 : siz ≤ 200) : ((lo + hi) / 2).toInt = (lo.toInt + hi.toInt) / 2 ∧ ((lo + hi) / 2 + 1).toInt = (lo.toInt + hi.toInt) / 2 + 1 := by
  simp only [Int32.le_iff_toInt_le] at *
  have h0 : (0 : Int32).toInt = 0 := rfl
  have h2 : (2 : Int32).toInt = 2 := rfl
  have h200 : (200 : Int32).toInt = 200 := rfl
  have e1 : (lo + hi).toInt = lo.toInt + hi.toInt := by
    rw [Int32.toInt_add]; simp only [Int.bmod]; omega
  have e2 : ((lo + hi) / 2).toInt = (lo.toInt + hi.toInt) / 2 := by
    rw [Int32.toInt_div, e1, h2, Int.tdiv_eq_ediv_of_nonneg (by omega)]
    simp only [Int.bmod]; omega
  refine ⟨e2, ?_⟩
  rw [Int32.toInt_add, e2, show (1 : Int32).toInt = 1 from rfl]
  simp only [Int.bmod]; omega
theorem jm_midin {lo hi siz : Int32} {hn : Nat} (i1 : 0 ≤ lo) (c : ¬ hi ≤ lo) (i3 : hi ≤ siz) (p3 : siz ≤ 200) (p2 : siz.toInt ≤ hn) : vp_in ((lo + hi) / 2) hn := by
  have e := (jm_mid i1 c i3 p3).1
  rw [vp_in_iff]
  simp only [Int32.le_iff_toInt_le] at *
  have h0 : (0 : Int32).toInt = 0 := rfl
  omega
theorem jm_bs {lo hi siz : Int32} {P : Prop} [Decidable P] {k : Nat} (i1 : 0 ≤ lo) (c : ¬ hi ≤ lo) (i3 : hi ≤ siz) (p3 : siz ≤ 200) (hm : (hi.toInt - lo.toInt).toNat < k + 1) : 0 ≤ (if P then lo else (lo + hi) / 2 + 1) ∧ (if P then lo else (lo + hi) / 2 + 1) ≤ (if P then (lo + hi) / 2 else hi) ∧ (if P then (lo + hi) / 2 else hi) ≤ siz ∧ ((if P then (lo + hi) / 2 else hi).toInt - (if P then lo else (lo + hi) / 2 + 1).toInt).toNat < k := by
  obtain ⟨e1, e2⟩ := jm_mid i1 c i3 p3
  simp only [Int32.le_iff_toInt_le] at *
  have h0 : (0 : Int32).toInt = 0 := rfl
  by_cases q : P
  · simp only [if_pos q, e1]; omega
  · simp only [if_neg q, e2]; omega
theorem jm_zz {lo hi : Int32} {n : Nat} (i2 : lo ≤ hi) (h : hi.toInt < n) (h0 : 0 ≤ lo) : (hi.toInt - lo.toInt).toNat < n := by
  simp only [Int32.le_iff_toInt_le] at *
  have h0 : (0 : Int32).toInt = 0 := rfl
  omega
theorem jm_lt200 {x : Int32} (h : x ≤ 200) : x.toInt < (201 : Nat) := by
  simp only [Int32.le_iff_toInt_le] at *
  have h200 : (200 : Int32).toInt = 200 := rfl
  omega
theorem jm_inN {i n : Int32} {N : Nat} (h0 : 0 ≤ i) (h1 : ¬ n ≤ i) (h2 : n.toInt ≤ N) : vp_in i N := by
  rw [vp_in_iff]
  simp only [Int32.le_iff_toInt_le] at *
  have h3 : (0 : Int32).toInt = 0 := rfl
  omega
def F_H_placeOf_7 (da : Int32) (siz : Int32) (hf : Nat → Int32) : Nat → (Int32) → (Int32) → Int32
  | 0, _, _ => 0
  | n + 1, lo, hi =>
    let v69 : Int32 := if siz ≤ lo then ((-1) - lo) else (if (hf (lo : Int32).toNatClampNeg) = da then lo else ((-1) - lo))
    let v41 : Int32 := if da ≤ (hf ((lo + hi) / 2 : Int32).toNatClampNeg) then lo else (((lo + hi) / 2) + 1)
    let v41_1 : Int32 := if da ≤ (hf ((lo + hi) / 2 : Int32).toNatClampNeg) then ((lo + hi) / 2) else hi
    if hi ≤ lo then v69 else (F_H_placeOf_7 da siz hf n v41 v41_1)
termination_by n _ _ => n
def f_H_placeOf (da : Int32) (siz : Int32) (hf : Nat → Int32) : Int32 :=
  F_H_placeOf_7 da siz hf 201 0 siz
set_option maxRecDepth 20000 in
set_option maxHeartbeats 4000000 in
theorem k_H_placeOf {l : Launch} {S : State} {D : va_G} {dA : Nat → ClassId} (E : jm_en S D jm_cl (jm_ty dA) jm_G) (a : Nat) (da : Int32) (hq : Nat) (siz : Int32) (hn : Nat) (hf : Nat → Int32) (h : jm_H) (h_a : h a = some (.inr (5, [.ref hq, .int siz]))) (h_hq : h hq = some (.inl (dA 2, hn, .inl hf))) (hnd : ([a, hq] : List Nat).Nodup) (p1 : 0 ≤ siz) (p2 : siz.toInt ≤ hn) (p3 : siz ≤ 200) : jm_M l S D jm_cl y_H_placeOf (Cond.code y_H_placeOf b_H_placeOf 5 (some FieldType.int)) { frames := 0, cells := 0, slots := 0, locals := 0 } [.ref a, .int da] h (jm_R (some (.int (f_H_placeOf da siz hf))) h) 0 0 := by
  refine jm_ofW E (by decide) (Nat.le_of_ble_eq_true rfl) (fun p e s m below meth c X hr hk hmn hout hadm => ?_)
  have X : jm_cx p s m ([.ref a, .int da] : List Value).toArray c S D jm_cl (jm_ty dA) jm_G b_H_placeOf 5 "JobHouse$Holidays" := X
  have hL : ∀ zz ∈ ([(a, .inr (5, [.ref hq, .int siz])), (hq, .inl (dA 2, hn, .inl hf))] : List (Nat × va_E)), h zz.1 = some zz.2 := List.forall_mem_cons.mpr ⟨h_a, List.forall_mem_cons.mpr ⟨h_hq, fun _ hz => absurd hz List.not_mem_nil⟩⟩
  refine jm_hq (jm_us_id hL).symm ?_
  show jm_W p l e ({ frames := 0, cells := 0, slots := 0, locals := 0 }) s m ([.ref a, .int da] : List Value).toArray below meth c S D jm_cl (jm_Q S D jm_cl below s (jm_R (some (.int (f_H_placeOf da siz hf))) h) 0 0) 5 0 [(0, .ref a), (1, .int da)] [] (jm_us h [(a, .inr (5, [.ref hq, .int siz])), (hq, .inl (dA 2, hn, .inl hf))]) 0 0
  refine jm_iconst (v := 0) X d_H_placeOf_0 (by decide) ?_
  refine jm_istore_n X d_H_placeOf_1 rfl (by decide) (lv1 := [(2, .int 0), (0, .ref a), (1, .int da)]) rfl ?_
  refine jm_aload_n X d_H_placeOf_2 rfl 1 rfl ?_
  refine jm_get X d_H_placeOf_3 fs_H_13 (by refine jm_us_get ?_ 0 rfl; exact hnd) rfl ?_
  refine jm_istore_n X d_H_placeOf_6 rfl (by decide) (lv1 := [(3, .int siz), (2, .int 0), (0, .ref a), (1, .int da)]) rfl ?_
  refine jm_lvs [2, 3, 1, 0] (lv1 := [(0, .ref a), (1, .int da), (2, .int 0), (3, .int siz)]) rfl ?_
  obtain ⟨ro, hro⟩ : ∃ ro, ro = F_H_placeOf_7 da siz hf 201 0 siz := ⟨_, rfl⟩
  have LP7 : ∀ (n : Nat) (lo : Int32) (hi : Int32), (0 ≤ lo) → (lo ≤ hi) → (hi ≤ siz) → (hi.toInt - lo.toInt).toNat < n → F_H_placeOf_7 da siz hf n lo hi = ro → jm_W p l e ({ frames := 0, cells := 0, slots := 0, locals := 0 }) s m ([.ref a, .int da] : List Value).toArray below meth c S D jm_cl (jm_Q S D jm_cl below s (jm_R (some (.int (f_H_placeOf da siz hf))) h) 0 0) 5 7 [(0, .ref a), (1, .int da), (2, .int lo), (3, .int hi)] [] (jm_us h [(a, .inr (5, [.ref hq, .int siz])), (hq, .inl (dA 2, hn, .inl hf))]) 0 0 := by
    intro n
    induction n with
    | zero => intro lo hi i1 i2 i3 hm _; exact absurd hm (Nat.not_lt_zero _)
    | succ n ih =>
      intro lo hi i1 i2 i3 hm hF
      simp only [F_H_placeOf_7] at hF
      refine jm_iload_n X d_H_placeOf_7 rfl 2 rfl ?_
      refine jm_iload_n X d_H_placeOf_8 rfl 3 rfl ?_
      refine jm_icmp_ge (tgt := 44) X d_H_placeOf_9 (by decide) (fun c1 => ?_) (fun c1 => ?_)
      · refine jm_iload_n X d_H_placeOf_44 rfl 2 rfl ?_
        refine jm_aload_n X d_H_placeOf_45 rfl 0 rfl ?_
        refine jm_get X d_H_placeOf_46 fs_H_13 (by refine jm_us_get ?_ 0 rfl; exact hnd) rfl ?_
        have J69_3 : ∀ (v69 : Int32), v69 = (if siz ≤ lo then ((-1) - lo) else (if (hf (lo : Int32).toNatClampNeg) = da then lo else ((-1) - lo)) : Int32) → jm_W p l e ({ frames := 0, cells := 0, slots := 0, locals := 0 }) s m ([.ref a, .int da] : List Value).toArray below meth c S D jm_cl (jm_Q S D jm_cl below s (jm_R (some (.int (f_H_placeOf da siz hf))) h) 0 0) 5 69 [(0, .ref a), (1, .int da), (2, .int lo), (3, .int hi)] [.int v69] (jm_us h [(a, .inr (5, [.ref hq, .int siz])), (hq, .inl (dA 2, hn, .inl hf))]) 0 0 := by
          intro v69 ev69
          exact jm_iret X hr hk d_H_placeOf_69 ⟨(by show Outcome.returned _ = Outcome.returned _; subst ev69; simp only [if_pos c1, reduceIte] at hF; unfold f_H_placeOf; (try dsimp only); rw [← hro, ← hF]), (jm_us_id hL)⟩
        refine jm_icmp_ge (tgt := 66) X d_H_placeOf_49 (by decide) (fun c2 => ?_) (fun c2 => ?_)
        · refine jm_iconst (v := (-1)) X d_H_placeOf_66 (by decide) ?_
          refine jm_iload_n X d_H_placeOf_67 rfl 2 rfl ?_
          refine jm_isub X d_H_placeOf_68 ?_
          exact J69_3 _ (by first | (simp only [if_pos c2, reduceIte]; done) | (with_reducible rfl))
        · refine jm_aload_n X d_H_placeOf_52 rfl 0 rfl ?_
          refine jm_get X d_H_placeOf_53 fs_H_7 (by refine jm_us_get ?_ 0 rfl; exact hnd) rfl ?_
          refine jm_iload_n X d_H_placeOf_56 rfl 2 rfl ?_
          refine jm_iald (t0 := 2) X d_H_placeOf_57 rfl (by refine jm_us_get ?_ 1 rfl; exact hnd) (by first | exact jm_inN i1 c2 p2 | exact jm_inN i1 c3 p2) ?_
          refine jm_iload_n X d_H_placeOf_58 rfl 1 rfl ?_
          refine jm_icmp_ne (tgt := 66) X d_H_placeOf_59 (by decide) (fun c4 => ?_) (fun c4 => ?_)
          · refine jm_iconst (v := (-1)) X d_H_placeOf_66 (by decide) ?_
            refine jm_iload_n X d_H_placeOf_67 rfl 2 rfl ?_
            refine jm_isub X d_H_placeOf_68 ?_
            exact J69_3 _ (by first | (simp only [if_neg c2, if_neg c4, reduceIte]; done) | (with_reducible rfl))
          · refine jm_iload_n X d_H_placeOf_62 rfl 2 rfl ?_
            refine jm_goto (tgt := 69) X d_H_placeOf_63 (by decide) ?_
            exact J69_3 _ (by first | (simp only [if_neg c2, if_pos c4, reduceIte]; done) | (with_reducible rfl))
      · refine jm_iload_n X d_H_placeOf_12 rfl 2 rfl ?_
        refine jm_iload_n X d_H_placeOf_13 rfl 3 rfl ?_
        refine jm_iadd X d_H_placeOf_14 ?_
        refine jm_iconst (v := 2) X d_H_placeOf_15 (by decide) ?_
        refine jm_idiv X d_H_placeOf_16 (by decide +kernel) ?_
        refine jm_istore X d_H_placeOf_17 (by decide) (lv1 := [(4, .int ((lo + hi) / 2)), (0, .ref a), (1, .int da), (2, .int lo), (3, .int hi)]) rfl ?_
        refine jm_aload_n X d_H_placeOf_19 rfl 1 rfl ?_
        refine jm_get X d_H_placeOf_20 fs_H_7 (by refine jm_us_get ?_ 0 rfl; exact hnd) rfl ?_
        refine jm_iload X d_H_placeOf_23 0 rfl ?_
        refine jm_iald (t0 := 2) X d_H_placeOf_25 rfl (by refine jm_us_get ?_ 1 rfl; exact hnd) (jm_midin i1 c1 i3 p3 p2) ?_
        refine jm_iload_n X d_H_placeOf_26 rfl 2 rfl ?_
        have J41_6 : ∀ (v41 : Int32) (v41_1 : Int32), v41 = (if da ≤ (hf ((lo + hi) / 2 : Int32).toNatClampNeg) then lo else (((lo + hi) / 2) + 1) : Int32) → v41_1 = (if da ≤ (hf ((lo + hi) / 2 : Int32).toNatClampNeg) then ((lo + hi) / 2) else hi : Int32) → jm_W p l e ({ frames := 0, cells := 0, slots := 0, locals := 0 }) s m ([.ref a, .int da] : List Value).toArray below meth c S D jm_cl (jm_Q S D jm_cl below s (jm_R (some (.int (f_H_placeOf da siz hf))) h) 0 0) 5 41 [(0, .ref a), (1, .int da), (2, .int v41), (3, .int v41_1), (4, .int ((lo + hi) / 2))] [] (jm_us h [(a, .inr (5, [.ref hq, .int siz])), (hq, .inl (dA 2, hn, .inl hf))]) 0 0 := by
          intro v41 v41_1 ev41 ev41_1
          refine jm_goto (tgt := 7) X d_H_placeOf_41 (by decide) ?_
          refine jm_lvs [0, 1, 2, 3] (lv1 := [(0, .ref a), (1, .int da), (2, .int v41), (3, .int v41_1)]) rfl ?_
          exact ih v41 v41_1 (by subst ev41; exact (jm_bs (P := da ≤ hf (((lo + hi) / 2 : Int32).toNatClampNeg)) i1 c1 i3 p3 hm).1) (by subst ev41; subst ev41_1; exact (jm_bs (P := da ≤ hf (((lo + hi) / 2 : Int32).toNatClampNeg)) i1 c1 i3 p3 hm).2.1) (by subst ev41_1; exact (jm_bs (P := da ≤ hf (((lo + hi) / 2 : Int32).toNatClampNeg)) i1 c1 i3 p3 hm).2.2.1) (by subst ev41; subst ev41_1; exact (jm_bs (P := da ≤ hf (((lo + hi) / 2 : Int32).toNatClampNeg)) i1 c1 i3 p3 hm).2.2.2) (by subst ev41_1; subst ev41; simp only [if_neg c1, reduceIte] at hF; exact hF)
        refine jm_icmp_ge (tgt := 38) X d_H_placeOf_27 (by decide) (fun c5 => ?_) (fun c5 => ?_)
        · refine jm_iload X d_H_placeOf_38 0 rfl ?_
          refine jm_istore_n X d_H_placeOf_40 rfl (by decide) (lv1 := [(3, .int ((lo + hi) / 2)), (4, .int ((lo + hi) / 2)), (0, .ref a), (1, .int da), (2, .int lo)]) rfl ?_
          refine jm_lvs [2, 3, 4, 0, 1] (lv1 := [(0, .ref a), (1, .int da), (2, .int lo), (3, .int ((lo + hi) / 2)), (4, .int ((lo + hi) / 2))]) rfl ?_
          exact J41_6 _ _ (by first | (simp only [if_pos c5, reduceIte]; done) | (with_reducible rfl)) (by first | (simp only [if_pos c5, reduceIte]; done) | (with_reducible rfl))
        · refine jm_iload X d_H_placeOf_30 0 rfl ?_
          refine jm_iconst (v := 1) X d_H_placeOf_32 (by decide) ?_
          refine jm_iadd X d_H_placeOf_33 ?_
          refine jm_istore_n X d_H_placeOf_34 rfl (by decide) (lv1 := [(2, .int (((lo + hi) / 2) + 1)), (4, .int ((lo + hi) / 2)), (0, .ref a), (1, .int da), (3, .int hi)]) rfl ?_
          refine jm_goto (tgt := 41) X d_H_placeOf_35 (by decide) ?_
          refine jm_lvs [2, 3, 0, 4, 1] (lv1 := [(0, .ref a), (1, .int da), (2, .int (((lo + hi) / 2) + 1)), (3, .int hi), (4, .int ((lo + hi) / 2))]) rfl ?_
          exact J41_6 _ _ (by first | (simp only [if_neg c5, reduceIte]; done) | (with_reducible rfl)) (by first | (simp only [if_neg c5, reduceIte]; done) | (with_reducible rfl))
  exact LP7 201 0 siz (by decide) p1 (Int32.le_refl siz) (jm_zz p1 (jm_lt200 p3) (by decide)) hro.symm
