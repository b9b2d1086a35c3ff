section JR
variable {me : jx_Me} {fr lo pc : Nat} {lv : List (Nat × Value)} {M : jx_H} {dc ds : Nat} {o : jx_O} {len t : Nat} {x : List Nat} {va : Value} {off : Int} {r : List Value}
theorem jt_if_eq {y : Int32} (ha : jx_at pc me.2.2.2.2.2 = some (.ifCond .eq off, len, x, va)) (ht : jx_jp pc off = some t) (kt : y = 0 → jt me fr lo t lv r M dc ds o) (kf : ¬ y = 0 → jt me fr lo (pc + 3) lv r M dc ds o) : jt me fr lo pc lv (.int y :: r) M dc ds o := jt_jz ha ht (fun h => kt (by simpa [jx_cz] using h)) (fun h => kf (by simpa [jx_cz] using h))
theorem jt_icmp_eq {y z : Int32} (ha : jx_at pc me.2.2.2.2.2 = some (.if_icmp .eq off, len, x, va)) (ht : jx_jp pc off = some t) (kt : y = z → jt me fr lo t lv r M dc ds o) (kf : ¬ y = z → jt me fr lo (pc + 3) lv r M dc ds o) : jt me fr lo pc lv (.int z :: .int y :: r) M dc ds o := jt_jc ha ht (fun h => kt (by simpa [jx_cc] using h)) (fun h => kf (by simpa [jx_cc] using h))
theorem jt_lif_eq {y z : Int64} (ha : jx_at pc me.2.2.2.2.2 = some (.ifCond .eq off, len, x, va)) (ht : jx_jp pc off = some t) (kt : y = z → jt me fr lo t lv r M dc ds o) (kf : ¬ y = z → jt me fr lo (pc + 3) lv r M dc ds o) : jt me fr lo pc lv (.int (lg_cmp y z) :: r) M dc ds o := by
  have e : lg_cmp y z = 0 ↔ y = z := by
    unfold lg_cmp
    simp only [gt_iff_lt, Int64.lt_iff_toInt_lt, Int64.le_iff_toInt_le, ← Int64.toInt_inj]
    repeat' split
    all_goals simp [Int32.lt_iff_toInt_lt, Int32.le_iff_toInt_le]
    all_goals omega
  exact jt_if_eq ha ht (fun h => kt (by rw [← e]; exact h)) (fun h => kf (by rw [← e]; exact h))
theorem jt_if_ne {y : Int32} (ha : jx_at pc me.2.2.2.2.2 = some (.ifCond .ne off, len, x, va)) (ht : jx_jp pc off = some t) (kt : ¬ y = 0 → jt me fr lo t lv r M dc ds o) (kf : y = 0 → jt me fr lo (pc + 3) lv r M dc ds o) : jt me fr lo pc lv (.int y :: r) M dc ds o := jt_jz ha ht (fun h => kt (by simpa [jx_cz] using h)) (fun h => kf (by simpa [jx_cz] using h))
theorem jt_icmp_ne {y z : Int32} (ha : jx_at pc me.2.2.2.2.2 = some (.if_icmp .ne off, len, x, va)) (ht : jx_jp pc off = some t) (kt : ¬ y = z → jt me fr lo t lv r M dc ds o) (kf : y = z → jt me fr lo (pc + 3) lv r M dc ds o) : jt me fr lo pc lv (.int z :: .int y :: r) M dc ds o := jt_jc ha ht (fun h => kt (by simpa [jx_cc] using h)) (fun h => kf (by simpa [jx_cc] using h))
theorem jt_lif_ne {y z : Int64} (ha : jx_at pc me.2.2.2.2.2 = some (.ifCond .ne off, len, x, va)) (ht : jx_jp pc off = some t) (kt : ¬ y = z → jt me fr lo t lv r M dc ds o) (kf : y = z → jt me fr lo (pc + 3) lv r M dc ds o) : jt me fr lo pc lv (.int (lg_cmp y z) :: r) M dc ds o := by
  have e : lg_cmp y z = 0 ↔ y = z := by
    unfold lg_cmp
    simp only [gt_iff_lt, Int64.lt_iff_toInt_lt, Int64.le_iff_toInt_le, ← Int64.toInt_inj]
    repeat' split
    all_goals simp [Int32.lt_iff_toInt_lt, Int32.le_iff_toInt_le]
    all_goals omega
  exact jt_if_ne ha ht (fun h => kt (by rw [← e]; exact h)) (fun h => kf (by rw [← e]; exact h))
theorem jt_if_lt {y : Int32} (ha : jx_at pc me.2.2.2.2.2 = some (.ifCond .lt off, len, x, va)) (ht : jx_jp pc off = some t) (kt : y < 0 → jt me fr lo t lv r M dc ds o) (kf : ¬ y < 0 → jt me fr lo (pc + 3) lv r M dc ds o) : jt me fr lo pc lv (.int y :: r) M dc ds o := jt_jz ha ht (fun h => kt (by simpa [jx_cz] using h)) (fun h => kf (by simpa [jx_cz] using h))
theorem jt_icmp_lt {y z : Int32} (ha : jx_at pc me.2.2.2.2.2 = some (.if_icmp .lt off, len, x, va)) (ht : jx_jp pc off = some t) (kt : y < z → jt me fr lo t lv r M dc ds o) (kf : ¬ y < z → jt me fr lo (pc + 3) lv r M dc ds o) : jt me fr lo pc lv (.int z :: .int y :: r) M dc ds o := jt_jc ha ht (fun h => kt (by simpa [jx_cc] using h)) (fun h => kf (by simpa [jx_cc] using h))
theorem jt_lif_lt {y z : Int64} (ha : jx_at pc me.2.2.2.2.2 = some (.ifCond .lt off, len, x, va)) (ht : jx_jp pc off = some t) (kt : y < z → jt me fr lo t lv r M dc ds o) (kf : ¬ y < z → jt me fr lo (pc + 3) lv r M dc ds o) : jt me fr lo pc lv (.int (lg_cmp y z) :: r) M dc ds o := by
  have e : lg_cmp y z < 0 ↔ y < z := by
    unfold lg_cmp
    simp only [gt_iff_lt, Int64.lt_iff_toInt_lt, Int64.le_iff_toInt_le, ← Int64.toInt_inj]
    repeat' split
    all_goals simp [Int32.lt_iff_toInt_lt, Int32.le_iff_toInt_le]
    all_goals omega
  exact jt_if_lt ha ht (fun h => kt (by rw [← e]; exact h)) (fun h => kf (by rw [← e]; exact h))
theorem jt_if_ge {y : Int32} (ha : jx_at pc me.2.2.2.2.2 = some (.ifCond .ge off, len, x, va)) (ht : jx_jp pc off = some t) (kt : 0 ≤ y → jt me fr lo t lv r M dc ds o) (kf : ¬ 0 ≤ y → jt me fr lo (pc + 3) lv r M dc ds o) : jt me fr lo pc lv (.int y :: r) M dc ds o := jt_jz ha ht (fun h => kt (by simpa [jx_cz] using h)) (fun h => kf (by simpa [jx_cz] using h))
theorem jt_icmp_ge {y z : Int32} (ha : jx_at pc me.2.2.2.2.2 = some (.if_icmp .ge off, len, x, va)) (ht : jx_jp pc off = some t) (kt : z ≤ y → jt me fr lo t lv r M dc ds o) (kf : ¬ z ≤ y → jt me fr lo (pc + 3) lv r M dc ds o) : jt me fr lo pc lv (.int z :: .int y :: r) M dc ds o := jt_jc ha ht (fun h => kt (by simpa [jx_cc] using h)) (fun h => kf (by simpa [jx_cc] using h))
theorem jt_lif_ge {y z : Int64} (ha : jx_at pc me.2.2.2.2.2 = some (.ifCond .ge off, len, x, va)) (ht : jx_jp pc off = some t) (kt : z ≤ y → jt me fr lo t lv r M dc ds o) (kf : ¬ z ≤ y → jt me fr lo (pc + 3) lv r M dc ds o) : jt me fr lo pc lv (.int (lg_cmp y z) :: r) M dc ds o := by
  have e : 0 ≤ lg_cmp y z ↔ z ≤ y := by
    unfold lg_cmp
    simp only [gt_iff_lt, Int64.lt_iff_toInt_lt, Int64.le_iff_toInt_le, ← Int64.toInt_inj]
    repeat' split
    all_goals simp [Int32.lt_iff_toInt_lt, Int32.le_iff_toInt_le]
    all_goals omega
  exact jt_if_ge ha ht (fun h => kt (by rw [← e]; exact h)) (fun h => kf (by rw [← e]; exact h))
theorem jt_if_gt {y : Int32} (ha : jx_at pc me.2.2.2.2.2 = some (.ifCond .gt off, len, x, va)) (ht : jx_jp pc off = some t) (kt : 0 < y → jt me fr lo t lv r M dc ds o) (kf : ¬ 0 < y → jt me fr lo (pc + 3) lv r M dc ds o) : jt me fr lo pc lv (.int y :: r) M dc ds o := jt_jz ha ht (fun h => kt (by simpa [jx_cz] using h)) (fun h => kf (by simpa [jx_cz] using h))
theorem jt_icmp_gt {y z : Int32} (ha : jx_at pc me.2.2.2.2.2 = some (.if_icmp .gt off, len, x, va)) (ht : jx_jp pc off = some t) (kt : z < y → jt me fr lo t lv r M dc ds o) (kf : ¬ z < y → jt me fr lo (pc + 3) lv r M dc ds o) : jt me fr lo pc lv (.int z :: .int y :: r) M dc ds o := jt_jc ha ht (fun h => kt (by simpa [jx_cc] using h)) (fun h => kf (by simpa [jx_cc] using h))
theorem jt_lif_gt {y z : Int64} (ha : jx_at pc me.2.2.2.2.2 = some (.ifCond .gt off, len, x, va)) (ht : jx_jp pc off = some t) (kt : z < y → jt me fr lo t lv r M dc ds o) (kf : ¬ z < y → jt me fr lo (pc + 3) lv r M dc ds o) : jt me fr lo pc lv (.int (lg_cmp y z) :: r) M dc ds o := by
  have e : 0 < lg_cmp y z ↔ z < y := by
    unfold lg_cmp
    simp only [gt_iff_lt, Int64.lt_iff_toInt_lt, Int64.le_iff_toInt_le, ← Int64.toInt_inj]
    repeat' split
    all_goals simp [Int32.lt_iff_toInt_lt, Int32.le_iff_toInt_le]
    all_goals omega
  exact jt_if_gt ha ht (fun h => kt (by rw [← e]; exact h)) (fun h => kf (by rw [← e]; exact h))
theorem jt_if_le {y : Int32} (ha : jx_at pc me.2.2.2.2.2 = some (.ifCond .le off, len, x, va)) (ht : jx_jp pc off = some t) (kt : y ≤ 0 → jt me fr lo t lv r M dc ds o) (kf : ¬ y ≤ 0 → jt me fr lo (pc + 3) lv r M dc ds o) : jt me fr lo pc lv (.int y :: r) M dc ds o := jt_jz ha ht (fun h => kt (by simpa [jx_cz] using h)) (fun h => kf (by simpa [jx_cz] using h))
theorem jt_icmp_le {y z : Int32} (ha : jx_at pc me.2.2.2.2.2 = some (.if_icmp .le off, len, x, va)) (ht : jx_jp pc off = some t) (kt : y ≤ z → jt me fr lo t lv r M dc ds o) (kf : ¬ y ≤ z → jt me fr lo (pc + 3) lv r M dc ds o) : jt me fr lo pc lv (.int z :: .int y :: r) M dc ds o := jt_jc ha ht (fun h => kt (by simpa [jx_cc] using h)) (fun h => kf (by simpa [jx_cc] using h))
theorem jt_lif_le {y z : Int64} (ha : jx_at pc me.2.2.2.2.2 = some (.ifCond .le off, len, x, va)) (ht : jx_jp pc off = some t) (kt : y ≤ z → jt me fr lo t lv r M dc ds o) (kf : ¬ y ≤ z → jt me fr lo (pc + 3) lv r M dc ds o) : jt me fr lo pc lv (.int (lg_cmp y z) :: r) M dc ds o := by
  have e : lg_cmp y z ≤ 0 ↔ y ≤ z := by
    unfold lg_cmp
    simp only [gt_iff_lt, Int64.lt_iff_toInt_lt, Int64.le_iff_toInt_le, ← Int64.toInt_inj]
    repeat' split
    all_goals simp [Int32.lt_iff_toInt_lt, Int32.le_iff_toInt_le]
    all_goals omega
  exact jt_if_le ha ht (fun h => kt (by rw [← e]; exact h)) (fun h => kf (by rw [← e]; exact h))
theorem jt_goto (ha : jx_at pc me.2.2.2.2.2 = some (.goto off, len, x, va)) (ht : jx_jp pc off = some t) {st : List Value} (kk : jt me fr lo t lv st M dc ds o) : jt me fr lo pc lv st M dc ds o := jt_go ha (by show jx_to true pc 3 off lv st M dc ds = _; simp only [jx_to, ht]) kk
theorem jt_idiv {y z : Int32} (ha : jx_at pc me.2.2.2.2.2 = some (.idiv, len, x, va)) (hz : ¬ z = 0) (kk : jt me fr lo (pc + 1) lv (.int (y / z) :: r) M dc ds o) : jt me fr lo pc lv (.int z :: .int y :: r) M dc ds o := jt_go ha (by show jx_k (pc + 1) lv (jx_iz _ _) M dc ds = _; simp only [jx_iz, if_neg hz, jx_k]) kk
theorem jt_ldiv {y z : Int64} (ha : jx_at pc me.2.2.2.2.2 = some (.ldiv, len, x, va)) (hz : ¬ z = 0) (kk : jt me fr lo (pc + 1) lv (.long (y / z) :: r) M dc ds o) : jt me fr lo pc lv (.long z :: .long y :: r) M dc ds o := jt_go ha (by show jx_k (pc + 1) lv (jx_lz _ _) M dc ds = _; simp only [jx_lz, if_neg hz, jx_k]) kk
theorem jt_irem {y z : Int32} (ha : jx_at pc me.2.2.2.2.2 = some (.irem, len, x, va)) (hz : ¬ z = 0) (kk : jt me fr lo (pc + 1) lv (.int (y - y / z * z) :: r) M dc ds o) : jt me fr lo pc lv (.int z :: .int y :: r) M dc ds o := jt_go ha (by show jx_k (pc + 1) lv (jx_iz _ _) M dc ds = _; simp only [jx_iz, if_neg hz, jx_k]) kk
theorem jt_lrem {y z : Int64} (ha : jx_at pc me.2.2.2.2.2 = some (.lrem, len, x, va)) (hz : ¬ z = 0) (kk : jt me fr lo (pc + 1) lv (.long (y - y / z * z) :: r) M dc ds o) : jt me fr lo pc lv (.long z :: .long y :: r) M dc ds o := jt_go ha (by show jx_k (pc + 1) lv (jx_lz _ _) M dc ds = _; simp only [jx_lz, if_neg hz, jx_k]) kk
theorem jt_lret {v : Int64} (ha : jx_at pc me.2.2.2.2.2 = some (.lreturn, len, x, va)) (hr : me.2.2.2.1 = some .long) (k : (.inl (some (.long v)), M, dc, ds) = o) : jt me fr lo pc lv [.long v] M dc ds o := by
  refine jt_ret ha ?_ k
  show jx_rl me.2.2.2.1 [.long v] = _
  rw [hr]
  rfl
theorem jt_vret (ha : jx_at pc me.2.2.2.2.2 = some (.return_, len, x, va)) (hr : me.2.2.2.1 = none) (k : (.inl none, M, dc, ds) = o) : jt me fr lo pc lv [] M dc ds o := by
  refine jt_ret ha ?_ k
  show jx_rv me.2.2.2.1 [] = _
  rw [hr]
  rfl
theorem jt_tabOut {d lw hi : Int} {offs : Array Int} {y : Int32} (ha : jx_at pc me.2.2.2.2.2 = some (.tableswitch d lw hi offs, len, x, va)) (hy : y.toInt < lw ∨ hi < y.toInt) (ht : jx_jp pc d = some t) (kk : jt me fr lo t lv r M dc ds o) : jt me fr lo pc lv (.int y :: r) M dc ds o := jt_go ha (by show jx_ts pc d lw hi offs lv M dc ds (.int y :: r) = _; simp only [jx_ts]; rw [if_pos hy]; simp only [jx_to, ht]) kk
theorem jt_tabEq {d lw hi off : Int} {offs : Array Int} {y k : Int32} (ha : jx_at pc me.2.2.2.2.2 = some (.tableswitch d lw hi offs, len, x, va)) (hy : y = k) (h1 : ¬ (k.toInt < lw ∨ hi < k.toInt)) (h2 : offs[(k.toInt - lw).toNat]? = some off) (ht : jx_jp pc off = some t) (kk : jt me fr lo t lv r M dc ds o) : jt me fr lo pc lv (.int y :: r) M dc ds o := by
  subst hy
  refine jt_go ha ?_ kk
  show jx_ts pc d lw hi offs lv M dc ds (.int y :: r) = _
  simp only [jx_ts]
  rw [if_neg h1, h2]
  simp only [jx_to, ht]
theorem jt_hq {M1 : jx_H} {st : List Value} (e1 : M = M1) (k : jt me fr lo pc lv st M1 dc ds o) : jt me fr lo pc lv st M dc ds o := e1 ▸ k
theorem jt_topi {v : Int32} {st : List Value} (k : ∀ w : Int32, w = v → jt me fr lo pc lv (.int w :: st) M dc ds o) : jt me fr lo pc lv (.int v :: st) M dc ds o := k v rfl
theorem jt_topl {v : Int64} {st : List Value} (k : ∀ w : Int64, w = v → jt me fr lo pc lv (.long w :: st) M dc ds o) : jt me fr lo pc lv (.long v :: st) M dc ds o := k v rfl
theorem jt_sgp (n : Nat) {pc1 : Nat} {lv1 : List (Nat × Value)} {st st1 : List Value} (h : jx_sg me n pc lv st M dc ds = some (pc1, lv1, st1, M, dc, ds)) (k : jt me fr lo pc1 lv1 st1 M dc ds o) : jt me fr lo pc lv st M dc ds o := jt_sg n h k
theorem jt_callv {k n ci b idx mx : Nat} {st As : List Value} {m2 : jx_Me} {v : Option Value} {M1 : jx_H} {c1 s1 : Nat} {fs : List Value} (ha : jx_at pc me.2.2.2.2.2 = some (.invokevirtual idx, len, [k, n, ci], va)) (hd : st.drop n = .ref b :: r) (ht : (st.take n).reverse = As) (hM : M[b]? = some (ci, fs)) (hcat : jx_cat r ≤ 8) (hk : Nat.ble 9000 k = false) (hP : jx_P[k]? = some m2) (hmx : m2.2.2.1 = mx) (hf : 1 ≤ fr) (hl : mx + 19 ≤ lo) (hA : (lg_sl (.ref b :: As)).length ≤ mx)
    (hc : jt m2 (fr - 1) (lo - (mx + 19)) 0 (lv_args 0 (.ref b :: As)) [] M 0 0 (.inl v, M1, c1, s1)) (kk : jt me fr lo (pc + 3) lv (v.toList ++ r) M1 (dc + c1) (ds + s1) o) : jt me fr lo pc lv st M dc ds o := by
  refine jt_call (As := .ref b :: As) (r := r) ha ?_ hk hP hmx hf hl hA hc kk
  show jx_cv M [k, n, ci] st = _
  simp only [jx_cv, hd, hM, ht]
  rw [if_pos ⟨trivial, hcat⟩]
end JR
