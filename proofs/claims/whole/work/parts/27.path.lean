section JQ
theorem jx_xe {M H : jx_H} {n c s ci : Nat} (h1 : M.length = n) (h2 : M = H) : ((.inr M.length, M ++ [(ci, [])], c, s) : jx_O) = (.inr n, H ++ [(ci, [])], c, s) := by rw [h1, h2]
theorem jx_xe2 {M M2 H G : jx_H} {n c s : Nat} (h1 : M.length = n) (h2 : M2 = H) : ((.inr M.length, M2 ++ G, c, s) : jx_O) = (.inr n, H ++ G, c, s) := by rw [h1, h2]
theorem jx_gx {H : jx_H} {n ci : Nat} (h : H.length = n) : (H ++ [(ci, [])])[n]? = some (ci, []) := by
  rw [← h]
  simp
theorem jx_ga {M G : jx_H} : ∀ {L : List (Nat × (Nat × List Value))}, (∀ a ∈ L.map Prod.fst, a < M.length) → jx_us M L ++ G = jx_us (M ++ G) L
  | [], _ => rfl
  | (a, x) :: L, h => by
    have h1 : a < M.length := h a List.mem_cons_self
    rw [jx_us, jx_us, ← jx_ga (fun b hb => h b (List.mem_cons_of_mem _ hb)), List.set_append_left _ _ (by rw [jx_us_len]; exact h1)]
theorem jx_gi {M G : jx_H} {L Lc L1 : List (Nat × (Nat × List Value))} (hnd : (L.map Prod.fst).Nodup) (hlt : ∀ a ∈ L.map Prod.fst, a < M.length) (ks : List Nat) (hk : ks.map (fun k => (L[k]?).map Prod.fst) = Lc.map (fun q => some q.1)) (he : jx_wr L Lc ks = L1) : jx_us (jx_us M L) Lc ++ G = jx_us (M ++ G) L1 := by
  have h1 := jx_wr_fst Lc ks hk
  rw [he] at h1
  rw [jx_into hnd ks hk he]
  exact jx_ga (by rw [h1]; exact hlt)
theorem jx_gr {M G : jx_H} {L Lc L1 : List (Nat × (Nat × List Value))} (hnd : (L.map Prod.fst).Nodup) (hlt : ∀ a ∈ L.map Prod.fst, a < M.length) (ks : List Nat) (hk : ks.map (fun k => (L[k]?).map Prod.fst) = Lc.map (fun q => some q.1)) (he : jx_wr L Lc ks = L1) : jx_us (jx_us M L ++ G) Lc = jx_us (M ++ G) L1 := by
  rw [jx_ga hlt]
  exact jx_into hnd ks hk he
theorem jx_lga {M G : jx_H} {l : List Nat} (h : ∀ a ∈ l, a < M.length) : ∀ a ∈ l, a < (M ++ G).length := fun a ha => by
  rw [List.length_append]
  have := h a ha
  omega
theorem jx_hb {M G : jx_H} {L : List (Nat × (Nat × List Value))} (hL : ∀ q ∈ L, M[q.1]? = some q.2) : ∀ q ∈ L, (M ++ G)[q.1]? = some q.2 := fun q hq => by
  have h := hL q hq
  rw [List.getElem?_append_left (List.getElem?_eq_some_iff.mp h).1]
  exact h
variable {me : jx_Me} {fr lo pc : Nat} {lv : List (Nat × Value)} {M : jx_H} {dc ds : Nat} {o : jx_O} {len t : Nat} {x : List Nat} {va : Value} {off : Int} {r : List Value}
theorem jt_callXv {k n ci cj b idx mx : Nat} {st As : List Value} {m2 : jx_Me} {a : Nat} {M1 : jx_H} {c1 s1 : Nat} {fs fx : List Value} (ha : jx_at pc me.2.2.2.2.2 = some (.invokevirtual idx, len, [k, n, cj], va)) (hd : st.drop n = .ref b :: r) (ht : (st.take n).reverse = As) (hM : M[b]? = some (cj, fs)) (hcat : jx_cat r ≤ 8) (hk : Nat.ble 9000 k = false) (hP : jx_P[k]? = some m2) (hmx : m2.2.2.1 = mx) (hf : 1 ≤ fr) (hl : mx + 19 ≤ lo) (hA : (lg_sl (.ref b :: As)).length ≤ mx)
    (hc : jt m2 (fr - 1) (lo - (mx + 19)) 0 (lv_args 0 (.ref b :: As)) [] M 0 0 (.inr a, M1, c1, s1)) (hx : M1[a]? = some (ci, fx)) (hh : me.2.2.2.2.1 = []) (kk : (.inr a, M1, dc + c1, ds + s1) = o) : jt me fr lo pc lv st M dc ds o := by
  refine jt_callX (As := .ref b :: As) (r := r) ha ?_ hk hP hmx hf hl hA hc hx hh kk
  show jx_cv M [k, n, cj] st = _
  simp only [jx_cv, hd, hM, ht]
  rw [if_pos ⟨trivial, hcat⟩]
theorem jt_callCv {k n ci cj b idx mx : Nat} {st As : List Value} {m2 : jx_Me} {a : Nat} {M1 : jx_H} {c1 s1 : Nat} {fs fx : List Value} {q : Nat × Nat × Nat × Nat × Nat} {hs0 : List (Nat × Nat × Nat × Nat × Nat)} (ha : jx_at pc me.2.2.2.2.2 = some (.invokevirtual idx, len, [k, n, cj], va)) (hd : st.drop n = .ref b :: r) (ht : (st.take n).reverse = As) (hM : M[b]? = some (cj, fs)) (hcat : jx_cat r ≤ 8) (hk : Nat.ble 9000 k = false) (hP : jx_P[k]? = some m2) (hmx : m2.2.2.1 = mx) (hf : 1 ≤ fr) (hl : mx + 19 ≤ lo) (hA : (lg_sl (.ref b :: As)).length ≤ mx)
    (hc : jt m2 (fr - 1) (lo - (mx + 19)) 0 (lv_args 0 (.ref b :: As)) [] M 0 0 (.inr a, M1, c1, s1)) (hx : M1[a]? = some (ci, fx)) (hh : me.2.2.2.2.1 = q :: hs0) (hhd : jx_hd pc ci (q :: hs0) = some t) (kk : jt me fr lo t lv [.ref a] M1 (dc + c1) (ds + s1) o) : jt me fr lo pc lv st M dc ds o := by
  refine jt_callC (As := .ref b :: As) (r := r) ha ?_ hk hP hmx hf hl hA hc hx hh hhd kk
  show jx_cv M [k, n, cj] st = _
  simp only [jx_cv, hd, hM, ht]
  rw [if_pos ⟨trivial, hcat⟩]
theorem jt_aret {v : Nat} {C : String} (ha : jx_at pc me.2.2.2.2.2 = some (.areturn, len, x, va)) (hr : me.2.2.2.1 = some (.object C)) (k : (.inl (some (.ref v)), M, dc, ds) = o) : jt me fr lo pc lv [.ref v] M dc ds o := by
  refine jt_ret ha ?_ k
  show jx_ra me.2.2.2.1 [.ref v] = _
  rw [hr]
  rfl
theorem jt_tope {v w : Nat} {st : List Value} (e : v = w) (k : jt me fr lo pc lv (.ref w :: st) M dc ds o) : jt me fr lo pc lv (.ref v :: st) M dc ds o := by
  subst e
  exact k
end JQ
