section JG3
theorem mm_set {q a : Nat} {S S1 : jS} {M : jx_H} {c : Nat × List Value} (h : mm q S M) (ha : 24 ≤ a) (hb : a < 453) (hS : ∀ b, b ≠ a → S1.1 b = S.1 b ∧ S1.2.1 b = S.2.1 b ∧ S1.2.2 b = S.2.2 b) (hc : j_cl a (S1.1 a) (S1.2.1 a) (S1.2.2 a) = c) : mm q S1 (M.set a c) ∧ fx q M (M.set a c) := by
  obtain ⟨h1, h2, h3, h4⟩ := h
  refine ⟨⟨by simpa using h1, fun b g1 g2 => ?_, fun b g1 g2 => ?_, ?_⟩, by simp, fun b g1 g2 => ?_⟩
  · by_cases e : b = a
    · subst e
      rw [List.getElem?_set_self (by omega), hc]
    · rw [List.getElem?_set_ne (Ne.symm e), (hS b e).1, (hS b e).2.1, (hS b e).2.2]
      exact h2 b g1 g2
  · rw [List.getElem?_set_ne (by omega)]
    exact h3 b g1 g2
  · rcases h4 with h4 | ⟨h4, h5⟩
    · exact Or.inl h4
    · refine Or.inr ⟨h4, ?_⟩
      rw [List.getElem?_set_ne (by omega), (hS 453 (by omega)).1]
      exact h5
  · rw [List.getElem?_set_ne (by omega)]
theorem w_i_ne {S : jS} {a k b : Nat} {v : Int32} (e : b ≠ a) : (w_i S a k v).1 b = S.1 b ∧ (w_i S a k v).2.1 b = S.2.1 b ∧ (w_i S a k v).2.2 b = S.2.2 b := ⟨if_neg e, rfl, rfl⟩
theorem w_l_ne {S : jS} {a k b : Nat} {v : Int64} (e : b ≠ a) : (w_l S a k v).1 b = S.1 b ∧ (w_l S a k v).2.1 b = S.2.1 b ∧ (w_l S a k v).2.2 b = S.2.2 b := ⟨rfl, if_neg e, rfl⟩
theorem w_r_ne {S : jS} {a k b : Nat} {v : Nat} (e : b ≠ a) : (w_r S a k v).1 b = S.1 b ∧ (w_r S a k v).2.1 b = S.2.1 b ∧ (w_r S a k v).2.2 b = S.2.2 b := ⟨rfl, rfl, if_neg e⟩
theorem w_c_ne {S : jS} {a k l n b : Nat} (e : b ≠ a) : (w_c S a k l n).1 b = S.1 b ∧ (w_c S a k l n).2.1 b = S.2.1 b ∧ (w_c S a k l n).2.2 b = S.2.2 b := ⟨if_neg e, rfl, rfl⟩
theorem w_i_eq {S : jS} {a k : Nat} {v : Int32} : (w_i S a k v).1 a = upd (S.1 a) k v := if_pos rfl
theorem w_l_eq {S : jS} {a k : Nat} {v : Int64} : (w_l S a k v).2.1 a = vp_updL (S.2.1 a) k v := if_pos rfl
theorem w_r_eq {S : jS} {a k : Nat} {v : Nat} : (w_r S a k v).2.2 a = va_up (S.2.2 a) k v := if_pos rfl
theorem w_c_eq {S : jS} {a k l n : Nat} : (w_c S a k l n).1 a = cp_f k l n (S.1 a) := if_pos rfl
theorem mm_ka {q a : Nat} {S : jS} {M : jx_H} {f : (Nat → Int32) → (Nat → Int64) → (Nat → Nat) → Nat × List Value} (h : mm q S M) (k : ka a f) : M[a]? = some (f (S.1 a) (S.2.1 a) (S.2.2 a)) := by
  rw [h.2.1 a k.1 k.2.1, k.2.2]
theorem mm_app {q : Nat} {S : jS} {M : jx_H} (h : mm q S M) (X : jx_H) : mm q S (M ++ X) ∧ fx q M (M ++ X) := by
  obtain ⟨h1, h2, h3, h4⟩ := h
  refine ⟨⟨by rw [List.length_append]; omega, fun b g1 g2 => ?_, fun b g1 g2 => ?_, ?_⟩, by simp, fun b g1 g2 => ?_⟩
  · rw [List.getElem?_append_left (by omega)]
    exact h2 b g1 g2
  · rw [List.getElem?_append_left (by omega)]
    exact h3 b g1 g2
  · rcases h4 with h4 | ⟨h4, h5⟩
    · exact Or.inl h4
    · refine Or.inr ⟨h4, ?_⟩
      rw [List.getElem?_append_left (List.getElem?_eq_some_iff.mp h5).1]
      exact h5
  · rw [List.getElem?_append_left g1]
variable {ρ σ τ : Type} {q : Nat} {me m2 : jx_Me} {rF rL pc pc1 : Nat} {lv lv1 : List (Nat × Value)} {st st1 r : List Value} {S S1 : jS} {n n1 n2 : Nat} {φ : ρ → jR × jS} {ψ : σ → jR × jS} {E E1 E2 : Option ρ} {len idx ci k a t f0 N : Nat} {x : List Nat} {va v : Value} {off : Int} {i : Int32}
theorem jg_none : jg q me rF rL pc lv st S n φ (none : Option ρ) := fun _ _ _ h => by cases h
theorem jg_st (h : ∀ M, mm q S M → ∀ dc ds o, jt me rF rL pc1 lv1 st1 M dc ds o → jt me rF rL pc lv st M dc ds o) (kk : jg q me rF rL pc1 lv1 st1 S n φ E) : jg q me rF rL pc lv st S n φ E := by
  intro M hM z hz dc ds
  obtain ⟨o, M', c, s, h1, h2⟩ := kk M hM z hz dc ds
  exact ⟨o, M', c, s, h M hM dc ds _ h1, h2⟩
theorem jg_wr (h : ∀ M, mm q S M → ∃ M1, mm q S1 M1 ∧ fx q M M1 ∧ ∀ dc ds o, jt me rF rL pc1 lv1 st1 M1 dc ds o → jt me rF rL pc lv st M dc ds o) (kk : jg q me rF rL pc1 lv1 st1 S1 n φ E) : jg q me rF rL pc lv st S n φ E := by
  intro M hM z hz dc ds
  obtain ⟨M1, g1, g2, g3⟩ := h M hM
  obtain ⟨o, M', c, s, h1, h2, h3, h4⟩ := kk M1 g1 z hz dc ds
  exact ⟨o, M', c, s, g3 dc ds _ h1, h2, fx_tr g2 h3, h4⟩
theorem jg_sg (m : Nat) (h : ∀ M dc ds, jx_sg me m pc lv st M dc ds = some (pc1, lv1, st1, M, dc, ds)) (kk : jg q me rF rL pc1 lv1 st1 S n φ E) : jg q me rF rL pc lv st S n φ E := jg_st (fun M _ dc ds _ k => jt_sg m (h M dc ds) k) kk
theorem jg_lvs (n1 : jx_ndb lv1 = true) (n2 : jx_ndb lv = true) (h : jx_subl lv lv1) (kk : jg q me rF rL pc lv1 st S n φ E) : jg q me rF rL pc lv st S n φ E := jg_st (fun _ _ _ _ _ k => jt_lvs n1 n2 h k) kk
theorem jg_br {c : Prop} [Decidable c] {p1 p2 : Nat} {l1 l2 : List (Nat × Value)} {s1 s2 : List Value} (h : ∀ M dc ds o, (c → jt me rF rL p1 l1 s1 M dc ds o) → (¬ c → jt me rF rL p2 l2 s2 M dc ds o) → jt me rF rL pc lv st M dc ds o) (k1 : c → jg q me rF rL p1 l1 s1 S n φ E1) (k2 : ¬ c → jg q me rF rL p2 l2 s2 S n φ E2) : jg q me rF rL pc lv st S n φ (if c then E1 else E2) := by
  by_cases hc : c
  · rw [if_pos hc]
    exact jg_st (fun M _ dc ds o k => h M dc ds o (fun _ => k) (fun g => absurd hc g)) (k1 hc)
  · rw [if_neg hc]
    exact jg_st (fun M _ dc ds o k => h M dc ds o (fun g => absurd g hc) (fun _ => k)) (k2 hc)
theorem jg_q {b : Bool} (kk : b = true → jg q me rF rL pc lv st S n φ E) : jg q me rF rL pc lv st S n φ (j_q b E) := by
  cases b with
  | true => exact kk rfl
  | false => exact jg_none
theorem jg_if {c : Prop} [Decidable c] (k1 : c → jg q me rF rL pc lv st S n φ E1) (k2 : ¬ c → jg q me rF rL pc lv st S n φ E2) : jg q me rF rL pc lv st S n φ (if c then E1 else E2) := by
  by_cases hc : c
  · rw [if_pos hc]
    exact k1 hc
  · rw [if_neg hc]
    exact k2 hc
theorem jg_let {α : Type} {e : α} {K : α → Option ρ} (kk : jg q me rF rL pc lv st S n φ (K e)) : jg q me rF rL pc lv st S n φ (j_l e K) := kk
/-- a value in a local gets a name -/
theorem jg_vi {e : Int32} {s : Nat} {l : List (Nat × Value)} {K : Int32 → Option ρ} (kk : ∀ w : Int32, jg q me rF rL pc ((s, .int w) :: l) st S n φ (K w)) : jg q me rF rL pc ((s, .int e) :: l) st S n φ (j_l e K) := kk e
theorem jg_vl {e : Int64} {s : Nat} {l : List (Nat × Value)} {K : Int64 → Option ρ} (kk : ∀ w : Int64, jg q me rF rL pc ((s, .long w) :: l) st S n φ (K w)) : jg q me rF rL pc ((s, .long e) :: l) st S n φ (j_l e K) := kk e
theorem jg_va {P : Nat → Prop} {e : Nat} {s : Nat} {l : List (Nat × Value)} {K : Nat → Option ρ} (h : P e) (kk : ∀ w : Nat, P w → jg q me rF rL pc ((s, .ref w) :: l) st S n φ (K w)) : jg q me rF rL pc ((s, .ref e) :: l) st S n φ (j_l e K) := kk e h
theorem jg_ri {ty : FieldType} {w : Int32} {z : ρ} (ha : jx_at pc me.2.2.2.2.2 = some (.ireturn, len, x, va)) (hr : me.2.2.2.1 = some ty) (hn : narrow ty (.int w) = .int w) (hz : φ z = (.inl (some (.int w)), S)) : jg q me rF rL pc lv [.int w] S n φ (some z) := by
  intro M hM z' hz' dc ds
  cases hz'
  refine ⟨_, _, _, _, jt_iret ha hr hn rfl, ?_, fx_rf, ?_, ?_, ?_⟩
  · rw [hz]; exact hM
  · rw [hz]; rfl
  · omega
  · omega
/-- a truth that is returned has to be one -/
theorem jg_rz {w : Int32} {z : ρ} (ha : jx_at pc me.2.2.2.2.2 = some (.ireturn, len, x, va)) (hr : me.2.2.2.1 = some .boolean) (hz : φ z = (.inl (some (.int w)), S)) : jg q me rF rL pc lv [.int w] S n φ (j_q (decide (w = 0) || decide (w = 1)) (some z)) := by
  refine jg_q (fun g => ?_)
  refine jg_ri ha hr ?_ hz
  simp only [Bool.or_eq_true, decide_eq_true_eq] at g
  rcases g with rfl | rfl <;> rfl
theorem jg_rl {w : Int64} {z : ρ} (ha : jx_at pc me.2.2.2.2.2 = some (.lreturn, len, x, va)) (hr : me.2.2.2.1 = some .long) (hz : φ z = (.inl (some (.long w)), S)) : jg q me rF rL pc lv [.long w] S n φ (some z) := by
  intro M hM z' hz' dc ds
  cases hz'
  refine ⟨_, _, _, _, jt_lret ha hr rfl, ?_, fx_rf, ?_, ?_, ?_⟩
  · rw [hz]; exact hM
  · rw [hz]; rfl
  · omega
  · omega
theorem jg_rv {z : ρ} (ha : jx_at pc me.2.2.2.2.2 = some (.return_, len, x, va)) (hr : me.2.2.2.1 = none) (hz : φ z = (.inl none, S)) : jg q me rF rL pc lv [] S n φ (some z) := by
  intro M hM z' hz' dc ds
  cases hz'
  refine ⟨_, _, _, _, jt_vret ha hr rfl, ?_, fx_rf, ?_, ?_, ?_⟩
  · rw [hz]; exact hM
  · rw [hz]; rfl
  · omega
  · omega
theorem jg_ra {w : Nat} {C : String} {z : ρ} (ha : jx_at pc me.2.2.2.2.2 = some (.areturn, len, x, va)) (hr : me.2.2.2.1 = some (.object C)) (hz : φ z = (.inl (some (.ref w)), S)) : jg q me rF rL pc lv [.ref w] S n φ (some z) := by
  intro M hM z' hz' dc ds
  cases hz'
  refine ⟨_, _, _, _, jt_aret ha hr rfl, ?_, fx_rf, ?_, ?_, ?_⟩
  · rw [hz]; exact hM
  · rw [hz]; rfl
  · omega
  · omega
theorem jg_thr {z : ρ} (ha : jx_at pc me.2.2.2.2.2 = some (.new idx, len, [ci], va)) (hs : ∀ M dc ds, jx_step jx_df me.2.2.1 me.2.2.2.1 (me.1.name == "<init>") (.new idx) [ci] va pc lv st M dc ds = some (.inr (.inr (.inr ci)))) (hh : me.2.2.2.2.1 = []) (hf : 6 ≤ rF) (hl : jx_cat st + 81 ≤ rL) (hz : φ z = (.inr ci, S)) : jg q me rF rL pc lv st S n φ (some z) := by
  intro M hM z' hz' dc ds
  cases hz'
  refine ⟨_, _, _, _, jt_throw ha (hs M dc ds) hh hf hl rfl, ?_, (mm_app hM [(ci, [])]).2, ?_, ?_, ?_⟩
  · rw [hz]; exact (mm_app hM [(ci, [])]).1
  · rw [hz]; exact ⟨_, rfl, by simp⟩
  · rw [hz]; simp only [jn_x]; omega
  · rw [hz]; simp only [jn_x]; omega
theorem jg_g {f : (Nat → Int32) → (Nat → Int64) → (Nat → Nat) → Nat × List Value} {fs : List Value} (ha : jx_at pc me.2.2.2.2.2 = some (.getfield idx, len, [ci, k], va)) (hc : ka a f) (h0 : f (S.1 a) (S.2.1 a) (S.2.2 a) = (ci, fs)) (hk : fs[k]? = some v) (kk : jg q me rF rL (pc + 3) lv (v :: r) S n φ E) : jg q me rF rL pc lv (.ref a :: r) S n φ E :=
  jg_st (fun M hM dc ds o h => jt_get ha ((mm_ka hM hc).trans (congrArg some h0)) hk h) kk
theorem jg_pi {f : (Nat → Int32) → (Nat → Int64) → (Nat → Nat) → Nat × List Value} {fs : List Value} {w : Int32} {K : jS → Option ρ} (ha : jx_at pc me.2.2.2.2.2 = some (.putfield idx, len, [ci, k, t, 0], va)) (hc : ka a f) (h0 : f (S.1 a) (S.2.1 a) (S.2.2 a) = (ci, fs)) (hk : k < fs.length) (hf : jx_fit t (.int w) = true) (h1 : f (upd (S.1 a) k w) (S.2.1 a) (S.2.2 a) = (ci, fs.set k (.int w))) (kk : ∀ S1, S1 = w_i S a k w → jg q me rF rL (pc + 3) lv r S1 n φ (K S1)) : jg q me rF rL pc lv (.int w :: .ref a :: r) S n φ (j_l (w_i S a k w) K) := by
  refine jg_wr (S1 := w_i S a k w) (fun M hM => ⟨M.set a (ci, fs.set k (.int w)), ?_⟩) (kk _ rfl)
  have h2 := mm_set (c := (ci, fs.set k (.int w))) hM hc.1 hc.2.1 (fun b e => w_i_ne (S := S) (k := k) (v := w) e) (by rw [w_i_eq, ← h1]; exact hc.2.2 _ _ _)
  exact ⟨h2.1, h2.2, fun dc ds o h => jt_put ha ((mm_ka hM hc).trans (congrArg some h0)) hk hf (Or.inl rfl) rfl h⟩
theorem jg_pl {f : (Nat → Int32) → (Nat → Int64) → (Nat → Nat) → Nat × List Value} {fs : List Value} {w : Int64} {K : jS → Option ρ} (ha : jx_at pc me.2.2.2.2.2 = some (.putfield idx, len, [ci, k, t, 0], va)) (hc : ka a f) (h0 : f (S.1 a) (S.2.1 a) (S.2.2 a) = (ci, fs)) (hk : k < fs.length) (hf : jx_fit t (.long w) = true) (h1 : f (S.1 a) (vp_updL (S.2.1 a) k w) (S.2.2 a) = (ci, fs.set k (.long w))) (kk : ∀ S1, S1 = w_l S a k w → jg q me rF rL (pc + 3) lv r S1 n φ (K S1)) : jg q me rF rL pc lv (.long w :: .ref a :: r) S n φ (j_l (w_l S a k w) K) := by
  refine jg_wr (S1 := w_l S a k w) (fun M hM => ⟨M.set a (ci, fs.set k (.long w)), ?_⟩) (kk _ rfl)
  have h2 := mm_set (c := (ci, fs.set k (.long w))) hM hc.1 hc.2.1 (fun b e => w_l_ne (S := S) (k := k) (v := w) e) (by rw [w_l_eq, ← h1]; exact hc.2.2 _ _ _)
  exact ⟨h2.1, h2.2, fun dc ds o h => jt_put ha ((mm_ka hM hc).trans (congrArg some h0)) hk hf (Or.inl rfl) rfl h⟩
theorem jg_pr {f : (Nat → Int32) → (Nat → Int64) → (Nat → Nat) → Nat × List Value} {fs : List Value} {w : Nat} {K : jS → Option ρ} (ha : jx_at pc me.2.2.2.2.2 = some (.putfield idx, len, [ci, k, t, 0], va)) (hc : ka a f) (h0 : f (S.1 a) (S.2.1 a) (S.2.2 a) = (ci, fs)) (hk : k < fs.length) (hf : jx_fit t (.ref w) = true) (h1 : f (S.1 a) (S.2.1 a) (va_up (S.2.2 a) k w) = (ci, fs.set k (.ref w))) (kk : ∀ S1, S1 = w_r S a k w → jg q me rF rL (pc + 3) lv r S1 n φ (K S1)) : jg q me rF rL pc lv (.ref w :: .ref a :: r) S n φ (j_l (w_r S a k w) K) := by
  refine jg_wr (S1 := w_r S a k w) (fun M hM => ⟨M.set a (ci, fs.set k (.ref w)), ?_⟩) (kk _ rfl)
  have h2 := mm_set (c := (ci, fs.set k (.ref w))) hM hc.1 hc.2.1 (fun b e => w_r_ne (S := S) (k := k) (v := w) e) (by rw [w_r_eq, ← h1]; exact hc.2.2 _ _ _)
  exact ⟨h2.1, h2.2, fun dc ds o h => jt_put ha ((mm_ka hM hc).trans (congrArg some h0)) hk hf (Or.inl rfl) rfl h⟩
theorem jg_ial (ha : jx_at pc me.2.2.2.2.2 = some (.iaload, len, x, va)) (hc : ka a (fun i _ _ => (102, jx_vi N i))) (kk : j_in i N = true → jg q me rF rL (pc + 1) lv (.int (S.1 a i.toNatClampNeg) :: r) S n φ E) : jg q me rF rL pc lv (.int i :: .ref a :: r) S n φ (j_q (j_in i N) E) :=
  jg_q (fun g => jg_st (fun M hM dc ds o h => jt_iald ha (mm_ka hM hc) (j_in_ok g) h) (kk g))
theorem jg_bal (ha : jx_at pc me.2.2.2.2.2 = some (.baload, len, x, va)) (ht : [100, 101].contains t = true) (hc : ka a (fun i _ _ => (t, jx_vi N i))) (kk : j_in i N = true → jg q me rF rL (pc + 1) lv (.int (S.1 a i.toNatClampNeg) :: r) S n φ E) : jg q me rF rL pc lv (.int i :: .ref a :: r) S n φ (j_q (j_in i N) E) :=
  jg_q (fun g => jg_st (fun M hM dc ds o h => jt_bald ha ht (mm_ka hM hc) (j_in_ok g) h) (kk g))
theorem jg_lal (ha : jx_at pc me.2.2.2.2.2 = some (.laload, len, x, va)) (hc : ka a (fun _ l _ => (103, jx_vl N l))) (kk : j_in i N = true → jg q me rF rL (pc + 1) lv (.long (S.2.1 a i.toNatClampNeg) :: r) S n φ E) : jg q me rF rL pc lv (.int i :: .ref a :: r) S n φ (j_q (j_in i N) E) :=
  jg_q (fun g => jg_st (fun M hM dc ds o h => jt_lald ha (mm_ka hM hc) (j_in_ok g) h) (kk g))
theorem jg_aal {g : (Nat → Nat) → Nat → Nat} {w : Nat} (ha : jx_at pc me.2.2.2.2.2 = some (.aaload, len, x, va)) (ht : [104, 105, 106, 107, 108, 109, 110, 111, 112].contains t = true) (hc : ka a (fun _ _ r => (t, jx_vr N (g r)))) (hw : g (S.2.2 a) i.toNatClampNeg = w) (kk : j_in i N = true → jg q me rF rL (pc + 1) lv (.ref w :: r) S n φ E) : jg q me rF rL pc lv (.int i :: .ref a :: r) S n φ (j_q (j_in i N) E) :=
  jg_q (fun g => jg_st (fun M hM dc ds o h => jt_aald ha ht (mm_ka hM hc) (j_in_ok g) (by rw [hw]; exact h)) (kk g))
theorem jg_ias {w : Int32} {K : jS → Option ρ} (ha : jx_at pc me.2.2.2.2.2 = some (.iastore, len, x, va)) (hc : ka a (fun i _ _ => (102, jx_vi N i))) (kk : j_in i N = true → ∀ S1, S1 = w_i S a i.toNatClampNeg w → jg q me rF rL (pc + 1) lv r S1 n φ (K S1)) : jg q me rF rL pc lv (.int w :: .int i :: .ref a :: r) S n φ (j_q (j_in i N) (j_l (w_i S a i.toNatClampNeg w) K)) := by
  refine jg_q (fun g => jg_wr (S1 := w_i S a i.toNatClampNeg w) (fun M hM => ⟨M.set a (102, jx_vi N (upd (S.1 a) i.toNatClampNeg w)), ?_⟩) (kk g _ rfl))
  have h2 := mm_set (c := (102, jx_vi N (upd (S.1 a) i.toNatClampNeg w))) hM hc.1 hc.2.1 (fun b e => w_i_ne (S := S) (k := i.toNatClampNeg) (v := w) e) (by rw [w_i_eq]; exact hc.2.2 _ _ _)
  exact ⟨h2.1, h2.2, fun dc ds o h => jt_iast ha (mm_ka hM hc) (j_in_ok g) rfl h⟩
theorem jg_bas {w w' : Int32} {K : jS → Option ρ} (ha : jx_at pc me.2.2.2.2.2 = some (.bastore, len, x, va)) (ht : [100, 101].contains t = true) (hc : ka a (fun i _ _ => (t, jx_vi N i))) (hv : jx_nar t (.int w) = .int w') (kk : j_in i N = true → ∀ S1, S1 = w_i S a i.toNatClampNeg w' → jg q me rF rL (pc + 1) lv r S1 n φ (K S1)) : jg q me rF rL pc lv (.int w :: .int i :: .ref a :: r) S n φ (j_q (j_in i N) (j_l (w_i S a i.toNatClampNeg w') K)) := by
  refine jg_q (fun g => jg_wr (S1 := w_i S a i.toNatClampNeg w') (fun M hM => ⟨M.set a (t, jx_vi N (upd (S.1 a) i.toNatClampNeg w')), ?_⟩) (kk g _ rfl))
  have h2 := mm_set (c := (t, jx_vi N (upd (S.1 a) i.toNatClampNeg w'))) hM hc.1 hc.2.1 (fun b e => w_i_ne (S := S) (k := i.toNatClampNeg) (v := w') e) (by rw [w_i_eq]; exact hc.2.2 _ _ _)
  exact ⟨h2.1, h2.2, fun dc ds o h => jt_bast ha ht (mm_ka hM hc) (j_in_ok g) hv rfl h⟩
theorem jg_las {w : Int64} {K : jS → Option ρ} (ha : jx_at pc me.2.2.2.2.2 = some (.lastore, len, x, va)) (hc : ka a (fun _ l _ => (103, jx_vl N l))) (kk : j_in i N = true → ∀ S1, S1 = w_l S a i.toNatClampNeg w → jg q me rF rL (pc + 1) lv r S1 n φ (K S1)) : jg q me rF rL pc lv (.long w :: .int i :: .ref a :: r) S n φ (j_q (j_in i N) (j_l (w_l S a i.toNatClampNeg w) K)) := by
  refine jg_q (fun g => jg_wr (S1 := w_l S a i.toNatClampNeg w) (fun M hM => ⟨M.set a (103, jx_vl N (vp_updL (S.2.1 a) i.toNatClampNeg w)), ?_⟩) (kk g _ rfl))
  have h2 := mm_set (c := (103, jx_vl N (vp_updL (S.2.1 a) i.toNatClampNeg w))) hM hc.1 hc.2.1 (fun b e => w_l_ne (S := S) (k := i.toNatClampNeg) (v := w) e) (by rw [w_l_eq]; exact hc.2.2 _ _ _)
  exact ⟨h2.1, h2.2, fun dc ds o h => jt_last ha (mm_ka hM hc) (j_in_ok g) rfl h⟩
theorem jg_aas {w k2 : Nat} {K : jS → Option ρ} {f : (Nat → Int32) → (Nat → Int64) → (Nat → Nat) → Nat × List Value} {fs : List Value} (ha : jx_at pc me.2.2.2.2.2 = some (.aastore, len, x, va)) (ht : 104 ≤ t ∧ t < 108) (hc : ka a (fun _ _ r => (t, jx_vr N r))) (hw : ka w f) (h0 : f (S.1 w) (S.2.1 w) (S.2.2 w) = (k2, fs)) (h2 : k2 = jx_of t) (kk : j_in i N = true → ∀ S1, S1 = w_r S a i.toNatClampNeg w → jg q me rF rL (pc + 1) lv r S1 n φ (K S1)) : jg q me rF rL pc lv (.ref w :: .int i :: .ref a :: r) S n φ (j_q (j_in i N) (j_l (w_r S a i.toNatClampNeg w) K)) := by
  refine jg_q (fun g => jg_wr (S1 := w_r S a i.toNatClampNeg w) (fun M hM => ⟨M.set a (t, jx_vr N (va_up (S.2.2 a) i.toNatClampNeg w)), ?_⟩) (kk g _ rfl))
  have g2 := mm_set (c := (t, jx_vr N (va_up (S.2.2 a) i.toNatClampNeg w))) hM hc.1 hc.2.1 (fun b e => w_r_ne (S := S) (k := i.toNatClampNeg) (v := w) e) (by rw [w_r_eq]; exact hc.2.2 _ _ _)
  refine ⟨g2.1, g2.2, fun dc ds o h => jt_go ha (pc1 := pc + 1) (lv1 := lv) (st1 := r) (dc1 := dc) (ds1 := ds) (M1 := M.set a (t, jx_vr N (va_up (S.2.2 a) i.toNatClampNeg w))) ?_ h⟩
  show jx_or (jx_aas pc lv M dc ds (.ref w :: .int i :: .ref a :: r)) _ = _
  have e : jx_aas pc lv M dc ds (.ref w :: .int i :: .ref a :: r) = some (.inl (pc + 1, lv, r, M.set a (t, jx_vr N (va_up (S.2.2 a) i.toNatClampNeg w)), dc, ds)) := by
    simp only [jx_aas, mm_ka hM hc, mm_ka hM hw, h0]
    rw [if_pos ⟨ht, h2, jx_vn (j_in_ok g), by rw [jx_vr_len]; exact jx_vb (j_in_ok g)⟩, jx_vr_set]
  rw [e]
  rfl
theorem jg_iaK1 (ha : jx_at pc me.2.2.2.2.2 = some (.iaload, len, x, va)) (kk : j_in i 7 = true → jg q me rF rL (pc + 1) lv (.int (jx_LEAST i.toNatClampNeg) :: r) S n φ E) : jg q me rF rL pc lv (.int i :: .ref 1 :: r) S n φ (j_q (j_in i 7) E) :=
  jg_q (fun g => jg_st (fun M hM dc ds o h => jt_iaK ha (hM.2.2.1 1 (by decide) (by decide)) (j_in_ok g) h) (kk g))
theorem jg_iaK2 (ha : jx_at pc me.2.2.2.2.2 = some (.iaload, len, x, va)) (kk : j_in i 7 = true → jg q me rF rL (pc + 1) lv (.int (jx_MOSTS i.toNatClampNeg) :: r) S n φ E) : jg q me rF rL pc lv (.int i :: .ref 2 :: r) S n φ (j_q (j_in i 7) E) :=
  jg_q (fun g => jg_st (fun M hM dc ds o h => jt_iaK ha (hM.2.2.1 2 (by decide) (by decide)) (j_in_ok g) h) (kk g))
theorem jg_al {g : (Nat → Nat) → Nat → Nat} (ha : jx_at pc me.2.2.2.2.2 = some (.arraylength, len, x, va)) (hk : (100 ≤ t ∧ t < 113) ∨ t = 200) (hc : ka a (fun _ _ r => (t, jx_vr N (g r)))) (kk : jg q me rF rL (pc + 1) lv (.int (Int32.ofNat N) :: r) S n φ E) : jg q me rF rL pc lv (.ref a :: r) S n φ E :=
  jg_st (fun M hM dc ds o h => jt_alen ha hk (mm_ka hM hc) (jx_vr_len _ _) h) kk
theorem jg_div {y z : Int64} (ha : jx_at pc me.2.2.2.2.2 = some (.ldiv, len, x, va)) (kk : jg q me rF rL (pc + 1) lv (.long (y / z) :: r) S n φ E) : jg q me rF rL pc lv (.long z :: .long y :: r) S n φ (j_q (!decide (z = 0)) E) :=
  jg_q (fun g => jg_st (fun M hM dc ds o h => jt_ldiv ha (by simpa using g) h) kk)
theorem jg_sw {y c : Int32} {p1 : Nat} {l1 : List (Nat × Value)} {s1 : List Value} (h : ∀ M dc ds o, y = c → jt me rF rL p1 l1 s1 M dc ds o → jt me rF rL pc lv st M dc ds o) (k1 : y = c → jg q me rF rL p1 l1 s1 S n φ E1) (k2 : ¬ y = c → jg q me rF rL pc lv st S n φ E2) : jg q me rF rL pc lv st S n φ (if y = c then E1 else E2) := by
  by_cases hc : y = c
  · rw [if_pos hc]
    exact jg_st (fun M _ dc ds o k => h M dc ds o hc k) (k1 hc)
  · rw [if_neg hc]
    exact k2 hc
end JG3
section JG4
variable {ρ σ τ : Type} {q : Nat} {me m2 : jx_Me} {rF rL pc pc1 : Nat} {lv lv1 : List (Nat × Value)} {st st1 r As : List Value} {S S1 : jS} {n n1 n2 : Nat} {φ : ρ → jR × jS} {ψ : σ → jR × jS} {E E1 E2 : Option ρ} {len idx ci k a t mx nn cj N : Nat} {x : List Nat} {va v : Value} {off : Int} {i : Int32}
/-- a call, in any form -/
theorem jg_cal {ln : List (Nat × Value)} {f2 l2 : Nat} {Ec : Option σ} {K : σ → Option ρ}
    (hj : ∀ M, mm q S M → ∀ v M1 c1 s1 dc ds o, jt m2 f2 l2 0 ln [] M 0 0 (.inl v, M1, c1, s1) → jt me rF rL (pc + 3) lv (v.toList ++ r) M1 (dc + c1) (ds + s1) o → jt me rF rL pc lv st M dc ds o)
    (hx : ∀ M, mm q S M → ∀ a ci M1 c1 s1 dc ds, jt m2 f2 l2 0 ln [] M 0 0 (.inr a, M1, c1, s1) → M1[a]? = some (ci, []) → jt me rF rL pc lv st M dc ds (.inr a, M1, dc + c1, ds + s1))
    (hc : jg q m2 f2 l2 0 ln [] S n1 ψ Ec)
    (kk : ∀ z v S1, Ec = some z → ψ z = (.inl v, S1) → jg q me rF rL (pc + 3) lv (v.toList ++ r) S1 n2 φ (K z))
    (kx : ∀ z ci S1, Ec = some z → ψ z = (.inr ci, S1) → ∃ w, K z = some w ∧ φ w = (.inr ci, S1)) : jg q me rF rL pc lv st S (n1 + n2) φ (Ec.bind K) := by
  intro M hM z hz dc ds
  cases hE : Ec with
  | none => rw [hE] at hz; cases hz
  | some y =>
    rw [hE] at hz
    have hz : K y = some z := hz
    obtain ⟨o, M1, c1, s1, h1, h2, h3, h4, h5, h6⟩ := hc M hM y hE 0 0
    cases hy : ψ y with
    | mk w S1 =>
      rw [hy] at h2 h4 h5 h6
      cases w with
      | inl v =>
        have h4 : o = .inl v := h4
        subst h4
        obtain ⟨o2, M2, c2, s2, g1, g2, g3, g4, g5, g6⟩ := kk y v S1 hE hy M1 h2 z hz (dc + c1) (ds + s1)
        simp only [jn_x] at h5 h6
        exact ⟨o2, M2, c2, s2, hj M hM v M1 c1 s1 dc ds _ h1 g1, g2, fx_tr h3 g3, g4, by omega, by omega⟩
      | inr ci =>
        obtain ⟨a, rfl, ha⟩ := h4
        obtain ⟨w, hw1, hw2⟩ := kx y ci S1 hE hy
        rw [hw1] at hz
        cases hz
        simp only [jn_x] at h5 h6
        refine ⟨.inr a, M1, dc + c1, ds + s1, hx M hM a ci M1 c1 s1 dc ds h1 ha, ?_, h3, ?_, ?_, ?_⟩
        · rw [hw2]; exact h2
        · rw [hw2]; exact ⟨a, rfl, ha⟩
        · rw [hw2]; simp only [jn_x]; omega
        · rw [hw2]; simp only [jn_x]; omega
/-- what a call asks: the step that makes it, the callee, room, no handler -/
def jh_c (q : Nat) (S : jS) (me : jx_Me) (rF rL pc : Nat) (lv : List (Nat × Value)) (st : List Value) (m2 : jx_Me) (As r : List Value) (mx : Nat) : Prop := (∃ i len x va k, jx_at pc me.2.2.2.2.2 = some (i, len, x, va) ∧ Nat.ble 9000 k = false ∧ jx_P[k]? = some m2 ∧ ∀ M, mm q S M → ∀ dc ds, jx_step jx_df me.2.2.1 me.2.2.2.1 (me.1.name == "<init>") i x va pc lv st M dc ds = some (.inr (.inl (k, As, r)))) ∧ m2.2.2.1 = mx ∧ 1 ≤ rF ∧ mx + 19 ≤ rL ∧ (lg_sl As).length ≤ mx
theorem jh_s {i : Instr} (ha : jx_at pc me.2.2.2.2.2 = some (i, len, x, va)) (hs : ∀ M dc ds, jx_step jx_df me.2.2.1 me.2.2.2.1 (me.1.name == "<init>") i x va pc lv st M dc ds = some (.inr (.inl (k, As, r)))) (hk : Nat.ble 9000 k = false) (hP : jx_P[k]? = some m2) (hmx : m2.2.2.1 = mx) (hf : 1 ≤ rF) (hl : mx + 19 ≤ rL) (hA : (lg_sl As).length ≤ mx) : jh_c q S me rF rL pc lv st m2 As r mx := ⟨⟨i, len, x, va, k, ha, hk, hP, fun M _ dc ds => hs M dc ds⟩, hmx, hf, hl, hA⟩
theorem jh_v {f : (Nat → Int32) → (Nat → Int64) → (Nat → Nat) → Nat × List Value} {fs : List Value} (ha : jx_at pc me.2.2.2.2.2 = some (.invokevirtual idx, len, [k, nn, cj], va)) (hd : st.drop nn = .ref a :: r) (ht : (st.take nn).reverse = As) (hc : ka a f) (h0 : f (S.1 a) (S.2.1 a) (S.2.2 a) = (cj, fs)) (hcat : jx_cat r ≤ 8) (hk : Nat.ble 9000 k = false) (hP : jx_P[k]? = some m2) (hmx : m2.2.2.1 = mx) (hf : 1 ≤ rF) (hl : mx + 19 ≤ rL) (hA : (lg_sl (.ref a :: As)).length ≤ mx) : jh_c q S me rF rL pc lv st m2 (.ref a :: As) r mx := by
  refine ⟨⟨_, len, _, va, k, ha, hk, hP, fun M hM dc ds => ?_⟩, hmx, hf, hl, hA⟩
  show jx_cv M [k, nn, cj] st = _
  simp only [jx_cv, hd, mm_ka hM hc, h0, ht]
  rw [if_pos ⟨trivial, hcat⟩]
theorem jg_ca {Ec : Option σ} {K : σ → Option ρ} (h : jh_c q S me rF rL pc lv st m2 As r mx) (hh : me.2.2.2.2.1 = []) (hc : jg q m2 (rF - 1) (rL - (mx + 19)) 0 (lv_args 0 As) [] S n1 ψ Ec)
    (kk : ∀ z v S1, Ec = some z → ψ z = (.inl v, S1) → jg q me rF rL (pc + 3) lv (v.toList ++ r) S1 n2 φ (K z))
    (kx : ∀ z ci S1, Ec = some z → ψ z = (.inr ci, S1) → ∃ w, K z = some w ∧ φ w = (.inr ci, S1)) : jg q me rF rL pc lv st S (n1 + n2) φ (Ec.bind K) := by
  obtain ⟨⟨i, len, x, va, k, ha, hk, hP, hs⟩, hmx, hf, hl, hA⟩ := h
  refine jg_cal ?_ ?_ hc kk kx
  · intro M hM v M1 c1 s1 dc ds o g1 g2
    exact jt_call ha (hs M hM dc ds) hk hP hmx hf hl hA g1 g2
  · intro M hM a ci M1 c1 s1 dc ds g1 g2
    exact jt_callX ha (hs M hM dc ds) hk hP hmx hf hl hA g1 g2 hh rfl
/-- calls that cannot throw, with any handlers -/
theorem jg_cn {Ec : Option σ} {K : σ → Option ρ} (h : jh_c q S me rF rL pc lv st m2 As r mx) (hc : jg q m2 (rF - 1) (rL - (mx + 19)) 0 (lv_args 0 As) [] S n1 ψ Ec) (hn : ∀ z, Ec = some z → ∃ v S1, ψ z = (.inl v, S1))
    (kk : ∀ z v S1, Ec = some z → ψ z = (.inl v, S1) → jg q me rF rL (pc + 3) lv (v.toList ++ r) S1 n2 φ (K z)) : jg q me rF rL pc lv st S (n1 + n2) φ (Ec.bind K) := by
  intro M hM z hz dc ds
  cases hE : Ec with
  | none => rw [hE] at hz; cases hz
  | some y =>
    rw [hE] at hz
    have hz : K y = some z := hz
    obtain ⟨o, M1, c1, s1, h1, h2, h3, h4, h5, h6⟩ := hc M hM y hE 0 0
    obtain ⟨v, S1, hy⟩ := hn y hE
    rw [hy] at h2 h4 h5 h6
    have h4 : o = .inl v := h4
    subst h4
    obtain ⟨o2, M2, c2, s2, g1, g2, g3, g4, g5, g6⟩ := kk y v S1 hE hy M1 h2 z hz (dc + c1) (ds + s1)
    simp only [jn_x] at h5 h6
    obtain ⟨⟨i, len, x, va, k, ha, hk, hP, hs⟩, hmx, hf, hl, hA⟩ := h
    exact ⟨o2, M2, c2, s2, jt_call ha (hs M hM dc ds) hk hP hmx hf hl hA h1 g1, g2, fx_tr h3 g3, g4, by omega, by omega⟩
theorem jg_cpI {Ec : Option Int32} {K : Int32 → Option ρ} (h : jh_c q S me rF rL pc lv st m2 As r mx) (hc : jg q m2 (rF - 1) (rL - (mx + 19)) 0 (lv_args 0 As) [] S 0 (p_I S) Ec) (kk : ∀ z, jg q me rF rL (pc + 3) lv (.int z :: r) S n φ (K z)) : jg q me rF rL pc lv st S n φ (Ec.bind K) := by
  have := jg_cn (n1 := 0) (n2 := n) (K := K) (φ := φ) h hc (fun z _ => ⟨_, _, rfl⟩) (fun z v S1 _ e => by cases e; exact kk z)
  rwa [Nat.zero_add] at this
theorem jg_cpL {Ec : Option Int64} {K : Int64 → Option ρ} (h : jh_c q S me rF rL pc lv st m2 As r mx) (hc : jg q m2 (rF - 1) (rL - (mx + 19)) 0 (lv_args 0 As) [] S 0 (p_L S) Ec) (kk : ∀ z, jg q me rF rL (pc + 3) lv (.long z :: r) S n φ (K z)) : jg q me rF rL pc lv st S n φ (Ec.bind K) := by
  have := jg_cn (n1 := 0) (n2 := n) (K := K) (φ := φ) h hc (fun z _ => ⟨_, _, rfl⟩) (fun z v S1 _ e => by cases e; exact kk z)
  rwa [Nat.zero_add] at this
theorem jg_csI {Ec : Option (Int32 × jS)} {K : Int32 × jS → Option ρ} (h : jh_c q S me rF rL pc lv st m2 As r mx) (hc : jg q m2 (rF - 1) (rL - (mx + 19)) 0 (lv_args 0 As) [] S 0 s_I Ec) (kk : ∀ z : Int32 × jS, jg q me rF rL (pc + 3) lv (.int z.1 :: r) z.2 n φ (K z)) : jg q me rF rL pc lv st S n φ (Ec.bind K) := by
  have := jg_cn (n1 := 0) (n2 := n) (K := K) (φ := φ) h hc (fun z _ => ⟨_, _, rfl⟩) (fun z v S1 _ e => by cases e; exact kk z)
  rwa [Nat.zero_add] at this
theorem jg_csL {Ec : Option (Int64 × jS)} {K : Int64 × jS → Option ρ} (h : jh_c q S me rF rL pc lv st m2 As r mx) (hc : jg q m2 (rF - 1) (rL - (mx + 19)) 0 (lv_args 0 As) [] S 0 s_L Ec) (kk : ∀ z : Int64 × jS, jg q me rF rL (pc + 3) lv (.long z.1 :: r) z.2 n φ (K z)) : jg q me rF rL pc lv st S n φ (Ec.bind K) := by
  have := jg_cn (n1 := 0) (n2 := n) (K := K) (φ := φ) h hc (fun z _ => ⟨_, _, rfl⟩) (fun z v S1 _ e => by cases e; exact kk z)
  rwa [Nat.zero_add] at this
theorem jg_csV {Ec : Option jS} {K : jS → Option ρ} (h : jh_c q S me rF rL pc lv st m2 As r mx) (hc : jg q m2 (rF - 1) (rL - (mx + 19)) 0 (lv_args 0 As) [] S 0 s_V Ec) (kk : ∀ z : jS, jg q me rF rL (pc + 3) lv r z n φ (K z)) : jg q me rF rL pc lv st S n φ (Ec.bind K) := by
  have := jg_cn (n1 := 0) (n2 := n) (K := K) (φ := φ) h hc (fun z _ => ⟨_, _, rfl⟩) (fun z v S1 _ e => by cases e; exact kk z)
  rwa [Nat.zero_add] at this
theorem jg_cxI {Ec : Option ((Int32 ⊕ Nat) × jS)} {X : Nat → jS → ρ} {K : Int32 → jS → Option ρ} (h : jh_c q S me rF rL pc lv st m2 As r mx) (hh : me.2.2.2.2.1 = []) (hX : ∀ c S1, φ (X c S1) = (.inr c, S1)) (hc : jg q m2 (rF - 1) (rL - (mx + 19)) 0 (lv_args 0 As) [] S 0 x_I Ec) (kk : ∀ v S1, jg q me rF rL (pc + 3) lv (.int v :: r) S1 n φ (K v S1)) : jg q me rF rL pc lv st S n φ (j_x Ec X K) := by
  have := jg_ca (n1 := 0) (n2 := n) (K := fun z => match z with | (.inl v, S) => K v S | (.inr c, S) => some (X c S)) (φ := φ) h hh hc (fun z v S1 _ e => by
    obtain ⟨z1, z2⟩ := z
    cases z1 with
    | inl w => cases e; exact kk w _
    | inr c => cases e) (fun z ci S1 _ e => by
    obtain ⟨z1, z2⟩ := z
    cases z1 with
    | inl w => cases e
    | inr c => cases e; exact ⟨_, rfl, hX _ _⟩)
  rw [Nat.zero_add] at this
  have e : j_x Ec X K = Ec.bind (fun z => match z with | (.inl v, S) => K v S | (.inr c, S) => some (X c S)) := by
    cases Ec with
    | none => rfl
    | some z => obtain ⟨z1, z2⟩ := z; cases z1 <;> rfl
  rw [e]
  exact this
theorem jg_cxL {Ec : Option ((Int64 ⊕ Nat) × jS)} {X : Nat → jS → ρ} {K : Int64 → jS → Option ρ} (h : jh_c q S me rF rL pc lv st m2 As r mx) (hh : me.2.2.2.2.1 = []) (hX : ∀ c S1, φ (X c S1) = (.inr c, S1)) (hc : jg q m2 (rF - 1) (rL - (mx + 19)) 0 (lv_args 0 As) [] S 0 x_L Ec) (kk : ∀ v S1, jg q me rF rL (pc + 3) lv (.long v :: r) S1 n φ (K v S1)) : jg q me rF rL pc lv st S n φ (j_x Ec X K) := by
  have := jg_ca (n1 := 0) (n2 := n) (K := fun z => match z with | (.inl v, S) => K v S | (.inr c, S) => some (X c S)) (φ := φ) h hh hc (fun z v S1 _ e => by
    obtain ⟨z1, z2⟩ := z
    cases z1 with
    | inl w => cases e; exact kk w _
    | inr c => cases e) (fun z ci S1 _ e => by
    obtain ⟨z1, z2⟩ := z
    cases z1 with
    | inl w => cases e
    | inr c => cases e; exact ⟨_, rfl, hX _ _⟩)
  rw [Nat.zero_add] at this
  have e : j_x Ec X K = Ec.bind (fun z => match z with | (.inl v, S) => K v S | (.inr c, S) => some (X c S)) := by
    cases Ec with
    | none => rfl
    | some z => obtain ⟨z1, z2⟩ := z; cases z1 <;> rfl
  rw [e]
  exact this
theorem jg_cxA {Ec : Option ((Nat ⊕ Nat) × jS)} {X : Nat → jS → ρ} {K : Nat → jS → Option ρ} (h : jh_c q S me rF rL pc lv st m2 As r mx) (hh : me.2.2.2.2.1 = []) (hX : ∀ c S1, φ (X c S1) = (.inr c, S1)) (hc : jg q m2 (rF - 1) (rL - (mx + 19)) 0 (lv_args 0 As) [] S 0 x_A Ec) (kk : ∀ v S1, jg q me rF rL (pc + 3) lv (.ref v :: r) S1 n φ (K v S1)) : jg q me rF rL pc lv st S n φ (j_x Ec X K) := by
  have := jg_ca (n1 := 0) (n2 := n) (K := fun z => match z with | (.inl v, S) => K v S | (.inr c, S) => some (X c S)) (φ := φ) h hh hc (fun z v S1 _ e => by
    obtain ⟨z1, z2⟩ := z
    cases z1 with
    | inl w => cases e; exact kk w _
    | inr c => cases e) (fun z ci S1 _ e => by
    obtain ⟨z1, z2⟩ := z
    cases z1 with
    | inl w => cases e
    | inr c => cases e; exact ⟨_, rfl, hX _ _⟩)
  rw [Nat.zero_add] at this
  have e : j_x Ec X K = Ec.bind (fun z => match z with | (.inl v, S) => K v S | (.inr c, S) => some (X c S)) := by
    cases Ec with
    | none => rfl
    | some z => obtain ⟨z1, z2⟩ := z; cases z1 <;> rfl
  rw [e]
  exact this
theorem jg_cxV {Ec : Option (Option Nat × jS)} {X : Nat → jS → ρ} {K : jS → Option ρ} (h : jh_c q S me rF rL pc lv st m2 As r mx) (hh : me.2.2.2.2.1 = []) (hX : ∀ c S1, φ (X c S1) = (.inr c, S1)) (hc : jg q m2 (rF - 1) (rL - (mx + 19)) 0 (lv_args 0 As) [] S 0 x_V Ec) (kk : ∀ S1, jg q me rF rL (pc + 3) lv r S1 n φ (K S1)) : jg q me rF rL pc lv st S n φ (j_xv Ec X K) := by
  have := jg_ca (n1 := 0) (n2 := n) (K := fun z => match z with | (none, S) => K S | (some c, S) => some (X c S)) (φ := φ) h hh hc (fun z v S1 _ e => by
    obtain ⟨z1, z2⟩ := z
    cases z1 with
    | none => cases e; exact kk _
    | some c => cases e) (fun z ci S1 _ e => by
    obtain ⟨z1, z2⟩ := z
    cases z1 with
    | none => cases e
    | some c => cases e; exact ⟨_, rfl, hX _ _⟩)
  rw [Nat.zero_add] at this
  have e : j_xv Ec X K = Ec.bind (fun z => match z with | (none, S) => K S | (some c, S) => some (X c S)) := by
    cases Ec with
    | none => rfl
    | some z => obtain ⟨z1, z2⟩ := z; cases z1 <;> rfl
  rw [e]
  exact this
end JG4
section JG5
theorem kc_24 : ka 24 (fun i l r => l0_ i l r) := ⟨by decide, by decide, fun _ _ _ => rfl⟩
theorem kc_25 : ka 25 (fun i _ _ => (1, [.ref 26, .int (i 1), .int (i 2), .int (i 3)])) := ⟨by decide, by decide, fun _ _ _ => rfl⟩
theorem kc_26 : ka 26 (fun i _ _ => (100, jx_vi 400 i)) := ⟨by decide, by decide, fun _ _ _ => rfl⟩
theorem kc_27 : ka 27 (fun _ _ r => (104, jx_vr 8 r)) := ⟨by decide, by decide, fun _ _ _ => rfl⟩
theorem kc_28 : ka 28 (fun _ _ r => (105, jx_vr 16 r)) := ⟨by decide, by decide, fun _ _ _ => rfl⟩
theorem kc_29 : ka 29 (fun _ _ _ => (106, jx_vr 4 (fun j => 107 + 2 * j))) := ⟨by decide, by decide, fun _ _ _ => rfl⟩
theorem kc_32 : ka 32 (fun _ _ r => (6, [.ref (r 0), .ref (r 1), .ref (r 2)])) := ⟨by decide, by decide, fun _ _ _ => rfl⟩
theorem kc_45 : ka 45 (fun _ _ _ => (107, jx_vr 100 (fun j => 115 + j))) := ⟨by decide, by decide, fun _ _ _ => rfl⟩
theorem kc_46 : ka 46 (fun i _ _ => (102, jx_vi 8 i)) := ⟨by decide, by decide, fun _ _ _ => rfl⟩
theorem kc_47 : ka 47 (fun i l _ => (8, [.ref 48, .ref 49, .ref 50, .int (i 3), .long (l 4)])) := ⟨by decide, by decide, fun _ _ _ => rfl⟩
theorem kc_48 : ka 48 (fun _ l _ => (103, jx_vl 500 l)) := ⟨by decide, by decide, fun _ _ _ => rfl⟩
theorem kc_49 : ka 49 (fun i _ _ => (102, jx_vi 500 i)) := ⟨by decide, by decide, fun _ _ _ => rfl⟩
theorem kc_50 : ka 50 (fun _ l _ => (103, jx_vl 500 l)) := ⟨by decide, by decide, fun _ _ _ => rfl⟩
theorem kc_215 : ka 215 (fun i l _ => l9_ i l) := ⟨by decide, by decide, fun _ _ _ => rfl⟩
theorem kc_216 : ka 216 (fun i _ _ => (100, jx_vi 400 i)) := ⟨by decide, by decide, fun _ _ _ => rfl⟩
theorem kc_217 : ka 217 (fun i _ _ => (102, jx_vi 8 i)) := ⟨by decide, by decide, fun _ _ _ => rfl⟩
theorem kc_218 : ka 218 (fun i _ _ => (102, jx_vi 8 i)) := ⟨by decide, by decide, fun _ _ _ => rfl⟩
theorem kc_237 : ka 237 (fun i _ _ => (102, jx_vi 8 i)) := ⟨by decide, by decide, fun _ _ _ => rfl⟩
theorem kc_238 : ka 238 (fun i _ _ => (102, jx_vi 8 i)) := ⟨by decide, by decide, fun _ _ _ => rfl⟩
theorem kc_219 : ka 219 (fun _ _ _ => (109, jx_vr 8 (fun j => 220 + j))) := ⟨by decide, by decide, fun _ _ _ => rfl⟩
theorem kc_228 : ka 228 (fun _ _ _ => (110, jx_vr 8 (fun j => 229 + j))) := ⟨by decide, by decide, fun _ _ _ => rfl⟩
theorem kc_239 : ka 239 (fun _ _ _ => (111, jx_vr 16 (fun j => 240 + j * 8))) := ⟨by decide, by decide, fun _ _ _ => rfl⟩
theorem kc_368 : ka 368 (fun _ _ _ => (110, jx_vr 7 (fun j => 369 + j))) := ⟨by decide, by decide, fun _ _ _ => rfl⟩
theorem kc_376 : ka 376 (fun i _ _ => (101, jx_vi 16 i)) := ⟨by decide, by decide, fun _ _ _ => rfl⟩
theorem kc_377 : ka 377 (fun _ _ _ => (112, jx_vr 16 (fun j => 378 + j))) := ⟨by decide, by decide, fun _ _ _ => rfl⟩
theorem kc_394 : ka 394 (fun _ _ _ => (112, jx_vr 16 (fun j => 395 + j))) := ⟨by decide, by decide, fun _ _ _ => rfl⟩
theorem kc_411 : ka 411 (fun _ _ _ => (112, jx_vr 16 (fun j => 412 + j))) := ⟨by decide, by decide, fun _ _ _ => rfl⟩
theorem kc_430 : ka 430 (fun _ _ _ => (110, jx_vr 4 (fun j => 431 + j))) := ⟨by decide, by decide, fun _ _ _ => rfl⟩
theorem kc_435 : ka 435 (fun i _ _ => (102, jx_vi 4 i)) := ⟨by decide, by decide, fun _ _ _ => rfl⟩
theorem kc_436 : ka 436 (fun i _ _ => (102, jx_vi 100 i)) := ⟨by decide, by decide, fun _ _ _ => rfl⟩
theorem kc_437 : ka 437 (fun i _ _ => (102, jx_vi 100 i)) := ⟨by decide, by decide, fun _ _ _ => rfl⟩
theorem kc_444 : ka 444 (fun i _ _ => (102, jx_vi 100 i)) := ⟨by decide, by decide, fun _ _ _ => rfl⟩
theorem kc_445 : ka 445 (fun i _ _ => (102, jx_vi 100 i)) := ⟨by decide, by decide, fun _ _ _ => rfl⟩
theorem kc_446 : ka 446 (fun i _ _ => (102, jx_vi 100 i)) := ⟨by decide, by decide, fun _ _ _ => rfl⟩
theorem kc_447 : ka 447 (fun i _ _ => (102, jx_vi 100 i)) := ⟨by decide, by decide, fun _ _ _ => rfl⟩
theorem kc_448 : ka 448 (fun i _ _ => (102, jx_vi 100 i)) := ⟨by decide, by decide, fun _ _ _ => rfl⟩
theorem kc_449 : ka 449 (fun i _ _ => (102, jx_vi 100 i)) := ⟨by decide, by decide, fun _ _ _ => rfl⟩
theorem kc_438 : ka 438 (fun _ l _ => (103, jx_vl 100 l)) := ⟨by decide, by decide, fun _ _ _ => rfl⟩
theorem kc_439 : ka 439 (fun _ l _ => (103, jx_vl 100 l)) := ⟨by decide, by decide, fun _ _ _ => rfl⟩
theorem kc_440 : ka 440 (fun _ l _ => (103, jx_vl 100 l)) := ⟨by decide, by decide, fun _ _ _ => rfl⟩
theorem kc_441 : ka 441 (fun _ l _ => (103, jx_vl 100 l)) := ⟨by decide, by decide, fun _ _ _ => rfl⟩
theorem kc_442 : ka 442 (fun _ l _ => (103, jx_vl 100 l)) := ⟨by decide, by decide, fun _ _ _ => rfl⟩
theorem kc_443 : ka 443 (fun _ l _ => (103, jx_vl 100 l)) := ⟨by decide, by decide, fun _ _ _ => rfl⟩
theorem kc_450 : ka 450 (fun _ l _ => (103, jx_vl 500 l)) := ⟨by decide, by decide, fun _ _ _ => rfl⟩
theorem kc_451 : ka 451 (fun i _ _ => (102, jx_vi 500 i)) := ⟨by decide, by decide, fun _ _ _ => rfl⟩
theorem kc_452 : ka 452 (fun _ l _ => (103, jx_vl 500 l)) := ⟨by decide, by decide, fun _ _ _ => rfl⟩
theorem js_c {a : Nat} (h : js_ a = true) (f : Nat → Int32) : (jx_M0 0 f)[a]? = some (300, (jx_byt.getD (a - 3) []).map Value.int) := by
  simp only [js_, Bool.and_eq_true, decide_eq_true_eq] at h
  match a, h with
  | 0, h => omega
  | 1, h => omega
  | 2, h => omega
  | 3, _ => rfl
  | 4, _ => rfl
  | 5, _ => rfl
  | 6, _ => rfl
  | 7, _ => rfl
  | 8, _ => rfl
  | 9, _ => rfl
  | 10, _ => rfl
  | 11, _ => rfl
  | 12, _ => rfl
  | 13, _ => rfl
  | 14, _ => rfl
  | 15, _ => rfl
  | 16, _ => rfl
  | 17, _ => rfl
  | 18, _ => rfl
  | 19, _ => rfl
  | 20, _ => rfl
  | 21, _ => rfl
  | 22, _ => rfl
  | 23, _ => rfl
  | k + 24, h => omega
theorem js_b {a : Nat} (h : js_ a = true) : 3 ≤ a ∧ a < 24 := by
  simp only [js_, Bool.and_eq_true, decide_eq_true_eq] at h
  exact h
theorem mm_js {q a : Nat} {S : jS} {M : jx_H} (h : mm q S M) (g : js_ a = true) : M[a]? = some (300, (jx_byt.getD (a - 3) []).map Value.int) := by
  have := js_b g
  rw [h.2.2.1 a (by omega) (by omega), js_c g]
theorem cp_vi {sp dp n N : Nat} {f : Nat → Int32} (h1 : sp + n ≤ N) (h2 : dp + n ≤ N) : jx_cp sp dp n (jx_vi N f) (jx_vi N f) = jx_vi N (cp_f sp dp n f) := by
  apply List.ext_getElem?
  intro j
  unfold jx_cp jx_vi cp_f
  by_cases c1 : j < dp
  · rw [List.getElem?_append_left (by simp; omega), List.getElem?_append_left (by simp; omega), List.getElem?_take_of_lt c1]
    simp only [List.getElem?_map]
    rw [List.getElem?_range (by omega)]
    simp only [Option.map_some]
    rw [if_neg (by omega)]
  · by_cases c2 : j < dp + n
    · rw [List.getElem?_append_left (by simp; omega), List.getElem?_append_right (by simp; omega)]
      simp only [List.length_take, List.length_map, List.length_range]
      rw [show min dp N = dp by omega, List.getElem?_take_of_lt (by omega), List.getElem?_drop]
      simp only [List.getElem?_map]
      rw [List.getElem?_range (by omega), List.getElem?_range (by omega)]
      simp only [Option.map_some]
      rw [if_pos (by omega)]
      congr 3
      omega
    · rw [List.getElem?_append_right (by simp; omega)]
      simp only [List.length_append, List.length_take, List.length_drop, List.length_map, List.length_range]
      rw [show min dp N + min n (N - sp) = dp + n by omega, List.getElem?_drop, show dp + n + (j - (dp + n)) = j by omega]
      simp only [List.getElem?_map]
      by_cases c3 : j < N
      · rw [List.getElem?_range c3]
        simp only [Option.map_some]
        rw [if_neg (by omega)]
      · rw [List.getElem?_eq_none (by simp; omega)]
        rfl
def cp_ok (sp dp n : Int32) (N : Nat) : Bool := !decide (sp < 0) && !decide (dp < 0) && !decide (n < 0) && decide (sp.toNatClampNeg + n.toNatClampNeg ≤ N) && decide (dp.toNatClampNeg + n.toNatClampNeg ≤ N)
def w_z (S : jS) : jS := (fun b => if b = 453 then (fun _ => 0) else S.1 b, S.2)
def j_ct {ρ : Type} (E : Option (Option Nat × jS)) (c : Nat) (K X : jS → Option ρ) : Option ρ := match E with
  | none => none
  | some (none, S) => K S
  | some (some d, S) => if d = c then X S else none
variable {ρ σ τ : Type} {q : Nat} {me m2 : jx_Me} {rF rL pc pc1 : Nat} {lv lv1 : List (Nat × Value)} {st st1 r As : List Value} {S S1 : jS} {n n1 n2 : Nat} {φ : ρ → jR × jS} {E E1 E2 : Option ρ} {len idx ci a t mx N : Nat} {x : List Nat} {va v : Value} {i : Int32}
theorem jg_len (ha : jx_at pc me.2.2.2.2.2 = some (.invokevirtual idx, len, [9000, 0, 300], va)) (hs : js_ a = true) (hcat : jx_cat r ≤ 8) (hf : 6 ≤ rF) (hl : 150 ≤ rL) (kk : jg q me rF rL (pc + 3) lv (.int (Int32.ofNat (sl_ a)) :: r) S n φ E) : jg q me rF rL pc lv (.ref a :: r) S n φ E := by
  refine jg_st (fun M hM dc ds o h => ?_) kk
  refine jt_prim (k := 9000) (As := [.ref a]) (r := r) (v := some (.int (Int32.ofNat (sl_ a)))) (M1 := M) ha ?_ rfl hf hl ?_ h
  · show jx_cv M [9000, 0, 300] (.ref a :: r) = _
    simp only [jx_cv, List.drop_zero, mm_js hM hs, List.take_zero, List.reverse_nil]
    rw [if_pos ⟨trivial, hcat⟩]
  · simp only [jx_pr, mm_js hM hs, List.length_map, sl_]
theorem jg_chr (ha : jx_at pc me.2.2.2.2.2 = some (.invokevirtual idx, len, [9001, 1, 300], va)) (hs : js_ a = true) (hcat : jx_cat r ≤ 8) (hf : 6 ≤ rF) (hl : 150 ≤ rL) (kk : j_in i (sl_ a) = true → jg q me rF rL (pc + 3) lv (.int (sc_ a i.toNatClampNeg) :: r) S n φ E) : jg q me rF rL pc lv (.int i :: .ref a :: r) S n φ (j_q (j_in i (sl_ a)) E) := by
  refine jg_q (fun g => jg_st (fun M hM dc ds o h => ?_) (kk g))
  refine jt_prim (k := 9001) (As := [.ref a, .int i]) (r := r) (v := some (.int (sc_ a i.toNatClampNeg))) (M1 := M) ha ?_ rfl hf hl ?_ h
  · show jx_cv M [9001, 1, 300] (.int i :: .ref a :: r) = _
    simp only [jx_cv, List.drop_succ_cons, List.drop_zero, mm_js hM hs, List.take_succ_cons, List.take_zero, List.reverse_cons, List.reverse_nil, List.nil_append]
    rw [if_pos ⟨trivial, hcat⟩]
  · have h1 := jx_vn (j_in_ok g)
    have h2 := jx_vb (j_in_ok g)
    have h3 := mm_js hM hs
    unfold sl_ at h2
    unfold sc_
    generalize jx_byt.getD (a - 3) [] = B at h2 h3 ⊢
    simp only [jx_pr, h3]
    rw [if_neg h1, List.getElem?_map, List.getElem?_eq_getElem h2]
    simp [List.getD_eq_getElem?_getD, List.getElem?_eq_getElem h2]
theorem jg_cpy {sp dp m : Int32} {K : jS → Option ρ} (ha : jx_at pc me.2.2.2.2.2 = some (.invokestatic idx, len, [9002, 5], va)) (hc : ka a (fun i _ _ => (102, jx_vi N i))) (hcat : jx_cat r ≤ 8) (hf : 6 ≤ rF) (hl : 150 ≤ rL) (kk : ∀ S1, S1 = w_c S a sp.toNatClampNeg dp.toNatClampNeg m.toNatClampNeg → jg q me rF rL (pc + 3) lv r S1 n φ (K S1)) : jg q me rF rL pc lv (.int m :: .int dp :: .ref a :: .int sp :: .ref a :: r) S n φ (j_q (cp_ok sp dp m N) (j_l (w_c S a sp.toNatClampNeg dp.toNatClampNeg m.toNatClampNeg) K)) := by
  refine jg_q (fun g => ?_)
  simp only [cp_ok, Bool.and_eq_true, Bool.not_eq_true', decide_eq_false_iff_not, decide_eq_true_eq] at g
  obtain ⟨⟨⟨⟨g1, g2⟩, g3⟩, g4⟩, g5⟩ := g
  refine jg_wr (S1 := w_c S a sp.toNatClampNeg dp.toNatClampNeg m.toNatClampNeg) (fun M hM => ⟨M.set a (102, jx_vi N (cp_f sp.toNatClampNeg dp.toNatClampNeg m.toNatClampNeg (S.1 a))), ?_⟩) (kk _ rfl)
  have h2 := mm_set (c := (102, jx_vi N (cp_f sp.toNatClampNeg dp.toNatClampNeg m.toNatClampNeg (S.1 a)))) hM hc.1 hc.2.1 (fun b e => w_c_ne (S := S) (k := sp.toNatClampNeg) (l := dp.toNatClampNeg) (n := m.toNatClampNeg) e) (by rw [w_c_eq]; exact hc.2.2 _ _ _)
  refine ⟨h2.1, h2.2, fun dc ds o h => ?_⟩
  refine jt_prim (k := 9002) (As := [.ref a, .int sp, .ref a, .int dp, .int m]) (r := r) (v := none) (M1 := M.set a (102, jx_vi N (cp_f sp.toNatClampNeg dp.toNatClampNeg m.toNatClampNeg (S.1 a)))) ha ?_ rfl hf hl ?_ h
  · show jx_cs [9002, 5] (.int m :: .int dp :: .ref a :: .int sp :: .ref a :: r) = _
    simp only [jx_cs, List.drop_succ_cons, List.drop_zero, List.take_succ_cons, List.take_zero]
    rw [if_pos ⟨by simp, hcat⟩]
    rfl
  · simp only [jx_pr, mm_ka hM hc, jx_vi_len]
    rw [if_pos ⟨g1, g2, g3, g4, g5⟩, cp_vi g4 g5]
theorem jg_new {K : jS → Option ρ} (ha : jx_at pc me.2.2.2.2.2 = some (.newarray .int, len, [2], va)) (kk : ∀ q', 453 < q' → ∀ S1, S1 = w_z S → jg q' me rF rL (pc + 2) lv (.ref q' :: r) S1 n φ (K S1)) : jg 0 me rF rL pc lv (.int 6 :: r) S (n + 1) φ (j_l (w_z S) K) := by
  intro M hM z hz dc ds
  have h1 : mm M.length (w_z S) (M ++ [(102, List.replicate 6 (.int 0))]) := by
    obtain ⟨h1, h2, h3, h4⟩ := hM
    refine ⟨by rw [List.length_append]; omega, fun b g1 g2 => ?_, fun b g1 g2 => ?_, Or.inr ⟨h1, ?_⟩⟩
    · rw [List.getElem?_append_left (by omega), h2 b g1 g2]
      have e : b ≠ 453 := by omega
      simp only [w_z, if_neg e]
    · rw [List.getElem?_append_left (by omega)]
      exact h3 b g1 g2
    · rw [List.getElem?_append_right (Nat.le_refl _), Nat.sub_self]
      simp only [w_z, if_true]
      rw [jx_vi_new]
      rfl
  obtain ⟨o, M', c, s, g1, g2, g3, g4, g5, g6⟩ := kk M.length hM.1 (w_z S) rfl _ h1 z hz (dc + 1) (ds + 6)
  refine ⟨o, M', c, s, jt_newa (q := M.length) (m := 6) ha rfl (by decide) rfl g1, ⟨g2.1, g2.2.1, g2.2.2.1, Or.inl rfl⟩, ⟨?_, fun b e1 e2 => ?_⟩, g4, by omega, by omega⟩
  · have := g3.1
    rw [List.length_append] at this
    omega
  · rw [g3.2 b (by rw [List.length_append]; omega) (by omega), List.getElem?_append_left e1]
theorem jg_ialq (ha : jx_at pc me.2.2.2.2.2 = some (.iaload, len, x, va)) (hq : 453 < q) (kk : j_in i 6 = true → jg q me rF rL (pc + 1) lv (.int (S.1 453 i.toNatClampNeg) :: r) S n φ E) : jg q me rF rL pc lv (.int i :: .ref q :: r) S n φ (j_q (j_in i 6) E) :=
  jg_q (fun g => jg_st (fun M hM dc ds o h => jt_iald ha (hM.2.2.2.resolve_left (by omega)).2 (j_in_ok g) h) (kk g))
theorem jg_iasq {w : Int32} {K : jS → Option ρ} (ha : jx_at pc me.2.2.2.2.2 = some (.iastore, len, x, va)) (hq : 453 < q) (kk : j_in i 6 = true → ∀ S1, S1 = w_i S 453 i.toNatClampNeg w → jg q me rF rL (pc + 1) lv r S1 n φ (K S1)) : jg q me rF rL pc lv (.int w :: .int i :: .ref q :: r) S n φ (j_q (j_in i 6) (j_l (w_i S 453 i.toNatClampNeg w) K)) := by
  refine jg_q (fun g => jg_wr (S1 := w_i S 453 i.toNatClampNeg w) (fun M hM => ⟨M.set q (102, jx_vi 6 (upd (S.1 453) i.toNatClampNeg w)), ?_⟩) (kk g _ rfl))
  obtain ⟨h1, h2, h3, h4⟩ := hM
  have h5 := (h4.resolve_left (by omega)).2
  refine ⟨⟨by simpa using h1, fun b g1 g2 => ?_, fun b g1 g2 => ?_, Or.inr ⟨hq, ?_⟩⟩, ⟨by simp, fun b g1 g2 => ?_⟩, fun dc ds o h => jt_iast ha h5 (j_in_ok g) rfl h⟩
  · rw [List.getElem?_set_ne (by omega), (w_i_ne (S := S) (show b ≠ 453 by omega)).1]
    exact h2 b g1 g2
  · rw [List.getElem?_set_ne (by omega)]
    exact h3 b g1 g2
  · rw [List.getElem?_set_self (List.getElem?_eq_some_iff.mp h5).1, w_i_eq]
  · rw [List.getElem?_set_ne (by omega)]
theorem jg_ctV {Ec : Option (Option Nat × jS)} {K X : jS → Option ρ} {h0 : Nat × Nat × Nat × Nat × Nat} {hs0 : List (Nat × Nat × Nat × Nat × Nat)} (h : jh_c q S me rF rL pc lv st m2 As r mx) (hh : me.2.2.2.2.1 = h0 :: hs0) (hhd : jx_hd pc ci (h0 :: hs0) = some t) (hc : jg q m2 (rF - 1) (rL - (mx + 19)) 0 (lv_args 0 As) [] S n1 x_V Ec) (kk : ∀ S1, jg q me rF rL (pc + 3) lv r S1 n φ (K S1)) (kx : ∀ a S1, jg q me rF rL t lv [.ref a] S1 n φ (X S1)) : jg q me rF rL pc lv st S (n1 + 1 + n) φ (j_ct Ec ci K X) := by
  intro M hM z hz dc ds
  obtain ⟨⟨i, len, x, va, k, ha, hk, hP, hs⟩, hmx, hf, hl, hA⟩ := h
  cases hE : Ec with
  | none => rw [hE] at hz; cases hz
  | some y =>
    obtain ⟨o, M1, c1, s1, h1, h2, h3, h4, h5, h6⟩ := hc M hM y hE 0 0
    obtain ⟨y1, S1⟩ := y
    rw [hE] at hz
    cases y1 with
    | none =>
      have h4 : o = .inl none := h4
      subst h4
      obtain ⟨o2, M2, c2, s2, g1, g2, g3, g4, g5, g6⟩ := kk S1 M1 h2 z hz (dc + c1) (ds + s1)
      simp only [x_V, jn_x] at h5 h6
      exact ⟨o2, M2, c2, s2, jt_call ha (hs M hM dc ds) hk hP hmx hf hl hA h1 g1, g2, fx_tr h3 g3, g4, by omega, by omega⟩
    | some d =>
      obtain ⟨a, rfl, hx⟩ := h4
      by_cases e : d = ci
      · subst e
        have hz : X S1 = some z := by simpa only [j_ct, if_true] using hz
        obtain ⟨o2, M2, c2, s2, g1, g2, g3, g4, g5, g6⟩ := kx a S1 M1 h2 z hz (dc + c1) (ds + s1)
        simp only [x_V, jn_x] at h5 h6
        exact ⟨o2, M2, c2, s2, jt_callC ha (hs M hM dc ds) hk hP hmx hf hl hA h1 hx hh hhd g1, g2, fx_tr h3 g3, g4, by omega, by omega⟩
      · have hz : (none : Option ρ) = some z := by simpa only [j_ct, if_neg e] using hz
        cases hz
end JG5
