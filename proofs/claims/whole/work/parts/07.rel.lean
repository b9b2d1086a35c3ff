section JX1
def jx_v (R : List Nat) (v w : Value) : Prop := match v with
  | .ref a => ∃ b : Nat, R[a]? = some b ∧ w = .ref b
  | v => w = v
def jx_vs (R : List Nat) : List Value → List Value → Prop
  | [], [] => True
  | v :: vs, w :: ws => jx_v R v w ∧ jx_vs R vs ws
  | _, _ => False
def jx_lv (R : List Nat) : List (Nat × Value) → List (Nat × Value) → Prop
  | [], [] => True
  | v :: vs, w :: ws => (w.1 = v.1 ∧ jx_v R v.2 w.2) ∧ jx_lv R vs ws
  | _, _ => False
def jx_ar (R : List Nat) (t : Nat) (L : List Value) (x : vp_A) : Prop :=
  (t < 3 ∧ ∃ f : Nat → Int32, x = (L.length, .inl f) ∧ ∀ (i : Nat) (v : Value), L[i]? = some v → v = .int (f i)) ∨
  (t = 3 ∧ ∃ f : Nat → Int64, x = (L.length, .inr (.inl f)) ∧ ∀ (i : Nat) (v : Value), L[i]? = some v → v = .long (f i)) ∨
  (4 ≤ t ∧ t < 13 ∧ ∃ f : Nat → Option Nat, x = (L.length, .inr (.inr (.inr (.inr f)))) ∧ ∀ (i : Nat) (v : Value), L[i]? = some v → jx_v R v (va_rf (f i)))
def jx_ce (dA : Nat → ClassId) (K : (Nat × List Value) → Nat → Prop) (R : List Nat) (h : jm_H) (q : Nat × List Value) (b : Nat) : Prop :=
  (q.1 < 100 ∧ ∃ fs : List Value, h b = some (.inr (q.1, fs)) ∧ jx_vs R q.2 fs) ∨
  (100 ≤ q.1 ∧ q.1 < 200 ∧ ∃ x : vp_A, h b = some (.inl (dA (q.1 - 100), x)) ∧ jx_ar R (q.1 - 100) q.2 x) ∨ (200 ≤ q.1 ∧ K q b)
def jx_re (dA : Nat → ClassId) (K : (Nat × List Value) → Nat → Prop) (R : List Nat) (M : jx_H) (h : jm_H) : Prop :=
  R.length = M.length ∧ (∀ (a : Nat) (q : Nat × List Value) (b : Nat), M[a]? = some q → R[a]? = some b → jx_ce dA K R h q b) ∧
  ∀ (a a' : Nat) (q q' : Nat × List Value) (b : Nat), M[a]? = some q → M[a']? = some q' → q.1 < 200 → q'.1 < 200 → R[a]? = some b → R[a']? = some b → a = a'
theorem jx_v_mono {R R' : List Nat} (hp : R <+: R') {v w : Value} (h : jx_v R v w) : jx_v R' v w := by
  cases v with
  | ref a =>
    obtain ⟨b, h1, h2⟩ := h
    obtain ⟨T, rfl⟩ := hp
    exact ⟨b, by rw [List.getElem?_append_left (List.getElem?_eq_some_iff.mp h1).1]; exact h1, h2⟩
  | _ => exact h
theorem jx_vs_mono {R R' : List Nat} (hp : R <+: R') : ∀ {vs ws : List Value}, jx_vs R vs ws → jx_vs R' vs ws
  | [], [], _ => trivial
  | _ :: _, _ :: _, h => ⟨jx_v_mono hp h.1, jx_vs_mono hp h.2⟩
  | [], _ :: _, h => h.elim
  | _ :: _, [], h => h.elim
theorem jx_lv_mono {R R' : List Nat} (hp : R <+: R') : ∀ {vs ws : List (Nat × Value)}, jx_lv R vs ws → jx_lv R' vs ws
  | [], [], _ => trivial
  | _ :: _, _ :: _, h => ⟨⟨h.1.1, jx_v_mono hp h.1.2⟩, jx_lv_mono hp h.2⟩
  | [], _ :: _, h => h.elim
  | _ :: _, [], h => h.elim
theorem jx_vs_cons {R : List Nat} {v : Value} {vs W : List Value} (h : jx_vs R (v :: vs) W) : ∃ w ws, W = w :: ws ∧ jx_v R v w ∧ jx_vs R vs ws := by
  cases W with
  | nil => exact h.elim
  | cons w ws => exact ⟨w, ws, rfl, h.1, h.2⟩
theorem jx_vs_nil {R : List Nat} {W : List Value} (h : jx_vs R [] W) : W = [] := by
  cases W with
  | nil => rfl
  | cons w ws => exact h.elim
theorem jx_vs_int {R : List Nat} {x : Int32} {vs W : List Value} (h : jx_vs R (.int x :: vs) W) : ∃ ws, W = .int x :: ws ∧ jx_vs R vs ws := by
  obtain ⟨w, ws, e, h1, h2⟩ := jx_vs_cons h
  have h1 : w = .int x := h1
  exact ⟨ws, by rw [e, h1], h2⟩
theorem jx_vs_long {R : List Nat} {x : Int64} {vs W : List Value} (h : jx_vs R (.long x :: vs) W) : ∃ ws, W = .long x :: ws ∧ jx_vs R vs ws := by
  obtain ⟨w, ws, e, h1, h2⟩ := jx_vs_cons h
  have h1 : w = .long x := h1
  exact ⟨ws, by rw [e, h1], h2⟩
theorem jx_vs_ref {R : List Nat} {a : Nat} {vs W : List Value} (h : jx_vs R (.ref a :: vs) W) : ∃ b ws, R[a]? = some b ∧ W = .ref b :: ws ∧ jx_vs R vs ws := by
  obtain ⟨w, ws, e, ⟨b, h1, h3⟩, h2⟩ := jx_vs_cons h
  exact ⟨b, ws, h1, by rw [e, h3], h2⟩
theorem jx_v_cat {R : List Nat} {v w : Value} (h : jx_v R v w) : w.category = v.category := by
  cases v with
  | ref a => obtain ⟨b, -, rfl⟩ := h; rfl
  | _ => have h : w = _ := h; subst h; rfl
theorem jx_vs_cat {R : List Nat} : ∀ {vs ws : List Value}, jx_vs R vs ws → (ws.map fun v => v.category).sum = jx_cat vs
  | [], [], _ => rfl
  | v :: vs, w :: ws, h => by
    have h1 := jx_vs_cat h.2
    have h2 := jx_v_cat h.1
    simp only [jx_cat, List.map_cons, List.sum_cons] at h1 ⊢
    rw [h1, h2]
  | [], _ :: _, h => h.elim
  | _ :: _, [], h => h.elim
theorem jx_vs_len {R : List Nat} : ∀ {vs ws : List Value}, jx_vs R vs ws → ws.length = vs.length
  | [], [], _ => rfl
  | v :: vs, w :: ws, h => by simp [jx_vs_len h.2]
  | [], _ :: _, h => h.elim
  | _ :: _, [], h => h.elim
theorem jx_vs_app {R : List Nat} : ∀ {vs ws us xs : List Value}, jx_vs R vs ws → jx_vs R us xs → jx_vs R (vs ++ us) (ws ++ xs)
  | [], [], _, _, _, h => h
  | v :: vs, w :: ws, _, _, h, h2 => ⟨h.1, jx_vs_app h.2 h2⟩
  | [], _ :: _, _, _, h, _ => h.elim
  | _ :: _, [], _, _, h, _ => h.elim
theorem jx_vs_rev {R : List Nat} : ∀ {vs ws : List Value}, jx_vs R vs ws → jx_vs R vs.reverse ws.reverse
  | [], [], _ => trivial
  | v :: vs, w :: ws, h => by
    rw [List.reverse_cons, List.reverse_cons]
    exact jx_vs_app (jx_vs_rev h.2) ⟨h.1, trivial⟩
  | [], _ :: _, h => h.elim
  | _ :: _, [], h => h.elim
theorem jx_vs_take {R : List Nat} : ∀ (n : Nat) {vs ws : List Value}, jx_vs R vs ws → jx_vs R (vs.take n) (ws.take n)
  | 0, _, _, _ => by simp [jx_vs]
  | n + 1, [], [], _ => trivial
  | n + 1, v :: vs, w :: ws, h => ⟨h.1, jx_vs_take n h.2⟩
  | _ + 1, [], _ :: _, h => h.elim
  | _ + 1, _ :: _, [], h => h.elim
theorem jx_vs_drop {R : List Nat} : ∀ (n : Nat) {vs ws : List Value}, jx_vs R vs ws → jx_vs R (vs.drop n) (ws.drop n)
  | 0, _, _, h => h
  | n + 1, [], [], _ => trivial
  | n + 1, v :: vs, w :: ws, h => jx_vs_drop n h.2
  | _ + 1, [], _ :: _, h => h.elim
  | _ + 1, _ :: _, [], h => h.elim
theorem jx_vs_get {R : List Nat} : ∀ {vs ws : List Value} (_ : jx_vs R vs ws) (k : Nat) {v : Value}, vs[k]? = some v → ∃ w, ws[k]? = some w ∧ jx_v R v w
  | [], [], _, k, v, hk => by simp at hk
  | v0 :: vs, w :: ws, h, 0, v, hk => by
    simp at hk; subst hk
    exact ⟨w, rfl, h.1⟩
  | v0 :: vs, w :: ws, h, k + 1, v, hk => jx_vs_get h.2 k (by simpa using hk)
  | [], _ :: _, h, _, _, _ => h.elim
  | _ :: _, [], h, _, _, _ => h.elim
theorem jx_vs_set {R : List Nat} : ∀ {vs ws : List Value} (_ : jx_vs R vs ws) (k : Nat) {v w : Value}, jx_v R v w → jx_vs R (vs.set k v) (ws.set k w)
  | [], [], _, k, v, w, _ => by simp [jx_vs]
  | v0 :: vs, w0 :: ws, h, 0, v, w, hv => ⟨hv, h.2⟩
  | v0 :: vs, w0 :: ws, h, k + 1, v, w, hv => ⟨h.1, jx_vs_set h.2 k hv⟩
  | [], _ :: _, h, _, _, _, _ => h.elim
  | _ :: _, [], h, _, _, _, _ => h.elim
theorem jx_lv_lk {R : List Nat} : ∀ {lv lw : List (Nat × Value)} (_ : jx_lv R lv lw) {i : Nat} {v : Value}, jx_lk lv i = some v → ∃ (j : Nat) (w : Value), lw[j]? = some (i, w) ∧ jx_v R v w
  | [], [], _, i, v, hk => by simp [jx_lk] at hk
  | q :: lv, r :: lw, h, i, v, hk => by
    unfold jx_lk at hk
    rw [List.find?_cons] at hk
    split at hk
    next e =>
      simp at hk e
      subst hk
      obtain ⟨r1, r2⟩ := r
      obtain ⟨⟨e1, e2⟩, -⟩ := h
      have e1 : r1 = q.1 := e1
      exact ⟨0, r2, by rw [e1, e]; rfl, e2⟩
    next e =>
      obtain ⟨j, w, h1, h2⟩ := jx_lv_lk h.2 (i := i) (v := v) hk
      exact ⟨j + 1, w, by simpa using h1, h2⟩
  | [], _ :: _, h, _, _, _ => h.elim
  | _ :: _, [], h, _, _, _ => h.elim
theorem jx_lv_fil {R : List Nat} (P : Nat → Nat → Bool) : ∀ {lv lw : List (Nat × Value)} (_ : jx_lv R lv lw), jx_lv R (lv.filter (fun q => P q.1 q.2.category)) (lw.filter (fun q => P q.1 q.2.category))
  | [], [], _ => trivial
  | q :: lv, r :: lw, h => by
    have e1 := h.1.1
    have e2 := jx_v_cat h.1.2
    rw [List.filter_cons, List.filter_cons, e1, e2]
    split
    · exact ⟨⟨e1, h.1.2⟩, jx_lv_fil P h.2⟩
    · exact jx_lv_fil P h.2
  | [], _ :: _, h => h.elim
  | _ :: _, [], h => h.elim
theorem jx_lv_s1 {R : List Nat} {lv lw : List (Nat × Value)} (h : jx_lv R lv lw) (i : Nat) {v w : Value} (hv : jx_v R v w) : jx_lv R (jx_s1 lv i v) (jx_s1 lw i w) := ⟨⟨rfl, hv⟩, jx_lv_fil (fun a b => !(a == i) && !(a + 1 == i && b == 2)) h⟩
theorem jx_lv_s2 {R : List Nat} {lv lw : List (Nat × Value)} (h : jx_lv R lv lw) (i : Nat) {v w : Value} (hv : jx_v R v w) : jx_lv R (jx_s2 lv i v) (jx_s2 lw i w) := ⟨⟨rfl, hv⟩, jx_lv_fil (fun a b => !(a == i) && (!(a == i + 1) && !(a + 1 == i && b == 2))) h⟩
theorem jx_lv_args {R : List Nat} : ∀ {As Bs : List Value} (i : Nat), jx_vs R As Bs → jx_lv R (lv_args i As) (lv_args i Bs)
  | [], [], _, _ => trivial
  | v :: As, w :: Bs, i, h => by
    have e2 := jx_v_cat h.1
    unfold lv_args
    rw [e2]
    exact ⟨⟨rfl, h.1⟩, jx_lv_args _ h.2⟩
  | [], _ :: _, _, h => h.elim
  | _ :: _, [], _, h => h.elim
theorem jx_vs_sl {R : List Nat} : ∀ {As Bs : List Value}, jx_vs R As Bs → (lg_sl Bs).length = (lg_sl As).length
  | [], [], _ => rfl
  | v :: As, w :: Bs, h => by
    have e2 := jx_v_cat h.1
    have ih := jx_vs_sl h.2
    unfold lg_sl at ih ⊢
    rw [List.flatMap_cons, List.flatMap_cons, List.length_append, List.length_append, ih, e2]
    split <;> rfl
  | [], _ :: _, h => h.elim
  | _ :: _, [], h => h.elim
theorem jx_ar_mono {R R' : List Nat} (hp : R <+: R') {t : Nat} {L : List Value} {x : vp_A} (h : jx_ar R t L x) : jx_ar R' t L x := by
  rcases h with h | h | ⟨h1, h2, f, h3, h4⟩
  · exact Or.inl h
  · exact Or.inr (Or.inl h)
  · exact Or.inr (Or.inr ⟨h1, h2, f, h3, fun i v hv => jx_v_mono hp (h4 i v hv)⟩)
variable {dA : Nat → ClassId} {K : (Nat × List Value) → Nat → Prop} {R R' : List Nat} {M : jx_H} {h h' : jm_H}
theorem jx_ce_mono (hp : R <+: R') {q : Nat × List Value} {b : Nat} (hk : q.1 < 200 → h' b = h b) (hc : jx_ce dA K R h q b) : jx_ce dA K R' h' q b := by
  rcases hc with ⟨h1, fs, h2, h3⟩ | ⟨h1, h2, x, h3, h4⟩ | hc
  · exact Or.inl ⟨h1, fs, by rw [hk (by omega)]; exact h2, jx_vs_mono hp h3⟩
  · exact Or.inr (Or.inl ⟨h1, h2, x, by rw [hk h2]; exact h3, jx_ar_mono hp h4⟩)
  · exact Or.inr (Or.inr hc)
theorem jx_re_at (E : jx_re dA K R M h) {a : Nat} {q : Nat × List Value} (ha : M[a]? = some q) : ∃ b : Nat, R[a]? = some b ∧ jx_ce dA K R h q b := by
  have hl : a < R.length := by rw [E.1]; exact (List.getElem?_eq_some_iff.mp ha).1
  exact ⟨R[a], List.getElem?_eq_getElem hl, E.2.1 a q _ ha (List.getElem?_eq_getElem hl)⟩
theorem jx_re_set (E : jx_re dA K R M h) {a b : Nat} {q q1 : Nat × List Value} {y : va_E} (ha : M[a]? = some q) (hb : R[a]? = some b) (hq : q.1 < 200) (hk : q1.1 = q.1) (hc : jx_ce dA K R (jm_up h b y) q1 b) : jx_re dA K R (M.set a q1) (jm_up h b y) := by
  have hla := (List.getElem?_eq_some_iff.mp ha).1
  refine ⟨by rw [List.length_set]; exact E.1, fun a2 q2 b2 h1 h2 => ?_, fun a2 a3 q2 q3 b2 h1 h2 g1 g2 f1 f2 => ?_⟩
  · by_cases e : a = a2
    · subst e
      rw [List.getElem?_set_self hla] at h1
      cases h1
      rw [hb] at h2
      cases h2
      exact hc
    · rw [List.getElem?_set_ne e] at h1
      refine jx_ce_mono (List.prefix_rfl) (fun g => ?_) (E.2.1 a2 q2 b2 h1 h2)
      refine jm_up_ne _ _ (fun eb => e ?_)
      subst eb
      exact E.2.2 a a2 q q2 b2 ha h1 hq g hb h2
  · have key : ∀ (a2 : Nat) (q2 : Nat × List Value), (M.set a q1)[a2]? = some q2 → q2.1 < 200 → ∃ q4, M[a2]? = some q4 ∧ q4.1 < 200 := fun a2 q2 h1 g1 => by
      by_cases e : a = a2
      · subst e
        exact ⟨q, ha, hq⟩
      · rw [List.getElem?_set_ne e] at h1
        exact ⟨q2, h1, g1⟩
    obtain ⟨q4, i1, i2⟩ := key a2 q2 h1 g1
    obtain ⟨q5, i3, i4⟩ := key a3 q3 h2 g2
    exact E.2.2 a2 a3 q4 q5 b2 i1 i3 i2 i4 f1 f2
theorem jx_re_new (E : jx_re dA K R M h) {b : Nat} {q1 : Nat × List Value} {y : va_E} (hb : h b = none) (hc : jx_ce dA K (R ++ [b]) (jm_up h b y) q1 b) : jx_re dA K (R ++ [b]) (M ++ [q1]) (jm_up h b y) := by
  have hp : R <+: R ++ [b] := ⟨[b], rfl⟩
  have old : ∀ (a : Nat) (q : Nat × List Value) (c : Nat), M[a]? = some q → R[a]? = some c → q.1 < 200 → c ≠ b := fun a q c h1 h2 h3 e => by
    subst e
    rcases E.2.1 a q c h1 h2 with ⟨-, fs, g, -⟩ | ⟨-, -, x, g, -⟩ | ⟨g, -⟩
    · rw [hb] at g; cases g
    · rw [hb] at g; cases g
    · omega
  have spl : ∀ (a : Nat) (q : Nat × List Value) (c : Nat), (M ++ [q1])[a]? = some q → (R ++ [b])[a]? = some c → (M[a]? = some q ∧ R[a]? = some c) ∨ (a = M.length ∧ q = q1 ∧ c = b) := fun a q c h1 h2 => by
    by_cases e : a < M.length
    · rw [List.getElem?_append_left e] at h1
      rw [List.getElem?_append_left (by rw [E.1]; exact e)] at h2
      exact Or.inl ⟨h1, h2⟩
    · have e2 := (List.getElem?_eq_some_iff.mp h1).1
      rw [List.length_append] at e2
      have e3 : a = M.length := by simp at e2; omega
      subst e3
      refine Or.inr ⟨rfl, ?_, ?_⟩
      · simpa using h1.symm
      · rw [← E.1] at h2
        simpa using h2.symm
  refine ⟨by simp [E.1], fun a q c h1 h2 => ?_, fun a a' q q' c h1 h2 g1 g2 f1 f2 => ?_⟩
  · rcases spl a q c h1 h2 with ⟨i1, i2⟩ | ⟨-, rfl, rfl⟩
    · exact jx_ce_mono hp (fun g => jm_up_ne _ _ (old a q c i1 i2 g)) (E.2.1 a q c i1 i2)
    · exact hc
  · rcases spl a q c h1 f1 with ⟨i1, i2⟩ | ⟨i1, i2, i3⟩ <;> rcases spl a' q' c h2 f2 with ⟨j1, j2⟩ | ⟨j1, j2, j3⟩
    · exact E.2.2 a a' q q' c i1 j1 g1 g2 i2 j2
    · exact absurd j3 (old a q c i1 i2 g1)
    · exact absurd i3 (old a' q' c j1 j2 g2)
    · rw [i1, j1]
end JX1
