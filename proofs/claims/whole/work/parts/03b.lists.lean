section JM6
def jm_us (h : jm_H) : List (Nat × va_E) → jm_H
  | [] => h
  | (a, x) :: L => jm_up (jm_us h L) a x
theorem jm_us_out {h : jm_H} {L : List (Nat × va_E)} {b : Nat} (hb : b ∉ L.map Prod.fst) : jm_us h L b = h b := by
  induction L with
  | nil => rfl
  | cons q L ih =>
    obtain ⟨a, x⟩ := q
    simp only [List.map_cons, List.mem_cons, not_or] at hb
    show jm_up (jm_us h L) a x b = h b
    rw [jm_up_ne _ _ hb.1]
    exact ih hb.2
theorem jm_us_get {h : jm_H} {L : List (Nat × va_E)} (hnd : (L.map Prod.fst).Nodup) (k : Nat) {a : Nat} {x : va_E} (hk : L[k]? = some (a, x)) : jm_us h L a = some x := by
  induction L generalizing k with
  | nil => simp at hk
  | cons q L ih =>
    obtain ⟨b, y⟩ := q
    simp only [List.map_cons, List.nodup_cons] at hnd
    cases k with
    | zero =>
      simp at hk
      obtain ⟨rfl, rfl⟩ := hk
      exact jm_up_eq _ _ _
    | succ k =>
      have hk : L[k]? = some (a, x) := by simpa using hk
      have hne : a ≠ b := by
        intro e
        subst e
        exact hnd.1 (List.mem_map.mpr ⟨(a, x), List.mem_of_getElem? hk, rfl⟩)
      show jm_up (jm_us h L) b y a = some x
      rw [jm_up_ne _ _ hne]
      exact ih hnd.2 k hk
theorem jm_us_set {h : jm_H} {L L1 : List (Nat × va_E)} (hnd : (L.map Prod.fst).Nodup) (k : Nat) {a : Nat} {x y : va_E} (hk : L[k]? = some (a, x)) (he : L.set k (a, y) = L1) : jm_up (jm_us h L) a y = jm_us h L1 := by
  subst he
  induction L generalizing k with
  | nil => simp at hk
  | cons q L ih =>
    obtain ⟨b, z⟩ := q
    simp only [List.map_cons, List.nodup_cons] at hnd
    cases k with
    | zero =>
      simp at hk
      obtain ⟨rfl, rfl⟩ := hk
      exact jm_up_up _ _ _ _
    | succ k =>
      have hk : L[k]? = some (a, x) := by simpa using hk
      have hne : b ≠ a := by
        intro e
        subst e
        exact hnd.1 (List.mem_map.mpr ⟨(b, x), List.mem_of_getElem? hk, rfl⟩)
      show jm_up (jm_up (jm_us h L) b z) a y = jm_up (jm_us h (L.set k (a, y))) b z
      rw [jm_up_cm _ _ _ hne, ih hnd.2 k hk]
theorem jm_us_id {h : jm_H} {L : List (Nat × va_E)} (hL : ∀ q ∈ L, h q.1 = some q.2) : jm_us h L = h := by
  induction L with
  | nil => rfl
  | cons q L ih =>
    obtain ⟨a, x⟩ := q
    show jm_up (jm_us h L) a x = h
    rw [ih (fun q hq => hL q (List.mem_cons_of_mem _ hq))]
    exact jm_up_id (hL (a, x) List.mem_cons_self)
def jm_wr (L : List (Nat × va_E)) : List (Nat × va_E) → List Nat → List (Nat × va_E)
  | c :: Lc, k :: ks => (jm_wr L Lc ks).set k c
  | _, _ => L
theorem jm_wr_fst {L : List (Nat × va_E)} : ∀ (Lc : List (Nat × va_E)) (ks : List Nat), ks.map (fun k => (L[k]?).map Prod.fst) = Lc.map (fun q => some q.1) → (jm_wr L Lc ks).map Prod.fst = L.map Prod.fst := by
  intro Lc
  induction Lc with
  | nil => intro ks _; simp [jm_wr]
  | cons c Lc ih =>
    intro ks hk
    cases ks with
    | nil => simp [jm_wr]
    | cons k ks =>
      simp only [List.map_cons, List.cons.injEq] at hk
      have ih := ih ks hk.2
      apply List.ext_getElem?
      intro i
      show ((((jm_wr L Lc ks).set k c)).map Prod.fst)[i]? = (L.map Prod.fst)[i]?
      rw [← ih, List.getElem?_map, List.getElem?_map, List.getElem?_set]
      by_cases e : k = i
      · subst e
        have h1 : ((jm_wr L Lc ks).map Prod.fst)[k]? = (L.map Prod.fst)[k]? := by rw [ih]
        rw [List.getElem?_map, List.getElem?_map, hk.1] at h1
        by_cases hl : k < (jm_wr L Lc ks).length
        · rw [List.getElem?_eq_getElem hl] at h1
          simp only [Option.map_some, Option.some.injEq] at h1
          simp [hl, h1]
        · simp [hl]
      · simp [e]
theorem jm_into {h : jm_H} {L Lc L1 : List (Nat × va_E)} (hnd : (L.map Prod.fst).Nodup) (ks : List Nat) (hk : ks.map (fun k => (L[k]?).map Prod.fst) = Lc.map (fun q => some q.1)) (he : jm_wr L Lc ks = L1) : jm_us (jm_us h L) Lc = jm_us h L1 := by
  subst he
  induction Lc generalizing ks with
  | nil => cases ks with
    | nil => rfl
    | cons k ks => simp at hk
  | cons c Lc ih =>
    cases ks with
    | nil => simp at hk
    | cons k ks =>
      obtain ⟨a, x⟩ := c
      simp only [List.map_cons, List.cons.injEq] at hk
      show jm_up (jm_us (jm_us h L) Lc) a x = jm_us h ((jm_wr L Lc ks).set k (a, x))
      rw [ih ks hk.2]
      have h1 := jm_wr_fst Lc ks hk.2
      have h2 : ((jm_wr L Lc ks)[k]?).map Prod.fst = some a := by
        have h3 : ((jm_wr L Lc ks).map Prod.fst)[k]? = (L.map Prod.fst)[k]? := by rw [h1]
        rw [List.getElem?_map, List.getElem?_map] at h3
        rw [h3]; exact hk.1
      obtain ⟨⟨b, z⟩, h4, h5⟩ := Option.map_eq_some_iff.mp h2
      have h5 : b = a := h5
      subst h5
      exact jm_us_set (by rw [h1]; exact hnd) k h4 rfl
theorem jm_pick {l l1 : List Nat} (hnd : l.Nodup) (is : List Nat) (hi : is.Nodup) (he : is.map (fun i => l[i]?) = l1.map some) : l1.Nodup := by
  have hlen : is.length = l1.length := by simpa using congrArg List.length he
  rw [List.nodup_iff_pairwise_ne, List.pairwise_iff_getElem] at *
  intro i j h1 h2 hij e
  have g : ∀ (k : Nat) (hk : k < l1.length) (hk' : k < is.length), l[is[k]]? = some l1[k] := fun k hk hk' => by
    have := congrArg (fun z => z[k]?) he
    simp only [List.getElem?_map] at this
    rw [List.getElem?_eq_getElem hk, List.getElem?_eq_getElem hk'] at this
    simpa using this
  have a1 := g i h1 (by omega)
  have a2 := g j h2 (by omega)
  obtain ⟨b1, b2⟩ := List.getElem?_eq_some_iff.mp a1
  obtain ⟨c1, c2⟩ := List.getElem?_eq_some_iff.mp a2
  have hne := hi i j (by omega) (by omega) hij
  rcases Nat.lt_trichotomy is[i] is[j] with q | q | q
  · exact hnd _ _ b1 c1 q (by rw [b2, c2, e])
  · exact hne q
  · exact hnd _ _ c1 b1 q (by rw [b2, c2, e])
variable {p : Program} {l : Launch} {e : Env} {R : Room} {s : State} {m : MethodId} {args : Array Value} {below : List Frame} {meth : Method} {c : Code} {Q : State → Prop} {S : State} {D : va_G} {cl : List vw_C} {nL pc dc ds : Nat} {lv : List (Nat × Value)} {st : List Value} {h h1 : jm_H}
theorem jm_hq (e1 : h = h1) (k : jm_W p l e R s m args below meth c S D cl Q nL pc lv st h1 dc ds) : jm_W p l e R s m args below meth c S D cl Q nL pc lv st h dc ds := e1 ▸ k
theorem jm_lvs {lv1 : List (Nat × Value)} (ks : List Nat) (he : lv_pick lv ks = lv1) (k : jm_W p l e R s m args below meth c S D cl Q nL pc lv1 st h dc ds) : jm_W p l e R s m args below meth c S D cl Q nL pc lv st h dc ds := fun H ls locs hl hr hS => k H ls locs (lv_sub hl ks he) hr hS
end JM6
