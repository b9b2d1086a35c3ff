section JU
/-- these cells written -/
def jx_us (M : jx_H) : List (Nat × (Nat × List Value)) → jx_H
  | [] => M
  | (a, x) :: L => (jx_us M L).set a x
theorem jx_us_len (M : jx_H) : ∀ L, (jx_us M L).length = M.length
  | [] => rfl
  | (a, x) :: L => by rw [jx_us, List.length_set, jx_us_len M L]
theorem jx_us_out {M : jx_H} {L : List (Nat × (Nat × List Value))} {b : Nat} (hb : b ∉ L.map Prod.fst) : (jx_us M L)[b]? = M[b]? := by
  induction L with
  | nil => rfl
  | cons q L ih =>
    obtain ⟨a, x⟩ := q
    simp only [List.map_cons, List.mem_cons, not_or] at hb
    rw [jx_us, List.getElem?_set_ne (Ne.symm hb.1)]
    exact ih hb.2
theorem jx_us_get {M : jx_H} {L : List (Nat × (Nat × List Value))} (hnd : (L.map Prod.fst).Nodup) (hlt : ∀ a ∈ L.map Prod.fst, a < M.length) (k : Nat) {a : Nat} {x : Nat × List Value} (hk : L[k]? = some (a, x)) : (jx_us M L)[a]? = some x := by
  induction L generalizing k with
  | nil => simp at hk
  | cons q L ih =>
    obtain ⟨b, y⟩ := q
    simp only [List.map_cons, List.nodup_cons] at hnd
    cases k with
    | zero =>
      simp at hk
      obtain ⟨rfl, rfl⟩ := hk
      rw [jx_us, List.getElem?_set_self (by rw [jx_us_len]; exact hlt b List.mem_cons_self)]
    | succ k =>
      have hk : L[k]? = some (a, x) := by simpa using hk
      have hne : a ≠ b := by
        intro e
        subst e
        exact hnd.1 (List.mem_map.mpr ⟨(a, x), List.mem_of_getElem? hk, rfl⟩)
      rw [jx_us, List.getElem?_set_ne (Ne.symm hne)]
      exact ih hnd.2 (fun a ha => hlt a (List.mem_cons_of_mem _ ha)) k hk
theorem jx_us_set {M : jx_H} {L L1 : List (Nat × (Nat × List Value))} (hnd : (L.map Prod.fst).Nodup) (k : Nat) {a : Nat} {x y : Nat × List Value} (hk : L[k]? = some (a, x)) (he : L.set k (a, y) = L1) : (jx_us M L).set a y = jx_us M L1 := by
  subst he
  induction L generalizing k with
  | nil => simp at hk
  | cons q L ih =>
    obtain ⟨b, z⟩ := q
    simp only [List.map_cons, List.nodup_cons] at hnd
    cases k with
    | zero =>
      simp at hk
      obtain ⟨rfl, rfl⟩ := hk
      show ((jx_us M L).set b z).set b y = (jx_us M L).set b y
      rw [List.set_set]
    | succ k =>
      have hk : L[k]? = some (a, x) := by simpa using hk
      have hne : b ≠ a := by
        intro e
        subst e
        exact hnd.1 (List.mem_map.mpr ⟨(b, x), List.mem_of_getElem? hk, rfl⟩)
      show ((jx_us M L).set b z).set a y = (jx_us M (L.set k (a, y))).set b z
      rw [List.set_comm _ _ hne, ih hnd.2 k hk]
theorem jx_us_id {M : jx_H} {L : List (Nat × (Nat × List Value))} (hL : ∀ q ∈ L, M[q.1]? = some q.2) : jx_us M L = M := by
  induction L with
  | nil => rfl
  | cons q L ih =>
    obtain ⟨a, x⟩ := q
    rw [jx_us, ih (fun q hq => hL q (List.mem_cons_of_mem _ hq))]
    have h1 := hL (a, x) List.mem_cons_self
    obtain ⟨h2, h3⟩ := List.getElem?_eq_some_iff.mp h1
    have h3 : M[a] = x := h3
    rw [← h3]
    exact List.set_getElem_self h2
def jx_wr (L : List (Nat × (Nat × List Value))) : List (Nat × (Nat × List Value)) → List Nat → List (Nat × (Nat × List Value))
  | c :: Lc, k :: ks => (jx_wr L Lc ks).set k c
  | _, _ => L
theorem jx_wr_fst {L : List (Nat × (Nat × List Value))} : ∀ (Lc : List (Nat × (Nat × List Value))) (ks : List Nat), ks.map (fun k => (L[k]?).map Prod.fst) = Lc.map (fun q => some q.1) → (jx_wr L Lc ks).map Prod.fst = L.map Prod.fst := by
  intro Lc
  induction Lc with
  | nil => intro ks _; simp [jx_wr]
  | cons c Lc ih =>
    intro ks hk
    cases ks with
    | nil => simp [jx_wr]
    | cons k ks =>
      simp only [List.map_cons, List.cons.injEq] at hk
      have ih := ih ks hk.2
      apply List.ext_getElem?
      intro i
      show ((((jx_wr L Lc ks).set k c)).map Prod.fst)[i]? = (L.map Prod.fst)[i]?
      rw [← ih, List.getElem?_map, List.getElem?_map, List.getElem?_set]
      by_cases e : k = i
      · subst e
        have h1 : ((jx_wr L Lc ks).map Prod.fst)[k]? = (L.map Prod.fst)[k]? := by rw [ih]
        rw [List.getElem?_map, List.getElem?_map, hk.1] at h1
        by_cases hl : k < (jx_wr L Lc ks).length
        · rw [List.getElem?_eq_getElem hl] at h1
          simp only [Option.map_some, Option.some.injEq] at h1
          simp [hl, h1]
        · simp [hl]
      · simp [e]
theorem jx_into {M : jx_H} {L Lc L1 : List (Nat × (Nat × List Value))} (hnd : (L.map Prod.fst).Nodup) (ks : List Nat) (hk : ks.map (fun k => (L[k]?).map Prod.fst) = Lc.map (fun q => some q.1)) (he : jx_wr L Lc ks = L1) : jx_us (jx_us M L) Lc = jx_us M L1 := by
  subst he
  induction Lc generalizing ks with
  | nil => cases ks with
    | nil => rfl
    | cons k ks => simp at hk
  | cons c Lc ih =>
    cases ks with
    | nil => simp at hk
    | cons k ks =>
      obtain ⟨a, x⟩ := c
      simp only [List.map_cons, List.cons.injEq] at hk
      show (jx_us (jx_us M L) Lc).set a x = jx_us M ((jx_wr L Lc ks).set k (a, x))
      rw [ih ks hk.2]
      have h1 := jx_wr_fst Lc ks hk.2
      have h2 : ((jx_wr L Lc ks)[k]?).map Prod.fst = some a := by
        have h3 : ((jx_wr L Lc ks).map Prod.fst)[k]? = (L.map Prod.fst)[k]? := by rw [h1]
        rw [List.getElem?_map, List.getElem?_map] at h3
        rw [h3]; exact hk.1
      obtain ⟨⟨b, z⟩, h4, h5⟩ := Option.map_eq_some_iff.mp h2
      have h5 : b = a := h5
      subst h5
      exact jx_us_set (by rw [h1]; exact hnd) k h4 rfl
/-- arrays by their contents -/
def jx_vi (n : Nat) (f : Nat → Int32) : List Value := (List.range n).map (fun i => .int (f i))
def jx_vl (n : Nat) (f : Nat → Int64) : List Value := (List.range n).map (fun i => .long (f i))
def jx_vr (n : Nat) (f : Nat → Nat) : List Value := (List.range n).map (fun i => .ref (f i))
theorem jx_vi_len (n : Nat) (f : Nat → Int32) : (jx_vi n f).length = n := by simp [jx_vi]
theorem jx_vl_len (n : Nat) (f : Nat → Int64) : (jx_vl n f).length = n := by simp [jx_vl]
theorem jx_vr_len (n : Nat) (f : Nat → Nat) : (jx_vr n f).length = n := by simp [jx_vr]
theorem jx_vi_get {n : Nat} {f : Nat → Int32} {i : Nat} (h : i < n) : (jx_vi n f)[i]? = some (.int (f i)) := by simp [jx_vi, h]
theorem jx_vl_get {n : Nat} {f : Nat → Int64} {i : Nat} (h : i < n) : (jx_vl n f)[i]? = some (.long (f i)) := by simp [jx_vl, h]
theorem jx_vr_get {n : Nat} {f : Nat → Nat} {i : Nat} (h : i < n) : (jx_vr n f)[i]? = some (.ref (f i)) := by simp [jx_vr, h]
theorem jx_set_map {α : Type} (c : α → Value) (n i : Nat) (f : Nat → α) (v : α) : ((List.range n).map (fun j => c (f j))).set i (c v) = (List.range n).map (fun j => c ((fun k => if k = i then v else f k) j)) := by
  apply List.ext_getElem?
  intro j
  rw [List.getElem?_set, List.getElem?_map, List.getElem?_map]
  by_cases e : i = j
  · subst e
    by_cases h : i < n
    · simp [h]
    · simp [h]
  · by_cases h : j < n
    · simp [h, e, Ne.symm e]
    · simp [h, e]
theorem jx_vi_set (n i : Nat) (f : Nat → Int32) (v : Int32) : (jx_vi n f).set i (.int v) = jx_vi n (upd f i v) := jx_set_map Value.int n i f v
theorem jx_vl_set (n i : Nat) (f : Nat → Int64) (v : Int64) : (jx_vl n f).set i (.long v) = jx_vl n (vp_updL f i v) := jx_set_map Value.long n i f v
theorem jx_vr_set (n i : Nat) (f : Nat → Nat) (v : Nat) : (jx_vr n f).set i (.ref v) = jx_vr n (va_up f i v) := jx_set_map Value.ref n i f v
theorem jx_vi_new (n : Nat) (v : Int32) : List.replicate n (.int v) = jx_vi n (fun _ => v) := by
  apply List.ext_getElem?
  intro j
  simp [jx_vi, List.getElem?_replicate]
  by_cases h : j < n <;> simp [h]
theorem jx_vl_new (n : Nat) (v : Int64) : List.replicate n (.long v) = jx_vl n (fun _ => v) := by
  apply List.ext_getElem?
  intro j
  simp [jx_vl, List.getElem?_replicate]
  by_cases h : j < n <;> simp [h]
theorem jx_lts {M : jx_H} {L : List (Nat × (Nat × List Value))} (hL : ∀ q ∈ L, M[q.1]? = some q.2) : ∀ a ∈ L.map Prod.fst, a < M.length := fun a ha => by
  obtain ⟨q, hq, rfl⟩ := List.mem_map.mp ha
  exact (List.getElem?_eq_some_iff.mp (hL q hq)).1
theorem jx_oe {v v' : Option Value} {M M' : jx_H} {c s : Nat} (hv : v = v') (hM : M = M') : ((.inl v, M, c, s) : jx_O) = (.inl v', M', c, s) := by rw [hv, hM]
end JU
