section JK_1
variable {a h c : Nat} {S : jS}
theorem zw_1 {b : Nat} {s u : Int64} {o : Int32} (hb : b ≠ c) : (zw S c s u o).1 b = S.1 b := by
  funext j
  unfold zw
  rw [w_ir, if_neg (fun q => hb q.1), w_l1, w_l1]
theorem zw_2 {b : Nat} {s u : Int64} {o : Int32} (hb : b ≠ c) : (zw S c s u o).2.1 b = S.2.1 b := by
  funext j
  unfold zw
  rw [w_i2, w_lr, if_neg (fun q => hb q.1), w_lr, if_neg (fun q => hb q.1)]
theorem zw_3 {s u : Int64} {o : Int32} : (zw S c s u o).2.2 = S.2.2 := rfl
theorem zw_10 {s u : Int64} {o : Int32} {j : Nat} (hj : j ≠ 6) : (zw S c s u o).1 c j = S.1 c j := by
  unfold zw
  rw [w_ir, if_neg (fun q => hj q.2), w_l1, w_l1]
theorem zw_16 {s u : Int64} {o : Int32} : (zw S c s u o).1 c 6 = o := by
  unfold zw
  rw [w_ir, if_pos ⟨rfl, rfl⟩]
theorem zw_25 {s u : Int64} {o : Int32} : (zw S c s u o).2.1 c 5 = u := by
  unfold zw
  rw [w_i2, w_lr, if_pos ⟨rfl, rfl⟩]
theorem zw_24 {s u : Int64} {o : Int32} : (zw S c s u o).2.1 c 4 = s := by
  unfold zw
  rw [w_i2, w_lr, if_neg (by omega), w_lr, if_pos ⟨rfl, rfl⟩]
theorem zw_zw {s u s' u' : Int64} {o o' : Int32} : zw (zw S c s u o) c s' u' o' = zw S c s' u' o' := by
  apply S_ext
  · intro b j
    by_cases hb : b = c
    · subst hb
      by_cases hj : j = 6
      · subst hj
        rw [zw_16, zw_16]
      · rw [zw_10 hj, zw_10 hj, zw_10 hj]
    · rw [zw_1 hb, zw_1 hb, zw_1 hb]
  · intro b j
    unfold zw
    simp only [w_i2, w_lr]
    by_cases h1 : b = c ∧ j = 5
    · simp only [h1, and_self, if_true]
    · by_cases h2 : b = c ∧ j = 4
      · simp only [if_neg h1, if_pos h2]
      · simp only [if_neg h1, if_neg h2]
  · intro b j; rfl
variable {s u : Int64} {o : Int32}
theorem zw_lf (ha : a ≠ c) (ha1 : a + 1 ≠ c) (hh : h ≠ c) (hh1 : h + 1 ≠ c) (x : Int) : lf (zw S c s u o) a h x = lf S a h x := by
  unfold lf fN hyS hmS fD dkS hld tkS
  simp only [zw_1 ha, zw_1 hh, zw_1 hh1, zw_2 ha1]
theorem zw_ckA (ha : a ≠ c) (ha1 : a + 1 ≠ c) (hh : h ≠ c) (hh1 : h + 1 ≠ c) : ckA (zw S c s u o) a h = ckA S a h := by
  unfold ckA ckD hsk
  simp only [zw_1 ha, zw_1 hh, zw_1 hh1, zw_2 ha1, zw_3]
theorem zw_ckU (ha1 : a + 1 ≠ c) : ckU (zw S c s u o) a = ckU S a := by
  unfold ckU ckT
  simp only [zw_2 ha1]
theorem zw_zB (y : Int) : zB (zw S c s u o) c y = zB S c y := by
  unfold zB rsS
  simp only [zw_1 (show c + 1 ≠ c by omega), zw_10 (show (0 : Nat) ≠ 6 by decide)]
theorem zw_zE (y : Int) : zE (zw S c s u o) c y = zE S c y := by
  unfold zE rsS
  simp only [zw_1 (show c + 2 ≠ c by omega), zw_10 (show (0 : Nat) ≠ 6 by decide), zw_10 (show (1 : Nat) ≠ 6 by decide)]
theorem zw_zok : zok (zw S c s u o) c = zok S c := by
  unfold zok rkS
  simp only [zw_1 (show c + 1 ≠ c by omega), zw_1 (show c + 2 ≠ c by omega), zw_10 (show (0 : Nat) ≠ 6 by decide), zw_10 (show (1 : Nat) ≠ 6 by decide)]
theorem zw_zof (x r : Int) : zof (zw S c s u o) c x r = zof S c x r := by
  unfold zof zsum
  simp only [zw_zB, zw_zE, zw_10 (show (0 : Nat) ≠ 6 by decide), zw_10 (show (1 : Nat) ≠ 6 by decide)]
theorem zw_zst (x y r : Int) : zst (zw S c s u o) c x y r = zst S c x y r := by
  unfold zst zev
  simp only [zw_zof, zw_zB, zw_zE, zw_10 (show (1 : Nat) ≠ 6 by decide)]
theorem zw_zca : zca (zw S c s u o) c = (u = -1152921504606846976 ∨ zst S c s.toInt u.toInt o.toInt) := by
  unfold zca
  rw [zw_25, zw_24, zw_16, zw_zst]
theorem zof_b {x r : Int} (hz : zok S c) (h : zof S c x r) : (S.1 c 0).toInt ≤ r ∧ r ≤ (S.1 c 0).toInt + (S.1 c 1).toInt := by
  obtain ⟨z1, z2, z3, z4, z5⟩ := hz
  rcases h with ⟨-, h⟩ | ⟨-, -, h⟩ | ⟨-, -, h⟩ <;> omega
theorem zof_u {x r r' : Int} (h : zof S c x r) (h' : zof S c x r') : r = r' := by
  rcases h with ⟨g1, g2⟩ | ⟨g1, g2, g3⟩ | ⟨g1, g2, g3⟩
  · rcases h' with ⟨f1, f2⟩ | ⟨f1, -⟩ | ⟨f1, -⟩
    · omega
    · exact absurd g1 f1
    · exact absurd g1 f1
  · rcases h' with ⟨f1, f2⟩ | ⟨f1, f2, f3⟩ | ⟨f1, f2, f3⟩
    · exact absurd f1 g1
    · omega
    · exact absurd g2 f2
  · rcases h' with ⟨f1, f2⟩ | ⟨f1, f2, f3⟩ | ⟨f1, f2, f3⟩
    · exact absurd f1 g1
    · exact absurd f2 g2
    · omega
/-- a second of universal time at which the cron fires -/
def Fr (S : jS) (a h c : Nat) (x : Int) : Prop := ∃ r, zof S c x r ∧ lf S a h (x + r)
def rF (S : jS) (a h c : Nat) (x r : Int) : Prop := (∃ v, r = 1000 * v ∧ x ≤ v ∧ v ≤ 10413791999 ∧ Fr S a h c v ∧ ∀ i, x ≤ i → i < v → ¬ Fr S a h c i) ∨ (r = -1 ∧ ∀ i, x ≤ i → i ≤ 10413791999 → ¬ Fr S a h c i)
def uF (S : jS) (a h c : Nat) (x r : Int) : Prop := (∃ v, r = 1000 * v ∧ v ≤ x ∧ 0 ≤ v ∧ Fr S a h c v ∧ ∀ i, i ≤ x → v < i → ¬ Fr S a h c i) ∨ (r = -1 ∧ ∀ i, i ≤ x → 0 ≤ i → ¬ Fr S a h c i)
def cn (g : Nat → Int) (x : Int) : Nat → Nat
  | 0 => 0
  | n + 1 => cn g x n + (if x < g n then 1 else 0)
def cl_ (g : Nat → Int) (x : Int) : Nat → Nat
  | 0 => 0
  | n + 1 => cl_ g x n + (if g n ≤ x then 1 else 0)
theorem cn_le {g : Nat → Int} {x : Int} : ∀ n, cn g x n ≤ n
  | 0 => Nat.le_refl _
  | n + 1 => by
    have := cn_le (g := g) (x := x) n
    unfold cn
    split <;> omega
theorem cl_le {g : Nat → Int} {x : Int} : ∀ n, cl_ g x n ≤ n
  | 0 => Nat.le_refl _
  | n + 1 => by
    have := cl_le (g := g) (x := x) n
    unfold cl_
    split <;> omega
theorem cn_mo {g : Nat → Int} {x x' : Int} (h : x ≤ x') : ∀ n, cn g x' n ≤ cn g x n
  | 0 => Nat.le_refl _
  | n + 1 => by
    have := cn_mo (g := g) h n
    unfold cn
    split <;> split <;> omega
theorem cl_mo {g : Nat → Int} {x x' : Int} (h : x' ≤ x) : ∀ n, cl_ g x' n ≤ cl_ g x n
  | 0 => Nat.le_refl _
  | n + 1 => by
    have := cl_mo (g := g) h n
    unfold cl_
    split <;> split <;> omega
theorem cn_lt {g : Nat → Int} {x x' : Int} {i : Nat} (h : x ≤ x') (h1 : x < g i) (h2 : g i ≤ x') : ∀ n, i < n → cn g x' n < cn g x n
  | 0, q => by omega
  | n + 1, q => by
    have m := cn_mo (g := g) h n
    unfold cn
    by_cases e : i = n
    · subst e
      rw [if_neg (by omega), if_pos h1]
      omega
    · have := cn_lt h h1 h2 n (by omega)
      split <;> split <;> omega
theorem cl_lt {g : Nat → Int} {x x' : Int} {i : Nat} (h : x' ≤ x) (h1 : g i ≤ x) (h2 : x' < g i) : ∀ n, i < n → cl_ g x' n < cl_ g x n
  | 0, q => by omega
  | n + 1, q => by
    have m := cl_mo (g := g) h n
    unfold cl_
    by_cases e : i = n
    · subst e
      rw [if_neg (by omega), if_pos h1]
      omega
    · have := cl_lt h h1 h2 n (by omega)
      split <;> split <;> omega
/-- how many changes are still to come -/
def mF (S : jS) (c : Nat) (x : Int) : Nat := cn (fun i => zB S c (1970 + i)) x 330 + cn (fun i => zE S c (1970 + i)) x 330
def mU (S : jS) (c : Nat) (x : Int) : Nat := cl_ (fun i => zB S c (1970 + i)) x 330 + cl_ (fun i => zE S c (1970 + i)) x 330
theorem mF_lt {x x' e : Int} (he : zev S c e) (h1 : x < e) (h2 : e ≤ x') : mF S c x' < mF S c x := by
  obtain ⟨y, y1, y2, q⟩ := he
  have i1 : (1970 + ((y - 1970).toNat : Int)) = y := by omega
  unfold mF
  rcases q with rfl | rfl
  · have a1 := cn_lt (g := fun i => zB S c (1970 + i)) (x := x) (x' := x') (i := (y - 1970).toNat) (by omega) (by simp only [i1]; exact h1) (by simp only [i1]; exact h2) 330 (by omega)
    have a2 := cn_mo (g := fun i => zE S c (1970 + i)) (x := x) (x' := x') (by omega) 330
    omega
  · have a1 := cn_lt (g := fun i => zE S c (1970 + i)) (x := x) (x' := x') (i := (y - 1970).toNat) (by omega) (by simp only [i1]; exact h1) (by simp only [i1]; exact h2) 330 (by omega)
    have a2 := cn_mo (g := fun i => zB S c (1970 + i)) (x := x) (x' := x') (by omega) 330
    omega
theorem mU_lt {x x' e : Int} (he : zev S c e) (h1 : e ≤ x) (h2 : x' < e) : mU S c x' < mU S c x := by
  obtain ⟨y, y1, y2, q⟩ := he
  have i1 : (1970 + ((y - 1970).toNat : Int)) = y := by omega
  unfold mU
  rcases q with rfl | rfl
  · have a1 := cl_lt (g := fun i => zB S c (1970 + i)) (x := x) (x' := x') (i := (y - 1970).toNat) (by omega) (by simp only [i1]; exact h1) (by simp only [i1]; exact h2) 330 (by omega)
    have a2 := cl_mo (g := fun i => zE S c (1970 + i)) (x := x) (x' := x') (by omega) 330
    omega
  · have a1 := cl_lt (g := fun i => zE S c (1970 + i)) (x := x) (x' := x') (i := (y - 1970).toNat) (by omega) (by simp only [i1]; exact h1) (by simp only [i1]; exact h2) 330 (by omega)
    have a2 := cl_mo (g := fun i => zB S c (1970 + i)) (x := x) (x' := x') (by omega) 330
    omega
theorem mF_b {x : Int} : mF S c x ≤ 660 := by
  have := cn_le (g := fun i => zB S c (1970 + i)) (x := x) 330
  have := cn_le (g := fun i => zE S c (1970 + i)) (x := x) 330
  unfold mF
  omega
theorem mU_b {x : Int} : mU S c x ≤ 660 := by
  have := cl_le (g := fun i => zB S c (1970 + i)) (x := x) 330
  have := cl_le (g := fun i => zE S c (1970 + i)) (x := x) 330
  unfold mU
  omega
end JK_1
