section JC3
variable {S : jS} {x1 : Int32} {t : Int64} {n : Nat} {E : Nat → Int64} {B : Nat → Int32}
theorem evs_le (h : evs n E B) {i j : Nat} (hij : i ≤ j) (hj : j < n) : (E i).toInt ≤ (E j).toInt := by
  by_cases e : i = j
  · rw [e]; exact Int.le_refl _
  · rcases h i j (by omega) hj with q | ⟨q, -⟩
    · rw [Int64.lt_iff_toInt_lt] at q; omega
    · rw [q]; exact Int.le_refl _
theorem md_ {lo hi : Int32} {l h : Nat} (h1 : lo.toInt = l) (h2 : hi.toInt = h) (h3 : l < h) (h4 : h ≤ 1000) : ((lo + hi) / 2).toInt = ((l + h) / 2 : Nat) ∧ ((lo + hi) / 2 + 1).toInt = ((l + h) / 2 + 1 : Nat) := by
  have e1 : ((lo + hi) / 2).toInt = ((l + h) / 2 : Nat) := by
    simp (disch := omega) only [Int32.toInt_add, Int32.toInt_div, h1, h2, bs32, td_, Int32.reduceToInt]
    omega
  refine ⟨e1, ?_⟩
  rw [Int32.toInt_add, e1, bs32 (by simp only [Int32.reduceToInt]; omega) (by simp only [Int32.reduceToInt]; omega)]
  simp only [Int32.reduceToInt]; omega
theorem lM_pas (z1 : 0 ≤ x1.toInt) (z2 : x1.toInt < 8) (hn : n ≤ 660) (hs : evs n (S.2.1 (220 + x1.toNatClampNeg)) B) : ∀ (f : Nat) (lo hi : Int32) (l h : Nat), lo.toInt = l → hi.toInt = h → l ≤ h → h ≤ n → h - l < f → (∀ i, i < l → (S.2.1 (220 + x1.toNatClampNeg) i).toInt ≤ t.toInt) → (∀ i, h ≤ i → i < n → t.toInt < (S.2.1 (220 + x1.toNatClampNeg) i).toInt) → ∃ (r : Int32) (p : Nat), L_M_passed_11 S f x1 t lo hi = some r ∧ r.toInt = p ∧ p ≤ n ∧ (∀ i, i < p → (S.2.1 (220 + x1.toNatClampNeg) i).toInt ≤ t.toInt) ∧ (∀ i, p ≤ i → i < n → t.toInt < (S.2.1 (220 + x1.toNatClampNeg) i).toInt) := by
  intro f
  induction f with
  | zero => intro lo hi l h _ _ _ _ q; omega
  | succ f ih =>
    intro lo hi l h e1 e2 e3 e4 e5 e6 e7
    rw [L_M_passed_11]
    by_cases c : h ≤ l
    · rw [if_pos (show hi ≤ lo from Int32.le_iff_toInt_le.mpr (by omega))]
      exact ⟨lo, l, rfl, e1, by omega, e6, fun i i1 i2 => e7 i (by omega) i2⟩
    · rw [if_neg (fun q : hi ≤ lo => by rw [Int32.le_iff_toInt_le] at q; omega)]
      have m := md_ e1 e2 (by omega) (by omega)
      simp only [jl_]
      generalize (lo + hi) / 2 = v at *
      have i0 : v.toNatClampNeg = (l + h) / 2 := by rw [Int32.toNatClampNeg, m.1]; omega
      rw [j_qi z1 z2, j_qi (by rw [m.1]; omega) (by rw [m.1]; omega), i0]
      by_cases c2 : t.toInt < (S.2.1 (220 + x1.toNatClampNeg) ((l + h) / 2)).toInt
      · rw [if_pos (Int64.lt_iff_toInt_lt.mpr c2)]
        refine ih lo v l ((l + h) / 2) e1 m.1 (by omega) (by omega) (by omega) e6 (fun i i1 i2 => ?_)
        have := evs_le hs i1 i2
        omega
      · rw [if_neg (fun q => c2 (Int64.lt_iff_toInt_lt.mp q))]
        refine ih (v + 1) hi ((l + h) / 2 + 1) h m.2 e2 (by omega) e4 (by omega) (fun i i1 => ?_) e7
        have := evs_le hs (show i ≤ (l + h) / 2 by omega) (by omega)
        omega
theorem fM_pas (z1 : 0 ≤ x1.toInt) (z2 : x1.toInt < 8) (hn : n ≤ 660) (hc : (S.1 237 x1.toNatClampNeg).toInt = n) (hs : evs n (S.2.1 (220 + x1.toNatClampNeg)) B) : ∃ (r : Int32) (p : Nat), F_M_passed x1 t S = some r ∧ r.toInt = p ∧ p ≤ n ∧ (∀ i, i < p → (S.2.1 (220 + x1.toNatClampNeg) i).toInt ≤ t.toInt) ∧ (∀ i, p ≤ i → i < n → t.toInt < (S.2.1 (220 + x1.toNatClampNeg) i).toInt) := by
  unfold F_M_passed
  rw [j_qi z1 z2, jl_]
  exact lM_pas z1 z2 hn hs ju_ 0 _ 0 n rfl hc (by omega) (by omega) (by show n - 0 < 1000000; omega) (fun i h => by omega) (fun i h1 h2 => by omega)
theorem fM_min {p0 : Int32} {p : Nat} (z1 : 0 ≤ x1.toInt) (z2 : x1.toInt < 8) (hp : p0.toInt = p) (hp2 : p ≤ 660) (o1 : -840 ≤ (S.1 217 x1.toNatClampNeg).toInt) (o2 : (S.1 217 x1.toNatClampNeg).toInt ≤ 840) (s1 : 0 ≤ (S.1 218 x1.toNatClampNeg).toInt) (s2 : (S.1 218 x1.toNatClampNeg).toInt ≤ 120) : F_M_minutes x1 p0 S = some (Int32.ofInt ((S.1 217 x1.toNatClampNeg).toInt + if 0 < p ∧ ¬ S.1 (229 + x1.toNatClampNeg) (p - 1) = 0 then (S.1 218 x1.toNatClampNeg).toInt else 0)) := by
  have q8 : ∀ {α : Type} {X : Option α}, j_q (j_in x1 8) X = X := fun {α X} => j_qi z1 z2
  have e0 : (S.1 217 x1.toNatClampNeg + 0).toInt = (S.1 217 x1.toNatClampNeg).toInt := by
    rw [Int32.toInt_add]
    simp only [Int32.reduceToInt, Int.add_zero]
    exact bs32 (by omega) (by omega)
  unfold F_M_minutes
  simp only [q8]
  by_cases c : p = 0
  · rw [if_pos (show p0 ≤ 0 from Int32.le_iff_toInt_le.mpr (by simp only [Int32.reduceToInt]; omega)), if_neg (by omega)]
    exact congrArg some (ofI (by rw [e0]; omega))
  · rw [if_neg (fun q : p0 ≤ 0 => by rw [Int32.le_iff_toInt_le] at q; simp only [Int32.reduceToInt] at q; omega)]
    have e1 : (p0 - 1).toInt = (p - 1 : Nat) := by
      rw [Int32.toInt_sub, hp, bs32 (by simp only [Int32.reduceToInt]; omega) (by simp only [Int32.reduceToInt]; omega)]
      simp only [Int32.reduceToInt]; omega
    have i1 : (p0 - 1).toNatClampNeg = p - 1 := by rw [Int32.toNatClampNeg, e1]; omega
    rw [j_qi (by rw [e1]; omega) (by rw [e1]; omega), i1]
    by_cases c2 : S.1 (229 + x1.toNatClampNeg) (p - 1) = 0
    · rw [if_pos c2, if_neg (fun q => q.2 c2)]
      exact congrArg some (ofI (by rw [e0]; omega))
    · rw [if_neg c2, if_pos ⟨by omega, c2⟩]
      refine congrArg some (ofI ?_)
      rw [Int32.toInt_add]
      exact bs32 (by omega) (by omega)
end JC3
