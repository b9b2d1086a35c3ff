section JB3
variable {a : Nat} {S : jS}
/-- a zone's times of change and its offset, in seconds -/
def zB (S : jS) (a : Nat) (y : Int) : Int := rsS S (a + 1) y - (S.1 a 0).toInt
def zE (S : jS) (a : Nat) (y : Int) : Int := rsS S (a + 2) y - ((S.1 a 0).toInt + (S.1 a 1).toInt)
/-- base and save, and the rules where there is a save -/
def zok (S : jS) (a : Nat) : Prop := -50400 ≤ (S.1 a 0).toInt ∧ (S.1 a 0).toInt ≤ 50400 ∧ 0 ≤ (S.1 a 1).toInt ∧ (S.1 a 1).toInt ≤ 7200 ∧ (¬ S.1 a 1 = 0 → rkS S (a + 1) ∧ rkS S (a + 2))
def zsum (S : jS) (a : Nat) (x : Int) : Prop := ∃ y, 1970 ≤ y ∧ y ≤ 2299 ∧ zB S a y ≤ x ∧ ∀ z, 1970 ≤ z → z ≤ 2299 → zE S a z ≤ x → zE S a z < zB S a y
/-- o is the zone's offset at x -/
def zof (S : jS) (a : Nat) (x o : Int) : Prop := (S.1 a 1 = 0 ∧ o = (S.1 a 0).toInt) ∨ (¬ S.1 a 1 = 0 ∧ zsum S a x ∧ o = (S.1 a 0).toInt + (S.1 a 1).toInt) ∨ (¬ S.1 a 1 = 0 ∧ ¬ zsum S a x ∧ o = (S.1 a 0).toInt)
def zev (S : jS) (a : Nat) (u : Int) : Prop := ∃ y, 1970 ≤ y ∧ y ≤ 2299 ∧ (u = zB S a y ∨ u = zE S a y)
/-- a stretch of one offset -/
def zst (S : jS) (a : Nat) (s u o : Int) : Prop := (∀ x, s ≤ x → x < u → zof S a x o) ∧ (s = -1152921504606846976 ∨ ¬ S.1 a 1 = 0 ∧ zev S a s) ∧ (u = 1152921504606846976 ∨ ¬ S.1 a 1 = 0 ∧ zev S a u)
theorem rs_cv {f : Int → Int} {mo wk wd mi o x : Int} (h : rk mo wk wd mi) (hf : ∀ y, f y = rs mo wk wd mi y - o) {l : Int} (hl : l = dt_y ((x + o) / 86400)) : (∀ y z, y < z → f y < f z) ∧ (∀ y, y < l → f y ≤ x) ∧ (∀ y, l < y → x < f y) := by
  have a1 := dt_ya ((x + o) / 86400)
  have a2 := dt_yb ((x + o) / 86400)
  rw [← hl] at a1 a2
  refine ⟨fun y z hy => ?_, fun y hy => ?_, fun y hy => ?_⟩
  · rw [hf, hf]
    have := rs_mo h hy
    omega
  · rw [hf]
    have r := (rs_y (y := y) h).2
    have : dt_1 (y + 1) ≤ dt_1 l := by
      by_cases e : y + 1 = l
      · rw [e]; exact Int.le_refl _
      · have := dt_mo (x := y + 1) (y := l) (by omega); omega
    omega
  · rw [hf]
    have r := (rs_y (y := y) h).1
    have : dt_1 (l + 1) ≤ dt_1 y := by
      by_cases e : l + 1 = y
      · rw [e]; exact Int.le_refl _
      · have := dt_mo (x := l + 1) (y := y) (by omega); omega
    omega
/-- between the latest changes and the first ones the offset stands -/
theorem zst_mk {B E b e b2 e2 : Int} {x o : Int} (hs : ¬ S.1 a 1 = 0) (h1 : lat (zB S a) x B) (h2 : lat (zE S a) x E) (h3 : fst_ (zB S a) x b2) (h4 : fst_ (zE S a) x e2) (hb : ∀ y, 1970 ≤ y → y ≤ 2299 → -1000000 ≤ zB S a y ∧ zB S a y ≤ 10500000000) (he : ∀ y, 1970 ≤ y → y ≤ 2299 → -1000000 ≤ zE S a y ∧ zE S a y ≤ 10500000000) (x1 : -1000000000000 ≤ x) (x2 : x ≤ 1000000000000) (ho : o = if B ≤ E then (S.1 a 0).toInt else (S.1 a 0).toInt + (S.1 a 1).toInt) : zst S a (if B < E then E else B) (if e2 < b2 then e2 else b2) o ∧ (if B < E then E else B) ≤ x ∧ x < (if e2 < b2 then e2 else b2) := by
  have hB : B ≤ x ∧ ∀ y, 1970 ≤ y → y ≤ 2299 → ∀ t, (if B < E then E else B) ≤ t → t < (if e2 < b2 then e2 else b2) → (zB S a y ≤ t ↔ zB S a y ≤ x) := by
    constructor
    · rcases h1 with ⟨h, -⟩ | ⟨y, -, -, h, h', -⟩
      · omega
      · rw [h]; exact h'
    · intro y q1 q2 t t1 t2
      constructor
      · intro q
        rcases h3 with ⟨h, h'⟩ | ⟨z, z1, z2, h, h', h''⟩
        · exact h' y q1 q2
        · by_cases c : zB S a y ≤ x
          · exact c
          · have := h'' y q1 q2 (by omega)
            split at t2 <;> omega
      · intro q
        rcases h1 with ⟨h, h'⟩ | ⟨z, z1, z2, h, h', h''⟩
        · have := h' y q1 q2; omega
        · have := h'' y q1 q2 q
          split at t1 <;> omega
  have hE : E ≤ x ∧ ∀ y, 1970 ≤ y → y ≤ 2299 → ∀ t, (if B < E then E else B) ≤ t → t < (if e2 < b2 then e2 else b2) → (zE S a y ≤ t ↔ zE S a y ≤ x) := by
    constructor
    · rcases h2 with ⟨h, -⟩ | ⟨y, -, -, h, h', -⟩
      · omega
      · rw [h]; exact h'
    · intro y q1 q2 t t1 t2
      constructor
      · intro q
        rcases h4 with ⟨h, h'⟩ | ⟨z, z1, z2, h, h', h''⟩
        · exact h' y q1 q2
        · by_cases c : zE S a y ≤ x
          · exact c
          · have := h'' y q1 q2 (by omega)
            split at t2 <;> omega
      · intro q
        rcases h2 with ⟨h, h'⟩ | ⟨z, z1, z2, h, h', h''⟩
        · have := h' y q1 q2; omega
        · have := h'' y q1 q2 q
          split at t1 <;> omega
  have hbx : x < b2 := by
    rcases h3 with ⟨h, -⟩ | ⟨y, -, -, h, h', -⟩
    · omega
    · rw [h]; exact h'
  have hex : x < e2 := by
    rcases h4 with ⟨h, -⟩ | ⟨y, -, -, h, h', -⟩
    · omega
    · rw [h]; exact h'
  -- summer at x
  have hsum : zsum S a x ↔ E < B := by
    constructor
    · rintro ⟨y, y1, y2, y3, y4⟩
      rcases h1 with ⟨h, h'⟩ | ⟨z, z1, z2, h, h', h''⟩
      · have := h' y y1 y2; omega
      · have q1 := h'' y y1 y2 y3
        rcases h2 with ⟨g, g'⟩ | ⟨w, w1, w2, g, g', g''⟩
        · have := hb z z1 z2
          omega
        · have := y4 w w1 w2 g'
          omega
    · intro q
      rcases h1 with ⟨h, h'⟩ | ⟨z, z1, z2, h, h', h''⟩
      · rcases h2 with ⟨g, g'⟩ | ⟨w, w1, w2, g, g', g''⟩
        · omega
        · have := he w w1 w2
          omega
      · refine ⟨z, z1, z2, h', fun w w1 w2 w3 => ?_⟩
        rcases h2 with ⟨g, g'⟩ | ⟨v, v1, v2, g, g', g''⟩
        · have := g' w w1 w2; omega
        · have := g'' w w1 w2 w3; omega
  have hsame : ∀ t, (if B < E then E else B) ≤ t → t < (if e2 < b2 then e2 else b2) → (zsum S a t ↔ zsum S a x) := by
    intro t t1 t2
    constructor
    · rintro ⟨y, y1, y2, y3, y4⟩
      exact ⟨y, y1, y2, (hB.2 y y1 y2 t t1 t2).mp y3, fun z z1 z2 z3 => y4 z z1 z2 ((hE.2 z z1 z2 t t1 t2).mpr z3)⟩
    · rintro ⟨y, y1, y2, y3, y4⟩
      exact ⟨y, y1, y2, (hB.2 y y1 y2 t t1 t2).mpr y3, fun z z1 z2 z3 => y4 z z1 z2 ((hE.2 z z1 z2 t t1 t2).mp z3)⟩
  refine ⟨⟨fun t t1 t2 => ?_, ?_, ?_⟩, ?_, ?_⟩
  · by_cases c : E < B
    · rw [if_neg (by omega)] at ho
      exact Or.inr (Or.inl ⟨hs, (hsame t t1 t2).mpr (hsum.mpr c), ho⟩)
    · rw [if_pos (by omega)] at ho
      exact Or.inr (Or.inr ⟨hs, fun q => c (hsum.mp ((hsame t t1 t2).mp q)), ho⟩)
  · split
    · rcases h2 with ⟨g, -⟩ | ⟨w, w1, w2, g, -⟩
      · exact Or.inl g
      · exact Or.inr ⟨hs, w, w1, w2, Or.inr g⟩
    · rcases h1 with ⟨g, -⟩ | ⟨w, w1, w2, g, -⟩
      · exact Or.inl g
      · exact Or.inr ⟨hs, w, w1, w2, Or.inl g⟩
  · split
    · rcases h4 with ⟨g, -⟩ | ⟨w, w1, w2, g, -⟩
      · exact Or.inl g
      · exact Or.inr ⟨hs, w, w1, w2, Or.inr g⟩
    · rcases h3 with ⟨g, -⟩ | ⟨w, w1, w2, g, -⟩
      · exact Or.inl g
      · exact Or.inr ⟨hs, w, w1, w2, Or.inl g⟩
  · have := hB.1
    have := hE.1
    split <;> omega
  · split <;> omega
end JB3
