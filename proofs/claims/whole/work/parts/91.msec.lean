section JK_5
variable {S : jS} {b P : Nat} {x1 x2 : Int32}
/-- a time of day that the model's rows hold -/
def mt (S : jS) (b s : Nat) : Prop := ¬ S.1 (b + 2) (s / 3600) = 0 ∧ ¬ S.1 (b + 1) (s / 60 % 60) = 0 ∧ ¬ S.1 b (s % 60) = 0
theorem cl0 : (0 : Int32).toNatClampNeg = 0 := by decide
theorem cl1 : (1 : Int32).toNatClampNeg = 1 := by decide
theorem cl2 : (2 : Int32).toNatClampNeg = 2 := by decide
theorem cl3 : (3 : Int32).toNatClampNeg = 3 := by decide
theorem cl4 : (4 : Int32).toNatClampNeg = 4 := by decide
theorem cl5 : (5 : Int32).toNatClampNeg = 5 := by decide
theorem cl6 : (6 : Int32).toNatClampNeg = 6 := by decide
theorem ij07 : j_in 0 7 = true := by decide
theorem ij17 : j_in 1 7 = true := by decide
theorem ij27 : j_in 2 7 = true := by decide
theorem clN {x : Int32} {n : Nat} (h : x.toInt = n) : x.toNatClampNeg = n := by
  rw [← Int32.toNat_toInt, h]
  exact Int.toNat_natCast n
theorem geC {x : Int32} {n : Nat} {k : Int32} (h : x.toInt = n) : (k ≤ x) ↔ k.toInt ≤ n := by
  rw [Int32.le_iff_toInt_le, h]
theorem p1I {x : Int32} {n : Nat} (h : x.toInt = n) (b : n < 2147483647) : (x + 1).toInt = ((n + 1 : Nat) : Int) := by
  rw [Int32.toInt_add, h]
  simp only [Int32.reduceToInt]
  rw [bs32 (by omega) (by omega)]
  omega
theorem lM_98 {kt6 : Int32 → Int32 → Int32 → Option Int32} {kt50 : Int32 → Int32 → Int32 → Int32 → Option Int32} {x3 x4 : Int32} {H M : Nat} (hb : 240 + x1.toNatClampNeg * 8 + 1 = b) (i1 : 0 ≤ x1.toInt) (i2 : x1.toInt < 16) (h3 : x3.toInt = H) (h4 : x4.toInt = M) (c3 : H < 24) (c4 : M < 60) (s3 : ¬ S.1 (b + 2) H = 0) (s4 : ¬ S.1 (b + 1) M = 0) (hk : (∀ i, P ≤ i → i < 3600 * H + 60 * (M + 1) → ¬ mt S b i) → ∃ r, kt50 x1 x2 x3 (x4 + 1) = some r ∧ leT (mt S b) P r.toInt) : ∀ (f : Nat) (x5 : Int32) (X : Nat), x5.toInt = X → X ≤ 60 → 60 - X < f → P ≤ 3600 * H + 60 * M + X → (∀ i, P ≤ i → i < 3600 * H + 60 * M + X → ¬ mt S b i) → ∃ r, L_M_secondFrom_98 kt6 kt50 S f x1 x2 x3 x4 x5 = some r ∧ leT (mt S b) P r.toInt := by
  intro f
  induction f with
  | zero => intro x5 X _ _ q; omega
  | succ f ih =>
    intro x5 X e5 X1 X2 X3 hn
    unfold L_M_secondFrom_98
    by_cases q : X = 60
    · subst q
      rw [if_pos ((geC e5).mpr (by simp only [Int32.reduceToInt]; omega))]
      exact hk (fun i a1 a2 => hn i a1 (by omega))
    · rw [if_neg (fun w => q (by
        have := (geC e5).mp w
        simp only [Int32.reduceToInt] at this
        omega))]
      rw [j_qi i1 i2, j_qt ij07, j_qi (by omega) (by omega), hb, cl0, clN e5, Nat.add_zero]
      by_cases w : S.1 b X = 0
      · rw [if_pos w]
        refine ih (x5 + 1) (X + 1) (p1I e5 (by omega)) (by omega) (by omega) (by omega) (fun i a1 a2 => ?_)
        by_cases g : i < 3600 * H + 60 * M + X
        · exact hn i a1 g
        · have : i % 60 = X := by omega
          rintro ⟨-, -, m3⟩
          rw [this] at m3
          exact m3 w
      · rw [if_neg w]
        refine ⟨_, rfl, ?_⟩
        have e : (3600 * x3 + 60 * x4 + x5).toInt = ((3600 * H + 60 * M + X : Nat) : Int) := by
          simp (disch := omega) only [Int32.toInt_add, Int32.toInt_mul, bs32, Int32.reduceToInt, h3, h4, e5]
          omega
        rw [e]
        refine Or.inl ⟨3600 * H + 60 * M + X, rfl, X3, by omega, ⟨?_, ?_, ?_⟩, hn⟩
        · rw [show (3600 * H + 60 * M + X) / 3600 = H by omega]; exact s3
        · rw [show (3600 * H + 60 * M + X) / 60 % 60 = M by omega]; exact s4
        · rw [show (3600 * H + 60 * M + X) % 60 = X by omega]; exact w
theorem lM_50 {kt6 : Int32 → Int32 → Int32 → Option Int32} {x3 : Int32} {H : Nat} (hb : 240 + x1.toNatClampNeg * 8 + 1 = b) (i1 : 0 ≤ x1.toInt) (i2 : x1.toInt < 16) (hp : x2.toInt = P) (hP : P < 86400) (h3 : x3.toInt = H) (c3 : H < 24) (s3 : ¬ S.1 (b + 2) H = 0) (hk : (∀ i, P ≤ i → i < 3600 * (H + 1) → ¬ mt S b i) → ∃ r, kt6 x1 x2 (x3 + 1) = some r ∧ leT (mt S b) P r.toInt) : ∀ (f : Nat) (x4 : Int32) (M : Nat), x4.toInt = M → M ≤ 60 → 60 - M < f → P < 3600 * H + 60 * (M + 1) → (∀ i, P ≤ i → i < 3600 * H + 60 * M → ¬ mt S b i) → ∃ r, L_M_secondFrom_50 kt6 S f x1 x2 x3 x4 = some r ∧ leT (mt S b) P r.toInt := by
  intro f
  induction f with
  | zero => intro x5 X _ _ q; omega
  | succ f ih =>
    intro x4 M e4 X1 X2 X3 hn
    unfold L_M_secondFrom_50
    by_cases q : M = 60
    · subst q
      rw [if_pos ((geC e4).mpr (by simp only [Int32.reduceToInt]; omega))]
      exact hk (fun i a1 a2 => hn i a1 (by omega))
    · rw [if_neg (fun w => q (by
        have := (geC e4).mp w
        simp only [Int32.reduceToInt] at this
        omega))]
      rw [j_qi i1 i2, j_qt ij17, j_qi (by omega) (by omega), hb, cl1, clN e4]
      have nx : (∀ i, P ≤ i → i < 3600 * H + 60 * (M + 1) → ¬ mt S b i) → ∃ r, L_M_secondFrom_50 kt6 S f x1 x2 x3 (x4 + 1) = some r ∧ leT (mt S b) P r.toInt := fun hn2 => ih (x4 + 1) (M + 1) (p1I e4 (by omega)) (by omega) (by omega) (by omega) hn2
      by_cases w : S.1 (b + 1) M = 0
      · rw [if_pos w]
        refine nx (fun i a1 a2 => ?_)
        by_cases g : i < 3600 * H + 60 * M
        · exact hn i a1 g
        · have : i / 60 % 60 = M := by omega
          rintro ⟨-, m2, -⟩
          rw [this] at m2
          exact m2 w
      · rw [if_neg w]
        have e : (60 * (60 * x3 + x4)).toInt = ((3600 * H + 60 * M : Nat) : Int) := by
          simp (disch := omega) only [Int32.toInt_add, Int32.toInt_mul, bs32, Int32.reduceToInt, h3, e4]
          omega
        by_cases g : P ≤ 3600 * H + 60 * M
        · rw [if_pos (show x2 ≤ 60 * (60 * x3 + x4) from Int32.le_iff_toInt_le.mpr (by rw [e, hp]; omega))]
          exact lM_98 hb i1 i2 h3 e4 c3 (by omega) s3 w nx ju_ 0 0 rfl (by omega) (by show _ < 1000000; omega) g (fun i a1 a2 => hn i a1 (by omega))
        · rw [if_neg (show ¬ x2 ≤ 60 * (60 * x3 + x4) from fun v => g (by
            have := Int32.le_iff_toInt_le.mp v
            rw [e, hp] at this
            omega)), jl_]
          have pd := (pd_ hp hP).2.2
          exact lM_98 hb i1 i2 h3 e4 c3 (by omega) s3 w nx ju_ _ (P % 60) pd (by omega) (by show _ < 1000000; omega) (by omega) (fun i a1 a2 => by omega)
theorem lM_6 (hb : 240 + x1.toNatClampNeg * 8 + 1 = b) (i1 : 0 ≤ x1.toInt) (i2 : x1.toInt < 16) (hp : x2.toInt = P) (hP : P < 86400) : ∀ (f : Nat) (x3 : Int32) (H : Nat), x3.toInt = H → H ≤ 24 → 24 - H < f → P < 3600 * (H + 1) → (∀ i, P ≤ i → i < 3600 * H → ¬ mt S b i) → ∃ r, L_M_secondFrom_6 S f x1 x2 x3 = some r ∧ leT (mt S b) P r.toInt := by
  intro f
  induction f with
  | zero => intro x5 X _ _ q; omega
  | succ f ih =>
    intro x3 H e3 X1 X2 X3 hn
    unfold L_M_secondFrom_6
    by_cases q : H = 24
    · subst q
      rw [if_pos ((geC e3).mpr (by simp only [Int32.reduceToInt]; omega))]
      exact ⟨_, rfl, Or.inr ⟨rfl, fun i a1 a2 => hn i a1 (by omega)⟩⟩
    · rw [if_neg (fun w => q (by
        have := (geC e3).mp w
        simp only [Int32.reduceToInt] at this
        omega))]
      rw [j_qi i1 i2, j_qt ij27, j_qi (by omega) (by omega), hb, cl2, clN e3]
      have nx : (∀ i, P ≤ i → i < 3600 * (H + 1) → ¬ mt S b i) → ∃ r, L_M_secondFrom_6 S f x1 x2 (x3 + 1) = some r ∧ leT (mt S b) P r.toInt := fun hn2 => ih (x3 + 1) (H + 1) (p1I e3 (by omega)) (by omega) (by omega) (by omega) hn2
      by_cases w : S.1 (b + 2) H = 0
      · rw [if_pos w]
        refine nx (fun i a1 a2 => ?_)
        by_cases g : i < 3600 * H
        · exact hn i a1 g
        · have : i / 3600 = H := by omega
          rintro ⟨m1, -, -⟩
          rw [this] at m1
          exact m1 w
      · rw [if_neg w]
        obtain ⟨p1, p2, -⟩ := pd_ hp hP
        by_cases g : H = P / 3600
        · rw [if_pos (show x3 = x2 / 3600 from eqI.mpr (by rw [p1, e3, g])), jl_]
          exact lM_50 hb i1 i2 hp hP e3 (by omega) w nx ju_ _ (P / 60 % 60) p2 (by omega) (by show _ < 1000000; omega) (by omega) (fun i a1 a2 => by omega)
        · rw [if_neg (show ¬ x3 = x2 / 3600 from fun v => g (by
            have := eqI.mp v
            rw [p1, e3] at this
            omega))]
          exact lM_50 hb i1 i2 hp hP e3 (by omega) w nx ju_ 0 0 rfl (by omega) (by show _ < 1000000; omega) (by omega) (fun i a1 a2 => hn i a1 (by omega))
theorem fM_sf (hb : 240 + x1.toNatClampNeg * 8 + 1 = b) (i1 : 0 ≤ x1.toInt) (i2 : x1.toInt < 16) (hp : x2.toInt = P) (hP : P < 86400) : ∃ r, F_M_secondFrom x1 x2 S = some r ∧ leT (mt S b) P r.toInt := by
  unfold F_M_secondFrom
  rw [jl_]
  exact lM_6 hb i1 i2 hp hP ju_ _ (P / 3600) (pd_ hp hP).1 (by omega) (by show _ < 1000000; omega) (by omega) (fun i a1 a2 => by omega)
end JK_5
