section JK_6
variable {S : jS} {b P : Nat} {x1 x2 : Int32}
theorem m1I {x : Int32} {n : Nat} (h : x.toInt = ((n + 1 : Nat) : Int) - 1) (b : n < 2147483647) : (x + -1).toInt = (n : Int) - 1 := by
  rw [Int32.toInt_add, h]
  simp only [Int32.reduceToInt]
  rw [bs32 (by omega) (by omega)]
  omega
theorem ltC {x : Int32} {n : Int} {k : Int32} (h : x.toInt = n) : (x < k) ↔ n < k.toInt := by
  rw [Int32.lt_iff_toInt_lt, h]
theorem lM_99 {kt6 : Int32 → Int32 → Int32 → Option Int32} {kt49 : Int32 → Int32 → Int32 → Int32 → Option Int32} {x3 x4 : Int32} {H M : Nat} (hb : 240 + x1.toNatClampNeg * 8 + 1 = b) (i1 : 0 ≤ x1.toInt) (i2 : x1.toInt < 16) (h3 : x3.toInt = H) (h4 : x4.toInt = M) (c3 : H < 24) (c4 : M < 60) (s3 : ¬ S.1 (b + 2) H = 0) (s4 : ¬ S.1 (b + 1) M = 0) (hk : (∀ i, 3600 * H + 60 * M ≤ i → i ≤ P → ¬ mt S b i) → ∃ r, kt49 x1 x2 x3 (x4 + -1) = some r ∧ geT (mt S b) P r.toInt) : ∀ (f : Nat) (x5 : Int32) (X : Nat), x5.toInt = (X : Int) - 1 → X ≤ 60 → X < f → 3600 * H + 60 * M + X ≤ P + 1 → (∀ i, 3600 * H + 60 * M + X ≤ i → i ≤ P → ¬ mt S b i) → ∃ r, L_M_secondTo_99 kt6 kt49 S f x1 x2 x3 x4 x5 = some r ∧ geT (mt S b) P r.toInt := by
  intro f
  induction f with
  | zero => intro x5 X _ _ q; omega
  | succ f ih =>
    intro x5 X e5 X1 X2 X3 hn
    unfold L_M_secondTo_99
    cases X with
    | zero =>
      rw [if_pos ((ltC e5).mpr (by simp only [Int32.reduceToInt]; omega))]
      exact hk (fun i a1 a2 => hn i (by omega) a2)
    | succ X =>
      rw [if_neg (fun w => by
        have := (ltC e5).mp w
        simp only [Int32.reduceToInt] at this
        omega)]
      have e5' : x5.toInt = X := by omega
      rw [j_qi i1 i2, j_qt ij07, j_qi (by omega) (by omega), hb, cl0, clN e5', Nat.add_zero]
      by_cases w : S.1 b X = 0
      · rw [if_pos w]
        refine ih (x5 + -1) X (m1I e5 (by omega)) (by omega) (by omega) (by omega) (fun i a1 a2 => ?_)
        by_cases g : 3600 * H + 60 * M + (X + 1) ≤ i
        · exact hn i g a2
        · have : i % 60 = X := by omega
          rintro ⟨-, -, m3⟩
          rw [this] at m3
          exact m3 w
      · rw [if_neg w]
        refine ⟨_, rfl, ?_⟩
        have e : (3600 * x3 + 60 * x4 + x5).toInt = ((3600 * H + 60 * M + X : Nat) : Int) := by
          simp (disch := omega) only [Int32.toInt_add, Int32.toInt_mul, bs32, Int32.reduceToInt, h3, h4, e5']
          omega
        rw [e]
        refine Or.inl ⟨3600 * H + 60 * M + X, rfl, by omega, ⟨?_, ?_, ?_⟩, fun i a1 a2 => hn i (by omega) a2⟩
        · rw [show (3600 * H + 60 * M + X) / 3600 = H by omega]; exact s3
        · rw [show (3600 * H + 60 * M + X) / 60 % 60 = M by omega]; exact s4
        · rw [show (3600 * H + 60 * M + X) % 60 = X by omega]; exact w
theorem lM_49 {kt6 : Int32 → Int32 → Int32 → Option Int32} {x3 : Int32} {H : Nat} (hb : 240 + x1.toNatClampNeg * 8 + 1 = b) (i1 : 0 ≤ x1.toInt) (i2 : x1.toInt < 16) (hp : x2.toInt = P) (hP : P < 86400) (h3 : x3.toInt = H) (c3 : H < 24) (s3 : ¬ S.1 (b + 2) H = 0) (hk : (∀ i, 3600 * H ≤ i → i ≤ P → ¬ mt S b i) → ∃ r, kt6 x1 x2 (x3 + -1) = some r ∧ geT (mt S b) P r.toInt) : ∀ (f : Nat) (x4 : Int32) (M : Nat), x4.toInt = (M : Int) - 1 → M ≤ 60 → M < f → (1 ≤ M → 3600 * H + 60 * (M - 1) ≤ P) → (∀ i, 3600 * H + 60 * M ≤ i → i ≤ P → ¬ mt S b i) → ∃ r, L_M_secondTo_49 kt6 S f x1 x2 x3 x4 = some r ∧ geT (mt S b) P r.toInt := by
  intro f
  induction f with
  | zero => intro x5 X _ _ q; omega
  | succ f ih =>
    intro x4 M e4 X1 X2 X3 hn
    unfold L_M_secondTo_49
    cases M with
    | zero =>
      rw [if_pos ((ltC e4).mpr (by simp only [Int32.reduceToInt]; omega))]
      exact hk (fun i a1 a2 => hn i (by omega) a2)
    | succ M =>
      have X4 : 3600 * H + 60 * M ≤ P := X3 (by omega)
      clear X3
      rw [if_neg (fun w => by
        have := (ltC e4).mp w
        simp only [Int32.reduceToInt] at this
        omega)]
      have e4' : x4.toInt = M := by omega
      rw [j_qi i1 i2, j_qt ij17, j_qi (by omega) (by omega), hb, cl1, clN e4']
      have nx : (∀ i, 3600 * H + 60 * M ≤ i → i ≤ P → ¬ mt S b i) → ∃ r, L_M_secondTo_49 kt6 S f x1 x2 x3 (x4 + -1) = some r ∧ geT (mt S b) P r.toInt := fun hn2 => ih (x4 + -1) M (m1I e4 (by omega)) (by omega) (by omega) (by omega) hn2
      by_cases w : S.1 (b + 1) M = 0
      · rw [if_pos w]
        refine nx (fun i a1 a2 => ?_)
        by_cases g : 3600 * H + 60 * (M + 1) ≤ i
        · exact hn i g a2
        · have : i / 60 % 60 = M := by omega
          rintro ⟨-, m2, -⟩
          rw [this] at m2
          exact m2 w
      · rw [if_neg w]
        have e : (60 * (60 * x3 + x4) + 59).toInt = ((3600 * H + 60 * M + 59 : Nat) : Int) := by
          simp (disch := omega) only [Int32.toInt_add, Int32.toInt_mul, bs32, Int32.reduceToInt, h3, e4']
          omega
        by_cases g : 3600 * H + 60 * M + 59 ≤ P
        · rw [if_pos (show 60 * (60 * x3 + x4) + 59 ≤ x2 from Int32.le_iff_toInt_le.mpr (by rw [e, hp]; omega))]
          exact lM_99 hb i1 i2 h3 e4' c3 (by omega) s3 w nx ju_ 59 60 rfl (by omega) (by show _ < 1000000; omega) (by omega) (fun i a1 a2 => hn i (by omega) a2)
        · rw [if_neg (show ¬ 60 * (60 * x3 + x4) + 59 ≤ x2 from fun v => g (by
            have := Int32.le_iff_toInt_le.mp v
            rw [e, hp] at this
            omega)), jl_]
          have pd := (pd_ hp hP).2.2
          exact lM_99 hb i1 i2 h3 e4' c3 (by omega) s3 w nx ju_ _ (P % 60 + 1) (by rw [pd]; omega) (by omega) (by show _ < 1000000; omega) (by omega) (fun i a1 a2 => by omega)
theorem lM_6t (hb : 240 + x1.toNatClampNeg * 8 + 1 = b) (i1 : 0 ≤ x1.toInt) (i2 : x1.toInt < 16) (hp : x2.toInt = P) (hP : P < 86400) : ∀ (f : Nat) (x3 : Int32) (H : Nat), x3.toInt = (H : Int) - 1 → H ≤ 24 → H < f → (1 ≤ H → 3600 * (H - 1) ≤ P) → (∀ i, 3600 * H ≤ i → i ≤ P → ¬ mt S b i) → ∃ r, L_M_secondTo_6 S f x1 x2 x3 = some r ∧ geT (mt S b) P r.toInt := by
  intro f
  induction f with
  | zero => intro x5 X _ _ q; omega
  | succ f ih =>
    intro x3 H e3 X1 X2 X3 hn
    unfold L_M_secondTo_6
    cases H with
    | zero =>
      rw [if_pos ((ltC e3).mpr (by simp only [Int32.reduceToInt]; omega))]
      exact ⟨_, rfl, Or.inr ⟨rfl, fun i a1 => hn i (by omega) a1⟩⟩
    | succ H =>
      have X4 : 3600 * H ≤ P := X3 (by omega)
      clear X3
      rw [if_neg (fun w => by
        have := (ltC e3).mp w
        simp only [Int32.reduceToInt] at this
        omega)]
      have e3' : x3.toInt = H := by omega
      rw [j_qi i1 i2, j_qt ij27, j_qi (by omega) (by omega), hb, cl2, clN e3']
      have nx : (∀ i, 3600 * H ≤ i → i ≤ P → ¬ mt S b i) → ∃ r, L_M_secondTo_6 S f x1 x2 (x3 + -1) = some r ∧ geT (mt S b) P r.toInt := fun hn2 => ih (x3 + -1) H (m1I e3 (by omega)) (by omega) (by omega) (by omega) hn2
      by_cases w : S.1 (b + 2) H = 0
      · rw [if_pos w]
        refine nx (fun i a1 a2 => ?_)
        by_cases g : 3600 * (H + 1) ≤ i
        · exact hn i g a2
        · have : i / 3600 = H := by omega
          rintro ⟨m1, -, -⟩
          rw [this] at m1
          exact m1 w
      · rw [if_neg w]
        obtain ⟨p1, p2, -⟩ := pd_ hp hP
        by_cases g : H = P / 3600
        · rw [if_pos (show x3 = x2 / 3600 from eqI.mpr (by rw [p1, e3', g])), jl_]
          exact lM_49 hb i1 i2 hp hP e3' (by omega) w nx ju_ _ (P / 60 % 60 + 1) (by rw [p2]; omega) (by omega) (by show _ < 1000000; omega) (by omega) (fun i a1 a2 => by omega)
        · rw [if_neg (show ¬ x3 = x2 / 3600 from fun v => g (by
            have := eqI.mp v
            rw [p1, e3'] at this
            omega))]
          exact lM_49 hb i1 i2 hp hP e3' (by omega) w nx ju_ 59 60 rfl (by omega) (by show _ < 1000000; omega) (by omega) (fun i a1 a2 => hn i (by omega) a2)
theorem fM_st (hb : 240 + x1.toNatClampNeg * 8 + 1 = b) (i1 : 0 ≤ x1.toInt) (i2 : x1.toInt < 16) (hp : x2.toInt = P) (hP : P < 86400) : ∃ r, F_M_secondTo x1 x2 S = some r ∧ geT (mt S b) P r.toInt := by
  unfold F_M_secondTo
  rw [jl_]
  exact lM_6t hb i1 i2 hp hP ju_ _ (P / 3600 + 1) (by rw [(pd_ hp hP).1]; omega) (by omega) (by show _ < 1000000; omega) (by omega) (fun i a1 a2 => by omega)
end JK_6
