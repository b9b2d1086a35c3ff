section JC2
variable {S : jS} {x1 : Int32}
def rkM (S : jS) (p : Nat) : Prop := rk (S.1 238 p).toInt (S.1 238 (p + 1)).toInt (S.1 238 (p + 2)).toInt (S.1 238 (p + 3)).toInt
def rsM (S : jS) (p : Nat) (y : Int) : Int := rs (S.1 238 p).toInt (S.1 238 (p + 1)).toInt (S.1 238 (p + 2)).toInt (S.1 238 (p + 3)).toInt y
def rdM (S : jS) (p : Nat) (y : Int) : Int := rd (S.1 238 p).toInt (S.1 238 (p + 1)).toInt (S.1 238 (p + 2)).toInt y
theorem ip_ {p0 : Int32} {p k : Nat} (h : p0.toInt = p) (hp : p + k < 8) (q : Int32) (hq : q.toInt = k) : (p0 + q).toInt = (p + k : Nat) := by
  rw [Int32.toInt_add, h, hq, bs32 (by omega) (by omega)]
  omega
theorem mr_e {f z5 v : Int32} {F Z V : Int} (h1 : f.toInt = F) (h2 : z5.toInt = Z) (h3 : v.toInt = V) (b1 : 0 ≤ F) (b2 : F ≤ 200000) (b3 : 0 ≤ Z) (b4 : Z < 7) (b5 : 1 ≤ V) (b6 : V ≤ 5) : ((f + z5) + (7 * (v - 1))).toInt = F + (Z + 7 * (V - 1)) := by
  subst h1 h2 h3
  simp (disch := omega) only [Int32.toInt_sub, Int32.toInt_add, Int32.toInt_mul, bs32, Int32.reduceToInt]
  omega
theorem fM_rd {p0 y : Int32} {p : Nat} (h : rkM S p) (hp : p0.toInt = p) (hp2 : p + 3 < 8) (h1 : 1970 ≤ y.toInt) (h2 : y.toInt ≤ 2299) : F_M_ruleDay p0 y S = some (Int32.ofInt (rdM S p y.toInt)) := by
  have hd := h
  obtain ⟨k1, k2, k3, k4, k5, k6, k7, k8⟩ := h
  unfold rdM
  have i0 : p0.toNatClampNeg = p := by rw [Int32.toNatClampNeg, hp]; omega
  have j1 := ip_ (k := 1) hp (by omega) 1 rfl
  have j2 := ip_ (k := 2) hp (by omega) 2 rfl
  have i1 : (p0 + 1).toNatClampNeg = p + 1 := by rw [Int32.toNatClampNeg, j1]; omega
  have i2 : (p0 + 2).toNatClampNeg = p + 2 := by rw [Int32.toNatClampNeg, j2]; omega
  have q0 : ∀ {α : Type} {X : Option α}, j_q (j_in p0 8) X = X := fun {α X} => j_qi (by rw [hp]; omega) (by rw [hp]; omega)
  have q1 : ∀ {α : Type} {X : Option α}, j_q (j_in (p0 + 1) 8) X = X := fun {α X} => j_qi (by rw [j1]; omega) (by rw [j1]; omega)
  have q2 : ∀ {α : Type} {X : Option α}, j_q (j_in (p0 + 2) 8) X = X := fun {α X} => j_qi (by rw [j2]; omega) (by rw [j2]; omega)
  have db := dm_b (y := y.toInt) h1 h2 k1 (by omega)
  have hy := rd_y (y := y.toInt) hd
  have hra := ra_b (mo := (S.1 238 p).toInt) (wd := (S.1 238 (p + 2)).toInt) (y := y.toInt) k3 k4
  have hnb := dt_nb (y := y.toInt) (m := (S.1 238 p).toInt)
  have e1 : (Int32.ofInt (dt_m y.toInt (S.1 238 p).toInt)).toInt = dt_m y.toInt (S.1 238 p).toInt := tI (by omega) (by omega)
  unfold F_M_ruleDay
  simp only [q0, q1, q2, i0, i1, i2]
  rw [fM_num (by omega) (by omega) k1 (by omega)]
  simp only [ob_]
  rw [fM_wd (by rw [e1]; omega) (by rw [e1]; omega), e1]
  simp only [ob_]
  have e2 := rb_e (F := dt_m y.toInt (S.1 238 p).toInt) k5 k6
  rw [fFM (by decide) (by rw [e2]; omega) (by rw [e2]; omega) (by decide), e2, fM_len (by omega) (by omega) k1 k2]
  simp only [ob_, jl_, Int32.reduceToInt]
  clear e2
  have e4 : (Int32.ofInt (((S.1 238 (p + 2)).toInt + 1 - ((dt_m y.toInt (S.1 238 p).toInt + 4) % 7 + 1)) % 7)).toInt = ((S.1 238 (p + 2)).toInt + 1 - ((dt_m y.toInt (S.1 238 p).toInt + 4) % 7 + 1)) % 7 := tI (by omega) (by omega)
  have e3 := mr_e (v := S.1 238 (p + 1)) e1 e4 rfl db.1 (by omega) (by omega) (by omega) k3 k4
  clear e4
  generalize Int32.ofInt (((S.1 238 (p + 2)).toInt + 1 - ((dt_m y.toInt (S.1 238 p).toInt + 4) % 7 + 1)) % 7) = z at *
  have e3 : (Int32.ofInt (dt_m y.toInt (S.1 238 p).toInt) + z + 7 * (S.1 238 (p + 1) - 1)).toInt = dt_m y.toInt (S.1 238 p).toInt + ra (S.1 238 p).toInt (S.1 238 (p + 1)).toInt (S.1 238 (p + 2)).toInt y.toInt := e3
  have e7 : (Int32.ofInt (dt_m y.toInt (S.1 238 p).toInt) + Int32.ofInt (dt_n y.toInt (S.1 238 p).toInt)).toInt = dt_m y.toInt (S.1 238 p).toInt + dt_n y.toInt (S.1 238 p).toInt := by
    rw [Int32.toInt_add, e1, tI (by omega) (by omega)]
    exact bs32 (by omega) (by omega)
  generalize Int32.ofInt (dt_m y.toInt (S.1 238 p).toInt) + z + 7 * (S.1 238 (p + 1) - 1) = v at *
  unfold rd at *
  generalize ra (S.1 238 p).toInt (S.1 238 (p + 1)).toInt (S.1 238 (p + 2)).toInt y.toInt = V at *
  by_cases c : V < dt_n y.toInt (S.1 238 p).toInt
  · rw [if_pos (by rw [Int32.lt_iff_toInt_lt, e3, e7]; omega), if_pos c]
    exact congrArg some (ofI e3)
  · rw [if_neg (by rw [Int32.lt_iff_toInt_lt, e3, e7]; omega), if_neg c]
    refine congrArg some (ofI ?_)
    rw [Int32.toInt_sub, e3, bs32 (by simp only [Int32.reduceToInt]; omega) (by simp only [Int32.reduceToInt]; omega)]
    simp only [Int32.reduceToInt]; omega
/-- rows and count of a zone's events -/
def vS (S : jS) (x1 : Int32) (E : Nat → Int64) (B : Nat → Int32) (c : Int32) : jS := w_i (eS S x1 E B) 237 x1.toNatClampNeg c
theorem vS_v {E E0 : Nat → Int64} {B B0 : Nat → Int32} {c c0 : Int32} : vS (vS S x1 E0 B0 c0) x1 E B c = vS S x1 E B c := by
  unfold vS eS
  apply S_ext
  · intro b j
    simp only [w_ir, wE_1]
    by_cases h : b = 237 ∧ j = x1.toNatClampNeg
    · rw [if_pos h, if_pos h]
    · rw [if_neg h, if_neg h]
      unfold wB
      by_cases h2 : b = 229 + x1.toNatClampNeg
      · simp [h2]
      · simp only [h2, if_false]
        rw [w_ir, if_neg h, wE_1]
        simp [h2]
  · intro b j
    simp only [w_i2]
    unfold wE
    by_cases h2 : b = 220 + x1.toNatClampNeg
    · simp [h2]
    · simp [h2, w_i2, wB]
  · intro b j; rfl
theorem vS_e {E : Nat → Int64} {B : Nat → Int32} {c : Int32} : (vS S x1 E B c).2.1 (220 + x1.toNatClampNeg) = E := by
  unfold vS
  rw [w_i2]
  exact eS_e
theorem vS_b {E : Nat → Int64} {B : Nat → Int32} {c : Int32} (hz : x1.toNatClampNeg < 8) : (vS S x1 E B c).1 (229 + x1.toNatClampNeg) = B := by
  funext j
  unfold vS
  rw [w_ir, if_neg (by omega), eS_b]
theorem vS_c {E : Nat → Int64} {B : Nat → Int32} {c : Int32} : (vS S x1 E B c).1 237 x1.toNatClampNeg = c := by
  unfold vS
  rw [w_ir, if_pos ⟨rfl, rfl⟩]
theorem vS_r {E : Nat → Int64} {B : Nat → Int32} {c : Int32} (hz : x1.toNatClampNeg < 8) (j : Nat) : (vS S x1 E B c).1 238 j = S.1 238 j := by
  unfold vS eS
  rw [w_ir, if_neg (by omega), wE_1, wB_n (by omega)]
def mB (S : jS) (off : Int) (y : Int) : Int := rsM S 0 y - 60 * off
def mE (S : jS) (off sv : Int) (y : Int) : Int := rsM S 4 y - 60 * (off + sv)
def mP (S : jS) (off sv Y : Int) (e : Int64) (b : Int32) : Prop := ∃ y, 1970 ≤ y ∧ y < Y ∧ ((b = 1 ∧ e = Int64.ofInt (1000 * mB S off y)) ∨ (b = 0 ∧ e = Int64.ofInt (1000 * mE S off sv y)))
theorem evp_c {n : Nat} {E : Nat → Int64} {B : Nat → Int32} {P Q : Int64 → Int32 → Prop} (h : evp n E B P) (hq : ∀ e b, P e b ↔ Q e b) : evp n E B Q := ⟨fun i hi => (hq _ _).mp (h.1 i hi), fun e b k => h.2 e b ((hq e b).mpr k)⟩
theorem ms_e {d m : Int32} {D M : Int} (h1 : d.toInt = D) (h2 : m.toInt = M) (b1 : 0 ≤ D) (b2 : D ≤ 200000) (b3 : -10000 ≤ M) (b4 : M ≤ 10000) : (d.toInt64 * 86400000) + (60000 * m.toInt64) = Int64.ofInt (1000 * (D * 86400 + 60 * M)) := by
  refine ofL ?_
  subst h1 h2
  simp (disch := omega) only [Int64.toInt_add, Int64.toInt_mul, Int32.toInt_toInt64, bs64, Int64.reduceToInt]
  omega
theorem rdM_b {p : Nat} (h : rkM S p) {y : Int} (h1 : 1970 ≤ y) (h2 : y ≤ 2299) : 0 ≤ rdM S p y ∧ rdM S p y ≤ 120530 := by
  have := rd_y (y := y) h
  have := dt_ge h1
  have := dt_le (y := y + 1) (by omega)
  unfold rdM
  omega
theorem lM_rz {x3 x4 : Int32} (r0 : rkM S 0) (r4 : rkM S 4) (z1 : 0 ≤ x1.toInt) (z2 : x1.toInt < 8) (o1 : -840 ≤ x3.toInt) (o2 : x3.toInt ≤ 840) (s1 : 1 ≤ x4.toInt) (s2 : x4.toInt ≤ 120) : ∀ (f : Nat) (x5 : Int32) (Y : Int) (E : Nat → Int64) (B : Nat → Int32), x5.toInt = Y → 1970 ≤ Y → Y ≤ 2300 → 2300 - Y < f → (∀ j, bol (B j)) → evs (2 * (Y - 1970)).toNat E B → evp (2 * (Y - 1970)).toNat E B (mP S x3.toInt x4.toInt Y) → ∃ E' B', L_M_readZone_166 f x1 x3 x4 x5 (vS S x1 E B (Int32.ofInt (2 * (Y - 1970)))) = some (none, vS S x1 E' B' 660) ∧ (∀ j, bol (B' j)) ∧ evs 660 E' B' ∧ evp 660 E' B' (mP S x3.toInt x4.toInt 2300) := by
  have hz : x1.toNatClampNeg < 8 := by rw [Int32.toNatClampNeg]; omega
  intro f
  induction f with
  | zero => intro x5 Y E B _ _ _ h; omega
  | succ f ih =>
    intro x5 Y E B hY y1 y2 hf hb hs hp
    rw [L_M_readZone_166]
    by_cases c : Y = 2300
    · rw [if_pos (show (2299 : Int32) < x5 from Int32.lt_iff_toInt_lt.mpr (by simp only [Int32.reduceToInt]; omega))]
      subst c
      exact ⟨E, B, rfl, hb, hs, hp⟩
    · rw [if_neg (fun q : (2299 : Int32) < x5 => by rw [Int32.lt_iff_toInt_lt] at q; simp only [Int32.reduceToInt] at q; omega)]
      have kr : ∀ {E B c} p, rkM S p → rkM (vS S x1 E B c) p := fun p h => by
        unfold rkM at h ⊢
        simp only [vS_r hz]
        exact h
      have kd : ∀ {E B c} p y, rdM (vS S x1 E B c) p y = rdM S p y := fun p y => by
        unfold rdM
        simp only [vS_r hz]
      rw [fM_rd (p := 0) (kr 0 r0) rfl (by omega) (by omega) (by omega), kd, hY]
      simp only [ob_]
      rw [j_qi (by decide) (by decide)]
      have m3 : (3 : Int32).toNatClampNeg = 3 := by decide
      have m7 : (7 : Int32).toNatClampNeg = 7 := by decide
      rw [m3, vS_r hz]
      have b0 := rdM_b r0 (y := Y) y1 (by omega)
      have b4 := rdM_b r4 (y := Y) y1 (by omega)
      have k7 : 0 ≤ (S.1 238 3).toInt ∧ (S.1 238 3).toInt ≤ 1439 := r0.2.2.2.2.2.2
      have k8 : 0 ≤ (S.1 238 7).toInt ∧ (S.1 238 7).toInt ≤ 1439 := r4.2.2.2.2.2.2
      have t1 : ((S.1 238 3) - x3).toInt = (S.1 238 3).toInt - x3.toInt := by
        rw [Int32.toInt_sub]
        exact bs32 (by omega) (by omega)
      have t2 : ((S.1 238 7) - x3 - x4).toInt = (S.1 238 7).toInt - x3.toInt - x4.toInt := by
        have : ((S.1 238 7) - x3).toInt = (S.1 238 7).toInt - x3.toInt := by
          rw [Int32.toInt_sub]
          exact bs32 (by omega) (by omega)
        rw [Int32.toInt_sub, this]
        exact bs32 (by omega) (by omega)
      rw [ms_e (tI (by omega) (by omega)) t1 b0.1 (by omega) (by omega) (by omega)]
      obtain ⟨E1, B1, g1, g2, g3, g4⟩ := fM_ev (S := vS S x1 E B (Int32.ofInt (2 * (Y - 1970)))) (x1 := x1) (w := Int64.ofInt (1000 * (rdM S 0 Y * 86400 + 60 * ((S.1 238 3).toInt - x3.toInt)))) (bg := 1) (n := (2 * (Y - 1970)).toNat) (P := mP S x3.toInt x4.toInt Y) z1 z2 (by omega) (by rw [vS_c, tI (by omega) (by omega)]; omega) (by rw [vS_b hz]; exact hb) (Or.inr rfl) (by rw [vS_e, vS_b hz]; exact hs) (by rw [vS_e, vS_b hz]; exact hp)
      rw [g1]
      simp only [ob_]
      have v1 : w_i (eS (vS S x1 E B (Int32.ofInt (2 * (Y - 1970)))) x1 E1 B1) 237 x1.toNatClampNeg (Int32.ofInt (((2 * (Y - 1970)).toNat : Int) + 1)) = vS S x1 E1 B1 (Int32.ofInt (((2 * (Y - 1970)).toNat : Int) + 1)) := vS_v
      rw [v1, fM_rd (p := 4) (kr 4 r4) rfl (by omega) (by omega) (by omega), kd, hY]
      simp only [ob_]
      rw [j_qi (by decide) (by decide), m7, vS_r hz, ms_e (tI (by omega) (by omega)) t2 b4.1 (by omega) (by omega) (by omega)]
      obtain ⟨E2, B2, h1, h2, h3, h4⟩ := fM_ev (S := vS S x1 E1 B1 (Int32.ofInt (((2 * (Y - 1970)).toNat : Int) + 1))) (x1 := x1) (w := Int64.ofInt (1000 * (rdM S 4 Y * 86400 + 60 * ((S.1 238 7).toInt - x3.toInt - x4.toInt)))) (bg := 0) (n := (2 * (Y - 1970)).toNat + 1) (P := fun e b => mP S x3.toInt x4.toInt Y e b ∨ (e = Int64.ofInt (1000 * (rdM S 0 Y * 86400 + 60 * ((S.1 238 3).toInt - x3.toInt))) ∧ b = 1)) z1 z2 (by omega) (by rw [vS_c, tI (by omega) (by omega)]; omega) (by rw [vS_b hz]; exact g2) (Or.inl rfl) (by rw [vS_e, vS_b hz]; exact g3) (by rw [vS_e, vS_b hz]; exact g4)
      rw [h1]
      simp only [ob_]
      have v2 : w_i (eS (vS S x1 E1 B1 (Int32.ofInt (((2 * (Y - 1970)).toNat : Int) + 1))) x1 E2 B2) 237 x1.toNatClampNeg (Int32.ofInt ((((2 * (Y - 1970)).toNat + 1 : Nat) : Int) + 1)) = vS S x1 E2 B2 (Int32.ofInt (2 * (Y + 1 - 1970))) := by
        rw [show (2 * (Y + 1 - 1970)) = ((((2 * (Y - 1970)).toNat + 1 : Nat) : Int) + 1) by omega]
        exact vS_v
      rw [v2]
      have nn : (2 * (Y + 1 - 1970)).toNat = (2 * (Y - 1970)).toNat + 1 + 1 := by omega
      refine ih (x5 + 1) (Y + 1) E2 B2 ?_ (by omega) (by omega) (by omega) h2 ?_ ?_
      · rw [Int32.toInt_add, hY]
        exact bs32 (by simp only [Int32.reduceToInt]; omega) (by simp only [Int32.reduceToInt]; omega)
      · rw [nn]; exact h3
      · rw [nn]
        refine evp_c h4 (fun e b => ?_)
        have w1 : 1000 * (rdM S 0 Y * 86400 + 60 * ((S.1 238 3).toInt - x3.toInt)) = 1000 * mB S x3.toInt Y := by
          unfold mB rsM rs rdM
          simp only [Nat.reduceAdd]
          omega
        have w2 : 1000 * (rdM S 4 Y * 86400 + 60 * ((S.1 238 7).toInt - x3.toInt - x4.toInt)) = 1000 * mE S x3.toInt x4.toInt Y := by
          unfold mE rsM rs rdM
          simp only [Nat.reduceAdd]
          omega
        rw [w1, w2]
        constructor
        · rintro ((⟨y, q1, q2, q3⟩ | ⟨rfl, rfl⟩) | ⟨rfl, rfl⟩)
          · exact ⟨y, q1, by omega, q3⟩
          · exact ⟨Y, by omega, by omega, Or.inl ⟨rfl, rfl⟩⟩
          · exact ⟨Y, by omega, by omega, Or.inr ⟨rfl, rfl⟩⟩
        · rintro ⟨y, q1, q2, q3⟩
          by_cases e : y = Y
          · subst e
            rcases q3 with ⟨rfl, rfl⟩ | ⟨rfl, rfl⟩
            · exact Or.inl (Or.inr ⟨rfl, rfl⟩)
            · exact Or.inr ⟨rfl, rfl⟩
          · exact Or.inl (Or.inl ⟨y, q1, by omega, q3⟩)
end JC2
