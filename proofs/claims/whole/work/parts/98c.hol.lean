section JQ_3
variable {S T Z : jS} {c : Nat}
/-- T is S but for what holidays write -/
def sh (S T : jS) : Prop := (∀ b j, ¬ (b = 215 ∧ j = 0) → ¬ (107 ≤ b ∧ b < 115) → ¬ (431 ≤ b ∧ b ≤ 435) → T.1 b j = S.1 b j) ∧ T.2 = S.2
def rP (R : jS → Prop) : Prop := (∀ S, R S → rH S) ∧ ∀ S T, R S → sh S T → rH T → R T
/-- the model's memory after a holiday -/
def Mf (Z : jS) (c D : Nat) (n v : Int32) : jS := w_i (w_i (w_i Z 215 0 0) 435 c n) (431 + c) D v
theorem Mf_o {D : Nat} {n v : Int32} {b : Nat} (h1 : b ≠ 215) (h2 : b ≠ 435) (h3 : b ≠ 431 + c) : (Mf Z c D n v).1 b = Z.1 b := by
  funext j
  unfold Mf
  rw [w_ir, if_neg (fun q => h3 q.1), w_ir, if_neg (fun q => h2 q.1), w_ir, if_neg (fun q => h1 q.1)]
theorem Mf_0 {D : Nat} {n v : Int32} (hc : c < 4) : (Mf Z c D n v).1 215 0 = 0 := by
  unfold Mf
  rw [w_ir, if_neg (fun q => by omega), w_ir, if_neg (fun q => by omega), w_ir, if_pos ⟨rfl, rfl⟩]
theorem Mf_5 {D : Nat} {n v : Int32} {j : Nat} (hc : c < 4) : (Mf Z c D n v).1 435 j = if j = c then n else Z.1 435 j := by
  unfold Mf
  rw [w_ir, if_neg (fun q => by omega), w_ir]
  by_cases e : j = c
  · rw [if_pos ⟨rfl, e⟩, if_pos e]
  · rw [if_neg (fun q => e q.2), if_neg e, w_ir, if_neg (fun q => by omega)]
theorem Mf_1 {D : Nat} {n v : Int32} {j : Nat} (hc : c < 4) : (Mf Z c D n v).1 (431 + c) j = if j = D then v else Z.1 (431 + c) j := by
  unfold Mf
  rw [w_ir]
  by_cases e : j = D
  · rw [if_pos ⟨rfl, e⟩, if_pos e]
  · rw [if_neg (fun q => e q.2), if_neg e, w_ir, if_neg (fun q => by omega), w_ir, if_neg (fun q => by omega)]
theorem rH_u {D : Nat} {n v : Int32} (hc : c < 4) (hD : D ≤ 120529) (hr : rH S) (e2 : Z.2 = S.2) (e1 : ∀ b, b ≠ 107 + 2 * c → b ≠ 107 + 2 * c + 1 → Z.1 b = S.1 b) (hk : hsk Z (107 + 2 * c)) (hn : n = Z.1 (107 + 2 * c) 1) (hv : bol v) (hl : ∀ x : Int, 0 ≤ x → x ≤ 120529 → (hld Z (107 + 2 * c) x ↔ ((¬ x = D ∧ hld S (107 + 2 * c) x) ∨ (x = D ∧ ¬ v = 0)))) : rH (Mf Z c D n v) ∧ sh S (Mf Z c D n v) := by
  obtain ⟨h1, h2, h3⟩ := hr
  refine ⟨⟨?_, ?_, fun c' hc' => ?_⟩, ⟨fun b j q1 q2 q3 => ?_, ?_⟩⟩
  · unfold hsk at h1 ⊢
    rw [Mf_o (by omega) (by omega) (by omega), Mf_o (by omega) (by omega) (by omega), e1 30 (by omega) (by omega), e1 (30 + 1) (by omega) (by omega)]
    exact h1
  · rw [Mf_o (by omega) (by omega) (by omega), e1 30 (by omega) (by omega)]
    exact h2
  · obtain ⟨g1, g2, g3, g4⟩ := h3 c' hc'
    have ma : (Mf Z c D n v).1 (107 + 2 * c') = Z.1 (107 + 2 * c') := Mf_o (by omega) (by omega) (by omega)
    have mb : (Mf Z c D n v).1 (107 + 2 * c' + 1) = Z.1 (107 + 2 * c' + 1) := Mf_o (by omega) (by omega) (by omega)
    have ec : (Int32.ofNat c').toInt = c' := Int32.toInt_ofNat_of_lt (by omega)
    by_cases e : c' = c
    · subst e
      refine ⟨?_, ?_, ?_, fun d => ?_⟩
      · unfold hsk at hk ⊢
        rw [ma, mb]
        exact hk
      · intro x x1 x2
        have l := hl x x1 x2
        have g := g2 x x1 x2
        rw [clN ec] at g ⊢
        rw [Mf_1 hc]
        have hx : hld (Mf Z c' D n v) (107 + 2 * c') x ↔ hld Z (107 + 2 * c') x := by
          unfold hld
          rw [ma, mb]
        rw [hx, l]
        by_cases q : x = D
        · rw [if_pos (by omega)]
          constructor
          · rintro (⟨w, -⟩ | ⟨-, w⟩)
            · exact absurd q w
            · exact ⟨by omega, w⟩
          · rintro ⟨-, w⟩
            exact Or.inr ⟨q, w⟩
        · rw [if_neg (by omega), e1 (431 + c') (by omega) (by omega), ← g]
          constructor
          · rintro (⟨-, w⟩ | ⟨w, -⟩)
            · exact w
            · exact absurd w q
          · intro w
            exact Or.inl ⟨q, w⟩
      · rw [Mf_5 hc, if_pos rfl, ma, hn]
      · rw [Mf_1 hc]
        by_cases q : d = D
        · rw [if_pos q]; exact hv
        · rw [if_neg q, e1 (431 + c') (by omega) (by omega)]
          exact g4 d
    · have mc : (Mf Z c D n v).1 (431 + c') = Z.1 (431 + c') := Mf_o (by omega) (by omega) (by omega)
      rw [e1 _ (by omega) (by omega)] at ma mb mc
      refine ⟨?_, ?_, ?_, fun d => ?_⟩
      · unfold hsk at g1 ⊢
        rw [ma, mb]
        exact g1
      · intro x x1 x2
        have g := g2 x x1 x2
        rw [clN ec] at g ⊢
        unfold hld at g ⊢
        rw [ma, mb, mc]
        exact g
      · rw [Mf_5 hc, if_neg e, ma, e1 435 (by omega) (by omega)]
        exact g3
      · rw [mc]
        exact g4 d
  · by_cases e : b = 215
    · subst e
      unfold Mf
      rw [w_ir, if_neg (fun q => by omega), w_ir, if_neg (fun q => by omega), w_ir, if_neg (fun q => q1 ⟨rfl, q.2⟩), e1 215 (by omega) (by omega)]
    · rw [Mf_o e (by omega) (by omega), e1 b (by omega) (by omega)]
  · rw [← e2]
    rfl
end JQ_3
