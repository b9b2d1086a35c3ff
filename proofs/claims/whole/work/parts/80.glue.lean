section JGL
theorem mm_out {S : jS} {N : jx_H} (c : Nat × List Value) (h : mm 0 S N) : mm 0 S (N.set 453 c) := by
  obtain ⟨h1, h2, h3, h4⟩ := h
  refine ⟨by simpa using h1, fun b g1 g2 => ?_, fun b g1 g2 => ?_, Or.inl rfl⟩
  · rw [List.getElem?_set_ne (by omega)]
    exact h2 b g1 g2
  · rw [List.getElem?_set_ne (by omega)]
    exact h3 b g1 g2
/-- an answer of the class beside the reference's -/
def jE {τ : Type} (H : List (Nat × Int32)) (r : τ ⊕ Nat) (k : Int32) (b : τ) : Prop := match r with
  | .inl v => k = 0 ∧ v = b
  | .inr c => (c, k) ∈ H
def jEv (H : List (Nat × Int32)) (r : Option Nat) (k : Int32) : Prop := match r with
  | none => k = 0
  | some c => (c, k) ∈ H
def Oq_feed (R R' : jS → Prop) : Prop := ∀ (p0 : Int32) (p1 : Int32) (p2 : Int32) (p3 : Int32) (p4 : Int32) (S : jS), R S → ∃ z b S2, F_J_feed p0 p1 p2 p3 p4 S = some z ∧ F_M_feed p0 p1 p2 p3 p4 z.2 = some (b, S2) ∧ R' S2 ∧ jE [(10, 1)] z.1 (S2.1 215 0) b
def Ok_feed (R : jS → Prop) : Prop := Oq_feed R R
set_option maxRecDepth 20000 in
theorem gl_feed {R R' : jS → Prop} (hR : Oq_feed R R') {N : jx_H} {L : Nat} {xs : Nat → Int32} {i : Int32} {S : jS} {w : Int64} {dc ds : Nat} {P : jx_O → Prop} (hs : N[0]? = some (200, jx_vi L xs)) (hm : mm 0 S N) (hr : R S) (ho : N[453]? = some (jl_out w)) (v0 : vp_in (i + 1) L) (v1 : vp_in (i + 2) L) (v2 : vp_in (i + 3) L) (v3 : vp_in (i + 4) L) (v4 : vp_in (i + 5) L) (kk : ∀ S2 N2 w2 dc2 ds2, R' S2 → mm 0 S2 N2 → N2[0]? = some (200, jx_vi L xs) → N2[453]? = some (jl_out w2) → dc2 ≤ dc + 4 → ds2 ≤ ds + 32 → ∃ o, P o ∧ jt jp_W_law 15 592 1771 [(0, .ref 0), (1, .ref 24), (2, .ref 215), (3, .ref 453), (4, .int i)] [] N2 dc2 ds2 o) : ∃ o, P o ∧ jt jp_W_law 15 592 128 [(0, .ref 0), (1, .ref 24), (2, .ref 215), (3, .ref 453), (4, .int i)] [] N dc ds o := by
  obtain ⟨z, b, S2, h1, h2, h3, h4⟩ := hR (xs (i + 1 : Int32).toNatClampNeg) (xs (i + 2 : Int32).toNatClampNeg) (xs (i + 3 : Int32).toNatClampNeg) (xs (i + 4 : Int32).toNatClampNeg) (xs (i + 5 : Int32).toNatClampNeg) S  hr
  obtain ⟨o1, N1, c1, s1, g1, g2, g3, g4, g5, g6⟩ := kF_J_feed (q := 0) (xs (i + 1 : Int32).toNatClampNeg) (xs (i + 2 : Int32).toNatClampNeg) (xs (i + 3 : Int32).toNatClampNeg) (xs (i + 4 : Int32).toNatClampNeg) (xs (i + 5 : Int32).toNatClampNeg) S 13 540 (by decide) (by decide) N hm z h1 0 0
  have hl := hm.1
  have hl2 := g2.1
  have e0 : N1[0]? = some (200, jx_vi L xs) := (g3.2 0 (by omega) (by omega)).trans hs
  have e1 : N1[453]? = some (jl_out w) := (g3.2 453 (by omega) (by omega)).trans ho
  obtain ⟨r, S1⟩ := z
  cases r with
  | inl v =>
    obtain ⟨h4, h5⟩ := (h4 : S2.1 215 0 = 0 ∧ v = b)
    have g4 : o1 = .inl (some (.int v)) := g4
    subst g4
    have gm := mm_out (jl_out v.toInt64) g2
    obtain ⟨o2, N2, c2, s2, f1, f2, f3, f4, f5, f6⟩ := kF_M_feed (q := 0) (xs (i + 1 : Int32).toNatClampNeg) (xs (i + 2 : Int32).toNatClampNeg) (xs (i + 3 : Int32).toNatClampNeg) (xs (i + 4 : Int32).toNatClampNeg) (xs (i + 5 : Int32).toNatClampNeg) S1 14 565 (by decide) (by decide) (N1.set 453 (jl_out v.toInt64)) gm (b, S2) h2 0 0
    have f4 : o2 = .inl (some (.int b)) := f4
    subst f4
    have hl1 : 453 < (N1.set 453 (jl_out v.toInt64)).length := by have := (gm).1; omega
    have e2 : N2[0]? = some (200, jx_vi L xs) := (f3.2 0 (by omega) (by omega)).trans (by rw [List.getElem?_set_ne (by decide)]; exact e0)
    have e3 : N2[453]? = some (jl_out v.toInt64) := (f3.2 453 (by omega) (by omega)).trans (List.getElem?_set_self (by omega))
    have e4 : N2[215]? = some (9, .int (S2.1 215 0) :: _) := mm_ka f2 kc_215
    rw [h4] at e4
    simp only [x_I, s_I, jn_x] at g5 g6 f5 f6
    obtain ⟨oo, p1, p2⟩ := kk S2 N2 v.toInt64 (dc + c1 + c2) (ds + s1 + s2) h3 f2 e2 e3 (by omega) (by omega)
    exact ⟨oo, p1, jl_case_feed hs (by rw [List.getElem?_set_ne (by decide)]; exact e0) v0 v1 v2 v3 v4 (jl_W_feed_ok (xs (i + 1 : Int32).toNatClampNeg) (xs (i + 2 : Int32).toNatClampNeg) (xs (i + 3 : Int32).toNatClampNeg) (xs (i + 4 : Int32).toNatClampNeg) (xs (i + 5 : Int32).toNatClampNeg) 14 565 (by decide) (by decide) (mm_ka hm kc_24) g1 e1) (mm_ka gm kc_215) f1 e4 e3 (fun _ => by rw [h5]) p2⟩
  | inr c =>
    obtain ⟨ad, g4, ga⟩ := g4
    subst g4
    have h6 : (c, S2.1 215 0) ∈ ([(10, 1)] : List (Nat × Int32)) := h4
    simp only [List.mem_cons, List.not_mem_nil, or_false, Prod.mk.injEq] at h6
    obtain ⟨rfl, h7⟩ := h6
    obtain ⟨o2, N2, c2, s2, f1, f2, f3, f4, f5, f6⟩ := kF_M_feed (q := 0) (xs (i + 1 : Int32).toNatClampNeg) (xs (i + 2 : Int32).toNatClampNeg) (xs (i + 3 : Int32).toNatClampNeg) (xs (i + 4 : Int32).toNatClampNeg) (xs (i + 5 : Int32).toNatClampNeg) S1 14 565 (by decide) (by decide) N1 g2 (b, S2) h2 0 0
    have f4 : o2 = .inl (some (.int b)) := f4
    subst f4
    have hl1 : 453 < (N1).length := by have := (g2).1; omega
    have e2 : N2[0]? = some (200, jx_vi L xs) := (f3.2 0 (by omega) (by omega)).trans e0
    have e3 : N2[453]? = some (jl_out w) := (f3.2 453 (by omega) (by omega)).trans e1
    have e4 : N2[215]? = some (9, .int (S2.1 215 0) :: _) := mm_ka f2 kc_215
    rw [h7] at e4
    simp only [x_I, s_I, jn_x] at g5 g6 f5 f6
    obtain ⟨oo, p1, p2⟩ := kk S2 N2 w (dc + c1 + c2) (ds + s1 + s2) h3 f2 e2 e3 (by omega) (by omega)
    exact ⟨oo, p1, jl_case_feed hs e0 v0 v1 v2 v3 v4 (jl_W_feed_x10 (xs (i + 1 : Int32).toNatClampNeg) (xs (i + 2 : Int32).toNatClampNeg) (xs (i + 3 : Int32).toNatClampNeg) (xs (i + 4 : Int32).toNatClampNeg) (xs (i + 5 : Int32).toNatClampNeg) 14 565 (by decide) (by decide) (mm_ka hm kc_24) g1 ga) (mm_ka g2 kc_215) f1 e4 e3 (fun q => absurd q (by decide)) p2⟩
def Oq_end (R R' : jS → Prop) : Prop := ∀ (p0 : Int32) (S : jS), R S → ∃ z b S2, F_J_end p0 S = some z ∧ F_M_end p0 z.2 = some (b, S2) ∧ R' S2 ∧ jE [(11, 1)] z.1 (S2.1 215 0) b
def Ok_end (R : jS → Prop) : Prop := Oq_end R R
set_option maxRecDepth 20000 in
theorem gl_end {R R' : jS → Prop} (hR : Oq_end R R') {N : jx_H} {L : Nat} {xs : Nat → Int32} {i : Int32} {S : jS} {w : Int64} {dc ds : Nat} {P : jx_O → Prop} (hs : N[0]? = some (200, jx_vi L xs)) (hm : mm 0 S N) (hr : R S) (ho : N[453]? = some (jl_out w)) (v0 : vp_in (i + 1) L) (kk : ∀ S2 N2 w2 dc2 ds2, R' S2 → mm 0 S2 N2 → N2[0]? = some (200, jx_vi L xs) → N2[453]? = some (jl_out w2) → dc2 ≤ dc + 4 → ds2 ≤ ds + 32 → ∃ o, P o ∧ jt jp_W_law 15 592 1771 [(0, .ref 0), (1, .ref 24), (2, .ref 215), (3, .ref 453), (4, .int i)] [] N2 dc2 ds2 o) : ∃ o, P o ∧ jt jp_W_law 15 592 232 [(0, .ref 0), (1, .ref 24), (2, .ref 215), (3, .ref 453), (4, .int i)] [] N dc ds o := by
  obtain ⟨z, b, S2, h1, h2, h3, h4⟩ := hR (xs (i + 1 : Int32).toNatClampNeg) S  hr
  obtain ⟨o1, N1, c1, s1, g1, g2, g3, g4, g5, g6⟩ := kF_J_end (q := 0) (xs (i + 1 : Int32).toNatClampNeg) S 13 548 (by decide) (by decide) N hm z h1 0 0
  have hl := hm.1
  have hl2 := g2.1
  have e0 : N1[0]? = some (200, jx_vi L xs) := (g3.2 0 (by omega) (by omega)).trans hs
  have e1 : N1[453]? = some (jl_out w) := (g3.2 453 (by omega) (by omega)).trans ho
  obtain ⟨r, S1⟩ := z
  cases r with
  | inl v =>
    obtain ⟨h4, h5⟩ := (h4 : S2.1 215 0 = 0 ∧ v = b)
    have g4 : o1 = .inl (some (.int v)) := g4
    subst g4
    have gm := mm_out (jl_out v.toInt64) g2
    obtain ⟨o2, N2, c2, s2, f1, f2, f3, f4, f5, f6⟩ := kF_M_end (q := 0) (xs (i + 1 : Int32).toNatClampNeg) S1 14 571 (by decide) (by decide) (N1.set 453 (jl_out v.toInt64)) gm (b, S2) h2 0 0
    have f4 : o2 = .inl (some (.int b)) := f4
    subst f4
    have hl1 : 453 < (N1.set 453 (jl_out v.toInt64)).length := by have := (gm).1; omega
    have e2 : N2[0]? = some (200, jx_vi L xs) := (f3.2 0 (by omega) (by omega)).trans (by rw [List.getElem?_set_ne (by decide)]; exact e0)
    have e3 : N2[453]? = some (jl_out v.toInt64) := (f3.2 453 (by omega) (by omega)).trans (List.getElem?_set_self (by omega))
    have e4 : N2[215]? = some (9, .int (S2.1 215 0) :: _) := mm_ka f2 kc_215
    rw [h4] at e4
    simp only [x_I, s_I, jn_x] at g5 g6 f5 f6
    obtain ⟨oo, p1, p2⟩ := kk S2 N2 v.toInt64 (dc + c1 + c2) (ds + s1 + s2) h3 f2 e2 e3 (by omega) (by omega)
    exact ⟨oo, p1, jl_case_end hs (by rw [List.getElem?_set_ne (by decide)]; exact e0) v0 (jl_W_end_ok (xs (i + 1 : Int32).toNatClampNeg) 14 569 (by decide) (by decide) (mm_ka hm kc_24) g1 e1) (mm_ka gm kc_215) f1 e4 e3 (fun _ => by rw [h5]) p2⟩
  | inr c =>
    obtain ⟨ad, g4, ga⟩ := g4
    subst g4
    have h6 : (c, S2.1 215 0) ∈ ([(11, 1)] : List (Nat × Int32)) := h4
    simp only [List.mem_cons, List.not_mem_nil, or_false, Prod.mk.injEq] at h6
    obtain ⟨rfl, h7⟩ := h6
    obtain ⟨o2, N2, c2, s2, f1, f2, f3, f4, f5, f6⟩ := kF_M_end (q := 0) (xs (i + 1 : Int32).toNatClampNeg) S1 14 571 (by decide) (by decide) N1 g2 (b, S2) h2 0 0
    have f4 : o2 = .inl (some (.int b)) := f4
    subst f4
    have hl1 : 453 < (N1).length := by have := (g2).1; omega
    have e2 : N2[0]? = some (200, jx_vi L xs) := (f3.2 0 (by omega) (by omega)).trans e0
    have e3 : N2[453]? = some (jl_out w) := (f3.2 453 (by omega) (by omega)).trans e1
    have e4 : N2[215]? = some (9, .int (S2.1 215 0) :: _) := mm_ka f2 kc_215
    rw [h7] at e4
    simp only [x_I, s_I, jn_x] at g5 g6 f5 f6
    obtain ⟨oo, p1, p2⟩ := kk S2 N2 w (dc + c1 + c2) (ds + s1 + s2) h3 f2 e2 e3 (by omega) (by omega)
    exact ⟨oo, p1, jl_case_end hs e0 v0 (jl_W_end_x11 (xs (i + 1 : Int32).toNatClampNeg) 14 569 (by decide) (by decide) (mm_ka hm kc_24) g1 ga) (mm_ka g2 kc_215) f1 e4 e3 (fun q => absurd q (by decide)) p2⟩
def Oq_zone (R R' : jS → Prop) : Prop := ∀ (p0 : Int32) (S : jS), R S → ∃ z S2, F_J_zone p0 S = some z ∧ F_M_zone p0 z.2 = some S2 ∧ R' S2 ∧ jEv [(11, 1), (12, 2)] z.1 (S2.1 215 0)
def Ok_zone (R : jS → Prop) : Prop := Oq_zone R R
set_option maxRecDepth 20000 in
theorem gl_zone {R R' : jS → Prop} (hR : Oq_zone R R') {N : jx_H} {L : Nat} {xs : Nat → Int32} {i : Int32} {S : jS} {w : Int64} {dc ds : Nat} {P : jx_O → Prop} (hs : N[0]? = some (200, jx_vi L xs)) (hm : mm 0 S N) (hr : R S) (ho : N[453]? = some (jl_out w)) (v0 : vp_in (i + 1) L) (kk : ∀ S2 N2 w2 dc2 ds2, R' S2 → mm 0 S2 N2 → N2[0]? = some (200, jx_vi L xs) → N2[453]? = some (jl_out w2) → dc2 ≤ dc + 4 → ds2 ≤ ds + 32 → ∃ o, P o ∧ jt jp_W_law 15 592 1771 [(0, .ref 0), (1, .ref 24), (2, .ref 215), (3, .ref 453), (4, .int i)] [] N2 dc2 ds2 o) : ∃ o, P o ∧ jt jp_W_law 15 592 288 [(0, .ref 0), (1, .ref 24), (2, .ref 215), (3, .ref 453), (4, .int i)] [] N dc ds o := by
  obtain ⟨z, S2, h1, h2, h3, h4⟩ := hR (xs (i + 1 : Int32).toNatClampNeg) S  hr
  obtain ⟨o1, N1, c1, s1, g1, g2, g3, g4, g5, g6⟩ := kF_J_zone (q := 0) (xs (i + 1 : Int32).toNatClampNeg) S 13 548 (by decide) (by decide) N hm z h1 0 0
  have hl := hm.1
  have hl2 := g2.1
  have e0 : N1[0]? = some (200, jx_vi L xs) := (g3.2 0 (by omega) (by omega)).trans hs
  have e1 : N1[453]? = some (jl_out w) := (g3.2 453 (by omega) (by omega)).trans ho
  obtain ⟨r, S1⟩ := z
  cases r with
  | none =>
    have h4 : S2.1 215 0 = 0 := h4
    have g4 : o1 = .inl none := g4
    subst g4
    obtain ⟨o2, N2, c2, s2, f1, f2, f3, f4, f5, f6⟩ := kF_M_zone (xs (i + 1 : Int32).toNatClampNeg) S1 14 570 (by decide) (by decide) N1 g2 S2 h2 0 0
    have f4 : o2 = .inl none := f4
    subst f4
    have hl1 : 453 < (N1).length := by have := (g2).1; omega
    have e2 : N2[0]? = some (200, jx_vi L xs) := (f3.2 0 (by omega) (by omega)).trans e0
    have e3 : N2[453]? = some (jl_out w) := (f3.2 453 (by omega) (by omega)).trans e1
    have e4 : N2[215]? = some (9, .int (S2.1 215 0) :: _) := mm_ka f2 kc_215
    rw [h4] at e4
    simp only [x_V, s_V, jn_x] at g5 g6 f5 f6
    obtain ⟨oo, p1, p2⟩ := kk S2 N2 w (dc + c1 + c2) (ds + s1 + s2) h3 f2 e2 e3 (by omega) (by omega)
    exact ⟨oo, p1, jl_case_zone hs e0 v0 (jl_W_zone_ok (xs (i + 1 : Int32).toNatClampNeg) 14 570 (by decide) (by decide) (mm_ka hm kc_24) g1) (mm_ka g2 kc_215) f1 e4 p2⟩
  | some c =>
    obtain ⟨ad, g4, ga⟩ := g4
    subst g4
    have h6 : (c, S2.1 215 0) ∈ ([(11, 1), (12, 2)] : List (Nat × Int32)) := h4
    simp only [List.mem_cons, List.not_mem_nil, or_false, Prod.mk.injEq] at h6
    rcases h6 with ⟨rfl, h7⟩ | ⟨rfl, h7⟩
    · obtain ⟨o2, N2, c2, s2, f1, f2, f3, f4, f5, f6⟩ := kF_M_zone (xs (i + 1 : Int32).toNatClampNeg) S1 14 570 (by decide) (by decide) N1 g2 S2 h2 0 0
      have f4 : o2 = .inl none := f4
      subst f4
      have hl1 : 453 < (N1).length := by have := (g2).1; omega
      have e2 : N2[0]? = some (200, jx_vi L xs) := (f3.2 0 (by omega) (by omega)).trans e0
      have e3 : N2[453]? = some (jl_out w) := (f3.2 453 (by omega) (by omega)).trans e1
      have e4 : N2[215]? = some (9, .int (S2.1 215 0) :: _) := mm_ka f2 kc_215
      rw [h7] at e4
      simp only [x_V, s_V, jn_x] at g5 g6 f5 f6
      obtain ⟨oo, p1, p2⟩ := kk S2 N2 w (dc + c1 + c2) (ds + s1 + s2) h3 f2 e2 e3 (by omega) (by omega)
      exact ⟨oo, p1, jl_case_zone hs e0 v0 (jl_W_zone_x11 (xs (i + 1 : Int32).toNatClampNeg) 14 570 (by decide) (by decide) (mm_ka hm kc_24) g1 ga) (mm_ka g2 kc_215) f1 e4 p2⟩
    · obtain ⟨o2, N2, c2, s2, f1, f2, f3, f4, f5, f6⟩ := kF_M_zone (xs (i + 1 : Int32).toNatClampNeg) S1 14 570 (by decide) (by decide) N1 g2 S2 h2 0 0
      have f4 : o2 = .inl none := f4
      subst f4
      have hl1 : 453 < (N1).length := by have := (g2).1; omega
      have e2 : N2[0]? = some (200, jx_vi L xs) := (f3.2 0 (by omega) (by omega)).trans e0
      have e3 : N2[453]? = some (jl_out w) := (f3.2 453 (by omega) (by omega)).trans e1
      have e4 : N2[215]? = some (9, .int (S2.1 215 0) :: _) := mm_ka f2 kc_215
      rw [h7] at e4
      simp only [x_V, s_V, jn_x] at g5 g6 f5 f6
      obtain ⟨oo, p1, p2⟩ := kk S2 N2 w (dc + c1 + c2) (ds + s1 + s2) h3 f2 e2 e3 (by omega) (by omega)
      exact ⟨oo, p1, jl_case_zone hs e0 v0 (jl_W_zone_x12 (xs (i + 1 : Int32).toNatClampNeg) 14 570 (by decide) (by decide) (mm_ka hm kc_24) g1 ga) (mm_ka g2 kc_215) f1 e4 p2⟩
def Oq_cron (R R' : jS → Prop) : Prop := ∀ (p0 : Int32) (S : jS), R S → ∃ z S2, F_J_cron p0 S = some z ∧ F_M_cron p0 z.2 = some S2 ∧ R' S2 ∧ jEv [(11, 1), (12, 2)] z.1 (S2.1 215 0)
def Ok_cron (R : jS → Prop) : Prop := Oq_cron R R
set_option maxRecDepth 20000 in
theorem gl_cron {R R' : jS → Prop} (hR : Oq_cron R R') {N : jx_H} {L : Nat} {xs : Nat → Int32} {i : Int32} {S : jS} {w : Int64} {dc ds : Nat} {P : jx_O → Prop} (hs : N[0]? = some (200, jx_vi L xs)) (hm : mm 0 S N) (hr : R S) (ho : N[453]? = some (jl_out w)) (v0 : vp_in (i + 1) L) (kk : ∀ S2 N2 w2 dc2 ds2, R' S2 → mm 0 S2 N2 → N2[0]? = some (200, jx_vi L xs) → N2[453]? = some (jl_out w2) → dc2 ≤ dc + 4 → ds2 ≤ ds + 32 → ∃ o, P o ∧ jt jp_W_law 15 592 1771 [(0, .ref 0), (1, .ref 24), (2, .ref 215), (3, .ref 453), (4, .int i)] [] N2 dc2 ds2 o) : ∃ o, P o ∧ jt jp_W_law 15 592 324 [(0, .ref 0), (1, .ref 24), (2, .ref 215), (3, .ref 453), (4, .int i)] [] N dc ds o := by
  obtain ⟨z, S2, h1, h2, h3, h4⟩ := hR (xs (i + 1 : Int32).toNatClampNeg) S  hr
  obtain ⟨o1, N1, c1, s1, g1, g2, g3, g4, g5, g6⟩ := kF_J_cron (q := 0) (xs (i + 1 : Int32).toNatClampNeg) S 13 548 (by decide) (by decide) N hm z h1 0 0
  have hl := hm.1
  have hl2 := g2.1
  have e0 : N1[0]? = some (200, jx_vi L xs) := (g3.2 0 (by omega) (by omega)).trans hs
  have e1 : N1[453]? = some (jl_out w) := (g3.2 453 (by omega) (by omega)).trans ho
  obtain ⟨r, S1⟩ := z
  cases r with
  | none =>
    have h4 : S2.1 215 0 = 0 := h4
    have g4 : o1 = .inl none := g4
    subst g4
    obtain ⟨o2, N2, c2, s2, f1, f2, f3, f4, f5, f6⟩ := kF_M_cron (xs (i + 1 : Int32).toNatClampNeg) S1 14 570 (by decide) (by decide) N1 g2 S2 h2 0 0
    have f4 : o2 = .inl none := f4
    subst f4
    have hl1 : 453 < (N1).length := by have := (g2).1; omega
    have e2 : N2[0]? = some (200, jx_vi L xs) := (f3.2 0 (by omega) (by omega)).trans e0
    have e3 : N2[453]? = some (jl_out w) := (f3.2 453 (by omega) (by omega)).trans e1
    have e4 : N2[215]? = some (9, .int (S2.1 215 0) :: _) := mm_ka f2 kc_215
    rw [h4] at e4
    simp only [x_V, s_V, jn_x] at g5 g6 f5 f6
    obtain ⟨oo, p1, p2⟩ := kk S2 N2 w (dc + c1 + c2) (ds + s1 + s2) h3 f2 e2 e3 (by omega) (by omega)
    exact ⟨oo, p1, jl_case_cron hs e0 v0 (jl_W_cron_ok (xs (i + 1 : Int32).toNatClampNeg) 14 570 (by decide) (by decide) (mm_ka hm kc_24) g1) (mm_ka g2 kc_215) f1 e4 p2⟩
  | some c =>
    obtain ⟨ad, g4, ga⟩ := g4
    subst g4
    have h6 : (c, S2.1 215 0) ∈ ([(11, 1), (12, 2)] : List (Nat × Int32)) := h4
    simp only [List.mem_cons, List.not_mem_nil, or_false, Prod.mk.injEq] at h6
    rcases h6 with ⟨rfl, h7⟩ | ⟨rfl, h7⟩
    · obtain ⟨o2, N2, c2, s2, f1, f2, f3, f4, f5, f6⟩ := kF_M_cron (xs (i + 1 : Int32).toNatClampNeg) S1 14 570 (by decide) (by decide) N1 g2 S2 h2 0 0
      have f4 : o2 = .inl none := f4
      subst f4
      have hl1 : 453 < (N1).length := by have := (g2).1; omega
      have e2 : N2[0]? = some (200, jx_vi L xs) := (f3.2 0 (by omega) (by omega)).trans e0
      have e3 : N2[453]? = some (jl_out w) := (f3.2 453 (by omega) (by omega)).trans e1
      have e4 : N2[215]? = some (9, .int (S2.1 215 0) :: _) := mm_ka f2 kc_215
      rw [h7] at e4
      simp only [x_V, s_V, jn_x] at g5 g6 f5 f6
      obtain ⟨oo, p1, p2⟩ := kk S2 N2 w (dc + c1 + c2) (ds + s1 + s2) h3 f2 e2 e3 (by omega) (by omega)
      exact ⟨oo, p1, jl_case_cron hs e0 v0 (jl_W_cron_x11 (xs (i + 1 : Int32).toNatClampNeg) 14 570 (by decide) (by decide) (mm_ka hm kc_24) g1 ga) (mm_ka g2 kc_215) f1 e4 p2⟩
    · obtain ⟨o2, N2, c2, s2, f1, f2, f3, f4, f5, f6⟩ := kF_M_cron (xs (i + 1 : Int32).toNatClampNeg) S1 14 570 (by decide) (by decide) N1 g2 S2 h2 0 0
      have f4 : o2 = .inl none := f4
      subst f4
      have hl1 : 453 < (N1).length := by have := (g2).1; omega
      have e2 : N2[0]? = some (200, jx_vi L xs) := (f3.2 0 (by omega) (by omega)).trans e0
      have e3 : N2[453]? = some (jl_out w) := (f3.2 453 (by omega) (by omega)).trans e1
      have e4 : N2[215]? = some (9, .int (S2.1 215 0) :: _) := mm_ka f2 kc_215
      rw [h7] at e4
      simp only [x_V, s_V, jn_x] at g5 g6 f5 f6
      obtain ⟨oo, p1, p2⟩ := kk S2 N2 w (dc + c1 + c2) (ds + s1 + s2) h3 f2 e2 e3 (by omega) (by omega)
      exact ⟨oo, p1, jl_case_cron hs e0 v0 (jl_W_cron_x12 (xs (i + 1 : Int32).toNatClampNeg) 14 570 (by decide) (by decide) (mm_ka hm kc_24) g1 ga) (mm_ka g2 kc_215) f1 e4 p2⟩
def Oq_holiday (R R' : jS → Prop) : Prop := ∀ (p0 : Int32) (p1 : Int32) (p2 : Int32) (S : jS), (p2 = 0 ∨ p2 = 1) → R S → ∃ z b S2, F_J_holiday p0 p1 p2 S = some z ∧ F_M_holiday p0 p1 p2 z.2 = some (b, S2) ∧ R' S2 ∧ jE [(11, 1), (10, 2)] z.1 (S2.1 215 0) b
def Ok_holiday (R : jS → Prop) : Prop := Oq_holiday R R
set_option maxRecDepth 20000 in
theorem gl_holiday_0 {R R' : jS → Prop} (hR : Oq_holiday R R') {N : jx_H} {L : Nat} {xs : Nat → Int32} {i : Int32} {S : jS} {w : Int64} {dc ds : Nat} {P : jx_O → Prop} (hs : N[0]? = some (200, jx_vi L xs)) (hm : mm 0 S N) (hr : R S) (ho : N[453]? = some (jl_out w)) (v0 : vp_in (i + 1) L) (v1 : vp_in (i + 2) L) (v2 : vp_in (i + 3) L) (b3 : (xs (i + 3 : Int32).toNatClampNeg) = 0) (kk : ∀ S2 N2 w2 dc2 ds2, R' S2 → mm 0 S2 N2 → N2[0]? = some (200, jx_vi L xs) → N2[453]? = some (jl_out w2) → dc2 ≤ dc + 4 → ds2 ≤ ds + 32 → ∃ o, P o ∧ jt jp_W_law 15 592 1771 [(0, .ref 0), (1, .ref 24), (2, .ref 215), (3, .ref 453), (4, .int i)] [] N2 dc2 ds2 o) : ∃ o, P o ∧ jt jp_W_law 15 592 360 [(0, .ref 0), (1, .ref 24), (2, .ref 215), (3, .ref 453), (4, .int i)] [] N dc ds o := by
  obtain ⟨z, b, S2, h1, h2, h3, h4⟩ := hR (xs (i + 1 : Int32).toNatClampNeg) (xs (i + 2 : Int32).toNatClampNeg) 0 S (Or.inl rfl) hr
  obtain ⟨o1, N1, c1, s1, g1, g2, g3, g4, g5, g6⟩ := kF_J_holiday (q := 0) (xs (i + 1 : Int32).toNatClampNeg) (xs (i + 2 : Int32).toNatClampNeg) 0 S 13 542 (by decide) (by decide) N hm z h1 0 0
  have hl := hm.1
  have hl2 := g2.1
  have e0 : N1[0]? = some (200, jx_vi L xs) := (g3.2 0 (by omega) (by omega)).trans hs
  have e1 : N1[453]? = some (jl_out w) := (g3.2 453 (by omega) (by omega)).trans ho
  obtain ⟨r, S1⟩ := z
  cases r with
  | inl v =>
    obtain ⟨h4, h5⟩ := (h4 : S2.1 215 0 = 0 ∧ v = b)
    have g4 : o1 = .inl (some (.int v)) := g4
    subst g4
    have gm := mm_out (jl_out v.toInt64) g2
    obtain ⟨o2, N2, c2, s2, f1, f2, f3, f4, f5, f6⟩ := kF_M_holiday (q := 0) (xs (i + 1 : Int32).toNatClampNeg) (xs (i + 2 : Int32).toNatClampNeg) 0 S1 14 569 (by decide) (by decide) (N1.set 453 (jl_out v.toInt64)) gm (b, S2) h2 0 0
    have f4 : o2 = .inl (some (.int b)) := f4
    subst f4
    have hl1 : 453 < (N1.set 453 (jl_out v.toInt64)).length := by have := (gm).1; omega
    have e2 : N2[0]? = some (200, jx_vi L xs) := (f3.2 0 (by omega) (by omega)).trans (by rw [List.getElem?_set_ne (by decide)]; exact e0)
    have e3 : N2[453]? = some (jl_out v.toInt64) := (f3.2 453 (by omega) (by omega)).trans (List.getElem?_set_self (by omega))
    have e4 : N2[215]? = some (9, .int (S2.1 215 0) :: _) := mm_ka f2 kc_215
    rw [h4] at e4
    simp only [x_I, s_I, jn_x] at g5 g6 f5 f6
    obtain ⟨oo, p1, p2⟩ := kk S2 N2 v.toInt64 (dc + c1 + c2) (ds + s1 + s2) h3 f2 e2 e3 (by omega) (by omega)
    exact ⟨oo, p1, jl_case_holiday_0 hs (by rw [List.getElem?_set_ne (by decide)]; exact e0) v0 v1 v2 b3 (jl_W_holiday_ok (xs (i + 1 : Int32).toNatClampNeg) (xs (i + 2 : Int32).toNatClampNeg) 0 14 567 (by decide) (by decide) (mm_ka hm kc_24) g1 e1) (mm_ka gm kc_215) f1 e4 e3 (fun _ => by rw [h5]) p2⟩
  | inr c =>
    obtain ⟨ad, g4, ga⟩ := g4
    subst g4
    have h6 : (c, S2.1 215 0) ∈ ([(11, 1), (10, 2)] : List (Nat × Int32)) := h4
    simp only [List.mem_cons, List.not_mem_nil, or_false, Prod.mk.injEq] at h6
    rcases h6 with ⟨rfl, h7⟩ | ⟨rfl, h7⟩
    · obtain ⟨o2, N2, c2, s2, f1, f2, f3, f4, f5, f6⟩ := kF_M_holiday (q := 0) (xs (i + 1 : Int32).toNatClampNeg) (xs (i + 2 : Int32).toNatClampNeg) 0 S1 14 569 (by decide) (by decide) N1 g2 (b, S2) h2 0 0
      have f4 : o2 = .inl (some (.int b)) := f4
      subst f4
      have hl1 : 453 < (N1).length := by have := (g2).1; omega
      have e2 : N2[0]? = some (200, jx_vi L xs) := (f3.2 0 (by omega) (by omega)).trans e0
      have e3 : N2[453]? = some (jl_out w) := (f3.2 453 (by omega) (by omega)).trans e1
      have e4 : N2[215]? = some (9, .int (S2.1 215 0) :: _) := mm_ka f2 kc_215
      rw [h7] at e4
      simp only [x_I, s_I, jn_x] at g5 g6 f5 f6
      obtain ⟨oo, p1, p2⟩ := kk S2 N2 w (dc + c1 + c2) (ds + s1 + s2) h3 f2 e2 e3 (by omega) (by omega)
      exact ⟨oo, p1, jl_case_holiday_0 hs e0 v0 v1 v2 b3 (jl_W_holiday_x11 (xs (i + 1 : Int32).toNatClampNeg) (xs (i + 2 : Int32).toNatClampNeg) 0 14 567 (by decide) (by decide) (mm_ka hm kc_24) g1 ga) (mm_ka g2 kc_215) f1 e4 e3 (fun q => absurd q (by decide)) p2⟩
    · obtain ⟨o2, N2, c2, s2, f1, f2, f3, f4, f5, f6⟩ := kF_M_holiday (q := 0) (xs (i + 1 : Int32).toNatClampNeg) (xs (i + 2 : Int32).toNatClampNeg) 0 S1 14 569 (by decide) (by decide) N1 g2 (b, S2) h2 0 0
      have f4 : o2 = .inl (some (.int b)) := f4
      subst f4
      have hl1 : 453 < (N1).length := by have := (g2).1; omega
      have e2 : N2[0]? = some (200, jx_vi L xs) := (f3.2 0 (by omega) (by omega)).trans e0
      have e3 : N2[453]? = some (jl_out w) := (f3.2 453 (by omega) (by omega)).trans e1
      have e4 : N2[215]? = some (9, .int (S2.1 215 0) :: _) := mm_ka f2 kc_215
      rw [h7] at e4
      simp only [x_I, s_I, jn_x] at g5 g6 f5 f6
      obtain ⟨oo, p1, p2⟩ := kk S2 N2 w (dc + c1 + c2) (ds + s1 + s2) h3 f2 e2 e3 (by omega) (by omega)
      exact ⟨oo, p1, jl_case_holiday_0 hs e0 v0 v1 v2 b3 (jl_W_holiday_x10 (xs (i + 1 : Int32).toNatClampNeg) (xs (i + 2 : Int32).toNatClampNeg) 0 14 567 (by decide) (by decide) (mm_ka hm kc_24) g1 ga) (mm_ka g2 kc_215) f1 e4 e3 (fun q => absurd q (by decide)) p2⟩
set_option maxRecDepth 20000 in
theorem gl_holiday_1 {R R' : jS → Prop} (hR : Oq_holiday R R') {N : jx_H} {L : Nat} {xs : Nat → Int32} {i : Int32} {S : jS} {w : Int64} {dc ds : Nat} {P : jx_O → Prop} (hs : N[0]? = some (200, jx_vi L xs)) (hm : mm 0 S N) (hr : R S) (ho : N[453]? = some (jl_out w)) (v0 : vp_in (i + 1) L) (v1 : vp_in (i + 2) L) (v2 : vp_in (i + 3) L) (b3 : ¬ (xs (i + 3 : Int32).toNatClampNeg) = 0) (kk : ∀ S2 N2 w2 dc2 ds2, R' S2 → mm 0 S2 N2 → N2[0]? = some (200, jx_vi L xs) → N2[453]? = some (jl_out w2) → dc2 ≤ dc + 4 → ds2 ≤ ds + 32 → ∃ o, P o ∧ jt jp_W_law 15 592 1771 [(0, .ref 0), (1, .ref 24), (2, .ref 215), (3, .ref 453), (4, .int i)] [] N2 dc2 ds2 o) : ∃ o, P o ∧ jt jp_W_law 15 592 360 [(0, .ref 0), (1, .ref 24), (2, .ref 215), (3, .ref 453), (4, .int i)] [] N dc ds o := by
  obtain ⟨z, b, S2, h1, h2, h3, h4⟩ := hR (xs (i + 1 : Int32).toNatClampNeg) (xs (i + 2 : Int32).toNatClampNeg) 1 S (Or.inr rfl) hr
  obtain ⟨o1, N1, c1, s1, g1, g2, g3, g4, g5, g6⟩ := kF_J_holiday (q := 0) (xs (i + 1 : Int32).toNatClampNeg) (xs (i + 2 : Int32).toNatClampNeg) 1 S 13 542 (by decide) (by decide) N hm z h1 0 0
  have hl := hm.1
  have hl2 := g2.1
  have e0 : N1[0]? = some (200, jx_vi L xs) := (g3.2 0 (by omega) (by omega)).trans hs
  have e1 : N1[453]? = some (jl_out w) := (g3.2 453 (by omega) (by omega)).trans ho
  obtain ⟨r, S1⟩ := z
  cases r with
  | inl v =>
    obtain ⟨h4, h5⟩ := (h4 : S2.1 215 0 = 0 ∧ v = b)
    have g4 : o1 = .inl (some (.int v)) := g4
    subst g4
    have gm := mm_out (jl_out v.toInt64) g2
    obtain ⟨o2, N2, c2, s2, f1, f2, f3, f4, f5, f6⟩ := kF_M_holiday (q := 0) (xs (i + 1 : Int32).toNatClampNeg) (xs (i + 2 : Int32).toNatClampNeg) 1 S1 14 569 (by decide) (by decide) (N1.set 453 (jl_out v.toInt64)) gm (b, S2) h2 0 0
    have f4 : o2 = .inl (some (.int b)) := f4
    subst f4
    have hl1 : 453 < (N1.set 453 (jl_out v.toInt64)).length := by have := (gm).1; omega
    have e2 : N2[0]? = some (200, jx_vi L xs) := (f3.2 0 (by omega) (by omega)).trans (by rw [List.getElem?_set_ne (by decide)]; exact e0)
    have e3 : N2[453]? = some (jl_out v.toInt64) := (f3.2 453 (by omega) (by omega)).trans (List.getElem?_set_self (by omega))
    have e4 : N2[215]? = some (9, .int (S2.1 215 0) :: _) := mm_ka f2 kc_215
    rw [h4] at e4
    simp only [x_I, s_I, jn_x] at g5 g6 f5 f6
    obtain ⟨oo, p1, p2⟩ := kk S2 N2 v.toInt64 (dc + c1 + c2) (ds + s1 + s2) h3 f2 e2 e3 (by omega) (by omega)
    exact ⟨oo, p1, jl_case_holiday_1 hs (by rw [List.getElem?_set_ne (by decide)]; exact e0) v0 v1 v2 b3 (jl_W_holiday_ok (xs (i + 1 : Int32).toNatClampNeg) (xs (i + 2 : Int32).toNatClampNeg) 1 14 567 (by decide) (by decide) (mm_ka hm kc_24) g1 e1) (mm_ka gm kc_215) f1 e4 e3 (fun _ => by rw [h5]) p2⟩
  | inr c =>
    obtain ⟨ad, g4, ga⟩ := g4
    subst g4
    have h6 : (c, S2.1 215 0) ∈ ([(11, 1), (10, 2)] : List (Nat × Int32)) := h4
    simp only [List.mem_cons, List.not_mem_nil, or_false, Prod.mk.injEq] at h6
    rcases h6 with ⟨rfl, h7⟩ | ⟨rfl, h7⟩
    · obtain ⟨o2, N2, c2, s2, f1, f2, f3, f4, f5, f6⟩ := kF_M_holiday (q := 0) (xs (i + 1 : Int32).toNatClampNeg) (xs (i + 2 : Int32).toNatClampNeg) 1 S1 14 569 (by decide) (by decide) N1 g2 (b, S2) h2 0 0
      have f4 : o2 = .inl (some (.int b)) := f4
      subst f4
      have hl1 : 453 < (N1).length := by have := (g2).1; omega
      have e2 : N2[0]? = some (200, jx_vi L xs) := (f3.2 0 (by omega) (by omega)).trans e0
      have e3 : N2[453]? = some (jl_out w) := (f3.2 453 (by omega) (by omega)).trans e1
      have e4 : N2[215]? = some (9, .int (S2.1 215 0) :: _) := mm_ka f2 kc_215
      rw [h7] at e4
      simp only [x_I, s_I, jn_x] at g5 g6 f5 f6
      obtain ⟨oo, p1, p2⟩ := kk S2 N2 w (dc + c1 + c2) (ds + s1 + s2) h3 f2 e2 e3 (by omega) (by omega)
      exact ⟨oo, p1, jl_case_holiday_1 hs e0 v0 v1 v2 b3 (jl_W_holiday_x11 (xs (i + 1 : Int32).toNatClampNeg) (xs (i + 2 : Int32).toNatClampNeg) 1 14 567 (by decide) (by decide) (mm_ka hm kc_24) g1 ga) (mm_ka g2 kc_215) f1 e4 e3 (fun q => absurd q (by decide)) p2⟩
    · obtain ⟨o2, N2, c2, s2, f1, f2, f3, f4, f5, f6⟩ := kF_M_holiday (q := 0) (xs (i + 1 : Int32).toNatClampNeg) (xs (i + 2 : Int32).toNatClampNeg) 1 S1 14 569 (by decide) (by decide) N1 g2 (b, S2) h2 0 0
      have f4 : o2 = .inl (some (.int b)) := f4
      subst f4
      have hl1 : 453 < (N1).length := by have := (g2).1; omega
      have e2 : N2[0]? = some (200, jx_vi L xs) := (f3.2 0 (by omega) (by omega)).trans e0
      have e3 : N2[453]? = some (jl_out w) := (f3.2 453 (by omega) (by omega)).trans e1
      have e4 : N2[215]? = some (9, .int (S2.1 215 0) :: _) := mm_ka f2 kc_215
      rw [h7] at e4
      simp only [x_I, s_I, jn_x] at g5 g6 f5 f6
      obtain ⟨oo, p1, p2⟩ := kk S2 N2 w (dc + c1 + c2) (ds + s1 + s2) h3 f2 e2 e3 (by omega) (by omega)
      exact ⟨oo, p1, jl_case_holiday_1 hs e0 v0 v1 v2 b3 (jl_W_holiday_x10 (xs (i + 1 : Int32).toNatClampNeg) (xs (i + 2 : Int32).toNatClampNeg) 1 14 567 (by decide) (by decide) (mm_ka hm kc_24) g1 ga) (mm_ka g2 kc_215) f1 e4 e3 (fun q => absurd q (by decide)) p2⟩
def Oq_next (R R' : jS → Prop) : Prop := ∀ (p0 : Int32) (p1 : Int32) (p2 : Int32) (p3 : Int64) (S : jS), R S → ∃ z b S2, F_J_next p0 p1 p2 p3 S = some z ∧ F_M_next p0 p1 p2 p3 z.2 = some (b, S2) ∧ R' S2 ∧ jE [(11, 1)] z.1 (S2.1 215 0) b
def Ok_next (R : jS → Prop) : Prop := Oq_next R R
set_option maxRecDepth 20000 in
theorem gl_next {R R' : jS → Prop} (hR : Oq_next R R') {N : jx_H} {L : Nat} {xs : Nat → Int32} {i : Int32} {S : jS} {w : Int64} {dc ds : Nat} {P : jx_O → Prop} (hs : N[0]? = some (200, jx_vi L xs)) (hm : mm 0 S N) (hr : R S) (ho : N[453]? = some (jl_out w)) (v0 : vp_in (i + 1) L) (v1 : vp_in (i + 2) L) (v2 : vp_in (i + 3) L) (v3 : vp_in (i + 4) L) (v4 : vp_in (i + 5) L) (kk : ∀ S2 N2 w2 dc2 ds2, R' S2 → mm 0 S2 N2 → N2[0]? = some (200, jx_vi L xs) → N2[453]? = some (jl_out w2) → dc2 ≤ dc + 4 → ds2 ≤ ds + 32 → ∃ o, P o ∧ jt jp_W_law 15 592 1771 [(0, .ref 0), (1, .ref 24), (2, .ref 215), (3, .ref 453), (4, .int i)] [] N2 dc2 ds2 o) : ∃ o, P o ∧ jt jp_W_law 15 592 456 [(0, .ref 0), (1, .ref 24), (2, .ref 215), (3, .ref 453), (4, .int i)] [] N dc ds o := by
  obtain ⟨z, b, S2, h1, h2, h3, h4⟩ := hR (xs (i + 1 : Int32).toNatClampNeg) (xs (i + 2 : Int32).toNatClampNeg) (xs (i + 3 : Int32).toNatClampNeg) ((((xs (i + 4 : Int32).toNatClampNeg : Int32).toInt64 : Int64) <<< ((32 : Int32).toInt64 &&& 63)) ||| (((xs (i + 5 : Int32).toNatClampNeg : Int32).toInt64) &&& 4294967295)) S  hr
  obtain ⟨o1, N1, c1, s1, g1, g2, g3, g4, g5, g6⟩ := kF_J_next (q := 0) (xs (i + 1 : Int32).toNatClampNeg) (xs (i + 2 : Int32).toNatClampNeg) (xs (i + 3 : Int32).toNatClampNeg) ((((xs (i + 4 : Int32).toNatClampNeg : Int32).toInt64 : Int64) <<< ((32 : Int32).toInt64 &&& 63)) ||| (((xs (i + 5 : Int32).toNatClampNeg : Int32).toInt64) &&& 4294967295)) S 13 540 (by decide) (by decide) N hm z h1 0 0
  have hl := hm.1
  have hl2 := g2.1
  have e0 : N1[0]? = some (200, jx_vi L xs) := (g3.2 0 (by omega) (by omega)).trans hs
  have e1 : N1[453]? = some (jl_out w) := (g3.2 453 (by omega) (by omega)).trans ho
  obtain ⟨r, S1⟩ := z
  cases r with
  | inl v =>
    obtain ⟨h4, h5⟩ := (h4 : S2.1 215 0 = 0 ∧ v = b)
    have g4 : o1 = .inl (some (.long v)) := g4
    subst g4
    have gm := mm_out (jl_out v) g2
    obtain ⟨o2, N2, c2, s2, f1, f2, f3, f4, f5, f6⟩ := kF_M_next (q := 0) (xs (i + 1 : Int32).toNatClampNeg) (xs (i + 2 : Int32).toNatClampNeg) (xs (i + 3 : Int32).toNatClampNeg) ((((xs (i + 4 : Int32).toNatClampNeg : Int32).toInt64 : Int64) <<< ((32 : Int32).toInt64 &&& 63)) ||| (((xs (i + 5 : Int32).toNatClampNeg : Int32).toInt64) &&& 4294967295)) S1 14 567 (by decide) (by decide) (N1.set 453 (jl_out v)) gm (b, S2) h2 0 0
    have f4 : o2 = .inl (some (.long b)) := f4
    subst f4
    have hl1 : 453 < (N1.set 453 (jl_out v)).length := by have := (gm).1; omega
    have e2 : N2[0]? = some (200, jx_vi L xs) := (f3.2 0 (by omega) (by omega)).trans (by rw [List.getElem?_set_ne (by decide)]; exact e0)
    have e3 : N2[453]? = some (jl_out v) := (f3.2 453 (by omega) (by omega)).trans (List.getElem?_set_self (by omega))
    have e4 : N2[215]? = some (9, .int (S2.1 215 0) :: _) := mm_ka f2 kc_215
    rw [h4] at e4
    simp only [x_L, s_L, jn_x] at g5 g6 f5 f6
    obtain ⟨oo, p1, p2⟩ := kk S2 N2 v (dc + c1 + c2) (ds + s1 + s2) h3 f2 e2 e3 (by omega) (by omega)
    exact ⟨oo, p1, jl_case_next hs (by rw [List.getElem?_set_ne (by decide)]; exact e0) v0 v1 v2 v3 v4 (jl_W_next_ok (xs (i + 1 : Int32).toNatClampNeg) (xs (i + 2 : Int32).toNatClampNeg) (xs (i + 3 : Int32).toNatClampNeg) ((((xs (i + 4 : Int32).toNatClampNeg : Int32).toInt64 : Int64) <<< ((32 : Int32).toInt64 &&& 63)) ||| (((xs (i + 5 : Int32).toNatClampNeg : Int32).toInt64) &&& 4294967295)) 14 565 (by decide) (by decide) (mm_ka hm kc_24) g1 e1) (mm_ka gm kc_215) f1 e4 e3 (fun _ => by rw [h5]) p2⟩
  | inr c =>
    obtain ⟨ad, g4, ga⟩ := g4
    subst g4
    have h6 : (c, S2.1 215 0) ∈ ([(11, 1)] : List (Nat × Int32)) := h4
    simp only [List.mem_cons, List.not_mem_nil, or_false, Prod.mk.injEq] at h6
    obtain ⟨rfl, h7⟩ := h6
    obtain ⟨o2, N2, c2, s2, f1, f2, f3, f4, f5, f6⟩ := kF_M_next (q := 0) (xs (i + 1 : Int32).toNatClampNeg) (xs (i + 2 : Int32).toNatClampNeg) (xs (i + 3 : Int32).toNatClampNeg) ((((xs (i + 4 : Int32).toNatClampNeg : Int32).toInt64 : Int64) <<< ((32 : Int32).toInt64 &&& 63)) ||| (((xs (i + 5 : Int32).toNatClampNeg : Int32).toInt64) &&& 4294967295)) S1 14 567 (by decide) (by decide) N1 g2 (b, S2) h2 0 0
    have f4 : o2 = .inl (some (.long b)) := f4
    subst f4
    have hl1 : 453 < (N1).length := by have := (g2).1; omega
    have e2 : N2[0]? = some (200, jx_vi L xs) := (f3.2 0 (by omega) (by omega)).trans e0
    have e3 : N2[453]? = some (jl_out w) := (f3.2 453 (by omega) (by omega)).trans e1
    have e4 : N2[215]? = some (9, .int (S2.1 215 0) :: _) := mm_ka f2 kc_215
    rw [h7] at e4
    simp only [x_L, s_L, jn_x] at g5 g6 f5 f6
    obtain ⟨oo, p1, p2⟩ := kk S2 N2 w (dc + c1 + c2) (ds + s1 + s2) h3 f2 e2 e3 (by omega) (by omega)
    exact ⟨oo, p1, jl_case_next hs e0 v0 v1 v2 v3 v4 (jl_W_next_x11 (xs (i + 1 : Int32).toNatClampNeg) (xs (i + 2 : Int32).toNatClampNeg) (xs (i + 3 : Int32).toNatClampNeg) ((((xs (i + 4 : Int32).toNatClampNeg : Int32).toInt64 : Int64) <<< ((32 : Int32).toInt64 &&& 63)) ||| (((xs (i + 5 : Int32).toNatClampNeg : Int32).toInt64) &&& 4294967295)) 14 565 (by decide) (by decide) (mm_ka hm kc_24) g1 ga) (mm_ka g2 kc_215) f1 e4 e3 (fun q => absurd q (by decide)) p2⟩
def Oq_last (R R' : jS → Prop) : Prop := ∀ (p0 : Int32) (p1 : Int32) (p2 : Int32) (p3 : Int64) (S : jS), R S → ∃ z b S2, F_J_last p0 p1 p2 p3 S = some z ∧ F_M_last p0 p1 p2 p3 z.2 = some (b, S2) ∧ R' S2 ∧ jE [(11, 1)] z.1 (S2.1 215 0) b
def Ok_last (R : jS → Prop) : Prop := Oq_last R R
set_option maxRecDepth 20000 in
theorem gl_last {R R' : jS → Prop} (hR : Oq_last R R') {N : jx_H} {L : Nat} {xs : Nat → Int32} {i : Int32} {S : jS} {w : Int64} {dc ds : Nat} {P : jx_O → Prop} (hs : N[0]? = some (200, jx_vi L xs)) (hm : mm 0 S N) (hr : R S) (ho : N[453]? = some (jl_out w)) (v0 : vp_in (i + 1) L) (v1 : vp_in (i + 2) L) (v2 : vp_in (i + 3) L) (v3 : vp_in (i + 4) L) (v4 : vp_in (i + 5) L) (kk : ∀ S2 N2 w2 dc2 ds2, R' S2 → mm 0 S2 N2 → N2[0]? = some (200, jx_vi L xs) → N2[453]? = some (jl_out w2) → dc2 ≤ dc + 4 → ds2 ≤ ds + 32 → ∃ o, P o ∧ jt jp_W_law 15 592 1771 [(0, .ref 0), (1, .ref 24), (2, .ref 215), (3, .ref 453), (4, .int i)] [] N2 dc2 ds2 o) : ∃ o, P o ∧ jt jp_W_law 15 592 579 [(0, .ref 0), (1, .ref 24), (2, .ref 215), (3, .ref 453), (4, .int i)] [] N dc ds o := by
  obtain ⟨z, b, S2, h1, h2, h3, h4⟩ := hR (xs (i + 1 : Int32).toNatClampNeg) (xs (i + 2 : Int32).toNatClampNeg) (xs (i + 3 : Int32).toNatClampNeg) ((((xs (i + 4 : Int32).toNatClampNeg : Int32).toInt64 : Int64) <<< ((32 : Int32).toInt64 &&& 63)) ||| (((xs (i + 5 : Int32).toNatClampNeg : Int32).toInt64) &&& 4294967295)) S  hr
  obtain ⟨o1, N1, c1, s1, g1, g2, g3, g4, g5, g6⟩ := kF_J_last (q := 0) (xs (i + 1 : Int32).toNatClampNeg) (xs (i + 2 : Int32).toNatClampNeg) (xs (i + 3 : Int32).toNatClampNeg) ((((xs (i + 4 : Int32).toNatClampNeg : Int32).toInt64 : Int64) <<< ((32 : Int32).toInt64 &&& 63)) ||| (((xs (i + 5 : Int32).toNatClampNeg : Int32).toInt64) &&& 4294967295)) S 13 540 (by decide) (by decide) N hm z h1 0 0
  have hl := hm.1
  have hl2 := g2.1
  have e0 : N1[0]? = some (200, jx_vi L xs) := (g3.2 0 (by omega) (by omega)).trans hs
  have e1 : N1[453]? = some (jl_out w) := (g3.2 453 (by omega) (by omega)).trans ho
  obtain ⟨r, S1⟩ := z
  cases r with
  | inl v =>
    obtain ⟨h4, h5⟩ := (h4 : S2.1 215 0 = 0 ∧ v = b)
    have g4 : o1 = .inl (some (.long v)) := g4
    subst g4
    have gm := mm_out (jl_out v) g2
    obtain ⟨o2, N2, c2, s2, f1, f2, f3, f4, f5, f6⟩ := kF_M_last (q := 0) (xs (i + 1 : Int32).toNatClampNeg) (xs (i + 2 : Int32).toNatClampNeg) (xs (i + 3 : Int32).toNatClampNeg) ((((xs (i + 4 : Int32).toNatClampNeg : Int32).toInt64 : Int64) <<< ((32 : Int32).toInt64 &&& 63)) ||| (((xs (i + 5 : Int32).toNatClampNeg : Int32).toInt64) &&& 4294967295)) S1 14 567 (by decide) (by decide) (N1.set 453 (jl_out v)) gm (b, S2) h2 0 0
    have f4 : o2 = .inl (some (.long b)) := f4
    subst f4
    have hl1 : 453 < (N1.set 453 (jl_out v)).length := by have := (gm).1; omega
    have e2 : N2[0]? = some (200, jx_vi L xs) := (f3.2 0 (by omega) (by omega)).trans (by rw [List.getElem?_set_ne (by decide)]; exact e0)
    have e3 : N2[453]? = some (jl_out v) := (f3.2 453 (by omega) (by omega)).trans (List.getElem?_set_self (by omega))
    have e4 : N2[215]? = some (9, .int (S2.1 215 0) :: _) := mm_ka f2 kc_215
    rw [h4] at e4
    simp only [x_L, s_L, jn_x] at g5 g6 f5 f6
    obtain ⟨oo, p1, p2⟩ := kk S2 N2 v (dc + c1 + c2) (ds + s1 + s2) h3 f2 e2 e3 (by omega) (by omega)
    exact ⟨oo, p1, jl_case_last hs (by rw [List.getElem?_set_ne (by decide)]; exact e0) v0 v1 v2 v3 v4 (jl_W_last_ok (xs (i + 1 : Int32).toNatClampNeg) (xs (i + 2 : Int32).toNatClampNeg) (xs (i + 3 : Int32).toNatClampNeg) ((((xs (i + 4 : Int32).toNatClampNeg : Int32).toInt64 : Int64) <<< ((32 : Int32).toInt64 &&& 63)) ||| (((xs (i + 5 : Int32).toNatClampNeg : Int32).toInt64) &&& 4294967295)) 14 565 (by decide) (by decide) (mm_ka hm kc_24) g1 e1) (mm_ka gm kc_215) f1 e4 e3 (fun _ => by rw [h5]) p2⟩
  | inr c =>
    obtain ⟨ad, g4, ga⟩ := g4
    subst g4
    have h6 : (c, S2.1 215 0) ∈ ([(11, 1)] : List (Nat × Int32)) := h4
    simp only [List.mem_cons, List.not_mem_nil, or_false, Prod.mk.injEq] at h6
    obtain ⟨rfl, h7⟩ := h6
    obtain ⟨o2, N2, c2, s2, f1, f2, f3, f4, f5, f6⟩ := kF_M_last (q := 0) (xs (i + 1 : Int32).toNatClampNeg) (xs (i + 2 : Int32).toNatClampNeg) (xs (i + 3 : Int32).toNatClampNeg) ((((xs (i + 4 : Int32).toNatClampNeg : Int32).toInt64 : Int64) <<< ((32 : Int32).toInt64 &&& 63)) ||| (((xs (i + 5 : Int32).toNatClampNeg : Int32).toInt64) &&& 4294967295)) S1 14 567 (by decide) (by decide) N1 g2 (b, S2) h2 0 0
    have f4 : o2 = .inl (some (.long b)) := f4
    subst f4
    have hl1 : 453 < (N1).length := by have := (g2).1; omega
    have e2 : N2[0]? = some (200, jx_vi L xs) := (f3.2 0 (by omega) (by omega)).trans e0
    have e3 : N2[453]? = some (jl_out w) := (f3.2 453 (by omega) (by omega)).trans e1
    have e4 : N2[215]? = some (9, .int (S2.1 215 0) :: _) := mm_ka f2 kc_215
    rw [h7] at e4
    simp only [x_L, s_L, jn_x] at g5 g6 f5 f6
    obtain ⟨oo, p1, p2⟩ := kk S2 N2 w (dc + c1 + c2) (ds + s1 + s2) h3 f2 e2 e3 (by omega) (by omega)
    exact ⟨oo, p1, jl_case_last hs e0 v0 v1 v2 v3 v4 (jl_W_last_x11 (xs (i + 1 : Int32).toNatClampNeg) (xs (i + 2 : Int32).toNatClampNeg) (xs (i + 3 : Int32).toNatClampNeg) ((((xs (i + 4 : Int32).toNatClampNeg : Int32).toInt64 : Int64) <<< ((32 : Int32).toInt64 &&& 63)) ||| (((xs (i + 5 : Int32).toNatClampNeg : Int32).toInt64) &&& 4294967295)) 14 565 (by decide) (by decide) (mm_ka hm kc_24) g1 ga) (mm_ka g2 kc_215) f1 e4 e3 (fun q => absurd q (by decide)) p2⟩
def Oq_local (R R' : jS → Prop) : Prop := ∀ (p0 : Int32) (p1 : Int64) (p2 : Int32) (S : jS), R S → ∃ z b S2, F_J_local p0 p1 p2 S = some z ∧ F_M_local p0 p1 p2 z.2 = some (b, S2) ∧ R' S2 ∧ jE [(11, 1)] z.1 (S2.1 215 0) b
def Ok_local (R : jS → Prop) : Prop := Oq_local R R
set_option maxRecDepth 20000 in
theorem gl_local {R R' : jS → Prop} (hR : Oq_local R R') {N : jx_H} {L : Nat} {xs : Nat → Int32} {i : Int32} {S : jS} {w : Int64} {dc ds : Nat} {P : jx_O → Prop} (hs : N[0]? = some (200, jx_vi L xs)) (hm : mm 0 S N) (hr : R S) (ho : N[453]? = some (jl_out w)) (v0 : vp_in (i + 1) L) (v1 : vp_in (i + 2) L) (v2 : vp_in (i + 3) L) (v3 : vp_in (i + 4) L) (kk : ∀ S2 N2 w2 dc2 ds2, R' S2 → mm 0 S2 N2 → N2[0]? = some (200, jx_vi L xs) → N2[453]? = some (jl_out w2) → dc2 ≤ dc + 4 → ds2 ≤ ds + 32 → ∃ o, P o ∧ jt jp_W_law 15 592 1771 [(0, .ref 0), (1, .ref 24), (2, .ref 215), (3, .ref 453), (4, .int i)] [] N2 dc2 ds2 o) : ∃ o, P o ∧ jt jp_W_law 15 592 702 [(0, .ref 0), (1, .ref 24), (2, .ref 215), (3, .ref 453), (4, .int i)] [] N dc ds o := by
  obtain ⟨z, b, S2, h1, h2, h3, h4⟩ := hR (xs (i + 1 : Int32).toNatClampNeg) ((((xs (i + 2 : Int32).toNatClampNeg : Int32).toInt64 : Int64) <<< ((32 : Int32).toInt64 &&& 63)) ||| (((xs (i + 3 : Int32).toNatClampNeg : Int32).toInt64) &&& 4294967295)) (xs (i + 4 : Int32).toNatClampNeg) S  hr
  obtain ⟨o1, N1, c1, s1, g1, g2, g3, g4, g5, g6⟩ := kF_J_local (q := 0) (xs (i + 1 : Int32).toNatClampNeg) ((((xs (i + 2 : Int32).toNatClampNeg : Int32).toInt64 : Int64) <<< ((32 : Int32).toInt64 &&& 63)) ||| (((xs (i + 3 : Int32).toNatClampNeg : Int32).toInt64) &&& 4294967295)) (xs (i + 4 : Int32).toNatClampNeg) S 13 535 (by decide) (by decide) N hm z h1 0 0
  have hl := hm.1
  have hl2 := g2.1
  have e0 : N1[0]? = some (200, jx_vi L xs) := (g3.2 0 (by omega) (by omega)).trans hs
  have e1 : N1[453]? = some (jl_out w) := (g3.2 453 (by omega) (by omega)).trans ho
  obtain ⟨r, S1⟩ := z
  cases r with
  | inl v =>
    obtain ⟨h4, h5⟩ := (h4 : S2.1 215 0 = 0 ∧ v = b)
    have g4 : o1 = .inl (some (.int v)) := g4
    subst g4
    have gm := mm_out (jl_out v.toInt64) g2
    obtain ⟨o2, N2, c2, s2, f1, f2, f3, f4, f5, f6⟩ := kF_M_local (q := 0) (xs (i + 1 : Int32).toNatClampNeg) ((((xs (i + 2 : Int32).toNatClampNeg : Int32).toInt64 : Int64) <<< ((32 : Int32).toInt64 &&& 63)) ||| (((xs (i + 3 : Int32).toNatClampNeg : Int32).toInt64) &&& 4294967295)) (xs (i + 4 : Int32).toNatClampNeg) S1 14 563 (by decide) (by decide) (N1.set 453 (jl_out v.toInt64)) gm (b, S2) h2 0 0
    have f4 : o2 = .inl (some (.int b)) := f4
    subst f4
    have hl1 : 453 < (N1.set 453 (jl_out v.toInt64)).length := by have := (gm).1; omega
    have e2 : N2[0]? = some (200, jx_vi L xs) := (f3.2 0 (by omega) (by omega)).trans (by rw [List.getElem?_set_ne (by decide)]; exact e0)
    have e3 : N2[453]? = some (jl_out v.toInt64) := (f3.2 453 (by omega) (by omega)).trans (List.getElem?_set_self (by omega))
    have e4 : N2[215]? = some (9, .int (S2.1 215 0) :: _) := mm_ka f2 kc_215
    rw [h4] at e4
    simp only [x_I, s_I, jn_x] at g5 g6 f5 f6
    obtain ⟨oo, p1, p2⟩ := kk S2 N2 v.toInt64 (dc + c1 + c2) (ds + s1 + s2) h3 f2 e2 e3 (by omega) (by omega)
    exact ⟨oo, p1, jl_case_local hs (by rw [List.getElem?_set_ne (by decide)]; exact e0) v0 v1 v2 v3 (jl_W_local_ok (xs (i + 1 : Int32).toNatClampNeg) ((((xs (i + 2 : Int32).toNatClampNeg : Int32).toInt64 : Int64) <<< ((32 : Int32).toInt64 &&& 63)) ||| (((xs (i + 3 : Int32).toNatClampNeg : Int32).toInt64) &&& 4294967295)) (xs (i + 4 : Int32).toNatClampNeg) 14 566 (by decide) (by decide) (mm_ka hm kc_24) g1 e1) (mm_ka gm kc_215) f1 e4 e3 (fun _ => by rw [h5]) p2⟩
  | inr c =>
    obtain ⟨ad, g4, ga⟩ := g4
    subst g4
    have h6 : (c, S2.1 215 0) ∈ ([(11, 1)] : List (Nat × Int32)) := h4
    simp only [List.mem_cons, List.not_mem_nil, or_false, Prod.mk.injEq] at h6
    obtain ⟨rfl, h7⟩ := h6
    obtain ⟨o2, N2, c2, s2, f1, f2, f3, f4, f5, f6⟩ := kF_M_local (q := 0) (xs (i + 1 : Int32).toNatClampNeg) ((((xs (i + 2 : Int32).toNatClampNeg : Int32).toInt64 : Int64) <<< ((32 : Int32).toInt64 &&& 63)) ||| (((xs (i + 3 : Int32).toNatClampNeg : Int32).toInt64) &&& 4294967295)) (xs (i + 4 : Int32).toNatClampNeg) S1 14 563 (by decide) (by decide) N1 g2 (b, S2) h2 0 0
    have f4 : o2 = .inl (some (.int b)) := f4
    subst f4
    have hl1 : 453 < (N1).length := by have := (g2).1; omega
    have e2 : N2[0]? = some (200, jx_vi L xs) := (f3.2 0 (by omega) (by omega)).trans e0
    have e3 : N2[453]? = some (jl_out w) := (f3.2 453 (by omega) (by omega)).trans e1
    have e4 : N2[215]? = some (9, .int (S2.1 215 0) :: _) := mm_ka f2 kc_215
    rw [h7] at e4
    simp only [x_I, s_I, jn_x] at g5 g6 f5 f6
    obtain ⟨oo, p1, p2⟩ := kk S2 N2 w (dc + c1 + c2) (ds + s1 + s2) h3 f2 e2 e3 (by omega) (by omega)
    exact ⟨oo, p1, jl_case_local hs e0 v0 v1 v2 v3 (jl_W_local_x11 (xs (i + 1 : Int32).toNatClampNeg) ((((xs (i + 2 : Int32).toNatClampNeg : Int32).toInt64 : Int64) <<< ((32 : Int32).toInt64 &&& 63)) ||| (((xs (i + 3 : Int32).toNatClampNeg : Int32).toInt64) &&& 4294967295)) (xs (i + 4 : Int32).toNatClampNeg) 14 566 (by decide) (by decide) (mm_ka hm kc_24) g1 ga) (mm_ka g2 kc_215) f1 e4 e3 (fun q => absurd q (by decide)) p2⟩
def Oq_make (R R' : jS → Prop) : Prop := ∀ (p0 : Int32) (p1 : Int64) (p2 : Int64) (p3 : Int64) (p4 : Int32) (p5 : Int32) (p6 : Int32) (S : jS), R S → ∃ z b S2, F_J_make p0 p1 p2 p3 p4 p5 p6 S = some z ∧ F_M_make p0 p1 p2 p3 p4 p5 p6 z.2 = some (b, S2) ∧ R' S2 ∧ jE [(11, 1), (13, 2), (10, 3)] z.1 (S2.1 215 0) b
def Ok_make (R : jS → Prop) : Prop := Oq_make R R
set_option maxRecDepth 20000 in
theorem gl_make {R R' : jS → Prop} (hR : Oq_make R R') {N : jx_H} {L : Nat} {xs : Nat → Int32} {i : Int32} {S : jS} {w : Int64} {dc ds : Nat} {P : jx_O → Prop} (hs : N[0]? = some (200, jx_vi L xs)) (hm : mm 0 S N) (hr : R S) (ho : N[453]? = some (jl_out w)) (v0 : vp_in (i + 1) L) (v1 : vp_in (i + 2) L) (v2 : vp_in (i + 3) L) (v3 : vp_in (i + 4) L) (v4 : vp_in (i + 5) L) (v5 : vp_in (i + 6) L) (v6 : vp_in (i + 7) L) (v7 : vp_in (i + 8) L) (v8 : vp_in (i + 9) L) (v9 : vp_in (i + 10) L) (kk : ∀ S2 N2 w2 dc2 ds2, R' S2 → mm 0 S2 N2 → N2[0]? = some (200, jx_vi L xs) → N2[453]? = some (jl_out w2) → dc2 ≤ dc + 4 → ds2 ≤ ds + 32 → ∃ o, P o ∧ jt jp_W_law 15 592 1771 [(0, .ref 0), (1, .ref 24), (2, .ref 215), (3, .ref 453), (4, .int i)] [] N2 dc2 ds2 o) : ∃ o, P o ∧ jt jp_W_law 15 592 814 [(0, .ref 0), (1, .ref 24), (2, .ref 215), (3, .ref 453), (4, .int i)] [] N dc ds o := by
  obtain ⟨z, b, S2, h1, h2, h3, h4⟩ := hR (xs (i + 1 : Int32).toNatClampNeg) ((((xs (i + 2 : Int32).toNatClampNeg : Int32).toInt64 : Int64) <<< ((32 : Int32).toInt64 &&& 63)) ||| (((xs (i + 3 : Int32).toNatClampNeg : Int32).toInt64) &&& 4294967295)) ((((xs (i + 4 : Int32).toNatClampNeg : Int32).toInt64 : Int64) <<< ((32 : Int32).toInt64 &&& 63)) ||| (((xs (i + 5 : Int32).toNatClampNeg : Int32).toInt64) &&& 4294967295)) ((((xs (i + 6 : Int32).toNatClampNeg : Int32).toInt64 : Int64) <<< ((32 : Int32).toInt64 &&& 63)) ||| (((xs (i + 7 : Int32).toNatClampNeg : Int32).toInt64) &&& 4294967295)) (xs (i + 8 : Int32).toNatClampNeg) (xs (i + 9 : Int32).toNatClampNeg) (xs (i + 10 : Int32).toNatClampNeg) S  hr
  obtain ⟨o1, N1, c1, s1, g1, g2, g3, g4, g5, g6⟩ := kF_J_make (q := 0) (xs (i + 1 : Int32).toNatClampNeg) ((((xs (i + 2 : Int32).toNatClampNeg : Int32).toInt64 : Int64) <<< ((32 : Int32).toInt64 &&& 63)) ||| (((xs (i + 3 : Int32).toNatClampNeg : Int32).toInt64) &&& 4294967295)) ((((xs (i + 4 : Int32).toNatClampNeg : Int32).toInt64 : Int64) <<< ((32 : Int32).toInt64 &&& 63)) ||| (((xs (i + 5 : Int32).toNatClampNeg : Int32).toInt64) &&& 4294967295)) ((((xs (i + 6 : Int32).toNatClampNeg : Int32).toInt64 : Int64) <<< ((32 : Int32).toInt64 &&& 63)) ||| (((xs (i + 7 : Int32).toNatClampNeg : Int32).toInt64) &&& 4294967295)) (xs (i + 8 : Int32).toNatClampNeg) (xs (i + 9 : Int32).toNatClampNeg) (xs (i + 10 : Int32).toNatClampNeg) S 13 528 (by decide) (by decide) N hm z h1 0 0
  have hl := hm.1
  have hl2 := g2.1
  have e0 : N1[0]? = some (200, jx_vi L xs) := (g3.2 0 (by omega) (by omega)).trans hs
  have e1 : N1[453]? = some (jl_out w) := (g3.2 453 (by omega) (by omega)).trans ho
  obtain ⟨r, S1⟩ := z
  cases r with
  | inl v =>
    obtain ⟨h4, h5⟩ := (h4 : S2.1 215 0 = 0 ∧ v = b)
    have g4 : o1 = .inl (some (.int v)) := g4
    subst g4
    have gm := mm_out (jl_out v.toInt64) g2
    obtain ⟨o2, N2, c2, s2, f1, f2, f3, f4, f5, f6⟩ := kF_M_make (q := 0) (xs (i + 1 : Int32).toNatClampNeg) ((((xs (i + 2 : Int32).toNatClampNeg : Int32).toInt64 : Int64) <<< ((32 : Int32).toInt64 &&& 63)) ||| (((xs (i + 3 : Int32).toNatClampNeg : Int32).toInt64) &&& 4294967295)) ((((xs (i + 4 : Int32).toNatClampNeg : Int32).toInt64 : Int64) <<< ((32 : Int32).toInt64 &&& 63)) ||| (((xs (i + 5 : Int32).toNatClampNeg : Int32).toInt64) &&& 4294967295)) ((((xs (i + 6 : Int32).toNatClampNeg : Int32).toInt64 : Int64) <<< ((32 : Int32).toInt64 &&& 63)) ||| (((xs (i + 7 : Int32).toNatClampNeg : Int32).toInt64) &&& 4294967295)) (xs (i + 8 : Int32).toNatClampNeg) (xs (i + 9 : Int32).toNatClampNeg) (xs (i + 10 : Int32).toNatClampNeg) S1 14 561 (by decide) (by decide) (N1.set 453 (jl_out v.toInt64)) gm (b, S2) h2 0 0
    have f4 : o2 = .inl (some (.int b)) := f4
    subst f4
    have hl1 : 453 < (N1.set 453 (jl_out v.toInt64)).length := by have := (gm).1; omega
    have e2 : N2[0]? = some (200, jx_vi L xs) := (f3.2 0 (by omega) (by omega)).trans (by rw [List.getElem?_set_ne (by decide)]; exact e0)
    have e3 : N2[453]? = some (jl_out v.toInt64) := (f3.2 453 (by omega) (by omega)).trans (List.getElem?_set_self (by omega))
    have e4 : N2[215]? = some (9, .int (S2.1 215 0) :: _) := mm_ka f2 kc_215
    rw [h4] at e4
    simp only [x_I, s_I, jn_x] at g5 g6 f5 f6
    obtain ⟨oo, p1, p2⟩ := kk S2 N2 v.toInt64 (dc + c1 + c2) (ds + s1 + s2) h3 f2 e2 e3 (by omega) (by omega)
    exact ⟨oo, p1, jl_case_make hs (by rw [List.getElem?_set_ne (by decide)]; exact e0) v0 v1 v2 v3 v4 v5 v6 v7 v8 v9 (jl_W_make_ok (xs (i + 1 : Int32).toNatClampNeg) ((((xs (i + 2 : Int32).toNatClampNeg : Int32).toInt64 : Int64) <<< ((32 : Int32).toInt64 &&& 63)) ||| (((xs (i + 3 : Int32).toNatClampNeg : Int32).toInt64) &&& 4294967295)) ((((xs (i + 4 : Int32).toNatClampNeg : Int32).toInt64 : Int64) <<< ((32 : Int32).toInt64 &&& 63)) ||| (((xs (i + 5 : Int32).toNatClampNeg : Int32).toInt64) &&& 4294967295)) ((((xs (i + 6 : Int32).toNatClampNeg : Int32).toInt64 : Int64) <<< ((32 : Int32).toInt64 &&& 63)) ||| (((xs (i + 7 : Int32).toNatClampNeg : Int32).toInt64) &&& 4294967295)) (xs (i + 8 : Int32).toNatClampNeg) (xs (i + 9 : Int32).toNatClampNeg) (xs (i + 10 : Int32).toNatClampNeg) 14 560 (by decide) (by decide) (mm_ka hm kc_24) g1 e1) (mm_ka gm kc_215) f1 e4 e3 (fun _ => by rw [h5]) p2⟩
  | inr c =>
    obtain ⟨ad, g4, ga⟩ := g4
    subst g4
    have h6 : (c, S2.1 215 0) ∈ ([(11, 1), (13, 2), (10, 3)] : List (Nat × Int32)) := h4
    simp only [List.mem_cons, List.not_mem_nil, or_false, Prod.mk.injEq] at h6
    rcases h6 with ⟨rfl, h7⟩ | ⟨rfl, h7⟩ | ⟨rfl, h7⟩
    · obtain ⟨o2, N2, c2, s2, f1, f2, f3, f4, f5, f6⟩ := kF_M_make (q := 0) (xs (i + 1 : Int32).toNatClampNeg) ((((xs (i + 2 : Int32).toNatClampNeg : Int32).toInt64 : Int64) <<< ((32 : Int32).toInt64 &&& 63)) ||| (((xs (i + 3 : Int32).toNatClampNeg : Int32).toInt64) &&& 4294967295)) ((((xs (i + 4 : Int32).toNatClampNeg : Int32).toInt64 : Int64) <<< ((32 : Int32).toInt64 &&& 63)) ||| (((xs (i + 5 : Int32).toNatClampNeg : Int32).toInt64) &&& 4294967295)) ((((xs (i + 6 : Int32).toNatClampNeg : Int32).toInt64 : Int64) <<< ((32 : Int32).toInt64 &&& 63)) ||| (((xs (i + 7 : Int32).toNatClampNeg : Int32).toInt64) &&& 4294967295)) (xs (i + 8 : Int32).toNatClampNeg) (xs (i + 9 : Int32).toNatClampNeg) (xs (i + 10 : Int32).toNatClampNeg) S1 14 561 (by decide) (by decide) N1 g2 (b, S2) h2 0 0
      have f4 : o2 = .inl (some (.int b)) := f4
      subst f4
      have hl1 : 453 < (N1).length := by have := (g2).1; omega
      have e2 : N2[0]? = some (200, jx_vi L xs) := (f3.2 0 (by omega) (by omega)).trans e0
      have e3 : N2[453]? = some (jl_out w) := (f3.2 453 (by omega) (by omega)).trans e1
      have e4 : N2[215]? = some (9, .int (S2.1 215 0) :: _) := mm_ka f2 kc_215
      rw [h7] at e4
      simp only [x_I, s_I, jn_x] at g5 g6 f5 f6
      obtain ⟨oo, p1, p2⟩ := kk S2 N2 w (dc + c1 + c2) (ds + s1 + s2) h3 f2 e2 e3 (by omega) (by omega)
      exact ⟨oo, p1, jl_case_make hs e0 v0 v1 v2 v3 v4 v5 v6 v7 v8 v9 (jl_W_make_x11 (xs (i + 1 : Int32).toNatClampNeg) ((((xs (i + 2 : Int32).toNatClampNeg : Int32).toInt64 : Int64) <<< ((32 : Int32).toInt64 &&& 63)) ||| (((xs (i + 3 : Int32).toNatClampNeg : Int32).toInt64) &&& 4294967295)) ((((xs (i + 4 : Int32).toNatClampNeg : Int32).toInt64 : Int64) <<< ((32 : Int32).toInt64 &&& 63)) ||| (((xs (i + 5 : Int32).toNatClampNeg : Int32).toInt64) &&& 4294967295)) ((((xs (i + 6 : Int32).toNatClampNeg : Int32).toInt64 : Int64) <<< ((32 : Int32).toInt64 &&& 63)) ||| (((xs (i + 7 : Int32).toNatClampNeg : Int32).toInt64) &&& 4294967295)) (xs (i + 8 : Int32).toNatClampNeg) (xs (i + 9 : Int32).toNatClampNeg) (xs (i + 10 : Int32).toNatClampNeg) 14 560 (by decide) (by decide) (mm_ka hm kc_24) g1 ga) (mm_ka g2 kc_215) f1 e4 e3 (fun q => absurd q (by decide)) p2⟩
    · obtain ⟨o2, N2, c2, s2, f1, f2, f3, f4, f5, f6⟩ := kF_M_make (q := 0) (xs (i + 1 : Int32).toNatClampNeg) ((((xs (i + 2 : Int32).toNatClampNeg : Int32).toInt64 : Int64) <<< ((32 : Int32).toInt64 &&& 63)) ||| (((xs (i + 3 : Int32).toNatClampNeg : Int32).toInt64) &&& 4294967295)) ((((xs (i + 4 : Int32).toNatClampNeg : Int32).toInt64 : Int64) <<< ((32 : Int32).toInt64 &&& 63)) ||| (((xs (i + 5 : Int32).toNatClampNeg : Int32).toInt64) &&& 4294967295)) ((((xs (i + 6 : Int32).toNatClampNeg : Int32).toInt64 : Int64) <<< ((32 : Int32).toInt64 &&& 63)) ||| (((xs (i + 7 : Int32).toNatClampNeg : Int32).toInt64) &&& 4294967295)) (xs (i + 8 : Int32).toNatClampNeg) (xs (i + 9 : Int32).toNatClampNeg) (xs (i + 10 : Int32).toNatClampNeg) S1 14 561 (by decide) (by decide) N1 g2 (b, S2) h2 0 0
      have f4 : o2 = .inl (some (.int b)) := f4
      subst f4
      have hl1 : 453 < (N1).length := by have := (g2).1; omega
      have e2 : N2[0]? = some (200, jx_vi L xs) := (f3.2 0 (by omega) (by omega)).trans e0
      have e3 : N2[453]? = some (jl_out w) := (f3.2 453 (by omega) (by omega)).trans e1
      have e4 : N2[215]? = some (9, .int (S2.1 215 0) :: _) := mm_ka f2 kc_215
      rw [h7] at e4
      simp only [x_I, s_I, jn_x] at g5 g6 f5 f6
      obtain ⟨oo, p1, p2⟩ := kk S2 N2 w (dc + c1 + c2) (ds + s1 + s2) h3 f2 e2 e3 (by omega) (by omega)
      exact ⟨oo, p1, jl_case_make hs e0 v0 v1 v2 v3 v4 v5 v6 v7 v8 v9 (jl_W_make_x13 (xs (i + 1 : Int32).toNatClampNeg) ((((xs (i + 2 : Int32).toNatClampNeg : Int32).toInt64 : Int64) <<< ((32 : Int32).toInt64 &&& 63)) ||| (((xs (i + 3 : Int32).toNatClampNeg : Int32).toInt64) &&& 4294967295)) ((((xs (i + 4 : Int32).toNatClampNeg : Int32).toInt64 : Int64) <<< ((32 : Int32).toInt64 &&& 63)) ||| (((xs (i + 5 : Int32).toNatClampNeg : Int32).toInt64) &&& 4294967295)) ((((xs (i + 6 : Int32).toNatClampNeg : Int32).toInt64 : Int64) <<< ((32 : Int32).toInt64 &&& 63)) ||| (((xs (i + 7 : Int32).toNatClampNeg : Int32).toInt64) &&& 4294967295)) (xs (i + 8 : Int32).toNatClampNeg) (xs (i + 9 : Int32).toNatClampNeg) (xs (i + 10 : Int32).toNatClampNeg) 14 560 (by decide) (by decide) (mm_ka hm kc_24) g1 ga) (mm_ka g2 kc_215) f1 e4 e3 (fun q => absurd q (by decide)) p2⟩
    · obtain ⟨o2, N2, c2, s2, f1, f2, f3, f4, f5, f6⟩ := kF_M_make (q := 0) (xs (i + 1 : Int32).toNatClampNeg) ((((xs (i + 2 : Int32).toNatClampNeg : Int32).toInt64 : Int64) <<< ((32 : Int32).toInt64 &&& 63)) ||| (((xs (i + 3 : Int32).toNatClampNeg : Int32).toInt64) &&& 4294967295)) ((((xs (i + 4 : Int32).toNatClampNeg : Int32).toInt64 : Int64) <<< ((32 : Int32).toInt64 &&& 63)) ||| (((xs (i + 5 : Int32).toNatClampNeg : Int32).toInt64) &&& 4294967295)) ((((xs (i + 6 : Int32).toNatClampNeg : Int32).toInt64 : Int64) <<< ((32 : Int32).toInt64 &&& 63)) ||| (((xs (i + 7 : Int32).toNatClampNeg : Int32).toInt64) &&& 4294967295)) (xs (i + 8 : Int32).toNatClampNeg) (xs (i + 9 : Int32).toNatClampNeg) (xs (i + 10 : Int32).toNatClampNeg) S1 14 561 (by decide) (by decide) N1 g2 (b, S2) h2 0 0
      have f4 : o2 = .inl (some (.int b)) := f4
      subst f4
      have hl1 : 453 < (N1).length := by have := (g2).1; omega
      have e2 : N2[0]? = some (200, jx_vi L xs) := (f3.2 0 (by omega) (by omega)).trans e0
      have e3 : N2[453]? = some (jl_out w) := (f3.2 453 (by omega) (by omega)).trans e1
      have e4 : N2[215]? = some (9, .int (S2.1 215 0) :: _) := mm_ka f2 kc_215
      rw [h7] at e4
      simp only [x_I, s_I, jn_x] at g5 g6 f5 f6
      obtain ⟨oo, p1, p2⟩ := kk S2 N2 w (dc + c1 + c2) (ds + s1 + s2) h3 f2 e2 e3 (by omega) (by omega)
      exact ⟨oo, p1, jl_case_make hs e0 v0 v1 v2 v3 v4 v5 v6 v7 v8 v9 (jl_W_make_x10 (xs (i + 1 : Int32).toNatClampNeg) ((((xs (i + 2 : Int32).toNatClampNeg : Int32).toInt64 : Int64) <<< ((32 : Int32).toInt64 &&& 63)) ||| (((xs (i + 3 : Int32).toNatClampNeg : Int32).toInt64) &&& 4294967295)) ((((xs (i + 4 : Int32).toNatClampNeg : Int32).toInt64 : Int64) <<< ((32 : Int32).toInt64 &&& 63)) ||| (((xs (i + 5 : Int32).toNatClampNeg : Int32).toInt64) &&& 4294967295)) ((((xs (i + 6 : Int32).toNatClampNeg : Int32).toInt64 : Int64) <<< ((32 : Int32).toInt64 &&& 63)) ||| (((xs (i + 7 : Int32).toNatClampNeg : Int32).toInt64) &&& 4294967295)) (xs (i + 8 : Int32).toNatClampNeg) (xs (i + 9 : Int32).toNatClampNeg) (xs (i + 10 : Int32).toNatClampNeg) 14 560 (by decide) (by decide) (mm_ka hm kc_24) g1 ga) (mm_ka g2 kc_215) f1 e4 e3 (fun q => absurd q (by decide)) p2⟩
def Oq_makeCron (R R' : jS → Prop) : Prop := ∀ (p0 : Int32) (p1 : Int32) (p2 : Int32) (p3 : Int64) (p4 : Int32) (p5 : Int32) (p6 : Int32) (S : jS), R S → ∃ z b S2, F_J_makeCron p0 p1 p2 p3 p4 p5 p6 S = some z ∧ F_M_makeCron p0 p1 p2 p3 p4 p5 p6 z.2 = some (b, S2) ∧ R' S2 ∧ jE [(11, 1), (13, 2), (12, 3), (10, 4)] z.1 (S2.1 215 0) b
def Ok_makeCron (R : jS → Prop) : Prop := Oq_makeCron R R
set_option maxRecDepth 20000 in
theorem gl_makeCron {R R' : jS → Prop} (hR : Oq_makeCron R R') {N : jx_H} {L : Nat} {xs : Nat → Int32} {i : Int32} {S : jS} {w : Int64} {dc ds : Nat} {P : jx_O → Prop} (hs : N[0]? = some (200, jx_vi L xs)) (hm : mm 0 S N) (hr : R S) (ho : N[453]? = some (jl_out w)) (v0 : vp_in (i + 1) L) (v1 : vp_in (i + 2) L) (v2 : vp_in (i + 3) L) (v3 : vp_in (i + 4) L) (v4 : vp_in (i + 5) L) (v5 : vp_in (i + 6) L) (v6 : vp_in (i + 7) L) (v7 : vp_in (i + 8) L) (kk : ∀ S2 N2 w2 dc2 ds2, R' S2 → mm 0 S2 N2 → N2[0]? = some (200, jx_vi L xs) → N2[453]? = some (jl_out w2) → dc2 ≤ dc + 4 → ds2 ≤ ds + 32 → ∃ o, P o ∧ jt jp_W_law 15 592 1771 [(0, .ref 0), (1, .ref 24), (2, .ref 215), (3, .ref 453), (4, .int i)] [] N2 dc2 ds2 o) : ∃ o, P o ∧ jt jp_W_law 15 592 1048 [(0, .ref 0), (1, .ref 24), (2, .ref 215), (3, .ref 453), (4, .int i)] [] N dc ds o := by
  obtain ⟨z, b, S2, h1, h2, h3, h4⟩ := hR (xs (i + 1 : Int32).toNatClampNeg) (xs (i + 2 : Int32).toNatClampNeg) (xs (i + 3 : Int32).toNatClampNeg) ((((xs (i + 4 : Int32).toNatClampNeg : Int32).toInt64 : Int64) <<< ((32 : Int32).toInt64 &&& 63)) ||| (((xs (i + 5 : Int32).toNatClampNeg : Int32).toInt64) &&& 4294967295)) (xs (i + 6 : Int32).toNatClampNeg) (xs (i + 7 : Int32).toNatClampNeg) (xs (i + 8 : Int32).toNatClampNeg) S  hr
  obtain ⟨o1, N1, c1, s1, g1, g2, g3, g4, g5, g6⟩ := kF_J_makeCron (q := 0) (xs (i + 1 : Int32).toNatClampNeg) (xs (i + 2 : Int32).toNatClampNeg) (xs (i + 3 : Int32).toNatClampNeg) ((((xs (i + 4 : Int32).toNatClampNeg : Int32).toInt64 : Int64) <<< ((32 : Int32).toInt64 &&& 63)) ||| (((xs (i + 5 : Int32).toNatClampNeg : Int32).toInt64) &&& 4294967295)) (xs (i + 6 : Int32).toNatClampNeg) (xs (i + 7 : Int32).toNatClampNeg) (xs (i + 8 : Int32).toNatClampNeg) S 13 530 (by decide) (by decide) N hm z h1 0 0
  have hl := hm.1
  have hl2 := g2.1
  have e0 : N1[0]? = some (200, jx_vi L xs) := (g3.2 0 (by omega) (by omega)).trans hs
  have e1 : N1[453]? = some (jl_out w) := (g3.2 453 (by omega) (by omega)).trans ho
  obtain ⟨r, S1⟩ := z
  cases r with
  | inl v =>
    obtain ⟨h4, h5⟩ := (h4 : S2.1 215 0 = 0 ∧ v = b)
    have g4 : o1 = .inl (some (.int v)) := g4
    subst g4
    have gm := mm_out (jl_out v.toInt64) g2
    obtain ⟨o2, N2, c2, s2, f1, f2, f3, f4, f5, f6⟩ := kF_M_makeCron (q := 0) (xs (i + 1 : Int32).toNatClampNeg) (xs (i + 2 : Int32).toNatClampNeg) (xs (i + 3 : Int32).toNatClampNeg) ((((xs (i + 4 : Int32).toNatClampNeg : Int32).toInt64 : Int64) <<< ((32 : Int32).toInt64 &&& 63)) ||| (((xs (i + 5 : Int32).toNatClampNeg : Int32).toInt64) &&& 4294967295)) (xs (i + 6 : Int32).toNatClampNeg) (xs (i + 7 : Int32).toNatClampNeg) (xs (i + 8 : Int32).toNatClampNeg) S1 14 561 (by decide) (by decide) (N1.set 453 (jl_out v.toInt64)) gm (b, S2) h2 0 0
    have f4 : o2 = .inl (some (.int b)) := f4
    subst f4
    have hl1 : 453 < (N1.set 453 (jl_out v.toInt64)).length := by have := (gm).1; omega
    have e2 : N2[0]? = some (200, jx_vi L xs) := (f3.2 0 (by omega) (by omega)).trans (by rw [List.getElem?_set_ne (by decide)]; exact e0)
    have e3 : N2[453]? = some (jl_out v.toInt64) := (f3.2 453 (by omega) (by omega)).trans (List.getElem?_set_self (by omega))
    have e4 : N2[215]? = some (9, .int (S2.1 215 0) :: _) := mm_ka f2 kc_215
    rw [h4] at e4
    simp only [x_I, s_I, jn_x] at g5 g6 f5 f6
    obtain ⟨oo, p1, p2⟩ := kk S2 N2 v.toInt64 (dc + c1 + c2) (ds + s1 + s2) h3 f2 e2 e3 (by omega) (by omega)
    exact ⟨oo, p1, jl_case_makeCron hs (by rw [List.getElem?_set_ne (by decide)]; exact e0) v0 v1 v2 v3 v4 v5 v6 v7 (jl_W_makeCron_ok (xs (i + 1 : Int32).toNatClampNeg) (xs (i + 2 : Int32).toNatClampNeg) (xs (i + 3 : Int32).toNatClampNeg) ((((xs (i + 4 : Int32).toNatClampNeg : Int32).toInt64 : Int64) <<< ((32 : Int32).toInt64 &&& 63)) ||| (((xs (i + 5 : Int32).toNatClampNeg : Int32).toInt64) &&& 4294967295)) (xs (i + 6 : Int32).toNatClampNeg) (xs (i + 7 : Int32).toNatClampNeg) (xs (i + 8 : Int32).toNatClampNeg) 14 562 (by decide) (by decide) (mm_ka hm kc_24) g1 e1) (mm_ka gm kc_215) f1 e4 e3 (fun _ => by rw [h5]) p2⟩
  | inr c =>
    obtain ⟨ad, g4, ga⟩ := g4
    subst g4
    have h6 : (c, S2.1 215 0) ∈ ([(11, 1), (13, 2), (12, 3), (10, 4)] : List (Nat × Int32)) := h4
    simp only [List.mem_cons, List.not_mem_nil, or_false, Prod.mk.injEq] at h6
    rcases h6 with ⟨rfl, h7⟩ | ⟨rfl, h7⟩ | ⟨rfl, h7⟩ | ⟨rfl, h7⟩
    · obtain ⟨o2, N2, c2, s2, f1, f2, f3, f4, f5, f6⟩ := kF_M_makeCron (q := 0) (xs (i + 1 : Int32).toNatClampNeg) (xs (i + 2 : Int32).toNatClampNeg) (xs (i + 3 : Int32).toNatClampNeg) ((((xs (i + 4 : Int32).toNatClampNeg : Int32).toInt64 : Int64) <<< ((32 : Int32).toInt64 &&& 63)) ||| (((xs (i + 5 : Int32).toNatClampNeg : Int32).toInt64) &&& 4294967295)) (xs (i + 6 : Int32).toNatClampNeg) (xs (i + 7 : Int32).toNatClampNeg) (xs (i + 8 : Int32).toNatClampNeg) S1 14 561 (by decide) (by decide) N1 g2 (b, S2) h2 0 0
      have f4 : o2 = .inl (some (.int b)) := f4
      subst f4
      have hl1 : 453 < (N1).length := by have := (g2).1; omega
      have e2 : N2[0]? = some (200, jx_vi L xs) := (f3.2 0 (by omega) (by omega)).trans e0
      have e3 : N2[453]? = some (jl_out w) := (f3.2 453 (by omega) (by omega)).trans e1
      have e4 : N2[215]? = some (9, .int (S2.1 215 0) :: _) := mm_ka f2 kc_215
      rw [h7] at e4
      simp only [x_I, s_I, jn_x] at g5 g6 f5 f6
      obtain ⟨oo, p1, p2⟩ := kk S2 N2 w (dc + c1 + c2) (ds + s1 + s2) h3 f2 e2 e3 (by omega) (by omega)
      exact ⟨oo, p1, jl_case_makeCron hs e0 v0 v1 v2 v3 v4 v5 v6 v7 (jl_W_makeCron_x11 (xs (i + 1 : Int32).toNatClampNeg) (xs (i + 2 : Int32).toNatClampNeg) (xs (i + 3 : Int32).toNatClampNeg) ((((xs (i + 4 : Int32).toNatClampNeg : Int32).toInt64 : Int64) <<< ((32 : Int32).toInt64 &&& 63)) ||| (((xs (i + 5 : Int32).toNatClampNeg : Int32).toInt64) &&& 4294967295)) (xs (i + 6 : Int32).toNatClampNeg) (xs (i + 7 : Int32).toNatClampNeg) (xs (i + 8 : Int32).toNatClampNeg) 14 562 (by decide) (by decide) (mm_ka hm kc_24) g1 ga) (mm_ka g2 kc_215) f1 e4 e3 (fun q => absurd q (by decide)) p2⟩
    · obtain ⟨o2, N2, c2, s2, f1, f2, f3, f4, f5, f6⟩ := kF_M_makeCron (q := 0) (xs (i + 1 : Int32).toNatClampNeg) (xs (i + 2 : Int32).toNatClampNeg) (xs (i + 3 : Int32).toNatClampNeg) ((((xs (i + 4 : Int32).toNatClampNeg : Int32).toInt64 : Int64) <<< ((32 : Int32).toInt64 &&& 63)) ||| (((xs (i + 5 : Int32).toNatClampNeg : Int32).toInt64) &&& 4294967295)) (xs (i + 6 : Int32).toNatClampNeg) (xs (i + 7 : Int32).toNatClampNeg) (xs (i + 8 : Int32).toNatClampNeg) S1 14 561 (by decide) (by decide) N1 g2 (b, S2) h2 0 0
      have f4 : o2 = .inl (some (.int b)) := f4
      subst f4
      have hl1 : 453 < (N1).length := by have := (g2).1; omega
      have e2 : N2[0]? = some (200, jx_vi L xs) := (f3.2 0 (by omega) (by omega)).trans e0
      have e3 : N2[453]? = some (jl_out w) := (f3.2 453 (by omega) (by omega)).trans e1
      have e4 : N2[215]? = some (9, .int (S2.1 215 0) :: _) := mm_ka f2 kc_215
      rw [h7] at e4
      simp only [x_I, s_I, jn_x] at g5 g6 f5 f6
      obtain ⟨oo, p1, p2⟩ := kk S2 N2 w (dc + c1 + c2) (ds + s1 + s2) h3 f2 e2 e3 (by omega) (by omega)
      exact ⟨oo, p1, jl_case_makeCron hs e0 v0 v1 v2 v3 v4 v5 v6 v7 (jl_W_makeCron_x13 (xs (i + 1 : Int32).toNatClampNeg) (xs (i + 2 : Int32).toNatClampNeg) (xs (i + 3 : Int32).toNatClampNeg) ((((xs (i + 4 : Int32).toNatClampNeg : Int32).toInt64 : Int64) <<< ((32 : Int32).toInt64 &&& 63)) ||| (((xs (i + 5 : Int32).toNatClampNeg : Int32).toInt64) &&& 4294967295)) (xs (i + 6 : Int32).toNatClampNeg) (xs (i + 7 : Int32).toNatClampNeg) (xs (i + 8 : Int32).toNatClampNeg) 14 562 (by decide) (by decide) (mm_ka hm kc_24) g1 ga) (mm_ka g2 kc_215) f1 e4 e3 (fun q => absurd q (by decide)) p2⟩
    · obtain ⟨o2, N2, c2, s2, f1, f2, f3, f4, f5, f6⟩ := kF_M_makeCron (q := 0) (xs (i + 1 : Int32).toNatClampNeg) (xs (i + 2 : Int32).toNatClampNeg) (xs (i + 3 : Int32).toNatClampNeg) ((((xs (i + 4 : Int32).toNatClampNeg : Int32).toInt64 : Int64) <<< ((32 : Int32).toInt64 &&& 63)) ||| (((xs (i + 5 : Int32).toNatClampNeg : Int32).toInt64) &&& 4294967295)) (xs (i + 6 : Int32).toNatClampNeg) (xs (i + 7 : Int32).toNatClampNeg) (xs (i + 8 : Int32).toNatClampNeg) S1 14 561 (by decide) (by decide) N1 g2 (b, S2) h2 0 0
      have f4 : o2 = .inl (some (.int b)) := f4
      subst f4
      have hl1 : 453 < (N1).length := by have := (g2).1; omega
      have e2 : N2[0]? = some (200, jx_vi L xs) := (f3.2 0 (by omega) (by omega)).trans e0
      have e3 : N2[453]? = some (jl_out w) := (f3.2 453 (by omega) (by omega)).trans e1
      have e4 : N2[215]? = some (9, .int (S2.1 215 0) :: _) := mm_ka f2 kc_215
      rw [h7] at e4
      simp only [x_I, s_I, jn_x] at g5 g6 f5 f6
      obtain ⟨oo, p1, p2⟩ := kk S2 N2 w (dc + c1 + c2) (ds + s1 + s2) h3 f2 e2 e3 (by omega) (by omega)
      exact ⟨oo, p1, jl_case_makeCron hs e0 v0 v1 v2 v3 v4 v5 v6 v7 (jl_W_makeCron_x12 (xs (i + 1 : Int32).toNatClampNeg) (xs (i + 2 : Int32).toNatClampNeg) (xs (i + 3 : Int32).toNatClampNeg) ((((xs (i + 4 : Int32).toNatClampNeg : Int32).toInt64 : Int64) <<< ((32 : Int32).toInt64 &&& 63)) ||| (((xs (i + 5 : Int32).toNatClampNeg : Int32).toInt64) &&& 4294967295)) (xs (i + 6 : Int32).toNatClampNeg) (xs (i + 7 : Int32).toNatClampNeg) (xs (i + 8 : Int32).toNatClampNeg) 14 562 (by decide) (by decide) (mm_ka hm kc_24) g1 ga) (mm_ka g2 kc_215) f1 e4 e3 (fun q => absurd q (by decide)) p2⟩
    · obtain ⟨o2, N2, c2, s2, f1, f2, f3, f4, f5, f6⟩ := kF_M_makeCron (q := 0) (xs (i + 1 : Int32).toNatClampNeg) (xs (i + 2 : Int32).toNatClampNeg) (xs (i + 3 : Int32).toNatClampNeg) ((((xs (i + 4 : Int32).toNatClampNeg : Int32).toInt64 : Int64) <<< ((32 : Int32).toInt64 &&& 63)) ||| (((xs (i + 5 : Int32).toNatClampNeg : Int32).toInt64) &&& 4294967295)) (xs (i + 6 : Int32).toNatClampNeg) (xs (i + 7 : Int32).toNatClampNeg) (xs (i + 8 : Int32).toNatClampNeg) S1 14 561 (by decide) (by decide) N1 g2 (b, S2) h2 0 0
      have f4 : o2 = .inl (some (.int b)) := f4
      subst f4
      have hl1 : 453 < (N1).length := by have := (g2).1; omega
      have e2 : N2[0]? = some (200, jx_vi L xs) := (f3.2 0 (by omega) (by omega)).trans e0
      have e3 : N2[453]? = some (jl_out w) := (f3.2 453 (by omega) (by omega)).trans e1
      have e4 : N2[215]? = some (9, .int (S2.1 215 0) :: _) := mm_ka f2 kc_215
      rw [h7] at e4
      simp only [x_I, s_I, jn_x] at g5 g6 f5 f6
      obtain ⟨oo, p1, p2⟩ := kk S2 N2 w (dc + c1 + c2) (ds + s1 + s2) h3 f2 e2 e3 (by omega) (by omega)
      exact ⟨oo, p1, jl_case_makeCron hs e0 v0 v1 v2 v3 v4 v5 v6 v7 (jl_W_makeCron_x10 (xs (i + 1 : Int32).toNatClampNeg) (xs (i + 2 : Int32).toNatClampNeg) (xs (i + 3 : Int32).toNatClampNeg) ((((xs (i + 4 : Int32).toNatClampNeg : Int32).toInt64 : Int64) <<< ((32 : Int32).toInt64 &&& 63)) ||| (((xs (i + 5 : Int32).toNatClampNeg : Int32).toInt64) &&& 4294967295)) (xs (i + 6 : Int32).toNatClampNeg) (xs (i + 7 : Int32).toNatClampNeg) (xs (i + 8 : Int32).toNatClampNeg) 14 562 (by decide) (by decide) (mm_ka hm kc_24) g1 ga) (mm_ka g2 kc_215) f1 e4 e3 (fun q => absurd q (by decide)) p2⟩
def Oq_cancel (R R' : jS → Prop) : Prop := ∀ (p0 : Int32) (S : jS), R S → ∃ z b S2, F_J_cancel p0 S = some z ∧ F_M_cancel p0 z.2 = some (b, S2) ∧ R' S2 ∧ jE [(14, 1)] z.1 (S2.1 215 0) b
def Ok_cancel (R : jS → Prop) : Prop := Oq_cancel R R
set_option maxRecDepth 20000 in
theorem gl_cancel {R R' : jS → Prop} (hR : Oq_cancel R R') {N : jx_H} {L : Nat} {xs : Nat → Int32} {i : Int32} {S : jS} {w : Int64} {dc ds : Nat} {P : jx_O → Prop} (hs : N[0]? = some (200, jx_vi L xs)) (hm : mm 0 S N) (hr : R S) (ho : N[453]? = some (jl_out w)) (v0 : vp_in (i + 1) L) (kk : ∀ S2 N2 w2 dc2 ds2, R' S2 → mm 0 S2 N2 → N2[0]? = some (200, jx_vi L xs) → N2[453]? = some (jl_out w2) → dc2 ≤ dc + 4 → ds2 ≤ ds + 32 → ∃ o, P o ∧ jt jp_W_law 15 592 1771 [(0, .ref 0), (1, .ref 24), (2, .ref 215), (3, .ref 453), (4, .int i)] [] N2 dc2 ds2 o) : ∃ o, P o ∧ jt jp_W_law 15 592 1214 [(0, .ref 0), (1, .ref 24), (2, .ref 215), (3, .ref 453), (4, .int i)] [] N dc ds o := by
  obtain ⟨z, b, S2, h1, h2, h3, h4⟩ := hR (xs (i + 1 : Int32).toNatClampNeg) S  hr
  obtain ⟨o1, N1, c1, s1, g1, g2, g3, g4, g5, g6⟩ := kF_J_cancel (q := 0) (xs (i + 1 : Int32).toNatClampNeg) S 13 547 (by decide) (by decide) N hm z h1 0 0
  have hl := hm.1
  have hl2 := g2.1
  have e0 : N1[0]? = some (200, jx_vi L xs) := (g3.2 0 (by omega) (by omega)).trans hs
  have e1 : N1[453]? = some (jl_out w) := (g3.2 453 (by omega) (by omega)).trans ho
  obtain ⟨r, S1⟩ := z
  cases r with
  | inl v =>
    obtain ⟨h4, h5⟩ := (h4 : S2.1 215 0 = 0 ∧ v = b)
    have g4 : o1 = .inl (some (.int v)) := g4
    subst g4
    have gm := mm_out (jl_out v.toInt64) g2
    obtain ⟨o2, N2, c2, s2, f1, f2, f3, f4, f5, f6⟩ := kF_M_cancel (q := 0) (xs (i + 1 : Int32).toNatClampNeg) S1 14 570 (by decide) (by decide) (N1.set 453 (jl_out v.toInt64)) gm (b, S2) h2 0 0
    have f4 : o2 = .inl (some (.int b)) := f4
    subst f4
    have hl1 : 453 < (N1.set 453 (jl_out v.toInt64)).length := by have := (gm).1; omega
    have e2 : N2[0]? = some (200, jx_vi L xs) := (f3.2 0 (by omega) (by omega)).trans (by rw [List.getElem?_set_ne (by decide)]; exact e0)
    have e3 : N2[453]? = some (jl_out v.toInt64) := (f3.2 453 (by omega) (by omega)).trans (List.getElem?_set_self (by omega))
    have e4 : N2[215]? = some (9, .int (S2.1 215 0) :: _) := mm_ka f2 kc_215
    rw [h4] at e4
    simp only [x_I, s_I, jn_x] at g5 g6 f5 f6
    obtain ⟨oo, p1, p2⟩ := kk S2 N2 v.toInt64 (dc + c1 + c2) (ds + s1 + s2) h3 f2 e2 e3 (by omega) (by omega)
    exact ⟨oo, p1, jl_case_cancel hs (by rw [List.getElem?_set_ne (by decide)]; exact e0) v0 (jl_W_cancel_ok (xs (i + 1 : Int32).toNatClampNeg) 14 569 (by decide) (by decide) (mm_ka hm kc_24) g1 e1) (mm_ka gm kc_215) f1 e4 e3 (fun _ => by rw [h5]) p2⟩
  | inr c =>
    obtain ⟨ad, g4, ga⟩ := g4
    subst g4
    have h6 : (c, S2.1 215 0) ∈ ([(14, 1)] : List (Nat × Int32)) := h4
    simp only [List.mem_cons, List.not_mem_nil, or_false, Prod.mk.injEq] at h6
    obtain ⟨rfl, h7⟩ := h6
    obtain ⟨o2, N2, c2, s2, f1, f2, f3, f4, f5, f6⟩ := kF_M_cancel (q := 0) (xs (i + 1 : Int32).toNatClampNeg) S1 14 570 (by decide) (by decide) N1 g2 (b, S2) h2 0 0
    have f4 : o2 = .inl (some (.int b)) := f4
    subst f4
    have hl1 : 453 < (N1).length := by have := (g2).1; omega
    have e2 : N2[0]? = some (200, jx_vi L xs) := (f3.2 0 (by omega) (by omega)).trans e0
    have e3 : N2[453]? = some (jl_out w) := (f3.2 453 (by omega) (by omega)).trans e1
    have e4 : N2[215]? = some (9, .int (S2.1 215 0) :: _) := mm_ka f2 kc_215
    rw [h7] at e4
    simp only [x_I, s_I, jn_x] at g5 g6 f5 f6
    obtain ⟨oo, p1, p2⟩ := kk S2 N2 w (dc + c1 + c2) (ds + s1 + s2) h3 f2 e2 e3 (by omega) (by omega)
    exact ⟨oo, p1, jl_case_cancel hs e0 v0 (jl_W_cancel_x14 (xs (i + 1 : Int32).toNatClampNeg) 14 569 (by decide) (by decide) (mm_ka hm kc_24) g1 ga) (mm_ka g2 kc_215) f1 e4 e3 (fun q => absurd q (by decide)) p2⟩
def Oq_workers (R R' : jS → Prop) : Prop := ∀ (p0 : Int32) (S : jS), R S → ∃ z b S2, F_J_workers p0 S = some z ∧ F_M_workers p0 z.2 = some (b, S2) ∧ R' S2 ∧ jE [(11, 1)] z.1 (S2.1 215 0) b
def Ok_workers (R : jS → Prop) : Prop := Oq_workers R R
set_option maxRecDepth 20000 in
theorem gl_workers {R R' : jS → Prop} (hR : Oq_workers R R') {N : jx_H} {L : Nat} {xs : Nat → Int32} {i : Int32} {S : jS} {w : Int64} {dc ds : Nat} {P : jx_O → Prop} (hs : N[0]? = some (200, jx_vi L xs)) (hm : mm 0 S N) (hr : R S) (ho : N[453]? = some (jl_out w)) (v0 : vp_in (i + 1) L) (kk : ∀ S2 N2 w2 dc2 ds2, R' S2 → mm 0 S2 N2 → N2[0]? = some (200, jx_vi L xs) → N2[453]? = some (jl_out w2) → dc2 ≤ dc + 4 → ds2 ≤ ds + 32 → ∃ o, P o ∧ jt jp_W_law 15 592 1771 [(0, .ref 0), (1, .ref 24), (2, .ref 215), (3, .ref 453), (4, .int i)] [] N2 dc2 ds2 o) : ∃ o, P o ∧ jt jp_W_law 15 592 1270 [(0, .ref 0), (1, .ref 24), (2, .ref 215), (3, .ref 453), (4, .int i)] [] N dc ds o := by
  obtain ⟨z, b, S2, h1, h2, h3, h4⟩ := hR (xs (i + 1 : Int32).toNatClampNeg) S  hr
  obtain ⟨o1, N1, c1, s1, g1, g2, g3, g4, g5, g6⟩ := kF_J_workers (q := 0) (xs (i + 1 : Int32).toNatClampNeg) S 13 547 (by decide) (by decide) N hm z h1 0 0
  have hl := hm.1
  have hl2 := g2.1
  have e0 : N1[0]? = some (200, jx_vi L xs) := (g3.2 0 (by omega) (by omega)).trans hs
  have e1 : N1[453]? = some (jl_out w) := (g3.2 453 (by omega) (by omega)).trans ho
  obtain ⟨r, S1⟩ := z
  cases r with
  | inl v =>
    obtain ⟨h4, h5⟩ := (h4 : S2.1 215 0 = 0 ∧ v = b)
    have g4 : o1 = .inl (some (.int v)) := g4
    subst g4
    have gm := mm_out (jl_out v.toInt64) g2
    obtain ⟨o2, N2, c2, s2, f1, f2, f3, f4, f5, f6⟩ := kF_M_workers (q := 0) (xs (i + 1 : Int32).toNatClampNeg) S1 14 570 (by decide) (by decide) (N1.set 453 (jl_out v.toInt64)) gm (b, S2) h2 0 0
    have f4 : o2 = .inl (some (.int b)) := f4
    subst f4
    have hl1 : 453 < (N1.set 453 (jl_out v.toInt64)).length := by have := (gm).1; omega
    have e2 : N2[0]? = some (200, jx_vi L xs) := (f3.2 0 (by omega) (by omega)).trans (by rw [List.getElem?_set_ne (by decide)]; exact e0)
    have e3 : N2[453]? = some (jl_out v.toInt64) := (f3.2 453 (by omega) (by omega)).trans (List.getElem?_set_self (by omega))
    have e4 : N2[215]? = some (9, .int (S2.1 215 0) :: _) := mm_ka f2 kc_215
    rw [h4] at e4
    simp only [x_I, s_I, jn_x] at g5 g6 f5 f6
    obtain ⟨oo, p1, p2⟩ := kk S2 N2 v.toInt64 (dc + c1 + c2) (ds + s1 + s2) h3 f2 e2 e3 (by omega) (by omega)
    exact ⟨oo, p1, jl_case_workers hs (by rw [List.getElem?_set_ne (by decide)]; exact e0) v0 (jl_W_workers_ok (xs (i + 1 : Int32).toNatClampNeg) 14 569 (by decide) (by decide) (mm_ka hm kc_24) g1 e1) (mm_ka gm kc_215) f1 e4 e3 (fun _ => by rw [h5]) p2⟩
  | inr c =>
    obtain ⟨ad, g4, ga⟩ := g4
    subst g4
    have h6 : (c, S2.1 215 0) ∈ ([(11, 1)] : List (Nat × Int32)) := h4
    simp only [List.mem_cons, List.not_mem_nil, or_false, Prod.mk.injEq] at h6
    obtain ⟨rfl, h7⟩ := h6
    obtain ⟨o2, N2, c2, s2, f1, f2, f3, f4, f5, f6⟩ := kF_M_workers (q := 0) (xs (i + 1 : Int32).toNatClampNeg) S1 14 570 (by decide) (by decide) N1 g2 (b, S2) h2 0 0
    have f4 : o2 = .inl (some (.int b)) := f4
    subst f4
    have hl1 : 453 < (N1).length := by have := (g2).1; omega
    have e2 : N2[0]? = some (200, jx_vi L xs) := (f3.2 0 (by omega) (by omega)).trans e0
    have e3 : N2[453]? = some (jl_out w) := (f3.2 453 (by omega) (by omega)).trans e1
    have e4 : N2[215]? = some (9, .int (S2.1 215 0) :: _) := mm_ka f2 kc_215
    rw [h7] at e4
    simp only [x_I, s_I, jn_x] at g5 g6 f5 f6
    obtain ⟨oo, p1, p2⟩ := kk S2 N2 w (dc + c1 + c2) (ds + s1 + s2) h3 f2 e2 e3 (by omega) (by omega)
    exact ⟨oo, p1, jl_case_workers hs e0 v0 (jl_W_workers_x11 (xs (i + 1 : Int32).toNatClampNeg) 14 569 (by decide) (by decide) (mm_ka hm kc_24) g1 ga) (mm_ka g2 kc_215) f1 e4 e3 (fun q => absurd q (by decide)) p2⟩
def Oq_advance (R R' : jS → Prop) : Prop := ∀ (p0 : Int64) (S : jS), R S → ∃ z b S2, F_J_advance p0 S = some z ∧ F_M_advance p0 z.2 = some (b, S2) ∧ R' S2 ∧ jE [(11, 1)] z.1 (S2.1 215 0) b
def Ok_advance (R : jS → Prop) : Prop := Oq_advance R R
set_option maxRecDepth 20000 in
theorem gl_advance {R R' : jS → Prop} (hR : Oq_advance R R') {N : jx_H} {L : Nat} {xs : Nat → Int32} {i : Int32} {S : jS} {w : Int64} {dc ds : Nat} {P : jx_O → Prop} (hs : N[0]? = some (200, jx_vi L xs)) (hm : mm 0 S N) (hr : R S) (ho : N[453]? = some (jl_out w)) (v0 : vp_in (i + 1) L) (v1 : vp_in (i + 2) L) (kk : ∀ S2 N2 w2 dc2 ds2, R' S2 → mm 0 S2 N2 → N2[0]? = some (200, jx_vi L xs) → N2[453]? = some (jl_out w2) → dc2 ≤ dc + 4 → ds2 ≤ ds + 32 → ∃ o, P o ∧ jt jp_W_law 15 592 1771 [(0, .ref 0), (1, .ref 24), (2, .ref 215), (3, .ref 453), (4, .int i)] [] N2 dc2 ds2 o) : ∃ o, P o ∧ jt jp_W_law 15 592 1326 [(0, .ref 0), (1, .ref 24), (2, .ref 215), (3, .ref 453), (4, .int i)] [] N dc ds o := by
  obtain ⟨z, b, S2, h1, h2, h3, h4⟩ := hR ((((xs (i + 1 : Int32).toNatClampNeg : Int32).toInt64 : Int64) <<< ((32 : Int32).toInt64 &&& 63)) ||| (((xs (i + 2 : Int32).toNatClampNeg : Int32).toInt64) &&& 4294967295)) S  hr
  obtain ⟨o1, N1, c1, s1, g1, g2, g3, g4, g5, g6⟩ := kF_J_advance (q := 0) ((((xs (i + 1 : Int32).toNatClampNeg : Int32).toInt64 : Int64) <<< ((32 : Int32).toInt64 &&& 63)) ||| (((xs (i + 2 : Int32).toNatClampNeg : Int32).toInt64) &&& 4294967295)) S 13 539 (by decide) (by decide) N hm z h1 0 0
  have hl := hm.1
  have hl2 := g2.1
  have e0 : N1[0]? = some (200, jx_vi L xs) := (g3.2 0 (by omega) (by omega)).trans hs
  have e1 : N1[453]? = some (jl_out w) := (g3.2 453 (by omega) (by omega)).trans ho
  obtain ⟨r, S1⟩ := z
  cases r with
  | inl v =>
    obtain ⟨h4, h5⟩ := (h4 : S2.1 215 0 = 0 ∧ v = b)
    have g4 : o1 = .inl (some (.int v)) := g4
    subst g4
    have gm := mm_out (jl_out v.toInt64) g2
    obtain ⟨o2, N2, c2, s2, f1, f2, f3, f4, f5, f6⟩ := kF_M_advance (q := 0) ((((xs (i + 1 : Int32).toNatClampNeg : Int32).toInt64 : Int64) <<< ((32 : Int32).toInt64 &&& 63)) ||| (((xs (i + 2 : Int32).toNatClampNeg : Int32).toInt64) &&& 4294967295)) S1 14 565 (by decide) (by decide) (N1.set 453 (jl_out v.toInt64)) gm (b, S2) h2 0 0
    have f4 : o2 = .inl (some (.int b)) := f4
    subst f4
    have hl1 : 453 < (N1.set 453 (jl_out v.toInt64)).length := by have := (gm).1; omega
    have e2 : N2[0]? = some (200, jx_vi L xs) := (f3.2 0 (by omega) (by omega)).trans (by rw [List.getElem?_set_ne (by decide)]; exact e0)
    have e3 : N2[453]? = some (jl_out v.toInt64) := (f3.2 453 (by omega) (by omega)).trans (List.getElem?_set_self (by omega))
    have e4 : N2[215]? = some (9, .int (S2.1 215 0) :: _) := mm_ka f2 kc_215
    rw [h4] at e4
    simp only [x_I, s_I, jn_x] at g5 g6 f5 f6
    obtain ⟨oo, p1, p2⟩ := kk S2 N2 v.toInt64 (dc + c1 + c2) (ds + s1 + s2) h3 f2 e2 e3 (by omega) (by omega)
    exact ⟨oo, p1, jl_case_advance hs (by rw [List.getElem?_set_ne (by decide)]; exact e0) v0 v1 (jl_W_advance_ok ((((xs (i + 1 : Int32).toNatClampNeg : Int32).toInt64 : Int64) <<< ((32 : Int32).toInt64 &&& 63)) ||| (((xs (i + 2 : Int32).toNatClampNeg : Int32).toInt64) &&& 4294967295)) 14 568 (by decide) (by decide) (mm_ka hm kc_24) g1 e1) (mm_ka gm kc_215) f1 e4 e3 (fun _ => by rw [h5]) p2⟩
  | inr c =>
    obtain ⟨ad, g4, ga⟩ := g4
    subst g4
    have h6 : (c, S2.1 215 0) ∈ ([(11, 1)] : List (Nat × Int32)) := h4
    simp only [List.mem_cons, List.not_mem_nil, or_false, Prod.mk.injEq] at h6
    obtain ⟨rfl, h7⟩ := h6
    obtain ⟨o2, N2, c2, s2, f1, f2, f3, f4, f5, f6⟩ := kF_M_advance (q := 0) ((((xs (i + 1 : Int32).toNatClampNeg : Int32).toInt64 : Int64) <<< ((32 : Int32).toInt64 &&& 63)) ||| (((xs (i + 2 : Int32).toNatClampNeg : Int32).toInt64) &&& 4294967295)) S1 14 565 (by decide) (by decide) N1 g2 (b, S2) h2 0 0
    have f4 : o2 = .inl (some (.int b)) := f4
    subst f4
    have hl1 : 453 < (N1).length := by have := (g2).1; omega
    have e2 : N2[0]? = some (200, jx_vi L xs) := (f3.2 0 (by omega) (by omega)).trans e0
    have e3 : N2[453]? = some (jl_out w) := (f3.2 453 (by omega) (by omega)).trans e1
    have e4 : N2[215]? = some (9, .int (S2.1 215 0) :: _) := mm_ka f2 kc_215
    rw [h7] at e4
    simp only [x_I, s_I, jn_x] at g5 g6 f5 f6
    obtain ⟨oo, p1, p2⟩ := kk S2 N2 w (dc + c1 + c2) (ds + s1 + s2) h3 f2 e2 e3 (by omega) (by omega)
    exact ⟨oo, p1, jl_case_advance hs e0 v0 v1 (jl_W_advance_x11 ((((xs (i + 1 : Int32).toNatClampNeg : Int32).toInt64 : Int64) <<< ((32 : Int32).toInt64 &&& 63)) ||| (((xs (i + 2 : Int32).toNatClampNeg : Int32).toInt64) &&& 4294967295)) 14 568 (by decide) (by decide) (mm_ka hm kc_24) g1 ga) (mm_ka g2 kc_215) f1 e4 e3 (fun q => absurd q (by decide)) p2⟩
def Oq_stall (R R' : jS → Prop) : Prop := ∀ (p0 : Int64) (S : jS), R S → ∃ z S2, F_J_stall p0 S = some z ∧ F_M_stall p0 z.2 = some S2 ∧ R' S2 ∧ jEv [(11, 1)] z.1 (S2.1 215 0)
def Ok_stall (R : jS → Prop) : Prop := Oq_stall R R
set_option maxRecDepth 20000 in
theorem gl_stall {R R' : jS → Prop} (hR : Oq_stall R R') {N : jx_H} {L : Nat} {xs : Nat → Int32} {i : Int32} {S : jS} {w : Int64} {dc ds : Nat} {P : jx_O → Prop} (hs : N[0]? = some (200, jx_vi L xs)) (hm : mm 0 S N) (hr : R S) (ho : N[453]? = some (jl_out w)) (v0 : vp_in (i + 1) L) (v1 : vp_in (i + 2) L) (kk : ∀ S2 N2 w2 dc2 ds2, R' S2 → mm 0 S2 N2 → N2[0]? = some (200, jx_vi L xs) → N2[453]? = some (jl_out w2) → dc2 ≤ dc + 4 → ds2 ≤ ds + 32 → ∃ o, P o ∧ jt jp_W_law 15 592 1771 [(0, .ref 0), (1, .ref 24), (2, .ref 215), (3, .ref 453), (4, .int i)] [] N2 dc2 ds2 o) : ∃ o, P o ∧ jt jp_W_law 15 592 1414 [(0, .ref 0), (1, .ref 24), (2, .ref 215), (3, .ref 453), (4, .int i)] [] N dc ds o := by
  obtain ⟨z, S2, h1, h2, h3, h4⟩ := hR ((((xs (i + 1 : Int32).toNatClampNeg : Int32).toInt64 : Int64) <<< ((32 : Int32).toInt64 &&& 63)) ||| (((xs (i + 2 : Int32).toNatClampNeg : Int32).toInt64) &&& 4294967295)) S  hr
  obtain ⟨o1, N1, c1, s1, g1, g2, g3, g4, g5, g6⟩ := kF_J_stall (q := 0) ((((xs (i + 1 : Int32).toNatClampNeg : Int32).toInt64 : Int64) <<< ((32 : Int32).toInt64 &&& 63)) ||| (((xs (i + 2 : Int32).toNatClampNeg : Int32).toInt64) &&& 4294967295)) S 13 547 (by decide) (by decide) N hm z h1 0 0
  have hl := hm.1
  have hl2 := g2.1
  have e0 : N1[0]? = some (200, jx_vi L xs) := (g3.2 0 (by omega) (by omega)).trans hs
  have e1 : N1[453]? = some (jl_out w) := (g3.2 453 (by omega) (by omega)).trans ho
  obtain ⟨r, S1⟩ := z
  cases r with
  | none =>
    have h4 : S2.1 215 0 = 0 := h4
    have g4 : o1 = .inl none := g4
    subst g4
    obtain ⟨o2, N2, c2, s2, f1, f2, f3, f4, f5, f6⟩ := kF_M_stall (q := 0) ((((xs (i + 1 : Int32).toNatClampNeg : Int32).toInt64 : Int64) <<< ((32 : Int32).toInt64 &&& 63)) ||| (((xs (i + 2 : Int32).toNatClampNeg : Int32).toInt64) &&& 4294967295)) S1 14 570 (by decide) (by decide) N1 g2 S2 h2 0 0
    have f4 : o2 = .inl none := f4
    subst f4
    have hl1 : 453 < (N1).length := by have := (g2).1; omega
    have e2 : N2[0]? = some (200, jx_vi L xs) := (f3.2 0 (by omega) (by omega)).trans e0
    have e3 : N2[453]? = some (jl_out w) := (f3.2 453 (by omega) (by omega)).trans e1
    have e4 : N2[215]? = some (9, .int (S2.1 215 0) :: _) := mm_ka f2 kc_215
    rw [h4] at e4
    simp only [x_V, s_V, jn_x] at g5 g6 f5 f6
    obtain ⟨oo, p1, p2⟩ := kk S2 N2 w (dc + c1 + c2) (ds + s1 + s2) h3 f2 e2 e3 (by omega) (by omega)
    exact ⟨oo, p1, jl_case_stall hs e0 v0 v1 (jl_W_stall_ok ((((xs (i + 1 : Int32).toNatClampNeg : Int32).toInt64 : Int64) <<< ((32 : Int32).toInt64 &&& 63)) ||| (((xs (i + 2 : Int32).toNatClampNeg : Int32).toInt64) &&& 4294967295)) 14 569 (by decide) (by decide) (mm_ka hm kc_24) g1) (mm_ka g2 kc_215) f1 e4 p2⟩
  | some c =>
    obtain ⟨ad, g4, ga⟩ := g4
    subst g4
    have h6 : (c, S2.1 215 0) ∈ ([(11, 1)] : List (Nat × Int32)) := h4
    simp only [List.mem_cons, List.not_mem_nil, or_false, Prod.mk.injEq] at h6
    obtain ⟨rfl, h7⟩ := h6
    obtain ⟨o2, N2, c2, s2, f1, f2, f3, f4, f5, f6⟩ := kF_M_stall (q := 0) ((((xs (i + 1 : Int32).toNatClampNeg : Int32).toInt64 : Int64) <<< ((32 : Int32).toInt64 &&& 63)) ||| (((xs (i + 2 : Int32).toNatClampNeg : Int32).toInt64) &&& 4294967295)) S1 14 570 (by decide) (by decide) N1 g2 S2 h2 0 0
    have f4 : o2 = .inl none := f4
    subst f4
    have hl1 : 453 < (N1).length := by have := (g2).1; omega
    have e2 : N2[0]? = some (200, jx_vi L xs) := (f3.2 0 (by omega) (by omega)).trans e0
    have e3 : N2[453]? = some (jl_out w) := (f3.2 453 (by omega) (by omega)).trans e1
    have e4 : N2[215]? = some (9, .int (S2.1 215 0) :: _) := mm_ka f2 kc_215
    rw [h7] at e4
    simp only [x_V, s_V, jn_x] at g5 g6 f5 f6
    obtain ⟨oo, p1, p2⟩ := kk S2 N2 w (dc + c1 + c2) (ds + s1 + s2) h3 f2 e2 e3 (by omega) (by omega)
    exact ⟨oo, p1, jl_case_stall hs e0 v0 v1 (jl_W_stall_x11 ((((xs (i + 1 : Int32).toNatClampNeg : Int32).toInt64 : Int64) <<< ((32 : Int32).toInt64 &&& 63)) ||| (((xs (i + 2 : Int32).toNatClampNeg : Int32).toInt64) &&& 4294967295)) 14 569 (by decide) (by decide) (mm_ka hm kc_24) g1 ga) (mm_ka g2 kc_215) f1 e4 p2⟩
def Oq_close (R R' : jS → Prop) : Prop := ∀ (p0 : Int32) (p1 : Int32) (S : jS), (p0 = 0 ∨ p0 = 1) → (p1 = 0 ∨ p1 = 1) → R S → ∃ z b S2, F_J_close p0 p1 S = some z ∧ F_M_close p0 p1 z.2 = some (b, S2) ∧ R' S2 ∧ jE [(13, 1)] z.1 (S2.1 215 0) b
def Ok_close (R : jS → Prop) : Prop := Oq_close R R
set_option maxRecDepth 20000 in
theorem gl_close_00 {R R' : jS → Prop} (hR : Oq_close R R') {N : jx_H} {L : Nat} {xs : Nat → Int32} {i : Int32} {S : jS} {w : Int64} {dc ds : Nat} {P : jx_O → Prop} (hs : N[0]? = some (200, jx_vi L xs)) (hm : mm 0 S N) (hr : R S) (ho : N[453]? = some (jl_out w)) (v0 : vp_in (i + 1) L) (b1 : (xs (i + 1 : Int32).toNatClampNeg) = 0) (v2 : vp_in (i + 2) L) (b3 : (xs (i + 2 : Int32).toNatClampNeg) = 0) (kk : ∀ S2 N2 w2 dc2 ds2, R' S2 → mm 0 S2 N2 → N2[0]? = some (200, jx_vi L xs) → N2[453]? = some (jl_out w2) → dc2 ≤ dc + 4 → ds2 ≤ ds + 32 → ∃ o, P o ∧ jt jp_W_law 15 592 1771 [(0, .ref 0), (1, .ref 24), (2, .ref 215), (3, .ref 453), (4, .int i)] [] N2 dc2 ds2 o) : ∃ o, P o ∧ jt jp_W_law 15 592 1482 [(0, .ref 0), (1, .ref 24), (2, .ref 215), (3, .ref 453), (4, .int i)] [] N dc ds o := by
  obtain ⟨z, b, S2, h1, h2, h3, h4⟩ := hR 0 0 S (Or.inl rfl) (Or.inl rfl) hr
  obtain ⟨o1, N1, c1, s1, g1, g2, g3, g4, g5, g6⟩ := kF_J_close (q := 0) 0 0 S 13 543 (by decide) (by decide) N hm z h1 0 0
  have hl := hm.1
  have hl2 := g2.1
  have e0 : N1[0]? = some (200, jx_vi L xs) := (g3.2 0 (by omega) (by omega)).trans hs
  have e1 : N1[453]? = some (jl_out w) := (g3.2 453 (by omega) (by omega)).trans ho
  obtain ⟨r, S1⟩ := z
  cases r with
  | inl v =>
    obtain ⟨h4, h5⟩ := (h4 : S2.1 215 0 = 0 ∧ v = b)
    have g4 : o1 = .inl (some (.int v)) := g4
    subst g4
    have gm := mm_out (jl_out v.toInt64) g2
    obtain ⟨o2, N2, c2, s2, f1, f2, f3, f4, f5, f6⟩ := kF_M_close (q := 0) 0 0 S1 14 569 (by decide) (by decide) (N1.set 453 (jl_out v.toInt64)) gm (b, S2) h2 0 0
    have f4 : o2 = .inl (some (.int b)) := f4
    subst f4
    have hl1 : 453 < (N1.set 453 (jl_out v.toInt64)).length := by have := (gm).1; omega
    have e2 : N2[0]? = some (200, jx_vi L xs) := (f3.2 0 (by omega) (by omega)).trans (by rw [List.getElem?_set_ne (by decide)]; exact e0)
    have e3 : N2[453]? = some (jl_out v.toInt64) := (f3.2 453 (by omega) (by omega)).trans (List.getElem?_set_self (by omega))
    have e4 : N2[215]? = some (9, .int (S2.1 215 0) :: _) := mm_ka f2 kc_215
    rw [h4] at e4
    simp only [x_I, s_I, jn_x] at g5 g6 f5 f6
    obtain ⟨oo, p1, p2⟩ := kk S2 N2 v.toInt64 (dc + c1 + c2) (ds + s1 + s2) h3 f2 e2 e3 (by omega) (by omega)
    exact ⟨oo, p1, jl_case_close_00 hs (by rw [List.getElem?_set_ne (by decide)]; exact e0) v0 b1 v2 b3 (jl_W_close_ok 0 0 14 568 (by decide) (by decide) (mm_ka hm kc_24) g1 e1) (mm_ka gm kc_215) f1 e4 e3 (fun _ => by rw [h5]) p2⟩
  | inr c =>
    obtain ⟨ad, g4, ga⟩ := g4
    subst g4
    have h6 : (c, S2.1 215 0) ∈ ([(13, 1)] : List (Nat × Int32)) := h4
    simp only [List.mem_cons, List.not_mem_nil, or_false, Prod.mk.injEq] at h6
    obtain ⟨rfl, h7⟩ := h6
    obtain ⟨o2, N2, c2, s2, f1, f2, f3, f4, f5, f6⟩ := kF_M_close (q := 0) 0 0 S1 14 569 (by decide) (by decide) N1 g2 (b, S2) h2 0 0
    have f4 : o2 = .inl (some (.int b)) := f4
    subst f4
    have hl1 : 453 < (N1).length := by have := (g2).1; omega
    have e2 : N2[0]? = some (200, jx_vi L xs) := (f3.2 0 (by omega) (by omega)).trans e0
    have e3 : N2[453]? = some (jl_out w) := (f3.2 453 (by omega) (by omega)).trans e1
    have e4 : N2[215]? = some (9, .int (S2.1 215 0) :: _) := mm_ka f2 kc_215
    rw [h7] at e4
    simp only [x_I, s_I, jn_x] at g5 g6 f5 f6
    obtain ⟨oo, p1, p2⟩ := kk S2 N2 w (dc + c1 + c2) (ds + s1 + s2) h3 f2 e2 e3 (by omega) (by omega)
    exact ⟨oo, p1, jl_case_close_00 hs e0 v0 b1 v2 b3 (jl_W_close_x13 0 0 14 568 (by decide) (by decide) (mm_ka hm kc_24) g1 ga) (mm_ka g2 kc_215) f1 e4 e3 (fun q => absurd q (by decide)) p2⟩
set_option maxRecDepth 20000 in
theorem gl_close_01 {R R' : jS → Prop} (hR : Oq_close R R') {N : jx_H} {L : Nat} {xs : Nat → Int32} {i : Int32} {S : jS} {w : Int64} {dc ds : Nat} {P : jx_O → Prop} (hs : N[0]? = some (200, jx_vi L xs)) (hm : mm 0 S N) (hr : R S) (ho : N[453]? = some (jl_out w)) (v0 : vp_in (i + 1) L) (b1 : (xs (i + 1 : Int32).toNatClampNeg) = 0) (v2 : vp_in (i + 2) L) (b3 : ¬ (xs (i + 2 : Int32).toNatClampNeg) = 0) (kk : ∀ S2 N2 w2 dc2 ds2, R' S2 → mm 0 S2 N2 → N2[0]? = some (200, jx_vi L xs) → N2[453]? = some (jl_out w2) → dc2 ≤ dc + 4 → ds2 ≤ ds + 32 → ∃ o, P o ∧ jt jp_W_law 15 592 1771 [(0, .ref 0), (1, .ref 24), (2, .ref 215), (3, .ref 453), (4, .int i)] [] N2 dc2 ds2 o) : ∃ o, P o ∧ jt jp_W_law 15 592 1482 [(0, .ref 0), (1, .ref 24), (2, .ref 215), (3, .ref 453), (4, .int i)] [] N dc ds o := by
  obtain ⟨z, b, S2, h1, h2, h3, h4⟩ := hR 0 1 S (Or.inl rfl) (Or.inr rfl) hr
  obtain ⟨o1, N1, c1, s1, g1, g2, g3, g4, g5, g6⟩ := kF_J_close (q := 0) 0 1 S 13 543 (by decide) (by decide) N hm z h1 0 0
  have hl := hm.1
  have hl2 := g2.1
  have e0 : N1[0]? = some (200, jx_vi L xs) := (g3.2 0 (by omega) (by omega)).trans hs
  have e1 : N1[453]? = some (jl_out w) := (g3.2 453 (by omega) (by omega)).trans ho
  obtain ⟨r, S1⟩ := z
  cases r with
  | inl v =>
    obtain ⟨h4, h5⟩ := (h4 : S2.1 215 0 = 0 ∧ v = b)
    have g4 : o1 = .inl (some (.int v)) := g4
    subst g4
    have gm := mm_out (jl_out v.toInt64) g2
    obtain ⟨o2, N2, c2, s2, f1, f2, f3, f4, f5, f6⟩ := kF_M_close (q := 0) 0 1 S1 14 569 (by decide) (by decide) (N1.set 453 (jl_out v.toInt64)) gm (b, S2) h2 0 0
    have f4 : o2 = .inl (some (.int b)) := f4
    subst f4
    have hl1 : 453 < (N1.set 453 (jl_out v.toInt64)).length := by have := (gm).1; omega
    have e2 : N2[0]? = some (200, jx_vi L xs) := (f3.2 0 (by omega) (by omega)).trans (by rw [List.getElem?_set_ne (by decide)]; exact e0)
    have e3 : N2[453]? = some (jl_out v.toInt64) := (f3.2 453 (by omega) (by omega)).trans (List.getElem?_set_self (by omega))
    have e4 : N2[215]? = some (9, .int (S2.1 215 0) :: _) := mm_ka f2 kc_215
    rw [h4] at e4
    simp only [x_I, s_I, jn_x] at g5 g6 f5 f6
    obtain ⟨oo, p1, p2⟩ := kk S2 N2 v.toInt64 (dc + c1 + c2) (ds + s1 + s2) h3 f2 e2 e3 (by omega) (by omega)
    exact ⟨oo, p1, jl_case_close_01 hs (by rw [List.getElem?_set_ne (by decide)]; exact e0) v0 b1 v2 b3 (jl_W_close_ok 0 1 14 568 (by decide) (by decide) (mm_ka hm kc_24) g1 e1) (mm_ka gm kc_215) f1 e4 e3 (fun _ => by rw [h5]) p2⟩
  | inr c =>
    obtain ⟨ad, g4, ga⟩ := g4
    subst g4
    have h6 : (c, S2.1 215 0) ∈ ([(13, 1)] : List (Nat × Int32)) := h4
    simp only [List.mem_cons, List.not_mem_nil, or_false, Prod.mk.injEq] at h6
    obtain ⟨rfl, h7⟩ := h6
    obtain ⟨o2, N2, c2, s2, f1, f2, f3, f4, f5, f6⟩ := kF_M_close (q := 0) 0 1 S1 14 569 (by decide) (by decide) N1 g2 (b, S2) h2 0 0
    have f4 : o2 = .inl (some (.int b)) := f4
    subst f4
    have hl1 : 453 < (N1).length := by have := (g2).1; omega
    have e2 : N2[0]? = some (200, jx_vi L xs) := (f3.2 0 (by omega) (by omega)).trans e0
    have e3 : N2[453]? = some (jl_out w) := (f3.2 453 (by omega) (by omega)).trans e1
    have e4 : N2[215]? = some (9, .int (S2.1 215 0) :: _) := mm_ka f2 kc_215
    rw [h7] at e4
    simp only [x_I, s_I, jn_x] at g5 g6 f5 f6
    obtain ⟨oo, p1, p2⟩ := kk S2 N2 w (dc + c1 + c2) (ds + s1 + s2) h3 f2 e2 e3 (by omega) (by omega)
    exact ⟨oo, p1, jl_case_close_01 hs e0 v0 b1 v2 b3 (jl_W_close_x13 0 1 14 568 (by decide) (by decide) (mm_ka hm kc_24) g1 ga) (mm_ka g2 kc_215) f1 e4 e3 (fun q => absurd q (by decide)) p2⟩
set_option maxRecDepth 20000 in
theorem gl_close_10 {R R' : jS → Prop} (hR : Oq_close R R') {N : jx_H} {L : Nat} {xs : Nat → Int32} {i : Int32} {S : jS} {w : Int64} {dc ds : Nat} {P : jx_O → Prop} (hs : N[0]? = some (200, jx_vi L xs)) (hm : mm 0 S N) (hr : R S) (ho : N[453]? = some (jl_out w)) (v0 : vp_in (i + 1) L) (b1 : ¬ (xs (i + 1 : Int32).toNatClampNeg) = 0) (v2 : vp_in (i + 2) L) (b3 : (xs (i + 2 : Int32).toNatClampNeg) = 0) (kk : ∀ S2 N2 w2 dc2 ds2, R' S2 → mm 0 S2 N2 → N2[0]? = some (200, jx_vi L xs) → N2[453]? = some (jl_out w2) → dc2 ≤ dc + 4 → ds2 ≤ ds + 32 → ∃ o, P o ∧ jt jp_W_law 15 592 1771 [(0, .ref 0), (1, .ref 24), (2, .ref 215), (3, .ref 453), (4, .int i)] [] N2 dc2 ds2 o) : ∃ o, P o ∧ jt jp_W_law 15 592 1482 [(0, .ref 0), (1, .ref 24), (2, .ref 215), (3, .ref 453), (4, .int i)] [] N dc ds o := by
  obtain ⟨z, b, S2, h1, h2, h3, h4⟩ := hR 1 0 S (Or.inr rfl) (Or.inl rfl) hr
  obtain ⟨o1, N1, c1, s1, g1, g2, g3, g4, g5, g6⟩ := kF_J_close (q := 0) 1 0 S 13 543 (by decide) (by decide) N hm z h1 0 0
  have hl := hm.1
  have hl2 := g2.1
  have e0 : N1[0]? = some (200, jx_vi L xs) := (g3.2 0 (by omega) (by omega)).trans hs
  have e1 : N1[453]? = some (jl_out w) := (g3.2 453 (by omega) (by omega)).trans ho
  obtain ⟨r, S1⟩ := z
  cases r with
  | inl v =>
    obtain ⟨h4, h5⟩ := (h4 : S2.1 215 0 = 0 ∧ v = b)
    have g4 : o1 = .inl (some (.int v)) := g4
    subst g4
    have gm := mm_out (jl_out v.toInt64) g2
    obtain ⟨o2, N2, c2, s2, f1, f2, f3, f4, f5, f6⟩ := kF_M_close (q := 0) 1 0 S1 14 569 (by decide) (by decide) (N1.set 453 (jl_out v.toInt64)) gm (b, S2) h2 0 0
    have f4 : o2 = .inl (some (.int b)) := f4
    subst f4
    have hl1 : 453 < (N1.set 453 (jl_out v.toInt64)).length := by have := (gm).1; omega
    have e2 : N2[0]? = some (200, jx_vi L xs) := (f3.2 0 (by omega) (by omega)).trans (by rw [List.getElem?_set_ne (by decide)]; exact e0)
    have e3 : N2[453]? = some (jl_out v.toInt64) := (f3.2 453 (by omega) (by omega)).trans (List.getElem?_set_self (by omega))
    have e4 : N2[215]? = some (9, .int (S2.1 215 0) :: _) := mm_ka f2 kc_215
    rw [h4] at e4
    simp only [x_I, s_I, jn_x] at g5 g6 f5 f6
    obtain ⟨oo, p1, p2⟩ := kk S2 N2 v.toInt64 (dc + c1 + c2) (ds + s1 + s2) h3 f2 e2 e3 (by omega) (by omega)
    exact ⟨oo, p1, jl_case_close_10 hs (by rw [List.getElem?_set_ne (by decide)]; exact e0) v0 b1 v2 b3 (jl_W_close_ok 1 0 14 568 (by decide) (by decide) (mm_ka hm kc_24) g1 e1) (mm_ka gm kc_215) f1 e4 e3 (fun _ => by rw [h5]) p2⟩
  | inr c =>
    obtain ⟨ad, g4, ga⟩ := g4
    subst g4
    have h6 : (c, S2.1 215 0) ∈ ([(13, 1)] : List (Nat × Int32)) := h4
    simp only [List.mem_cons, List.not_mem_nil, or_false, Prod.mk.injEq] at h6
    obtain ⟨rfl, h7⟩ := h6
    obtain ⟨o2, N2, c2, s2, f1, f2, f3, f4, f5, f6⟩ := kF_M_close (q := 0) 1 0 S1 14 569 (by decide) (by decide) N1 g2 (b, S2) h2 0 0
    have f4 : o2 = .inl (some (.int b)) := f4
    subst f4
    have hl1 : 453 < (N1).length := by have := (g2).1; omega
    have e2 : N2[0]? = some (200, jx_vi L xs) := (f3.2 0 (by omega) (by omega)).trans e0
    have e3 : N2[453]? = some (jl_out w) := (f3.2 453 (by omega) (by omega)).trans e1
    have e4 : N2[215]? = some (9, .int (S2.1 215 0) :: _) := mm_ka f2 kc_215
    rw [h7] at e4
    simp only [x_I, s_I, jn_x] at g5 g6 f5 f6
    obtain ⟨oo, p1, p2⟩ := kk S2 N2 w (dc + c1 + c2) (ds + s1 + s2) h3 f2 e2 e3 (by omega) (by omega)
    exact ⟨oo, p1, jl_case_close_10 hs e0 v0 b1 v2 b3 (jl_W_close_x13 1 0 14 568 (by decide) (by decide) (mm_ka hm kc_24) g1 ga) (mm_ka g2 kc_215) f1 e4 e3 (fun q => absurd q (by decide)) p2⟩
set_option maxRecDepth 20000 in
theorem gl_close_11 {R R' : jS → Prop} (hR : Oq_close R R') {N : jx_H} {L : Nat} {xs : Nat → Int32} {i : Int32} {S : jS} {w : Int64} {dc ds : Nat} {P : jx_O → Prop} (hs : N[0]? = some (200, jx_vi L xs)) (hm : mm 0 S N) (hr : R S) (ho : N[453]? = some (jl_out w)) (v0 : vp_in (i + 1) L) (b1 : ¬ (xs (i + 1 : Int32).toNatClampNeg) = 0) (v2 : vp_in (i + 2) L) (b3 : ¬ (xs (i + 2 : Int32).toNatClampNeg) = 0) (kk : ∀ S2 N2 w2 dc2 ds2, R' S2 → mm 0 S2 N2 → N2[0]? = some (200, jx_vi L xs) → N2[453]? = some (jl_out w2) → dc2 ≤ dc + 4 → ds2 ≤ ds + 32 → ∃ o, P o ∧ jt jp_W_law 15 592 1771 [(0, .ref 0), (1, .ref 24), (2, .ref 215), (3, .ref 453), (4, .int i)] [] N2 dc2 ds2 o) : ∃ o, P o ∧ jt jp_W_law 15 592 1482 [(0, .ref 0), (1, .ref 24), (2, .ref 215), (3, .ref 453), (4, .int i)] [] N dc ds o := by
  obtain ⟨z, b, S2, h1, h2, h3, h4⟩ := hR 1 1 S (Or.inr rfl) (Or.inr rfl) hr
  obtain ⟨o1, N1, c1, s1, g1, g2, g3, g4, g5, g6⟩ := kF_J_close (q := 0) 1 1 S 13 543 (by decide) (by decide) N hm z h1 0 0
  have hl := hm.1
  have hl2 := g2.1
  have e0 : N1[0]? = some (200, jx_vi L xs) := (g3.2 0 (by omega) (by omega)).trans hs
  have e1 : N1[453]? = some (jl_out w) := (g3.2 453 (by omega) (by omega)).trans ho
  obtain ⟨r, S1⟩ := z
  cases r with
  | inl v =>
    obtain ⟨h4, h5⟩ := (h4 : S2.1 215 0 = 0 ∧ v = b)
    have g4 : o1 = .inl (some (.int v)) := g4
    subst g4
    have gm := mm_out (jl_out v.toInt64) g2
    obtain ⟨o2, N2, c2, s2, f1, f2, f3, f4, f5, f6⟩ := kF_M_close (q := 0) 1 1 S1 14 569 (by decide) (by decide) (N1.set 453 (jl_out v.toInt64)) gm (b, S2) h2 0 0
    have f4 : o2 = .inl (some (.int b)) := f4
    subst f4
    have hl1 : 453 < (N1.set 453 (jl_out v.toInt64)).length := by have := (gm).1; omega
    have e2 : N2[0]? = some (200, jx_vi L xs) := (f3.2 0 (by omega) (by omega)).trans (by rw [List.getElem?_set_ne (by decide)]; exact e0)
    have e3 : N2[453]? = some (jl_out v.toInt64) := (f3.2 453 (by omega) (by omega)).trans (List.getElem?_set_self (by omega))
    have e4 : N2[215]? = some (9, .int (S2.1 215 0) :: _) := mm_ka f2 kc_215
    rw [h4] at e4
    simp only [x_I, s_I, jn_x] at g5 g6 f5 f6
    obtain ⟨oo, p1, p2⟩ := kk S2 N2 v.toInt64 (dc + c1 + c2) (ds + s1 + s2) h3 f2 e2 e3 (by omega) (by omega)
    exact ⟨oo, p1, jl_case_close_11 hs (by rw [List.getElem?_set_ne (by decide)]; exact e0) v0 b1 v2 b3 (jl_W_close_ok 1 1 14 568 (by decide) (by decide) (mm_ka hm kc_24) g1 e1) (mm_ka gm kc_215) f1 e4 e3 (fun _ => by rw [h5]) p2⟩
  | inr c =>
    obtain ⟨ad, g4, ga⟩ := g4
    subst g4
    have h6 : (c, S2.1 215 0) ∈ ([(13, 1)] : List (Nat × Int32)) := h4
    simp only [List.mem_cons, List.not_mem_nil, or_false, Prod.mk.injEq] at h6
    obtain ⟨rfl, h7⟩ := h6
    obtain ⟨o2, N2, c2, s2, f1, f2, f3, f4, f5, f6⟩ := kF_M_close (q := 0) 1 1 S1 14 569 (by decide) (by decide) N1 g2 (b, S2) h2 0 0
    have f4 : o2 = .inl (some (.int b)) := f4
    subst f4
    have hl1 : 453 < (N1).length := by have := (g2).1; omega
    have e2 : N2[0]? = some (200, jx_vi L xs) := (f3.2 0 (by omega) (by omega)).trans e0
    have e3 : N2[453]? = some (jl_out w) := (f3.2 453 (by omega) (by omega)).trans e1
    have e4 : N2[215]? = some (9, .int (S2.1 215 0) :: _) := mm_ka f2 kc_215
    rw [h7] at e4
    simp only [x_I, s_I, jn_x] at g5 g6 f5 f6
    obtain ⟨oo, p1, p2⟩ := kk S2 N2 w (dc + c1 + c2) (ds + s1 + s2) h3 f2 e2 e3 (by omega) (by omega)
    exact ⟨oo, p1, jl_case_close_11 hs e0 v0 b1 v2 b3 (jl_W_close_x13 1 1 14 568 (by decide) (by decide) (mm_ka hm kc_24) g1 ga) (mm_ka g2 kc_215) f1 e4 e3 (fun q => absurd q (by decide)) p2⟩
def Oq_job (R R' : jS → Prop) : Prop := ∀ (p0 : Int32) (p1 : Int32) (S : jS), R S → ∃ z b S2, F_J_job p0 p1 S = some z ∧ F_M_job p0 p1 z.2 = some (b, S2) ∧ R' S2 ∧ jE [(11, 1), (14, 2)] z.1 (S2.1 215 0) b
def Ok_job (R : jS → Prop) : Prop := Oq_job R R
set_option maxRecDepth 20000 in
theorem gl_job {R R' : jS → Prop} (hR : Oq_job R R') {N : jx_H} {L : Nat} {xs : Nat → Int32} {i : Int32} {S : jS} {w : Int64} {dc ds : Nat} {P : jx_O → Prop} (hs : N[0]? = some (200, jx_vi L xs)) (hm : mm 0 S N) (hr : R S) (ho : N[453]? = some (jl_out w)) (v0 : vp_in (i + 1) L) (v1 : vp_in (i + 2) L) (kk : ∀ S2 N2 w2 dc2 ds2, R' S2 → mm 0 S2 N2 → N2[0]? = some (200, jx_vi L xs) → N2[453]? = some (jl_out w2) → dc2 ≤ dc + 4 → ds2 ≤ ds + 32 → ∃ o, P o ∧ jt jp_W_law 15 592 1771 [(0, .ref 0), (1, .ref 24), (2, .ref 215), (3, .ref 453), (4, .int i)] [] N2 dc2 ds2 o) : ∃ o, P o ∧ jt jp_W_law 15 592 1582 [(0, .ref 0), (1, .ref 24), (2, .ref 215), (3, .ref 453), (4, .int i)] [] N dc ds o := by
  obtain ⟨z, b, S2, h1, h2, h3, h4⟩ := hR (xs (i + 1 : Int32).toNatClampNeg) (xs (i + 2 : Int32).toNatClampNeg) S  hr
  obtain ⟨o1, N1, c1, s1, g1, g2, g3, g4, g5, g6⟩ := kF_J_job (q := 0) (xs (i + 1 : Int32).toNatClampNeg) (xs (i + 2 : Int32).toNatClampNeg) S 13 545 (by decide) (by decide) N hm z h1 0 0
  have hl := hm.1
  have hl2 := g2.1
  have e0 : N1[0]? = some (200, jx_vi L xs) := (g3.2 0 (by omega) (by omega)).trans hs
  have e1 : N1[453]? = some (jl_out w) := (g3.2 453 (by omega) (by omega)).trans ho
  obtain ⟨r, S1⟩ := z
  cases r with
  | inl v =>
    obtain ⟨h4, h5⟩ := (h4 : S2.1 215 0 = 0 ∧ v = b)
    have g4 : o1 = .inl (some (.long v)) := g4
    subst g4
    have gm := mm_out (jl_out v) g2
    obtain ⟨o2, N2, c2, s2, f1, f2, f3, f4, f5, f6⟩ := kF_M_job (q := 0) (xs (i + 1 : Int32).toNatClampNeg) (xs (i + 2 : Int32).toNatClampNeg) S1 14 570 (by decide) (by decide) (N1.set 453 (jl_out v)) gm (b, S2) h2 0 0
    have f4 : o2 = .inl (some (.long b)) := f4
    subst f4
    have hl1 : 453 < (N1.set 453 (jl_out v)).length := by have := (gm).1; omega
    have e2 : N2[0]? = some (200, jx_vi L xs) := (f3.2 0 (by omega) (by omega)).trans (by rw [List.getElem?_set_ne (by decide)]; exact e0)
    have e3 : N2[453]? = some (jl_out v) := (f3.2 453 (by omega) (by omega)).trans (List.getElem?_set_self (by omega))
    have e4 : N2[215]? = some (9, .int (S2.1 215 0) :: _) := mm_ka f2 kc_215
    rw [h4] at e4
    simp only [x_L, s_L, jn_x] at g5 g6 f5 f6
    obtain ⟨oo, p1, p2⟩ := kk S2 N2 v (dc + c1 + c2) (ds + s1 + s2) h3 f2 e2 e3 (by omega) (by omega)
    exact ⟨oo, p1, jl_case_job hs (by rw [List.getElem?_set_ne (by decide)]; exact e0) v0 v1 (jl_W_job_ok (xs (i + 1 : Int32).toNatClampNeg) (xs (i + 2 : Int32).toNatClampNeg) 14 568 (by decide) (by decide) (mm_ka hm kc_24) g1 e1) (mm_ka gm kc_215) f1 e4 e3 (fun _ => by rw [h5]) p2⟩
  | inr c =>
    obtain ⟨ad, g4, ga⟩ := g4
    subst g4
    have h6 : (c, S2.1 215 0) ∈ ([(11, 1), (14, 2)] : List (Nat × Int32)) := h4
    simp only [List.mem_cons, List.not_mem_nil, or_false, Prod.mk.injEq] at h6
    rcases h6 with ⟨rfl, h7⟩ | ⟨rfl, h7⟩
    · obtain ⟨o2, N2, c2, s2, f1, f2, f3, f4, f5, f6⟩ := kF_M_job (q := 0) (xs (i + 1 : Int32).toNatClampNeg) (xs (i + 2 : Int32).toNatClampNeg) S1 14 570 (by decide) (by decide) N1 g2 (b, S2) h2 0 0
      have f4 : o2 = .inl (some (.long b)) := f4
      subst f4
      have hl1 : 453 < (N1).length := by have := (g2).1; omega
      have e2 : N2[0]? = some (200, jx_vi L xs) := (f3.2 0 (by omega) (by omega)).trans e0
      have e3 : N2[453]? = some (jl_out w) := (f3.2 453 (by omega) (by omega)).trans e1
      have e4 : N2[215]? = some (9, .int (S2.1 215 0) :: _) := mm_ka f2 kc_215
      rw [h7] at e4
      simp only [x_L, s_L, jn_x] at g5 g6 f5 f6
      obtain ⟨oo, p1, p2⟩ := kk S2 N2 w (dc + c1 + c2) (ds + s1 + s2) h3 f2 e2 e3 (by omega) (by omega)
      exact ⟨oo, p1, jl_case_job hs e0 v0 v1 (jl_W_job_x11 (xs (i + 1 : Int32).toNatClampNeg) (xs (i + 2 : Int32).toNatClampNeg) 14 568 (by decide) (by decide) (mm_ka hm kc_24) g1 ga) (mm_ka g2 kc_215) f1 e4 e3 (fun q => absurd q (by decide)) p2⟩
    · obtain ⟨o2, N2, c2, s2, f1, f2, f3, f4, f5, f6⟩ := kF_M_job (q := 0) (xs (i + 1 : Int32).toNatClampNeg) (xs (i + 2 : Int32).toNatClampNeg) S1 14 570 (by decide) (by decide) N1 g2 (b, S2) h2 0 0
      have f4 : o2 = .inl (some (.long b)) := f4
      subst f4
      have hl1 : 453 < (N1).length := by have := (g2).1; omega
      have e2 : N2[0]? = some (200, jx_vi L xs) := (f3.2 0 (by omega) (by omega)).trans e0
      have e3 : N2[453]? = some (jl_out w) := (f3.2 453 (by omega) (by omega)).trans e1
      have e4 : N2[215]? = some (9, .int (S2.1 215 0) :: _) := mm_ka f2 kc_215
      rw [h7] at e4
      simp only [x_L, s_L, jn_x] at g5 g6 f5 f6
      obtain ⟨oo, p1, p2⟩ := kk S2 N2 w (dc + c1 + c2) (ds + s1 + s2) h3 f2 e2 e3 (by omega) (by omega)
      exact ⟨oo, p1, jl_case_job hs e0 v0 v1 (jl_W_job_x14 (xs (i + 1 : Int32).toNatClampNeg) (xs (i + 2 : Int32).toNatClampNeg) 14 568 (by decide) (by decide) (mm_ka hm kc_24) g1 ga) (mm_ka g2 kc_215) f1 e4 e3 (fun q => absurd q (by decide)) p2⟩
def Oq_start (R R' : jS → Prop) : Prop := ∀ (p0 : Int32) (p1 : Int32) (S : jS), R S → ∃ z b S2, F_J_start p0 p1 S = some z ∧ F_M_start p0 p1 z.2 = some (b, S2) ∧ R' S2 ∧ jE [(11, 1), (14, 2)] z.1 (S2.1 215 0) b
def Ok_start (R : jS → Prop) : Prop := Oq_start R R
set_option maxRecDepth 20000 in
theorem gl_start {R R' : jS → Prop} (hR : Oq_start R R') {N : jx_H} {L : Nat} {xs : Nat → Int32} {i : Int32} {S : jS} {w : Int64} {dc ds : Nat} {P : jx_O → Prop} (hs : N[0]? = some (200, jx_vi L xs)) (hm : mm 0 S N) (hr : R S) (ho : N[453]? = some (jl_out w)) (v0 : vp_in (i + 1) L) (v1 : vp_in (i + 2) L) (kk : ∀ S2 N2 w2 dc2 ds2, R' S2 → mm 0 S2 N2 → N2[0]? = some (200, jx_vi L xs) → N2[453]? = some (jl_out w2) → dc2 ≤ dc + 4 → ds2 ≤ ds + 32 → ∃ o, P o ∧ jt jp_W_law 15 592 1771 [(0, .ref 0), (1, .ref 24), (2, .ref 215), (3, .ref 453), (4, .int i)] [] N2 dc2 ds2 o) : ∃ o, P o ∧ jt jp_W_law 15 592 1649 [(0, .ref 0), (1, .ref 24), (2, .ref 215), (3, .ref 453), (4, .int i)] [] N dc ds o := by
  obtain ⟨z, b, S2, h1, h2, h3, h4⟩ := hR (xs (i + 1 : Int32).toNatClampNeg) (xs (i + 2 : Int32).toNatClampNeg) S  hr
  obtain ⟨o1, N1, c1, s1, g1, g2, g3, g4, g5, g6⟩ := kF_J_start (q := 0) (xs (i + 1 : Int32).toNatClampNeg) (xs (i + 2 : Int32).toNatClampNeg) S 13 546 (by decide) (by decide) N hm z h1 0 0
  have hl := hm.1
  have hl2 := g2.1
  have e0 : N1[0]? = some (200, jx_vi L xs) := (g3.2 0 (by omega) (by omega)).trans hs
  have e1 : N1[453]? = some (jl_out w) := (g3.2 453 (by omega) (by omega)).trans ho
  obtain ⟨r, S1⟩ := z
  cases r with
  | inl v =>
    obtain ⟨h4, h5⟩ := (h4 : S2.1 215 0 = 0 ∧ v = b)
    have g4 : o1 = .inl (some (.long v)) := g4
    subst g4
    have gm := mm_out (jl_out v) g2
    obtain ⟨o2, N2, c2, s2, f1, f2, f3, f4, f5, f6⟩ := kF_M_start (q := 0) (xs (i + 1 : Int32).toNatClampNeg) (xs (i + 2 : Int32).toNatClampNeg) S1 14 570 (by decide) (by decide) (N1.set 453 (jl_out v)) gm (b, S2) h2 0 0
    have f4 : o2 = .inl (some (.long b)) := f4
    subst f4
    have hl1 : 453 < (N1.set 453 (jl_out v)).length := by have := (gm).1; omega
    have e2 : N2[0]? = some (200, jx_vi L xs) := (f3.2 0 (by omega) (by omega)).trans (by rw [List.getElem?_set_ne (by decide)]; exact e0)
    have e3 : N2[453]? = some (jl_out v) := (f3.2 453 (by omega) (by omega)).trans (List.getElem?_set_self (by omega))
    have e4 : N2[215]? = some (9, .int (S2.1 215 0) :: _) := mm_ka f2 kc_215
    rw [h4] at e4
    simp only [x_L, s_L, jn_x] at g5 g6 f5 f6
    obtain ⟨oo, p1, p2⟩ := kk S2 N2 v (dc + c1 + c2) (ds + s1 + s2) h3 f2 e2 e3 (by omega) (by omega)
    exact ⟨oo, p1, jl_case_start hs (by rw [List.getElem?_set_ne (by decide)]; exact e0) v0 v1 (jl_W_start_ok (xs (i + 1 : Int32).toNatClampNeg) (xs (i + 2 : Int32).toNatClampNeg) 14 568 (by decide) (by decide) (mm_ka hm kc_24) g1 e1) (mm_ka gm kc_215) f1 e4 e3 (fun _ => by rw [h5]) p2⟩
  | inr c =>
    obtain ⟨ad, g4, ga⟩ := g4
    subst g4
    have h6 : (c, S2.1 215 0) ∈ ([(11, 1), (14, 2)] : List (Nat × Int32)) := h4
    simp only [List.mem_cons, List.not_mem_nil, or_false, Prod.mk.injEq] at h6
    rcases h6 with ⟨rfl, h7⟩ | ⟨rfl, h7⟩
    · obtain ⟨o2, N2, c2, s2, f1, f2, f3, f4, f5, f6⟩ := kF_M_start (q := 0) (xs (i + 1 : Int32).toNatClampNeg) (xs (i + 2 : Int32).toNatClampNeg) S1 14 570 (by decide) (by decide) N1 g2 (b, S2) h2 0 0
      have f4 : o2 = .inl (some (.long b)) := f4
      subst f4
      have hl1 : 453 < (N1).length := by have := (g2).1; omega
      have e2 : N2[0]? = some (200, jx_vi L xs) := (f3.2 0 (by omega) (by omega)).trans e0
      have e3 : N2[453]? = some (jl_out w) := (f3.2 453 (by omega) (by omega)).trans e1
      have e4 : N2[215]? = some (9, .int (S2.1 215 0) :: _) := mm_ka f2 kc_215
      rw [h7] at e4
      simp only [x_L, s_L, jn_x] at g5 g6 f5 f6
      obtain ⟨oo, p1, p2⟩ := kk S2 N2 w (dc + c1 + c2) (ds + s1 + s2) h3 f2 e2 e3 (by omega) (by omega)
      exact ⟨oo, p1, jl_case_start hs e0 v0 v1 (jl_W_start_x11 (xs (i + 1 : Int32).toNatClampNeg) (xs (i + 2 : Int32).toNatClampNeg) 14 568 (by decide) (by decide) (mm_ka hm kc_24) g1 ga) (mm_ka g2 kc_215) f1 e4 e3 (fun q => absurd q (by decide)) p2⟩
    · obtain ⟨o2, N2, c2, s2, f1, f2, f3, f4, f5, f6⟩ := kF_M_start (q := 0) (xs (i + 1 : Int32).toNatClampNeg) (xs (i + 2 : Int32).toNatClampNeg) S1 14 570 (by decide) (by decide) N1 g2 (b, S2) h2 0 0
      have f4 : o2 = .inl (some (.long b)) := f4
      subst f4
      have hl1 : 453 < (N1).length := by have := (g2).1; omega
      have e2 : N2[0]? = some (200, jx_vi L xs) := (f3.2 0 (by omega) (by omega)).trans e0
      have e3 : N2[453]? = some (jl_out w) := (f3.2 453 (by omega) (by omega)).trans e1
      have e4 : N2[215]? = some (9, .int (S2.1 215 0) :: _) := mm_ka f2 kc_215
      rw [h7] at e4
      simp only [x_L, s_L, jn_x] at g5 g6 f5 f6
      obtain ⟨oo, p1, p2⟩ := kk S2 N2 w (dc + c1 + c2) (ds + s1 + s2) h3 f2 e2 e3 (by omega) (by omega)
      exact ⟨oo, p1, jl_case_start hs e0 v0 v1 (jl_W_start_x14 (xs (i + 1 : Int32).toNatClampNeg) (xs (i + 2 : Int32).toNatClampNeg) 14 568 (by decide) (by decide) (mm_ka hm kc_24) g1 ga) (mm_ka g2 kc_215) f1 e4 e3 (fun q => absurd q (by decide)) p2⟩
def Oq_count (R R' : jS → Prop) : Prop := ∀ (p0 : Int32) (S : jS), R S → ∃ z b S2, F_J_count p0 S = some z ∧ F_M_count p0 z.2 = some (b, S2) ∧ R' S2 ∧ jE [(11, 1)] z.1 (S2.1 215 0) b
def Ok_count (R : jS → Prop) : Prop := Oq_count R R
set_option maxRecDepth 20000 in
theorem gl_count {R R' : jS → Prop} (hR : Oq_count R R') {N : jx_H} {L : Nat} {xs : Nat → Int32} {i : Int32} {S : jS} {w : Int64} {dc ds : Nat} {P : jx_O → Prop} (hs : N[0]? = some (200, jx_vi L xs)) (hm : mm 0 S N) (hr : R S) (ho : N[453]? = some (jl_out w)) (v0 : vp_in (i + 1) L) (kk : ∀ S2 N2 w2 dc2 ds2, R' S2 → mm 0 S2 N2 → N2[0]? = some (200, jx_vi L xs) → N2[453]? = some (jl_out w2) → dc2 ≤ dc + 4 → ds2 ≤ ds + 32 → ∃ o, P o ∧ jt jp_W_law 15 592 1771 [(0, .ref 0), (1, .ref 24), (2, .ref 215), (3, .ref 453), (4, .int i)] [] N2 dc2 ds2 o) : ∃ o, P o ∧ jt jp_W_law 15 592 1716 [(0, .ref 0), (1, .ref 24), (2, .ref 215), (3, .ref 453), (4, .int i)] [] N dc ds o := by
  obtain ⟨z, b, S2, h1, h2, h3, h4⟩ := hR (xs (i + 1 : Int32).toNatClampNeg) S  hr
  obtain ⟨o1, N1, c1, s1, g1, g2, g3, g4, g5, g6⟩ := kF_J_count (q := 0) (xs (i + 1 : Int32).toNatClampNeg) S 13 548 (by decide) (by decide) N hm z h1 0 0
  have hl := hm.1
  have hl2 := g2.1
  have e0 : N1[0]? = some (200, jx_vi L xs) := (g3.2 0 (by omega) (by omega)).trans hs
  have e1 : N1[453]? = some (jl_out w) := (g3.2 453 (by omega) (by omega)).trans ho
  obtain ⟨r, S1⟩ := z
  cases r with
  | inl v =>
    obtain ⟨h4, h5⟩ := (h4 : S2.1 215 0 = 0 ∧ v = b)
    have g4 : o1 = .inl (some (.long v)) := g4
    subst g4
    have gm := mm_out (jl_out v) g2
    obtain ⟨o2, N2, c2, s2, f1, f2, f3, f4, f5, f6⟩ := kF_M_count (q := 0) (xs (i + 1 : Int32).toNatClampNeg) S1 14 571 (by decide) (by decide) (N1.set 453 (jl_out v)) gm (b, S2) h2 0 0
    have f4 : o2 = .inl (some (.long b)) := f4
    subst f4
    have hl1 : 453 < (N1.set 453 (jl_out v)).length := by have := (gm).1; omega
    have e2 : N2[0]? = some (200, jx_vi L xs) := (f3.2 0 (by omega) (by omega)).trans (by rw [List.getElem?_set_ne (by decide)]; exact e0)
    have e3 : N2[453]? = some (jl_out v) := (f3.2 453 (by omega) (by omega)).trans (List.getElem?_set_self (by omega))
    have e4 : N2[215]? = some (9, .int (S2.1 215 0) :: _) := mm_ka f2 kc_215
    rw [h4] at e4
    simp only [x_L, s_L, jn_x] at g5 g6 f5 f6
    obtain ⟨oo, p1, p2⟩ := kk S2 N2 v (dc + c1 + c2) (ds + s1 + s2) h3 f2 e2 e3 (by omega) (by omega)
    exact ⟨oo, p1, jl_case_count hs (by rw [List.getElem?_set_ne (by decide)]; exact e0) v0 (jl_W_count_ok (xs (i + 1 : Int32).toNatClampNeg) 14 569 (by decide) (by decide) (mm_ka hm kc_24) g1 e1) (mm_ka gm kc_215) f1 e4 e3 (fun _ => by rw [h5]) p2⟩
  | inr c =>
    obtain ⟨ad, g4, ga⟩ := g4
    subst g4
    have h6 : (c, S2.1 215 0) ∈ ([(11, 1)] : List (Nat × Int32)) := h4
    simp only [List.mem_cons, List.not_mem_nil, or_false, Prod.mk.injEq] at h6
    obtain ⟨rfl, h7⟩ := h6
    obtain ⟨o2, N2, c2, s2, f1, f2, f3, f4, f5, f6⟩ := kF_M_count (q := 0) (xs (i + 1 : Int32).toNatClampNeg) S1 14 571 (by decide) (by decide) N1 g2 (b, S2) h2 0 0
    have f4 : o2 = .inl (some (.long b)) := f4
    subst f4
    have hl1 : 453 < (N1).length := by have := (g2).1; omega
    have e2 : N2[0]? = some (200, jx_vi L xs) := (f3.2 0 (by omega) (by omega)).trans e0
    have e3 : N2[453]? = some (jl_out w) := (f3.2 453 (by omega) (by omega)).trans e1
    have e4 : N2[215]? = some (9, .int (S2.1 215 0) :: _) := mm_ka f2 kc_215
    rw [h7] at e4
    simp only [x_L, s_L, jn_x] at g5 g6 f5 f6
    obtain ⟨oo, p1, p2⟩ := kk S2 N2 w (dc + c1 + c2) (ds + s1 + s2) h3 f2 e2 e3 (by omega) (by omega)
    exact ⟨oo, p1, jl_case_count hs e0 v0 (jl_W_count_x11 (xs (i + 1 : Int32).toNatClampNeg) 14 569 (by decide) (by decide) (mm_ka hm kc_24) g1 ga) (mm_ka g2 kc_215) f1 e4 e3 (fun q => absurd q (by decide)) p2⟩
theorem gl_in {L : Nat} {i : Int32} (hL : L ≤ 5632) (h0 : 0 ≤ i.toInt) (h : ¬ Int32.ofNat L - 11 < i) (k : Nat) (hk : k < 11) : vp_in (i + Int32.ofNat k) L := by
  have e1 : (Int32.ofNat L).toInt = L := Int32.toInt_ofNat_of_lt (by omega)
  have e2 : (Int32.ofNat k).toInt = k := Int32.toInt_ofNat_of_lt (by omega)
  have e3 : (Int32.ofNat L - 11).toInt = L - 11 := by
    rw [Int32.toInt_sub, e1]
    exact Int.bmod_eq_of_le (by simp; omega) (by simp; omega)
  rw [Int32.lt_iff_toInt_lt, e3] at h
  have e4 : (i + Int32.ofNat k).toInt = i.toInt + k := by
    rw [Int32.toInt_add, e2]
    exact Int.bmod_eq_of_le (by simp; omega) (by simp; omega)
  intro q
  rcases q with q | q
  · rw [Int32.lt_iff_toInt_lt, e4] at q
    simp at q
    omega
  · rw [Int32.toNatClampNeg, e4] at q
    omega
set_option maxRecDepth 20000 in
theorem gl_sw {R R' : jS → Prop} (hmo : ∀ S, R S → R' S) (h0 : Oq_feed R R') (h1 : Oq_end R R') (h2 : Oq_zone R R') (h3 : Oq_cron R R') (h4 : Oq_holiday R R') (h5 : Oq_next R R') (h6 : Oq_last R R') (h7 : Oq_local R R') (h8 : Oq_make R R') (h9 : Oq_makeCron R R') (h10 : Oq_cancel R R') (h11 : Oq_workers R R') (h12 : Oq_advance R R') (h13 : Oq_stall R R') (h14 : Oq_close R R') (h15 : Oq_job R R') (h16 : Oq_start R R') (h17 : Oq_count R R') {N : jx_H} {L : Nat} {xs : Nat → Int32} {i : Int32} {S : jS} {w : Int64} {dc ds : Nat} {P : jx_O → Prop} (hs : N[0]? = some (200, jx_vi L xs)) (hm : mm 0 S N) (hr : R S) (ho : N[453]? = some (jl_out w)) (u1 : vp_in (i + 1) L) (u2 : vp_in (i + 2) L) (u3 : vp_in (i + 3) L) (u4 : vp_in (i + 4) L) (u5 : vp_in (i + 5) L) (u6 : vp_in (i + 6) L) (u7 : vp_in (i + 7) L) (u8 : vp_in (i + 8) L) (u9 : vp_in (i + 9) L) (u10 : vp_in (i + 10) L) (kk : ∀ S2 N2 w2 dc2 ds2, R' S2 → mm 0 S2 N2 → N2[0]? = some (200, jx_vi L xs) → N2[453]? = some (jl_out w2) → dc2 ≤ dc + 4 → ds2 ≤ ds + 32 → ∃ o, P o ∧ jt jp_W_law 15 592 1771 [(0, .ref 0), (1, .ref 24), (2, .ref 215), (3, .ref 453), (4, .int i)] [] N2 dc2 ds2 o) (x : Int32) : ∃ o, P o ∧ jt jp_W_law 15 592 40 [(0, .ref 0), (1, .ref 24), (2, .ref 215), (3, .ref 453), (4, .int i)] [.int x] N dc ds o := by
  by_cases c0 : x = 0
  · obtain ⟨o, p1, p2⟩ := gl_feed h0 hs hm hr ho u1 u2 u3 u4 u5 kk
    exact ⟨o, p1, jt_tabEq (t := 128) (off := 88) rfl c0 (by decide) rfl rfl p2⟩
  by_cases c1 : x = 1
  · obtain ⟨o, p1, p2⟩ := gl_end h1 hs hm hr ho u1 kk
    exact ⟨o, p1, jt_tabEq (t := 232) (off := 192) rfl c1 (by decide) rfl rfl p2⟩
  by_cases c2 : x = 2
  · obtain ⟨o, p1, p2⟩ := gl_zone h2 hs hm hr ho u1 kk
    exact ⟨o, p1, jt_tabEq (t := 288) (off := 248) rfl c2 (by decide) rfl rfl p2⟩
  by_cases c3 : x = 3
  · obtain ⟨o, p1, p2⟩ := gl_cron h3 hs hm hr ho u1 kk
    exact ⟨o, p1, jt_tabEq (t := 324) (off := 284) rfl c3 (by decide) rfl rfl p2⟩
  by_cases c4 : x = 4
  · by_cases d1 : (xs (i + 3 : Int32).toNatClampNeg) = 0
    · obtain ⟨o, p1, p2⟩ := gl_holiday_0 h4 hs hm hr ho u1 u2 u3 d1 kk
      exact ⟨o, p1, jt_tabEq (t := 360) (off := 320) rfl c4 (by decide) rfl rfl p2⟩
    · obtain ⟨o, p1, p2⟩ := gl_holiday_1 h4 hs hm hr ho u1 u2 u3 d1 kk
      exact ⟨o, p1, jt_tabEq (t := 360) (off := 320) rfl c4 (by decide) rfl rfl p2⟩
  by_cases c5 : x = 5
  · obtain ⟨o, p1, p2⟩ := gl_next h5 hs hm hr ho u1 u2 u3 u4 u5 kk
    exact ⟨o, p1, jt_tabEq (t := 456) (off := 416) rfl c5 (by decide) rfl rfl p2⟩
  by_cases c6 : x = 6
  · obtain ⟨o, p1, p2⟩ := gl_last h6 hs hm hr ho u1 u2 u3 u4 u5 kk
    exact ⟨o, p1, jt_tabEq (t := 579) (off := 539) rfl c6 (by decide) rfl rfl p2⟩
  by_cases c7 : x = 7
  · obtain ⟨o, p1, p2⟩ := gl_local h7 hs hm hr ho u1 u2 u3 u4 kk
    exact ⟨o, p1, jt_tabEq (t := 702) (off := 662) rfl c7 (by decide) rfl rfl p2⟩
  by_cases c8 : x = 8
  · obtain ⟨o, p1, p2⟩ := gl_make h8 hs hm hr ho u1 u2 u3 u4 u5 u6 u7 u8 u9 u10 kk
    exact ⟨o, p1, jt_tabEq (t := 814) (off := 774) rfl c8 (by decide) rfl rfl p2⟩
  by_cases c9 : x = 9
  · obtain ⟨o, p1, p2⟩ := gl_makeCron h9 hs hm hr ho u1 u2 u3 u4 u5 u6 u7 u8 kk
    exact ⟨o, p1, jt_tabEq (t := 1048) (off := 1008) rfl c9 (by decide) rfl rfl p2⟩
  by_cases c10 : x = 10
  · obtain ⟨o, p1, p2⟩ := gl_cancel h10 hs hm hr ho u1 kk
    exact ⟨o, p1, jt_tabEq (t := 1214) (off := 1174) rfl c10 (by decide) rfl rfl p2⟩
  by_cases c11 : x = 11
  · obtain ⟨o, p1, p2⟩ := gl_workers h11 hs hm hr ho u1 kk
    exact ⟨o, p1, jt_tabEq (t := 1270) (off := 1230) rfl c11 (by decide) rfl rfl p2⟩
  by_cases c12 : x = 12
  · obtain ⟨o, p1, p2⟩ := gl_advance h12 hs hm hr ho u1 u2 kk
    exact ⟨o, p1, jt_tabEq (t := 1326) (off := 1286) rfl c12 (by decide) rfl rfl p2⟩
  by_cases c13 : x = 13
  · obtain ⟨o, p1, p2⟩ := gl_stall h13 hs hm hr ho u1 u2 kk
    exact ⟨o, p1, jt_tabEq (t := 1414) (off := 1374) rfl c13 (by decide) rfl rfl p2⟩
  by_cases c14 : x = 14
  · by_cases d1 : (xs (i + 1 : Int32).toNatClampNeg) = 0
    · by_cases d2 : (xs (i + 2 : Int32).toNatClampNeg) = 0
      · obtain ⟨o, p1, p2⟩ := gl_close_00 h14 hs hm hr ho u1 d1 u2 d2 kk
        exact ⟨o, p1, jt_tabEq (t := 1482) (off := 1442) rfl c14 (by decide) rfl rfl p2⟩
      · obtain ⟨o, p1, p2⟩ := gl_close_01 h14 hs hm hr ho u1 d1 u2 d2 kk
        exact ⟨o, p1, jt_tabEq (t := 1482) (off := 1442) rfl c14 (by decide) rfl rfl p2⟩
    · by_cases d2 : (xs (i + 2 : Int32).toNatClampNeg) = 0
      · obtain ⟨o, p1, p2⟩ := gl_close_10 h14 hs hm hr ho u1 d1 u2 d2 kk
        exact ⟨o, p1, jt_tabEq (t := 1482) (off := 1442) rfl c14 (by decide) rfl rfl p2⟩
      · obtain ⟨o, p1, p2⟩ := gl_close_11 h14 hs hm hr ho u1 d1 u2 d2 kk
        exact ⟨o, p1, jt_tabEq (t := 1482) (off := 1442) rfl c14 (by decide) rfl rfl p2⟩
  by_cases c15 : x = 15
  · obtain ⟨o, p1, p2⟩ := gl_job h15 hs hm hr ho u1 u2 kk
    exact ⟨o, p1, jt_tabEq (t := 1582) (off := 1542) rfl c15 (by decide) rfl rfl p2⟩
  by_cases c16 : x = 16
  · obtain ⟨o, p1, p2⟩ := gl_start h16 hs hm hr ho u1 u2 kk
    exact ⟨o, p1, jt_tabEq (t := 1649) (off := 1609) rfl c16 (by decide) rfl rfl p2⟩
  by_cases c17 : x = 17
  · obtain ⟨o, p1, p2⟩ := gl_count h17 hs hm hr ho u1 kk
    exact ⟨o, p1, jt_tabEq (t := 1716) (off := 1676) rfl c17 (by decide) rfl rfl p2⟩
  obtain ⟨o, p1, p2⟩ := kk S N w dc ds (hmo _ hr) hm hs ho (by omega) (by omega)
  exact ⟨o, p1, jt_tabOut (t := 1771) rfl (by have q0 := lv_neT c0 (a := 0) rfl; have q1 := lv_neT c1 (a := 1) rfl; have q2 := lv_neT c2 (a := 2) rfl; have q3 := lv_neT c3 (a := 3) rfl; have q4 := lv_neT c4 (a := 4) rfl; have q5 := lv_neT c5 (a := 5) rfl; have q6 := lv_neT c6 (a := 6) rfl; have q7 := lv_neT c7 (a := 7) rfl; have q8 := lv_neT c8 (a := 8) rfl; have q9 := lv_neT c9 (a := 9) rfl; have q10 := lv_neT c10 (a := 10) rfl; have q11 := lv_neT c11 (a := 11) rfl; have q12 := lv_neT c12 (a := 12) rfl; have q13 := lv_neT c13 (a := 13) rfl; have q14 := lv_neT c14 (a := 14) rfl; have q15 := lv_neT c15 (a := 15) rfl; have q16 := lv_neT c16 (a := 16) rfl; have q17 := lv_neT c17 (a := 17) rfl; omega) rfl p2⟩
theorem gl_loop {RR : Nat → jS → Prop} (hmo : ∀ m, m < 512 → ∀ S, RR m S → RR (m + 1) S) (h0 : ∀ m, m < 512 → Oq_feed (RR m) (RR (m + 1))) (h1 : ∀ m, m < 512 → Oq_end (RR m) (RR (m + 1))) (h2 : ∀ m, m < 512 → Oq_zone (RR m) (RR (m + 1))) (h3 : ∀ m, m < 512 → Oq_cron (RR m) (RR (m + 1))) (h4 : ∀ m, m < 512 → Oq_holiday (RR m) (RR (m + 1))) (h5 : ∀ m, m < 512 → Oq_next (RR m) (RR (m + 1))) (h6 : ∀ m, m < 512 → Oq_last (RR m) (RR (m + 1))) (h7 : ∀ m, m < 512 → Oq_local (RR m) (RR (m + 1))) (h8 : ∀ m, m < 512 → Oq_make (RR m) (RR (m + 1))) (h9 : ∀ m, m < 512 → Oq_makeCron (RR m) (RR (m + 1))) (h10 : ∀ m, m < 512 → Oq_cancel (RR m) (RR (m + 1))) (h11 : ∀ m, m < 512 → Oq_workers (RR m) (RR (m + 1))) (h12 : ∀ m, m < 512 → Oq_advance (RR m) (RR (m + 1))) (h13 : ∀ m, m < 512 → Oq_stall (RR m) (RR (m + 1))) (h14 : ∀ m, m < 512 → Oq_close (RR m) (RR (m + 1))) (h15 : ∀ m, m < 512 → Oq_job (RR m) (RR (m + 1))) (h16 : ∀ m, m < 512 → Oq_start (RR m) (RR (m + 1))) (h17 : ∀ m, m < 512 → Oq_count (RR m) (RR (m + 1))) {L : Nat} {xs : Nat → Int32} (hL : L ≤ 5632) : ∀ (n m : Nat) (N : jx_H) (S : jS) (w : Int64) (dc ds : Nat), 512 < m + n → m ≤ 512 → N[0]? = some (200, jx_vi L xs) → mm 0 S N → RR m S → N[453]? = some (jl_out w) → dc ≤ 430 + 4 * m → ds ≤ 540387 + 32 * m → ∃ o, (∃ N' c s, o = (.inl (some (.int 1)), N', c, s) ∧ c ≤ 601024 ∧ s ≤ 7293034) ∧ jt jp_W_law 15 592 23 [(0, .ref 0), (1, .ref 24), (2, .ref 215), (3, .ref 453), (4, .int (Int32.ofNat (11 * m)))] [] N dc ds o := by
  intro n
  induction n with
  | zero => intro m N S w dc ds r1 r2; omega
  | succ n ih =>
    intro m N S w dc ds r1 r2 hs hm hr ho hc hd
    have e0 : (Int32.ofNat (11 * m)).toInt = (11 * m : Nat) := Int32.toInt_ofNat_of_lt (by omega)
    by_cases c : Int32.ofNat L - 11 < Int32.ofNat (11 * m)
    · exact ⟨_, ⟨N, dc, ds, rfl, by omega, by omega⟩, jl_out_ hs c rfl⟩
    · have hv := fun k (hk : k < 11) => gl_in hL (by rw [e0]; omega) c k hk
      have hin : vp_in (Int32.ofNat (11 * m)) L := by
        have := hv 0 (by decide)
        rwa [show Int32.ofNat (11 * m) + Int32.ofNat 0 = Int32.ofNat (11 * m) from Int32.add_zero _] at this
      have hm2 : m < 512 := by
        have := jx_vb hin
        rw [Int32.toNatClampNeg, e0] at this
        omega
      obtain ⟨o, p1, p2⟩ := gl_sw (hmo m hm2) (h0 m hm2) (h1 m hm2) (h2 m hm2) (h3 m hm2) (h4 m hm2) (h5 m hm2) (h6 m hm2) (h7 m hm2) (h8 m hm2) (h9 m hm2) (h10 m hm2) (h11 m hm2) (h12 m hm2) (h13 m hm2) (h14 m hm2) (h15 m hm2) (h16 m hm2) (h17 m hm2) (w := w) (dc := dc) (ds := ds) (P := fun o => ∃ N' c s, o = (.inl (some (.int 1)), N', c, s) ∧ c ≤ 601024 ∧ s ≤ 7293034) hs hm hr ho (hv 1 (by decide)) (hv 2 (by decide)) (hv 3 (by decide)) (hv 4 (by decide)) (hv 5 (by decide)) (hv 6 (by decide)) (hv 7 (by decide)) (hv 8 (by decide)) (hv 9 (by decide)) (hv 10 (by decide)) (fun S2 N2 w2 dc2 ds2 k1 k2 k3 k4 k5 k6 => by
        obtain ⟨o, p1, p2⟩ := ih (m + 1) N2 S2 w2 dc2 ds2 (by omega) (by omega) k3 k2 k1 k4 (by omega) (by omega)
        refine ⟨o, p1, jl_nx_ ?_⟩
        rw [show Int32.ofNat (11 * m) + 11 = Int32.ofNat (11 * (m + 1)) by
          rw [show 11 * (m + 1) = 11 * m + 11 by omega, Int32.ofNat_add]
          rfl]
        exact p2) (xs (Int32.ofNat (11 * m)).toNatClampNeg &&& 31)
      exact ⟨o, p1, jl_in_ hs c hin p2⟩
/-- the claim, if every call keeps R -/
theorem gl_goal {RR : Nat → jS → Prop} (hmo : ∀ m, m < 512 → ∀ S, RR m S → RR (m + 1) S) (h0 : ∀ m, m < 512 → Oq_feed (RR m) (RR (m + 1))) (h1 : ∀ m, m < 512 → Oq_end (RR m) (RR (m + 1))) (h2 : ∀ m, m < 512 → Oq_zone (RR m) (RR (m + 1))) (h3 : ∀ m, m < 512 → Oq_cron (RR m) (RR (m + 1))) (h4 : ∀ m, m < 512 → Oq_holiday (RR m) (RR (m + 1))) (h5 : ∀ m, m < 512 → Oq_next (RR m) (RR (m + 1))) (h6 : ∀ m, m < 512 → Oq_last (RR m) (RR (m + 1))) (h7 : ∀ m, m < 512 → Oq_local (RR m) (RR (m + 1))) (h8 : ∀ m, m < 512 → Oq_make (RR m) (RR (m + 1))) (h9 : ∀ m, m < 512 → Oq_makeCron (RR m) (RR (m + 1))) (h10 : ∀ m, m < 512 → Oq_cancel (RR m) (RR (m + 1))) (h11 : ∀ m, m < 512 → Oq_workers (RR m) (RR (m + 1))) (h12 : ∀ m, m < 512 → Oq_advance (RR m) (RR (m + 1))) (h13 : ∀ m, m < 512 → Oq_stall (RR m) (RR (m + 1))) (h14 : ∀ m, m < 512 → Oq_close (RR m) (RR (m + 1))) (h15 : ∀ m, m < 512 → Oq_job (RR m) (RR (m + 1))) (h16 : ∀ m, m < 512 → Oq_start (RR m) (RR (m + 1))) (h17 : ∀ m, m < 512 → Oq_count (RR m) (RR (m + 1))) {L : Nat} {xs : Nat → Int32} (hL : L ≤ 5632) (S0 : jS) (hr : RR 0 S0) (hb : ∀ N, jx_fq (jx_C (200, jx_vi L xs)) ja_h6 N → mm 0 S0 N ∧ N[0]? = some (200, jx_vi L xs) ∧ N[453]? = some (jl_out 0)) : jx_goal L xs := by
  obtain ⟨N, f, k⟩ := jl_begin L xs
  obtain ⟨q1, q2, q3⟩ := hb N f
  obtain ⟨o, ⟨N', c, s, rfl, hc, hs⟩, hj⟩ := gl_loop hmo h0 h1 h2 h3 h4 h5 h6 h7 h8 h9 h10 h11 h12 h13 h14 h15 h16 h17 hL 513 0 N S0 0 430 540387 (by omega) (by omega) q2 q1 hr q3 (by omega) (by omega)
  obtain ⟨n, hn⟩ := k _ hj
  exact ⟨n, N', c, s, hn, hc, hs⟩
theorem Om_feed {R R' : jS → Prop} (h : Ok_feed R) (hm : ∀ S, R S → R' S) : Oq_feed R R' := by
  intro p0 p1 p2 p3 p4 S hr
  obtain ⟨z, b, S2, a1, a2, a3, a4⟩ := h p0 p1 p2 p3 p4 S hr
  exact ⟨z, b, S2, a1, a2, hm _ a3, a4⟩
theorem Om_end {R R' : jS → Prop} (h : Ok_end R) (hm : ∀ S, R S → R' S) : Oq_end R R' := by
  intro p0 S hr
  obtain ⟨z, b, S2, a1, a2, a3, a4⟩ := h p0 S hr
  exact ⟨z, b, S2, a1, a2, hm _ a3, a4⟩
theorem Om_zone {R R' : jS → Prop} (h : Ok_zone R) (hm : ∀ S, R S → R' S) : Oq_zone R R' := by
  intro p0 S hr
  obtain ⟨z, S2, a1, a2, a3, a4⟩ := h p0 S hr
  exact ⟨z, S2, a1, a2, hm _ a3, a4⟩
theorem Om_cron {R R' : jS → Prop} (h : Ok_cron R) (hm : ∀ S, R S → R' S) : Oq_cron R R' := by
  intro p0 S hr
  obtain ⟨z, S2, a1, a2, a3, a4⟩ := h p0 S hr
  exact ⟨z, S2, a1, a2, hm _ a3, a4⟩
theorem Om_holiday {R R' : jS → Prop} (h : Ok_holiday R) (hm : ∀ S, R S → R' S) : Oq_holiday R R' := by
  intro p0 p1 p2 S hv hr
  obtain ⟨z, b, S2, a1, a2, a3, a4⟩ := h p0 p1 p2 S hv hr
  exact ⟨z, b, S2, a1, a2, hm _ a3, a4⟩
theorem Om_next {R R' : jS → Prop} (h : Ok_next R) (hm : ∀ S, R S → R' S) : Oq_next R R' := by
  intro p0 p1 p2 p3 S hr
  obtain ⟨z, b, S2, a1, a2, a3, a4⟩ := h p0 p1 p2 p3 S hr
  exact ⟨z, b, S2, a1, a2, hm _ a3, a4⟩
theorem Om_last {R R' : jS → Prop} (h : Ok_last R) (hm : ∀ S, R S → R' S) : Oq_last R R' := by
  intro p0 p1 p2 p3 S hr
  obtain ⟨z, b, S2, a1, a2, a3, a4⟩ := h p0 p1 p2 p3 S hr
  exact ⟨z, b, S2, a1, a2, hm _ a3, a4⟩
theorem Om_local {R R' : jS → Prop} (h : Ok_local R) (hm : ∀ S, R S → R' S) : Oq_local R R' := by
  intro p0 p1 p2 S hr
  obtain ⟨z, b, S2, a1, a2, a3, a4⟩ := h p0 p1 p2 S hr
  exact ⟨z, b, S2, a1, a2, hm _ a3, a4⟩
theorem Om_make {R R' : jS → Prop} (h : Ok_make R) (hm : ∀ S, R S → R' S) : Oq_make R R' := by
  intro p0 p1 p2 p3 p4 p5 p6 S hr
  obtain ⟨z, b, S2, a1, a2, a3, a4⟩ := h p0 p1 p2 p3 p4 p5 p6 S hr
  exact ⟨z, b, S2, a1, a2, hm _ a3, a4⟩
theorem Om_makeCron {R R' : jS → Prop} (h : Ok_makeCron R) (hm : ∀ S, R S → R' S) : Oq_makeCron R R' := by
  intro p0 p1 p2 p3 p4 p5 p6 S hr
  obtain ⟨z, b, S2, a1, a2, a3, a4⟩ := h p0 p1 p2 p3 p4 p5 p6 S hr
  exact ⟨z, b, S2, a1, a2, hm _ a3, a4⟩
theorem Om_cancel {R R' : jS → Prop} (h : Ok_cancel R) (hm : ∀ S, R S → R' S) : Oq_cancel R R' := by
  intro p0 S hr
  obtain ⟨z, b, S2, a1, a2, a3, a4⟩ := h p0 S hr
  exact ⟨z, b, S2, a1, a2, hm _ a3, a4⟩
theorem Om_workers {R R' : jS → Prop} (h : Ok_workers R) (hm : ∀ S, R S → R' S) : Oq_workers R R' := by
  intro p0 S hr
  obtain ⟨z, b, S2, a1, a2, a3, a4⟩ := h p0 S hr
  exact ⟨z, b, S2, a1, a2, hm _ a3, a4⟩
theorem Om_advance {R R' : jS → Prop} (h : Ok_advance R) (hm : ∀ S, R S → R' S) : Oq_advance R R' := by
  intro p0 S hr
  obtain ⟨z, b, S2, a1, a2, a3, a4⟩ := h p0 S hr
  exact ⟨z, b, S2, a1, a2, hm _ a3, a4⟩
theorem Om_stall {R R' : jS → Prop} (h : Ok_stall R) (hm : ∀ S, R S → R' S) : Oq_stall R R' := by
  intro p0 S hr
  obtain ⟨z, S2, a1, a2, a3, a4⟩ := h p0 S hr
  exact ⟨z, S2, a1, a2, hm _ a3, a4⟩
theorem Om_close {R R' : jS → Prop} (h : Ok_close R) (hm : ∀ S, R S → R' S) : Oq_close R R' := by
  intro p0 p1 S hv hv2 hr
  obtain ⟨z, b, S2, a1, a2, a3, a4⟩ := h p0 p1 S hv hv2 hr
  exact ⟨z, b, S2, a1, a2, hm _ a3, a4⟩
theorem Om_job {R R' : jS → Prop} (h : Ok_job R) (hm : ∀ S, R S → R' S) : Oq_job R R' := by
  intro p0 p1 S hr
  obtain ⟨z, b, S2, a1, a2, a3, a4⟩ := h p0 p1 S hr
  exact ⟨z, b, S2, a1, a2, hm _ a3, a4⟩
theorem Om_start {R R' : jS → Prop} (h : Ok_start R) (hm : ∀ S, R S → R' S) : Oq_start R R' := by
  intro p0 p1 S hr
  obtain ⟨z, b, S2, a1, a2, a3, a4⟩ := h p0 p1 S hr
  exact ⟨z, b, S2, a1, a2, hm _ a3, a4⟩
theorem Om_count {R R' : jS → Prop} (h : Ok_count R) (hm : ∀ S, R S → R' S) : Oq_count R R' := by
  intro p0 S hr
  obtain ⟨z, b, S2, a1, a2, a3, a4⟩ := h p0 S hr
  exact ⟨z, b, S2, a1, a2, hm _ a3, a4⟩
end JGL
