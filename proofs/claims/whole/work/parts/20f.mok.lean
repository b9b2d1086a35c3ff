section JO
variable {S : State} {dA : Nat → ClassId} {sc aL aM : Nat} {adK : Nat → Nat}
theorem jd_W_law_0 : ∀ q ∈ (jp_W_law.2.2.2.2.2.drop 0).take 40, decode jp_W_law.2.1 q.1 = .ok (q.2.1, q.2.2.1) ∧ jx_lok q.2.1 q.2.2.1 = true := by decide +kernel
theorem jd_W_law_1 : ∀ q ∈ (jp_W_law.2.2.2.2.2.drop 40).take 40, decode jp_W_law.2.1 q.1 = .ok (q.2.1, q.2.2.1) ∧ jx_lok q.2.1 q.2.2.1 = true := by decide +kernel
theorem jd_W_law_2 : ∀ q ∈ (jp_W_law.2.2.2.2.2.drop 80).take 40, decode jp_W_law.2.1 q.1 = .ok (q.2.1, q.2.2.1) ∧ jx_lok q.2.1 q.2.2.1 = true := by decide +kernel
theorem jd_W_law_3 : ∀ q ∈ (jp_W_law.2.2.2.2.2.drop 120).take 40, decode jp_W_law.2.1 q.1 = .ok (q.2.1, q.2.2.1) ∧ jx_lok q.2.1 q.2.2.1 = true := by decide +kernel
theorem jd_W_law_4 : ∀ q ∈ (jp_W_law.2.2.2.2.2.drop 160).take 40, decode jp_W_law.2.1 q.1 = .ok (q.2.1, q.2.2.1) ∧ jx_lok q.2.1 q.2.2.1 = true := by decide +kernel
theorem jd_W_law_5 : ∀ q ∈ (jp_W_law.2.2.2.2.2.drop 200).take 40, decode jp_W_law.2.1 q.1 = .ok (q.2.1, q.2.2.1) ∧ jx_lok q.2.1 q.2.2.1 = true := by decide +kernel
theorem jd_W_law_6 : ∀ q ∈ (jp_W_law.2.2.2.2.2.drop 240).take 40, decode jp_W_law.2.1 q.1 = .ok (q.2.1, q.2.2.1) ∧ jx_lok q.2.1 q.2.2.1 = true := by decide +kernel
theorem jd_W_law_7 : ∀ q ∈ (jp_W_law.2.2.2.2.2.drop 280).take 40, decode jp_W_law.2.1 q.1 = .ok (q.2.1, q.2.2.1) ∧ jx_lok q.2.1 q.2.2.1 = true := by decide +kernel
theorem jd_W_law_8 : ∀ q ∈ (jp_W_law.2.2.2.2.2.drop 320).take 40, decode jp_W_law.2.1 q.1 = .ok (q.2.1, q.2.2.1) ∧ jx_lok q.2.1 q.2.2.1 = true := by decide +kernel
theorem jd_W_law_9 : ∀ q ∈ (jp_W_law.2.2.2.2.2.drop 360).take 40, decode jp_W_law.2.1 q.1 = .ok (q.2.1, q.2.2.1) ∧ jx_lok q.2.1 q.2.2.1 = true := by decide +kernel
theorem jd_W_law_10 : ∀ q ∈ (jp_W_law.2.2.2.2.2.drop 400).take 40, decode jp_W_law.2.1 q.1 = .ok (q.2.1, q.2.2.1) ∧ jx_lok q.2.1 q.2.2.1 = true := by decide +kernel
theorem jd_W_law_11 : ∀ q ∈ (jp_W_law.2.2.2.2.2.drop 440).take 40, decode jp_W_law.2.1 q.1 = .ok (q.2.1, q.2.2.1) ∧ jx_lok q.2.1 q.2.2.1 = true := by decide +kernel
theorem jd_W_law_12 : ∀ q ∈ (jp_W_law.2.2.2.2.2.drop 480).take 40, decode jp_W_law.2.1 q.1 = .ok (q.2.1, q.2.2.1) ∧ jx_lok q.2.1 q.2.2.1 = true := by decide +kernel
theorem jd_W_law_13 : ∀ q ∈ (jp_W_law.2.2.2.2.2.drop 520).take 40, decode jp_W_law.2.1 q.1 = .ok (q.2.1, q.2.2.1) ∧ jx_lok q.2.1 q.2.2.1 = true := by decide +kernel
theorem jd_W_law_14 : ∀ q ∈ (jp_W_law.2.2.2.2.2.drop 560).take 40, decode jp_W_law.2.1 q.1 = .ok (q.2.1, q.2.2.1) ∧ jx_lok q.2.1 q.2.2.1 = true := by decide +kernel
theorem jd_W_law_15 : ∀ q ∈ (jp_W_law.2.2.2.2.2.drop 600).take 40, decode jp_W_law.2.1 q.1 = .ok (q.2.1, q.2.2.1) ∧ jx_lok q.2.1 q.2.2.1 = true := by decide +kernel
theorem jd_W_law_16 : ∀ q ∈ (jp_W_law.2.2.2.2.2.drop 640).take 40, decode jp_W_law.2.1 q.1 = .ok (q.2.1, q.2.2.1) ∧ jx_lok q.2.1 q.2.2.1 = true := by decide +kernel
theorem jd_W_law_17 : ∀ q ∈ (jp_W_law.2.2.2.2.2.drop 680).take 40, decode jp_W_law.2.1 q.1 = .ok (q.2.1, q.2.2.1) ∧ jx_lok q.2.1 q.2.2.1 = true := by decide +kernel
theorem jd_W_law_18 : ∀ q ∈ (jp_W_law.2.2.2.2.2.drop 720).take 40, decode jp_W_law.2.1 q.1 = .ok (q.2.1, q.2.2.1) ∧ jx_lok q.2.1 q.2.2.1 = true := by decide +kernel
theorem jd_W_law_19 : ∀ q ∈ (jp_W_law.2.2.2.2.2.drop 760).take 40, decode jp_W_law.2.1 q.1 = .ok (q.2.1, q.2.2.1) ∧ jx_lok q.2.1 q.2.2.1 = true := by decide +kernel
theorem jd_W_law_20 : ∀ q ∈ (jp_W_law.2.2.2.2.2.drop 800).take 40, decode jp_W_law.2.1 q.1 = .ok (q.2.1, q.2.2.1) ∧ jx_lok q.2.1 q.2.2.1 = true := by decide +kernel
theorem jd_W_law_21 : ∀ q ∈ (jp_W_law.2.2.2.2.2.drop 840).take 40, decode jp_W_law.2.1 q.1 = .ok (q.2.1, q.2.2.1) ∧ jx_lok q.2.1 q.2.2.1 = true := by decide +kernel
theorem jd_W_law_22 : ∀ q ∈ (jp_W_law.2.2.2.2.2.drop 880).take 40, decode jp_W_law.2.1 q.1 = .ok (q.2.1, q.2.2.1) ∧ jx_lok q.2.1 q.2.2.1 = true := by decide +kernel
theorem jd_W_law_23 : ∀ q ∈ (jp_W_law.2.2.2.2.2.drop 920).take 40, decode jp_W_law.2.1 q.1 = .ok (q.2.1, q.2.2.1) ∧ jx_lok q.2.1 q.2.2.1 = true := by decide +kernel
theorem jd_W_law_24 : ∀ q ∈ (jp_W_law.2.2.2.2.2.drop 960).take 40, decode jp_W_law.2.1 q.1 = .ok (q.2.1, q.2.2.1) ∧ jx_lok q.2.1 q.2.2.1 = true := by decide +kernel
theorem jd_W_law_25 : ∀ q ∈ (jp_W_law.2.2.2.2.2.drop 1000).take 40, decode jp_W_law.2.1 q.1 = .ok (q.2.1, q.2.2.1) ∧ jx_lok q.2.1 q.2.2.1 = true := by decide +kernel
theorem jd_W_law_26 : ∀ q ∈ (jp_W_law.2.2.2.2.2.drop 1040).take 40, decode jp_W_law.2.1 q.1 = .ok (q.2.1, q.2.2.1) ∧ jx_lok q.2.1 q.2.2.1 = true := by decide +kernel
theorem jd_W_law_27 : ∀ q ∈ (jp_W_law.2.2.2.2.2.drop 1080).take 40, decode jp_W_law.2.1 q.1 = .ok (q.2.1, q.2.2.1) ∧ jx_lok q.2.1 q.2.2.1 = true := by decide +kernel
theorem jd_W_law_28 : ∀ q ∈ (jp_W_law.2.2.2.2.2.drop 1120).take 40, decode jp_W_law.2.1 q.1 = .ok (q.2.1, q.2.2.1) ∧ jx_lok q.2.1 q.2.2.1 = true := by decide +kernel
theorem jd_W_law : ∀ i, i < 29 → ∀ q ∈ (jp_W_law.2.2.2.2.2.drop (40 * i)).take 40, decode jp_W_law.2.1 q.1 = .ok (q.2.1, q.2.2.1) ∧ jx_lok q.2.1 q.2.2.1 = true := fun i hi => by
  match i, hi with
  | 0, _ => exact jd_W_law_0
  | 1, _ => exact jd_W_law_1
  | 2, _ => exact jd_W_law_2
  | 3, _ => exact jd_W_law_3
  | 4, _ => exact jd_W_law_4
  | 5, _ => exact jd_W_law_5
  | 6, _ => exact jd_W_law_6
  | 7, _ => exact jd_W_law_7
  | 8, _ => exact jd_W_law_8
  | 9, _ => exact jd_W_law_9
  | 10, _ => exact jd_W_law_10
  | 11, _ => exact jd_W_law_11
  | 12, _ => exact jd_W_law_12
  | 13, _ => exact jd_W_law_13
  | 14, _ => exact jd_W_law_14
  | 15, _ => exact jd_W_law_15
  | 16, _ => exact jd_W_law_16
  | 17, _ => exact jd_W_law_17
  | 18, _ => exact jd_W_law_18
  | 19, _ => exact jd_W_law_19
  | 20, _ => exact jd_W_law_20
  | 21, _ => exact jd_W_law_21
  | 22, _ => exact jd_W_law_22
  | 23, _ => exact jd_W_law_23
  | 24, _ => exact jd_W_law_24
  | 25, _ => exact jd_W_law_25
  | 26, _ => exact jd_W_law_26
  | 27, _ => exact jd_W_law_27
  | 28, _ => exact jd_W_law_28
  | k + 29, hi => exact absurd hi (by omega)
theorem jo_W_law (F : jx_SF S dA aL aM adK) : jx_mok S dA (jx_R1 sc aL aM adK) jx_df jx_P jp_W_law := jx_mk (sites := jl_W) (by decide +kernel) (⟨fun q hq => (by cases hq), fun q hq => (by cases hq)⟩) (jx_chunk 40 (by decide) 29 _ (by decide +kernel) jd_W_law) (by decide +kernel) (fun pc => js_W F _ pc) (jx_noth (by decide +kernel))
end JO
