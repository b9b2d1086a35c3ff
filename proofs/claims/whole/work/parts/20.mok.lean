section JO
variable {S : State} {dA : Nat → ClassId} {sc aL aM : Nat} {adK : Nat → Nat}
def jx_mem (r : Instr × List Nat × Value) (L : List (Instr × List Nat × Value)) : Bool := L.any (fun z => decide (z.1 = r.1) && (decide (z.2.1 = r.2.1) && decide (z.2.2 = r.2.2)))
theorem jx_mem_ok {r : Instr × List Nat × Value} {L : List (Instr × List Nat × Value)} (h : jx_mem r L = true) : r ∈ L := by
  obtain ⟨z, hz, h1⟩ := List.any_eq_true.mp h
  simp only [Bool.and_eq_true, decide_eq_true_eq] at h1
  have : z = r := by
    obtain ⟨z1, z2, z3⟩ := z
    obtain ⟨r1, r2, r3⟩ := r
    obtain ⟨e1, e2, e3⟩ := h1
    simp only at e1 e2 e3
    rw [e1, e2, e3]
  rw [← this]
  exact hz
def jx_chk (sites : List (Instr × List Nat × Value)) (L : List jx_L) : Bool := L.all (fun q => jx_pl q.2.1 q.2.2.2.2 || (jx_mem (q.2.1, q.2.2.2.1, q.2.2.2.2) sites || jx_thn q.2.1 q.2.2.2.1))
theorem jx_chk_ok {sites : List (Instr × List Nat × Value)} {L : List jx_L} (h : jx_chk sites L = true) : ∀ q ∈ L, jx_pl q.2.1 q.2.2.2.2 = true ∨ (q.2.1, q.2.2.2.1, q.2.2.2.2) ∈ sites ∨ jx_thn q.2.1 q.2.2.2.1 = true := fun q hq => by
  have := List.all_eq_true.mp h q hq
  simp only [Bool.or_eq_true] at this
  rcases this with a | a | a
  · exact Or.inl a
  · exact Or.inr (Or.inl (jx_mem_ok a))
  · exact Or.inr (Or.inr a)
theorem jx_mk {me : jx_Me} {sites : List (Instr × List Nat × Value)} {R0 : List Nat} (h1 : plainFor me.1 = true) (h2 : jx_hf me.1.cls me.2.2.2.2.1) (h3 : ∀ q ∈ me.2.2.2.2.2, decode me.2.1 q.1 = .ok (q.2.1, q.2.2.1) ∧ jx_lok q.2.1 q.2.2.1 = true) (h4 : jx_chk sites me.2.2.2.2.2 = true)
    (h5 : ∀ (pc : Nat), ∀ r ∈ sites, jx_si S dA R0 jx_df me.1.cls r.1 r.2.1 r.2.2 ∧ jx_sc S jx_P me.2.1 me.1.cls pc r.1 r.2.1) (h6 : ∀ q ∈ me.2.2.2.2.2, jx_thn q.2.1 q.2.2.2.1 = true → jx_si S dA R0 jx_df me.1.cls q.2.1 q.2.2.2.1 q.2.2.2.2 ∧ jx_sc S jx_P me.2.1 me.1.cls q.1 q.2.1 q.2.2.2.1) : jx_mok S dA R0 jx_df jx_P me := by
  refine ⟨h1, h2, fun q hq => ⟨(h3 q hq).1, (h3 q hq).2, ?_⟩⟩
  rcases jx_chk_ok h4 q hq with h | h | h
  · exact jx_pl_ok h
  · exact h5 q.1 _ h
  · exact h6 q hq h
theorem jx_chunk {α : Type} {C : α → Prop} (k : Nat) (hk : 0 < k) (n : Nat) (L : List α) (hn : L.length ≤ k * n) (h : ∀ i, i < n → ∀ q ∈ (L.drop (k * i)).take k, C q) : ∀ q ∈ L, C q := fun q hq => by
  obtain ⟨j, hj, rfl⟩ := List.mem_iff_getElem.mp hq
  have h1 : k * (j / k) + j % k = j := Nat.div_add_mod j k
  have h2 : j % k < k := Nat.mod_lt j hk
  refine h (j / k) (Nat.div_lt_of_lt_mul (by omega)) _ ?_
  refine List.mem_iff_getElem?.mpr ⟨j % k, ?_⟩
  rw [List.getElem?_take_of_lt h2, List.getElem?_drop, h1]
  exact List.getElem?_eq_getElem hj
theorem jx_noth {L : List jx_L} (h : (L.all fun q => !jx_thn q.2.1 q.2.2.2.1) = true) {C : jx_L → Prop} : ∀ q ∈ L, jx_thn q.2.1 q.2.2.2.1 = true → C q := fun q hq ht => by
  have := List.all_eq_true.mp h q hq
  rw [ht] at this
  cases this
theorem jx_atom {S : State} {dA : Nat → ClassId} {aL aM : Nat} {adK : Nat → Nat} (F : jx_SF S dA aL aM adK) {L : List Cond} (h : ∀ w ∈ L, w ∈ jm_G ∨ w ∈ jx_hw) : ∀ w ∈ L, w ∈ jm_G ∨ jm_hs S w := fun w hw => (h w hw).elim Or.inl (fun q => Or.inr (F.2.2.2.1 w q))
theorem jt_J_85 : ∀ w ∈ Bundle.ownAtoms0 "JobHouse" 85 "java/lang/IndexOutOfBoundsException" ["java/lang/RuntimeException", "java/lang/Exception"], w ∈ jm_G ∨ w ∈ jx_hw := by decide +kernel
theorem jt_J_216 : ∀ w ∈ Bundle.ownAtoms0 "JobHouse" 216 "java/lang/UnsupportedOperationException" ["java/lang/RuntimeException", "java/lang/Exception"], w ∈ jm_G ∨ w ∈ jx_hw := by decide +kernel
theorem jt_J_294 : ∀ w ∈ Bundle.ownAtoms0 "JobHouse" 294 "java/util/NoSuchElementException" ["java/lang/RuntimeException", "java/lang/Exception"], w ∈ jm_G ∨ w ∈ jx_hw := by decide +kernel
theorem jt_J_315 : ∀ w ∈ Bundle.ownAtoms0 "JobHouse" 315 "java/lang/IllegalArgumentException" ["java/lang/RuntimeException", "java/lang/Exception"], w ∈ jm_G ∨ w ∈ jx_hw := by decide +kernel
theorem jt_J_322 : ∀ w ∈ Bundle.ownAtoms0 "JobHouse" 322 "java/lang/IllegalStateException" ["java/lang/RuntimeException", "java/lang/Exception"], w ∈ jm_G ∨ w ∈ jx_hw := by decide +kernel
theorem jt_M_205 : ∀ w ∈ Bundle.ownAtoms0 "JobHouseModel" 205 "java/lang/UnsupportedOperationException" ["java/lang/RuntimeException", "java/lang/Exception"], w ∈ jm_G ∨ w ∈ jx_hw := by decide +kernel
end JO
