section JG6
/-- more turns than any loop takes -/
def ju_ : Nat := 1000000
variable {me : jx_Me} {fr lo pc : Nat} {lv : List (Nat × Value)} {M : jx_H} {dc ds : Nat} {o : jx_O} {len t : Nat} {x : List Nat} {va : Value} {r : List Value}
theorem jt_lusEq {d off : Int} {ps : Array (Int × Int)} {y k : Int32} (ha : jx_at pc me.2.2.2.2.2 = some (.lookupswitch d ps, len, x, va)) (hy : y = k) (hs : (ps.toList.zip (ps.toList.drop 1)).all (fun (a, next) => a.1 < next.1) = true) (ho : Op.lookupswitch.offset ps.toList d k.toInt = off) (ht : jx_jp pc off = some t) (kk : jt me fr lo t lv r M dc ds o) : jt me fr lo pc lv (.int y :: r) M dc ds o := by
  subst hy
  refine jt_go ha ?_ kk
  show jx_lus pc d ps lv M dc ds (.int y :: r) = _
  simp only [jx_lus]
  rw [if_pos hs, ho]
  simp only [jx_to, ht]
theorem jt_lusOut {d : Int} {ps : Array (Int × Int)} {y : Int32} (ha : jx_at pc me.2.2.2.2.2 = some (.lookupswitch d ps, len, x, va)) (hs : (ps.toList.zip (ps.toList.drop 1)).all (fun (a, next) => a.1 < next.1) = true) (ho : Op.lookupswitch.offset ps.toList d y.toInt = d) (ht : jx_jp pc d = some t) (kk : jt me fr lo t lv r M dc ds o) : jt me fr lo pc lv (.int y :: r) M dc ds o := by
  refine jt_go ha ?_ kk
  show jx_lus pc d ps lv M dc ds (.int y :: r) = _
  simp only [jx_lus]
  rw [if_pos hs, ho]
  simp only [jx_to, ht]
end JG6
section JG7
theorem jg_up0 {ρ : Type} {q : Nat} {me : jx_Me} {rF rL pc : Nat} {lv : List (Nat × Value)} {st : List Value} {S : jS} {n : Nat} {φ : ρ → jR × jS} {E : Option ρ} (h : jg q me rF rL pc lv st S 0 φ E) : jg q me rF rL pc lv st S n φ E := by
  intro M hM z hz dc ds
  obtain ⟨o, M', c, s, h1, h2, h3, h4, h5, h6⟩ := h M hM z hz dc ds
  exact ⟨o, M', c, s, h1, h2, h3, h4, by omega, by omega⟩
end JG7
