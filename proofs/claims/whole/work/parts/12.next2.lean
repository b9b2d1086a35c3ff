section JX6
variable {p : Program} {l : Launch} {e : Env} {Rm : Room} {s : State} {m : MethodId} {args : Array Value} {below : List Frame} {meth : Method} {c : Code} {Q : State → Prop}
variable {S : State} {D : va_G} {dA : Nat → ClassId} {cc : ByteArray} {nL pc dc ds : Nat} {own : String} {K : (Nat × List Value) → Nat → Prop} {R R0 : List Nat} {M : jx_H} {h : jm_H} {lv lw : List (Nat × Value)} {st sw : List Value} {z : jx_N}
def jx_lok (i : Instr) (len : Nat) : Bool := match i with
  | .tableswitch _ _ _ _ => true
  | .lookupswitch _ _ => true
  | _ => len == jx_len i
theorem jx_R0 (hR0 : R0 <+: R) {a b : Nat} (h0 : R0[a]? = some b) : jx_v R (.ref a) (.ref b) := jx_v_mono (R := R0) hR0 ⟨b, h0, rfl⟩
set_option maxHeartbeats 1000000 in
theorem jx_next (X : jm_cx p s m args c S D jm_cl (jm_ty dA) jm_G cc nL own) (hKK : jx_KK S K) (hR0 : R0 <+: R) {df : List (List Value)} (hdf : ∀ ci fs, df[ci]? = some fs → ci < 100 ∧ ∀ R, jx_vs R fs fs) {i : Instr} {len : Nat} {x : List Nat} {va : Value} {ret : Option FieldType} {ini : Bool} (hd : decode cc pc = .ok (i, len)) (hl : jx_lok i len = true) (hsi : jx_si S dA R0 df own i x va) (hini : ini = true → meth.name = "<init>")
    (E : jx_E dA K R M h lv st lw sw) (hs : jx_step df nL ret ini i x va pc lv st M dc ds = some (.inl z)) (hrm : z.2.2.2.2.1 ≤ Rm.cells ∧ z.2.2.2.2.2 ≤ Rm.slots) (hnm : ∀ a b, i ≠ .multianewarray a b)
    (kk : jx_go dA K (fun pc lv st h dc ds => jm_W p l e Rm s m args below meth c S D jm_cl Q nL pc lv st h dc ds) R z) : jm_W p l e Rm s m args below meth c S D jm_cl Q nL pc lw sw h dc ds := by
  cases i with
  | iadd =>
    have hl : len = 1 := by simpa [jx_lok, jx_len] using hl
    subst hl
    exact jx_f_ii (Wk := fun pc lv st h dc ds => jm_W p l e Rm s m args below meth c S D jm_cl Q nL pc lv st h dc ds) hs E (fun x y r k => jm_iadd X hd k) kk
  | isub =>
    have hl : len = 1 := by simpa [jx_lok, jx_len] using hl
    subst hl
    exact jx_f_ii (Wk := fun pc lv st h dc ds => jm_W p l e Rm s m args below meth c S D jm_cl Q nL pc lv st h dc ds) hs E (fun x y r k => jm_isub X hd k) kk
  | imul =>
    have hl : len = 1 := by simpa [jx_lok, jx_len] using hl
    subst hl
    exact jx_f_ii (Wk := fun pc lv st h dc ds => jm_W p l e Rm s m args below meth c S D jm_cl Q nL pc lv st h dc ds) hs E (fun x y r k => jm_imul X hd k) kk
  | iand =>
    have hl : len = 1 := by simpa [jx_lok, jx_len] using hl
    subst hl
    exact jx_f_ii (Wk := fun pc lv st h dc ds => jm_W p l e Rm s m args below meth c S D jm_cl Q nL pc lv st h dc ds) hs E (fun x y r k => jm_iand X hd k) kk
  | ior =>
    have hl : len = 1 := by simpa [jx_lok, jx_len] using hl
    subst hl
    exact jx_f_ii (Wk := fun pc lv st h dc ds => jm_W p l e Rm s m args below meth c S D jm_cl Q nL pc lv st h dc ds) hs E (fun x y r k => jm_ior X hd k) kk
  | ixor =>
    have hl : len = 1 := by simpa [jx_lok, jx_len] using hl
    subst hl
    exact jx_f_ii (Wk := fun pc lv st h dc ds => jm_W p l e Rm s m args below meth c S D jm_cl Q nL pc lv st h dc ds) hs E (fun x y r k => jm_ixor X hd k) kk
  | ishl =>
    have hl : len = 1 := by simpa [jx_lok, jx_len] using hl
    subst hl
    exact jx_f_ii (Wk := fun pc lv st h dc ds => jm_W p l e Rm s m args below meth c S D jm_cl Q nL pc lv st h dc ds) hs E (fun x y r k => jm_ishl X hd k) kk
  | ishr =>
    have hl : len = 1 := by simpa [jx_lok, jx_len] using hl
    subst hl
    exact jx_f_ii (Wk := fun pc lv st h dc ds => jm_W p l e Rm s m args below meth c S D jm_cl Q nL pc lv st h dc ds) hs E (fun x y r k => jm_ishr X hd k) kk
  | iushr =>
    have hl : len = 1 := by simpa [jx_lok, jx_len] using hl
    subst hl
    exact jx_f_ii (Wk := fun pc lv st h dc ds => jm_W p l e Rm s m args below meth c S D jm_cl Q nL pc lv st h dc ds) hs E (fun x y r k => jm_iushr X hd k) kk
  | ladd =>
    have hl : len = 1 := by simpa [jx_lok, jx_len] using hl
    subst hl
    exact jx_f_ll (Wk := fun pc lv st h dc ds => jm_W p l e Rm s m args below meth c S D jm_cl Q nL pc lv st h dc ds) hs E (fun x y r k => jm_ladd X hd k) kk
  | lsub =>
    have hl : len = 1 := by simpa [jx_lok, jx_len] using hl
    subst hl
    exact jx_f_ll (Wk := fun pc lv st h dc ds => jm_W p l e Rm s m args below meth c S D jm_cl Q nL pc lv st h dc ds) hs E (fun x y r k => jm_lsub X hd k) kk
  | lmul =>
    have hl : len = 1 := by simpa [jx_lok, jx_len] using hl
    subst hl
    exact jx_f_ll (Wk := fun pc lv st h dc ds => jm_W p l e Rm s m args below meth c S D jm_cl Q nL pc lv st h dc ds) hs E (fun x y r k => jm_lmul X hd k) kk
  | land =>
    have hl : len = 1 := by simpa [jx_lok, jx_len] using hl
    subst hl
    exact jx_f_ll (Wk := fun pc lv st h dc ds => jm_W p l e Rm s m args below meth c S D jm_cl Q nL pc lv st h dc ds) hs E (fun x y r k => jm_land X hd k) kk
  | lor =>
    have hl : len = 1 := by simpa [jx_lok, jx_len] using hl
    subst hl
    exact jx_f_ll (Wk := fun pc lv st h dc ds => jm_W p l e Rm s m args below meth c S D jm_cl Q nL pc lv st h dc ds) hs E (fun x y r k => jm_lor X hd k) kk
  | lxor =>
    have hl : len = 1 := by simpa [jx_lok, jx_len] using hl
    subst hl
    exact jx_f_ll (Wk := fun pc lv st h dc ds => jm_W p l e Rm s m args below meth c S D jm_cl Q nL pc lv st h dc ds) hs E (fun x y r k => jm_lxor X hd k) kk
  | idiv =>
    have hl : len = 1 := by simpa [jx_lok, jx_len] using hl
    subst hl
    exact jx_f_iz (Wk := fun pc lv st h dc ds => jm_W p l e Rm s m args below meth c S D jm_cl Q nL pc lv st h dc ds) hs E (fun x y r hz k => jm_idiv X hd hz k) kk
  | irem =>
    have hl : len = 1 := by simpa [jx_lok, jx_len] using hl
    subst hl
    exact jx_f_iz (Wk := fun pc lv st h dc ds => jm_W p l e Rm s m args below meth c S D jm_cl Q nL pc lv st h dc ds) hs E (fun x y r hz k => jm_irem X hd hz k) kk
  | ldiv =>
    have hl : len = 1 := by simpa [jx_lok, jx_len] using hl
    subst hl
    exact jx_f_lz (Wk := fun pc lv st h dc ds => jm_W p l e Rm s m args below meth c S D jm_cl Q nL pc lv st h dc ds) hs E (fun x y r hz k => jm_ldiv X hd hz k) kk
  | lrem =>
    have hl : len = 1 := by simpa [jx_lok, jx_len] using hl
    subst hl
    exact jx_f_lz (Wk := fun pc lv st h dc ds => jm_W p l e Rm s m args below meth c S D jm_cl Q nL pc lv st h dc ds) hs E (fun x y r hz k => jm_lrem X hd hz k) kk
  | lshl =>
    have hl : len = 1 := by simpa [jx_lok, jx_len] using hl
    subst hl
    exact jx_f_li (Wk := fun pc lv st h dc ds => jm_W p l e Rm s m args below meth c S D jm_cl Q nL pc lv st h dc ds) hs E (fun x y r k => jm_lshl X hd k) kk
  | lshr =>
    have hl : len = 1 := by simpa [jx_lok, jx_len] using hl
    subst hl
    exact jx_f_li (Wk := fun pc lv st h dc ds => jm_W p l e Rm s m args below meth c S D jm_cl Q nL pc lv st h dc ds) hs E (fun x y r k => jm_lshr X hd k) kk
  | lushr =>
    have hl : len = 1 := by simpa [jx_lok, jx_len] using hl
    subst hl
    exact jx_f_li (Wk := fun pc lv st h dc ds => jm_W p l e Rm s m args below meth c S D jm_cl Q nL pc lv st h dc ds) hs E (fun x y r k => jm_lushr X hd k) kk
  | lcmp =>
    have hl : len = 1 := by simpa [jx_lok, jx_len] using hl
    subst hl
    exact jx_f_lc (Wk := fun pc lv st h dc ds => jm_W p l e Rm s m args below meth c S D jm_cl Q nL pc lv st h dc ds) hs E (fun x y r k => jm_lcmp X hd k) kk
  | ineg =>
    have hl : len = 1 := by simpa [jx_lok, jx_len] using hl
    subst hl
    refine jx_f_i1 (Wk := fun pc lv st h dc ds => jm_W p l e Rm s m args below meth c S D jm_cl Q nL pc lv st h dc ds) ?_ hs E (fun x r k => jm_ineg X hd k) kk
    exact fun _ => rfl
  | i2l =>
    have hl : len = 1 := by simpa [jx_lok, jx_len] using hl
    subst hl
    refine jx_f_i1 (Wk := fun pc lv st h dc ds => jm_W p l e Rm s m args below meth c S D jm_cl Q nL pc lv st h dc ds) ?_ hs E (fun x r k => jm_i2l X hd k) kk
    exact fun _ => rfl
  | i2b =>
    have hl : len = 1 := by simpa [jx_lok, jx_len] using hl
    subst hl
    refine jx_f_i1 (Wk := fun pc lv st h dc ds => jm_W p l e Rm s m args below meth c S D jm_cl Q nL pc lv st h dc ds) ?_ hs E (fun x r k => jm_i2b X hd k) kk
    exact fun _ => rfl
  | lneg =>
    have hl : len = 1 := by simpa [jx_lok, jx_len] using hl
    subst hl
    refine jx_f_l1 (Wk := fun pc lv st h dc ds => jm_W p l e Rm s m args below meth c S D jm_cl Q nL pc lv st h dc ds) ?_ hs E (fun x r k => jm_lneg X hd k) kk
    exact fun _ => rfl
  | l2i =>
    have hl : len = 1 := by simpa [jx_lok, jx_len] using hl
    subst hl
    refine jx_f_l1 (Wk := fun pc lv st h dc ds => jm_W p l e Rm s m args below meth c S D jm_cl Q nL pc lv st h dc ds) ?_ hs E (fun x r k => jm_l2i X hd k) kk
    exact fun _ => rfl
  | iconst n =>
    have hl : len = 1 := by simpa [jx_lok, jx_len] using hl
    subst hl
    have hsi : va = _ := hsi
    subst hsi
    refine jx_f_cu (Wk := fun pc lv st h dc ds => jm_W p l e Rm s m args below meth c S D jm_cl Q nL pc lv st h dc ds) ?_ hs E (fun k => jm_iconst X hd rfl k) kk
    rfl
  | bipush n =>
    have hl : len = 2 := by simpa [jx_lok, jx_len] using hl
    subst hl
    have hsi : va = _ := hsi
    subst hsi
    refine jx_f_cu (Wk := fun pc lv st h dc ds => jm_W p l e Rm s m args below meth c S D jm_cl Q nL pc lv st h dc ds) ?_ hs E (fun k => jm_bipush X hd rfl k) kk
    rfl
  | sipush n =>
    have hl : len = 3 := by simpa [jx_lok, jx_len] using hl
    subst hl
    have hsi : va = _ := hsi
    subst hsi
    refine jx_f_cu (Wk := fun pc lv st h dc ds => jm_W p l e Rm s m args below meth c S D jm_cl Q nL pc lv st h dc ds) ?_ hs E (fun k => jm_sipush X hd rfl k) kk
    rfl
  | lconst n =>
    have hl : len = 1 := by simpa [jx_lok, jx_len] using hl
    subst hl
    have hsi : va = _ := hsi
    subst hsi
    refine jx_f_cu (Wk := fun pc lv st h dc ds => jm_W p l e Rm s m args below meth c S D jm_cl Q nL pc lv st h dc ds) ?_ hs E (fun k => jm_lconst X hd rfl k) kk
    rfl
  | ldc idx =>
    have hl : len = 2 := by simpa [jx_lok, jx_len] using hl
    subst hl
    rcases hsi with ⟨v, rfl, hw⟩ | ⟨a, b, tx, rfl, h0, hw⟩
    · refine jx_f_cu (Wk := fun pc lv st h dc ds => jm_W p l e Rm s m args below meth c S D jm_cl Q nL pc lv st h dc ds) ?_ hs E (fun k => jm_ldc X hd hw k) kk
      rfl
    · exact jx_f_cu (Wk := fun pc lv st h dc ds => jm_W p l e Rm s m args below meth c S D jm_cl Q nL pc lv st h dc ds) (jx_R0 hR0 h0) hs E (fun k => jm_ldcS X hd hw k) kk
  | ldc_w idx =>
    have hl : len = 3 := by simpa [jx_lok, jx_len] using hl
    subst hl
    obtain ⟨v, rfl, hw⟩ := hsi
    refine jx_f_cu (Wk := fun pc lv st h dc ds => jm_W p l e Rm s m args below meth c S D jm_cl Q nL pc lv st h dc ds) ?_ hs E (fun k => jm_ldc_w X hd hw k) kk
    rfl
  | ldc2_w idx =>
    have hl : len = 3 := by simpa [jx_lok, jx_len] using hl
    subst hl
    obtain ⟨v, rfl, hw⟩ := hsi
    refine jx_f_cu (Wk := fun pc lv st h dc ds => jm_W p l e Rm s m args below meth c S D jm_cl Q nL pc lv st h dc ds) ?_ hs E (fun k => jm_ldc2 X hd hw k) kk
    rfl
  | getstatic idx =>
    have hl : len = 3 := by simpa [jx_lok, jx_len] using hl
    subst hl
    obtain ⟨a, b, C, n, d, rfl, h0, hZ, hw⟩ := hsi
    exact jx_f_cu (Wk := fun pc lv st h dc ds => jm_W p l e Rm s m args below meth c S D jm_cl Q nL pc lv st h dc ds) (jx_R0 hR0 h0) hs E (fun k => jm_getsK X hd hZ hw k) kk
  | iload i =>
    have hl : len = 2 := by simpa [jx_lok, jx_len] using hl
    subst hl
    refine jx_f_ld (Wk := fun pc lv st h dc ds => jm_W p l e Rm s m args below meth c S D jm_cl Q nL pc lv st h dc ds) hs E (fun v u j hw hu hj k => ?_) kk
    cases v <;> simp [jx_isI] at hw
    have hu : u = _ := hu
    subst hu
    exact jm_iload X hd j hj k
  | iload_n i =>
    have hl : len = 1 := by simpa [jx_lok, jx_len] using hl
    subst hl
    refine jx_f_ld (Wk := fun pc lv st h dc ds => jm_W p l e Rm s m args below meth c S D jm_cl Q nL pc lv st h dc ds) hs E (fun v u j hw hu hj k => ?_) kk
    cases v <;> simp [jx_isI] at hw
    have hu : u = _ := hu
    subst hu
    exact jm_iload_n X hd rfl j hj k
  | lload i =>
    have hl : len = 2 := by simpa [jx_lok, jx_len] using hl
    subst hl
    refine jx_f_ld (Wk := fun pc lv st h dc ds => jm_W p l e Rm s m args below meth c S D jm_cl Q nL pc lv st h dc ds) hs E (fun v u j hw hu hj k => ?_) kk
    cases v <;> simp [jx_isL] at hw
    have hu : u = _ := hu
    subst hu
    exact jm_lload X hd j hj k
  | lload_n i =>
    have hl : len = 1 := by simpa [jx_lok, jx_len] using hl
    subst hl
    refine jx_f_ld (Wk := fun pc lv st h dc ds => jm_W p l e Rm s m args below meth c S D jm_cl Q nL pc lv st h dc ds) hs E (fun v u j hw hu hj k => ?_) kk
    cases v <;> simp [jx_isL] at hw
    have hu : u = _ := hu
    subst hu
    exact jm_lload_n X hd rfl j hj k
  | aload i =>
    have hl : len = 2 := by simpa [jx_lok, jx_len] using hl
    subst hl
    refine jx_f_ld (Wk := fun pc lv st h dc ds => jm_W p l e Rm s m args below meth c S D jm_cl Q nL pc lv st h dc ds) hs E (fun v u j hw hu hj k => ?_) kk
    cases v <;> simp [jx_isA] at hw
    obtain ⟨b, -, rfl⟩ := hu
    exact jm_aload X hd j hj k
  | aload_n i =>
    have hl : len = 1 := by simpa [jx_lok, jx_len] using hl
    subst hl
    refine jx_f_ld (Wk := fun pc lv st h dc ds => jm_W p l e Rm s m args below meth c S D jm_cl Q nL pc lv st h dc ds) hs E (fun v u j hw hu hj k => ?_) kk
    cases v <;> simp [jx_isA] at hw
    obtain ⟨b, -, rfl⟩ := hu
    exact jm_aload_n X hd rfl j hj k
  | istore i =>
    have hl : len = 2 := by simpa [jx_lok, jx_len] using hl
    subst hl
    refine jx_f_sr (Wk := fun pc lv st h dc ds => jm_W p l e Rm s m args below meth c S D jm_cl Q nL pc lv st h dc ds) hs E (fun v u r hw hu hn k => ?_) kk
    cases v <;> simp [jx_isI] at hw
    have hu : u = _ := hu
    subst hu
    exact jm_istore X hd hn rfl k
  | astore i =>
    have hl : len = 2 := by simpa [jx_lok, jx_len] using hl
    subst hl
    refine jx_f_sr (Wk := fun pc lv st h dc ds => jm_W p l e Rm s m args below meth c S D jm_cl Q nL pc lv st h dc ds) hs E (fun v u r hw hu hn k => ?_) kk
    cases v <;> simp [jx_isA] at hw
    obtain ⟨b, -, rfl⟩ := hu
    exact jm_astore X hd hn rfl k
  | lstore i =>
    have hl : len = 2 := by simpa [jx_lok, jx_len] using hl
    subst hl
    exact jx_f_sr2 (Wk := fun pc lv st h dc ds => jm_W p l e Rm s m args below meth c S D jm_cl Q nL pc lv st h dc ds) hs E (fun v r hn k => jm_lstore X hd hn rfl k) kk
  | istore_n i =>
    have hl : len = 1 := by simpa [jx_lok, jx_len] using hl
    subst hl
    refine jx_f_sr (Wk := fun pc lv st h dc ds => jm_W p l e Rm s m args below meth c S D jm_cl Q nL pc lv st h dc ds) hs E (fun v u r hw hu hn k => ?_) kk
    cases v <;> simp [jx_isI] at hw
    have hu : u = _ := hu
    subst hu
    exact jm_istore_n X hd rfl hn rfl k
  | astore_n i =>
    have hl : len = 1 := by simpa [jx_lok, jx_len] using hl
    subst hl
    refine jx_f_sr (Wk := fun pc lv st h dc ds => jm_W p l e Rm s m args below meth c S D jm_cl Q nL pc lv st h dc ds) hs E (fun v u r hw hu hn k => ?_) kk
    cases v <;> simp [jx_isA] at hw
    obtain ⟨b, -, rfl⟩ := hu
    exact jm_astore_n X hd rfl hn rfl k
  | lstore_n i =>
    have hl : len = 1 := by simpa [jx_lok, jx_len] using hl
    subst hl
    exact jx_f_sr2 (Wk := fun pc lv st h dc ds => jm_W p l e Rm s m args below meth c S D jm_cl Q nL pc lv st h dc ds) hs E (fun v r hn k => jm_lstore_n X hd rfl hn rfl k) kk
  | iinc i n =>
    have hl : len = 3 := by simpa [jx_lok, jx_len] using hl
    subst hl
    exact jx_f_inc (Wk := fun pc lv st h dc ds => jm_W p l e Rm s m args below meth c S D jm_cl Q nL pc lv st h dc ds) hs E (fun x j hj hn k => jm_iinc X hd j hj rfl hn rfl k) kk
  | dup =>
    have hl : len = 1 := by simpa [jx_lok, jx_len] using hl
    subst hl
    exact jx_f_du (Wk := fun pc lv st h dc ds => jm_W p l e Rm s m args below meth c S D jm_cl Q nL pc lv st h dc ds) hs E (fun u r hc k => jm_dup X hd hc k) kk
  | pop =>
    have hl : len = 1 := by simpa [jx_lok, jx_len] using hl
    subst hl
    exact jx_f_po (Wk := fun pc lv st h dc ds => jm_W p l e Rm s m args below meth c S D jm_cl Q nL pc lv st h dc ds) hs E (fun u r hc k => jm_pop X hd hc k) kk
  | dup2 =>
    have hl : len = 1 := by simpa [jx_lok, jx_len] using hl
    subst hl
    exact jx_f_d2 (Wk := fun pc lv st h dc ds => jm_W p l e Rm s m args below meth c S D jm_cl Q nL pc lv st h dc ds) hs E (fun u v r h1 h2 k => jm_dup2_11 X hd h1 h2 k) (fun u r h1 k => jm_dup2_2 X hd h1 k) kk
  | ifCond cd off =>
    have hl : len = 3 := by simpa [jx_lok, jx_len] using hl
    subst hl
    exact jx_f_bz (Wk := fun pc lv st h dc ds => jm_W p l e Rm s m args below meth c S D jm_cl Q nL pc lv st h dc ds) hs E (fun x r t ht k1 k2 => jx_jz X hd x r t ht k1 k2) kk
  | if_icmp cd off =>
    have hl : len = 3 := by simpa [jx_lok, jx_len] using hl
    subst hl
    exact jx_f_bc (Wk := fun pc lv st h dc ds => jm_W p l e Rm s m args below meth c S D jm_cl Q nL pc lv st h dc ds) hs E (fun x y r t ht k1 k2 => jx_jc X hd x y r t ht k1 k2) kk
  | goto off =>
    have hl : len = 3 := by simpa [jx_lok, jx_len] using hl
    subst hl
    have hs : jx_to true pc 3 off lv st M dc ds = some (.inl z) := hs
    exact jx_f_to (Wk := fun pc lv st h dc ds => jm_W p l e Rm s m args below meth c S D jm_cl Q nL pc lv st h dc ds) (rw := sw) hs E (fun t ht k1 k2 => jm_goto X hd ht (k1 rfl)) kk
  | tableswitch d lo hi offs =>
    exact jx_f_ts (Wk := fun pc lv st h dc ds => jm_W p l e Rm s m args below meth c S D jm_cl Q nL pc lv st h dc ds) hs E (fun x r t hx ht k => jm_tabOut X hd hx ht k) (fun x r off t h1 h2 ho ht k => jm_tabIn X hd h1 h2 ho ht k) kk
  | lookupswitch d ps =>
    exact jx_f_lus (Wk := fun pc lv st h dc ds => jm_W p l e Rm s m args below meth c S D jm_cl Q nL pc lv st h dc ds) hs E (fun x r t hp ht k => jm_lookup X hd hp rfl ht k) kk
  | getfield idx =>
    have hl : len = 3 := by simpa [jx_lok, jx_len] using hl
    subst hl
    obtain ⟨ci, k, ty, fin, rfl, hci, hf⟩ := hsi
    refine jx_f_gf (Wk := fun pc lv st h dc ds => jm_W p l e Rm s m args below meth c S D jm_cl Q nL pc lv st h dc ds) hs (fun a b e => by cases e; exact hci) E (fun ci2 k2 b fs r u ex hb hu kw => ?_) kk
    cases ex
    exact jm_get X hd hf hb hu kw
  | putfield idx =>
    have hl : len = 3 := by simpa [jx_lok, jx_len] using hl
    subst hl
    obtain ⟨ci, k, t, f, ty, rfl, hci, htk, hf⟩ := hsi
    refine jx_f_pf (Wk := fun pc lv st h dc ds => jm_W p l e Rm s m args below meth c S D jm_cl Q nL pc lv st h dc ds) hs (fun a b c d e => by cases e; exact hci) E (fun ci2 k2 t2 f2 b fs r v u ex hb hk hfit hu hf2 kw => ?_) kk
    cases ex
    obtain ⟨n1, n2⟩ := jx_fit_ok htk hfit hu
    rcases hf with ⟨hf0, hf⟩ | ⟨hf0, hf⟩
    · exact jm_put X hd hf hb n1 n2 hk rfl kw
    · exact jm_putF X (hini (by rcases hf2 with e | e; (subst hf0; cases e); exact e)) hd hf hb n1 n2 hk rfl kw
  | iaload =>
    have hl : len = 1 := by simpa [jx_lok, jx_len] using hl
    subst hl
    rcases jx_or_ok hs with hs | hs
    · refine jx_f_ald (Wk := fun pc lv st h dc ds => jm_W p l e Rm s m args below meth c S D jm_cl Q nL pc lv st h dc ds) hs (fun k hk => by simp at hk; omega) E (fun k b L x i r v hk hb ha hi hv hw kw => ?_) kk
      have hk : k = 102 := by simpa using hk
      subst hk
      rcases ha with ⟨-, f, rfl, hL⟩ | ⟨e, -⟩ | ⟨e, -⟩
      · have := hL _ _ hv
        subst this
        exact jm_iald (t0 := 2) X hd rfl hb (jx_in' hi hv) (kw _ rfl)
      · exact absurd e (by decide)
      · exact absurd e (by decide)
    · refine jx_f_alc (Wk := fun pc lv st h dc ds => jm_W p l e Rm s m args below meth c S D jm_cl Q nL pc lv st h dc ds) hs E (fun b L i r v hK hi hv hw kw => ?_) kk
      obtain ⟨xs, hX, hL⟩ := hKK.1 L b hK
      have := hL _ _ hv
      subst this
      exact jm_ialdT X hd hX (jx_in' hi hv) (kw _ rfl)
  | baload =>
    have hl : len = 1 := by simpa [jx_lok, jx_len] using hl
    subst hl
    refine jx_f_ald (Wk := fun pc lv st h dc ds => jm_W p l e Rm s m args below meth c S D jm_cl Q nL pc lv st h dc ds) hs (fun k hk => by simp at hk; omega) E (fun k b L x i r v hk hb ha hi hv hw kw => ?_) kk
    have hk : k = 100 ∨ k = 101 := by simpa using hk
    rcases hk with rfl | rfl
    · rcases ha with ⟨-, f, rfl, hL⟩ | ⟨e, -⟩ | ⟨e, -⟩
      · have := hL _ _ hv
        subst this
        exact jm_bald (t0 := 0) X hd rfl hb (jx_in' hi hv) (kw _ rfl)
      · exact absurd e (by decide)
      · exact absurd e (by decide)
    · rcases ha with ⟨-, f, rfl, hL⟩ | ⟨e, -⟩ | ⟨e, -⟩
      · have := hL _ _ hv
        subst this
        exact jm_zald (t0 := 1) X hd rfl hb (jx_in' hi hv) (kw _ rfl)
      · exact absurd e (by decide)
      · exact absurd e (by decide)
  | laload =>
    have hl : len = 1 := by simpa [jx_lok, jx_len] using hl
    subst hl
    refine jx_f_ald (Wk := fun pc lv st h dc ds => jm_W p l e Rm s m args below meth c S D jm_cl Q nL pc lv st h dc ds) hs (fun k hk => by simp at hk; omega) E (fun k b L x i r v hk hb ha hi hv hw kw => ?_) kk
    have hk : k = 103 := by simpa using hk
    subst hk
    rcases ha with ⟨e, -⟩ | ⟨-, f, rfl, hL⟩ | ⟨e, -⟩
    · exact absurd e (by decide)
    · have := hL _ _ hv
      subst this
      exact jm_lald (t0 := 3) X hd rfl hb (jx_in' hi hv) (kw _ rfl)
    · exact absurd e (by decide)
  | aaload =>
    have hl : len = 1 := by simpa [jx_lok, jx_len] using hl
    subst hl
    refine jx_f_ald (Wk := fun pc lv st h dc ds => jm_W p l e Rm s m args below meth c S D jm_cl Q nL pc lv st h dc ds) hs (fun k hk => by simp at hk; omega) E (fun k b L x i r v hk hb ha hi hv hw kw => ?_) kk
    have hk : 104 ≤ k ∧ k < 113 := by simp at hk; omega
    rcases ha with ⟨e, -⟩ | ⟨e, -⟩ | ⟨-, -, f, rfl, hL⟩
    · omega
    · omega
    · have hv2 := kw _ (hL _ _ hv)
      have : ∃ ty : FieldType, (jm_ty dA)[k - 100]? = some (dA (k - 100), ty) ∧ ty.isReference = true := by
        have : k = 104 ∨ k = 105 ∨ k = 106 ∨ k = 107 ∨ k = 108 ∨ k = 109 ∨ k = 110 ∨ k = 111 ∨ k = 112 := by omega
        rcases this with rfl | rfl | rfl | rfl | rfl | rfl | rfl | rfl | rfl <;> exact ⟨_, rfl, rfl⟩
      obtain ⟨ty, ht, hty⟩ := this
      exact jm_aaldA X hd ht hty hb (jx_in' hi hv) hv2
  | iastore =>
    have hl : len = 1 := by simpa [jx_lok, jx_len] using hl
    subst hl
    refine jx_f_ast (Wk := fun pc lv st h dc ds => jm_W p l e Rm s m args below meth c S D jm_cl Q nL pc lv st h dc ds) hs (fun k hk => by simp at hk; omega) E (fun k b L x i r v u hk hb ha hi hlt hw hu kw => ?_) kk
    have hk : k = 102 := by simpa using hk
    subst hk
    cases v <;> simp [jx_isI] at hw
    have hu : u = _ := hu
    subst hu
    rcases ha with ⟨e0, f, rfl, hL⟩ | ⟨e, -⟩ | ⟨e, -⟩
    · exact jm_iast (t0 := 2) X hd rfl hb (jx_in hi hlt) (kw _ (Or.inl ⟨e0, _, by rw [List.length_set], jx_upd hL⟩))
    · exact absurd e (by decide)
    · exact absurd e (by decide)
  | bastore =>
    have hl : len = 1 := by simpa [jx_lok, jx_len] using hl
    subst hl
    refine jx_f_ast (Wk := fun pc lv st h dc ds => jm_W p l e Rm s m args below meth c S D jm_cl Q nL pc lv st h dc ds) hs (fun k hk => by simp at hk; omega) E (fun k b L x i r v u hk hb ha hi hlt hw hu kw => ?_) kk
    have hk : k = 100 ∨ k = 101 := by simpa using hk
    cases v <;> simp [jx_isI] at hw
    have hu : u = _ := hu
    subst hu
    rcases hk with rfl | rfl
    · rcases ha with ⟨e0, f, rfl, hL⟩ | ⟨e, -⟩ | ⟨e, -⟩
      · exact jm_bast (t0 := 0) X hd rfl hb (jx_in hi hlt) (kw _ (Or.inl ⟨e0, _, by rw [List.length_set], jx_upd hL⟩))
      · exact absurd e (by decide)
      · exact absurd e (by decide)
    · rcases ha with ⟨e0, f, rfl, hL⟩ | ⟨e, -⟩ | ⟨e, -⟩
      · exact jm_zast (t0 := 1) X hd rfl hb (jx_in hi hlt) (kw _ (Or.inl ⟨e0, _, by rw [List.length_set], jx_upd hL⟩))
      · exact absurd e (by decide)
      · exact absurd e (by decide)
  | lastore =>
    have hl : len = 1 := by simpa [jx_lok, jx_len] using hl
    subst hl
    refine jx_f_ast (Wk := fun pc lv st h dc ds => jm_W p l e Rm s m args below meth c S D jm_cl Q nL pc lv st h dc ds) hs (fun k hk => by simp at hk; omega) E (fun k b L x i r v u hk hb ha hi hlt hw hu kw => ?_) kk
    have hk : k = 103 := by simpa using hk
    subst hk
    cases v <;> simp [jx_isL] at hw
    have hu : u = _ := hu
    subst hu
    rcases ha with ⟨e, -⟩ | ⟨e0, f, rfl, hL⟩ | ⟨e, -⟩
    · exact absurd e (by decide)
    · exact jm_last (t0 := 3) X hd rfl hb (jx_in hi hlt) (kw _ (Or.inr (Or.inl ⟨e0, _, by rw [List.length_set], jx_updL hL⟩)))
    · exact absurd e (by decide)
  | aastore =>
    have hl : len = 1 := by simpa [jx_lok, jx_len] using hl
    subst hl
    rcases jx_or_ok hs with hs | hs
    · refine jx_f_aas (Wk := fun pc lv st h dc ds => jm_W p l e Rm s m args below meth c S D jm_cl Q nL pc lv st h dc ds) hs E (fun k b c n fs f i r hk hb hc hi hlt kw => ?_) kk
      have : k = 104 ∨ k = 105 ∨ k = 106 ∨ k = 107 := by omega
      rcases this with rfl | rfl | rfl | rfl
      · exact jm_aast (t0 := 4) (ci := 2) X hd rfl rfl hb hc (jx_in hi hlt) kw
      · exact jm_aast (t0 := 5) (ci := 4) X hd rfl rfl hb hc (jx_in hi hlt) kw
      · exact jm_aast (t0 := 6) (ci := 5) X hd rfl rfl hb hc (jx_in hi hlt) kw
      · exact jm_aast (t0 := 7) (ci := 7) X hd rfl rfl hb hc (jx_in hi hlt) kw
    · exact jx_f_aat (Wk := fun pc lv st h dc ds => jm_W p l e Rm s m args below meth c S D jm_cl Q nL pc lv st h dc ds) hs E (fun b c n L f i r hb hK hi hlt kw => jm_aastS (t0 := 8) X hd rfl hb (hKK.2.1 L c hK).1 (jx_in hi hlt) kw) kk
  | arraylength =>
    have hl : len = 1 := by simpa [jx_lok, jx_len] using hl
    subst hl
    refine jx_f_al (Wk := fun pc lv st h dc ds => jm_W p l e Rm s m args below meth c S D jm_cl Q nL pc lv st h dc ds) hs E (fun k b L x r hk hb hx kw => ?_) (fun b L r hK kw => ?_) kk
    · have : ∃ ty : FieldType, (jm_ty dA)[k - 100]? = some (dA (k - 100), ty) := by
        have : k = 100 ∨ k = 101 ∨ k = 102 ∨ k = 103 ∨ k = 104 ∨ k = 105 ∨ k = 106 ∨ k = 107 ∨ k = 108 ∨ k = 109 ∨ k = 110 ∨ k = 111 ∨ k = 112 := by omega
        rcases this with rfl | rfl | rfl | rfl | rfl | rfl | rfl | rfl | rfl | rfl | rfl | rfl | rfl <;> exact ⟨_, rfl⟩
      obtain ⟨ty, ht⟩ := this
      exact jm_alen X hd ht hb (by rw [hx]) kw
    · obtain ⟨xs, hX, hL⟩ := hKK.1 L b hK
      exact jm_alenT X hd hX kw
  | new idx =>
    have hl : len = 3 := by simpa [jx_lok, jx_len] using hl
    subst hl
    obtain ⟨ci, rfl, hf⟩ := hsi
    have hs : jx_nw pc lv M dc ds df [ci] st = some (.inl z) := hs
    refine jx_f_nw (Wk := fun pc lv st h dc ds => jm_W p l e Rm s m args below meth c S D jm_cl Q nL pc lv st h dc ds) hs hdf E (fun ci2 fs ex hfs z1 z2 kw => ?_) kk
    cases ex
    rw [z1, z2] at hrm
    exact jm_new X hd (hf fs hfs) hrm.1 hrm.2 (fun q hq _ => kw q hq)
  | newarray at1 =>
    have hl : len = 2 := by simpa [jx_lok, jx_len] using hl
    subst hl
    obtain ⟨t, ty, rfl, ht4, hty, ht, hw⟩ := hsi
    refine jx_f_na (Wk := fun pc lv st h dc ds => jm_W p l e Rm s m args below meth c S D jm_cl Q nL pc lv st h dc ds) hs E (fun t2 n r ex ht13 hn hN z1 z2 kw => ?_) kk
    cases ex
    rw [z1, z2] at hrm
    have : t = 0 ∨ t = 1 ∨ t = 2 ∨ t = 3 := by omega
    rcases this with rfl | rfl | rfl | rfl
    all_goals
      cases ht
    · exact jm_newa (t0 := 0) (a0 := (n.toNatClampNeg, .inl (fun _ => 0))) X hd hw hty rfl (fun _ => rfl) hn rfl (by simp [componentBytes]; omega) hrm.1 hrm.2 (fun q hq _ => kw q _ hq rfl (fun _ => rfl) (fun q => by cases q) (fun q => absurd q (by decide)))
    · exact jm_newa (t0 := 1) (a0 := (n.toNatClampNeg, .inl (fun _ => 0))) X hd hw hty rfl (fun _ => rfl) hn rfl (by simp [componentBytes]; omega) hrm.1 hrm.2 (fun q hq _ => kw q _ hq rfl (fun _ => rfl) (fun q => by cases q) (fun q => absurd q (by decide)))
    · exact jm_newa (t0 := 2) (a0 := (n.toNatClampNeg, .inl (fun _ => 0))) X hd hw hty rfl (fun _ => rfl) hn rfl (by simp [componentBytes]; omega) hrm.1 hrm.2 (fun q hq _ => kw q _ hq rfl (fun _ => rfl) (fun q => by cases q) (fun q => absurd q (by decide)))
    · exact jm_newa (t0 := 3) (a0 := (n.toNatClampNeg, .inr (.inl (fun _ => 0)))) X hd hw hty rfl (fun _ => rfl) hn rfl (by simp [componentBytes]; omega) hrm.1 hrm.2 (fun q hq _ => kw q _ hq rfl (fun q => absurd q (by decide)) (fun _ => rfl) (fun q => absurd q (by decide)))
  | anewarray idx =>
    have hl : len = 3 := by simpa [jx_lok, jx_len] using hl
    subst hl
    obtain ⟨t, C, rfl, ht4, ht, hw, hv⟩ := hsi
    refine jx_f_na (Wk := fun pc lv st h dc ds => jm_W p l e Rm s m args below meth c S D jm_cl Q nL pc lv st h dc ds) hs E (fun t2 n r ex ht13 hn hN z1 z2 kw => ?_) kk
    cases ex
    rw [z1, z2] at hrm
    exact jm_newqA X hd hw hv ht hn rfl (by omega) hrm.1 hrm.2 (fun q hq _ => kw q _ hq rfl (fun q => by omega) (fun q => by omega) (fun _ => rfl))
  | multianewarray a b => exact absurd rfl (hnm a b)
  | invokestatic idx =>
    exfalso
    simp only [jx_step, jx_cs] at hs
    repeat' split at hs
    all_goals cases hs
  | invokevirtual idx =>
    exfalso
    simp only [jx_step, jx_cv] at hs
    repeat' split at hs
    all_goals cases hs
  | invokespecial idx =>
    exfalso
    simp only [jx_step, jx_ci] at hs
    repeat' split at hs
    all_goals cases hs
  | ireturn =>
    exfalso
    simp only [jx_step, jx_ri] at hs
    repeat' split at hs
    all_goals cases hs
  | lreturn =>
    exfalso
    simp only [jx_step, jx_rl] at hs
    repeat' split at hs
    all_goals cases hs
  | areturn =>
    exfalso
    simp only [jx_step, jx_ra] at hs
    repeat' split at hs
    all_goals cases hs
  | return_ =>
    exfalso
    simp only [jx_step, jx_rv] at hs
    repeat' split at hs
    all_goals cases hs
  | _ => cases hs
end JX6
