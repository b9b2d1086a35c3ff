section KB_2
/-- the memory at the beginning -/
def s_i (a k : Nat) : Int32 := if a = 24 then (if k = 15 then 4 else 0) else if a = 25 then (if k = 3 then -1 else 0) else if a = 215 then (if k = 3 then -1 else if k = 42 then 4 else 0) else 0
def s_l (a k : Nat) : Int64 := if jz_ a = true then (if k = 5 then -1152921504606846976 else 0) else 0
def s_r (a k : Nat) : Nat := if a = 24 then (if k = 6 then 40 else 43) else if a = 27 then 51 + 3 * k else if a = 28 then 75 + 2 * k else if a = 32 then (if k = 0 then 33 else if k = 1 then 35 else 38) else 0
def s_0 : jS := (s_i, s_l, s_r)
set_option maxRecDepth 100000 in
theorem s0_c : ∀ a : Fin 453, 24 ≤ a.val → jx_SS a.val = false → ja_h6[a.val]? = some (j_cl a.val (s_i a.val) (s_l a.val) (s_r a.val)) := by decide +kernel
set_option maxRecDepth 100000 in
theorem s0_k : ∀ a : Fin 24, 1 ≤ a.val → ja_h6[a.val]? = (jx_M0 0 (fun _ => 0))[a.val]? := by decide +kernel
theorem s0_l : ja_h6.length = 454 := by decide +kernel
end KB_2
