/-! ===== the first world: behind the constructors ===== -/
def h_a : am_H := (fun _ => .inl (0, 0, fun _ => 0), 0, 0)
def h_b : am_H := am_add h_a (.inr (14, am_df 14)) (am_nf 14)
def h_c : am_H := (cx 3000 20 11 1 cX11_init 0 (am_loc0 1 [.inr (.inr (.inl 1))]) [] h_b).getD h_b
def h_d : am_H := am_add h_c (.inr (15, am_df 15)) (am_nf 15)
def h_e : am_H := (cx 3000 20 12 2 cX12_init 0 (am_loc0 2 [.inr (.inr (.inl 73))]) [] h_d).getD h_d
def h_f : am_H := am_add h_e (.inl (2, 1, fun _ => 0)) 1
theorem h_c_some : (cx 3000 20 11 1 cX11_init 0 (am_loc0 1 [.inr (.inr (.inl 1))]) [] h_b).isSome = true := by decide +kernel
theorem h_c_n : h_c.2.1 = 72 := by decide +kernel
theorem h_e_some : (cx 3000 20 12 2 cX12_init 0 (am_loc0 2 [.inr (.inr (.inl 73))]) [] h_d).isSome = true := by decide +kernel
theorem h_f_n : h_f.2.1 = 127 ∧ h_f.2.2 ≤ w_s0 + 2 * 1488 := by decide +kernel
theorem h_f_ak : ∀ a, a < 128 → w_ak a ≠ 0 → am_ak h_f a = w_ak a ∧ am_ln h_f a = w_al a := by decide +kernel
/-- the numbers in the fields -/
def w_0f : List (Nat × Nat × Int) := [(17, 7, 24), (50, 15, 12), (50, 16, 4), (73, 3, 12), (73, 4, 4), (73, 26, 1)]
def w_0 : W_ := (fun a j => ((w_0f.find? fun e => e.1 == a && e.2.1 == j).map fun e => e.2.2).getD 0, fun a i => if a = 126 ∧ i < 10 then 20005 else 0)
