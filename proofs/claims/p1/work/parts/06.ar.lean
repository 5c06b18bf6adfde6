theorem am_cat1 {v : am_V} (hv : am_two v = false) (α : Nat → Nat) : (am_c α v).category = 1 := by
  rcases v with x | x | a | b
  · rfl
  · cases hv
  · rfl
  · cases b <;> rfl
theorem am_rg32 {x : Int} (h1 : -2147483648 ≤ x) (h2 : x < 2147483648) : (Int32.ofInt x).toInt = x := Int32.toInt_ofInt_of_le (by omega) (by omega)
theorem am_rg64 {x : Int} (h1 : -9223372036854775808 ≤ x) (h2 : x < 9223372036854775808) : (Int64.ofInt x).toInt = x := Int64.toInt_ofInt_of_le (by omega) (by omega)
theorem am_clamp {x : Int} (h1 : 0 ≤ x) (h2 : x < 2147483648) : (Int32.ofInt x).toNatClampNeg = x.toNat := Int32.toNatClampNeg_ofInt_of_le (by omega) (by omega)
theorem am_eq32 {x y : Int} (h1 : -2147483648 ≤ x) (h2 : x < 2147483648) (h3 : -2147483648 ≤ y) (h4 : y < 2147483648) : Int32.ofInt x = Int32.ofInt y ↔ x = y := by
  rw [← Int32.toInt_inj, am_rg32 h1 h2, am_rg32 h3 h4]
theorem am_lt32 {x y : Int} (h1 : -2147483648 ≤ x) (h2 : x < 2147483648) (h3 : -2147483648 ≤ y) (h4 : y < 2147483648) : Int32.ofInt x < Int32.ofInt y ↔ x < y := by
  rw [Int32.lt_iff_toInt_lt, am_rg32 h1 h2, am_rg32 h3 h4]
theorem am_le32 {x y : Int} (h1 : -2147483648 ≤ x) (h2 : x < 2147483648) (h3 : -2147483648 ≤ y) (h4 : y < 2147483648) : Int32.ofInt x ≤ Int32.ofInt y ↔ x ≤ y := by
  rw [Int32.le_iff_toInt_le, am_rg32 h1 h2, am_rg32 h3 h4]
theorem am_ne0 {y : Int} (h3 : 0 < y) (h4 : y < 2147483648) : ¬ Int32.ofInt y = 0 := by
  intro q
  have := (am_eq32 (x := y) (y := 0) (by omega) h4 (by omega) (by omega)).mp q
  omega
theorem am_div {x y : Int} (h1 : 0 ≤ x) (h2 : x < 2147483648) (h3 : 0 < y) (h4 : y < 2147483648) : Int32.ofInt (x / y) = Int32.ofInt x / Int32.ofInt y := by
  have hne : Int32.ofInt y ≠ -1 := by
    intro q
    have := congrArg Int32.toInt q
    rw [am_rg32 (by omega) h4] at this
    have e : (-1 : Int32).toInt = -1 := rfl
    omega
  have hle : x / y ≤ x := Int.ediv_le_self _ h1
  have hge : 0 ≤ x / y := Int.ediv_nonneg h1 (by omega)
  rw [← Int32.toInt_inj, Int32.toInt_div_of_ne_right _ _ hne, am_rg32 (by omega) (by omega), am_rg32 (by omega) h2, am_rg32 (by omega) h4, Int.tdiv_eq_ediv_of_nonneg h1]
theorem am_mod {x y : Int} (h1 : 0 ≤ x) (h2 : x < 2147483648) (h3 : 0 < y) (h4 : y < 2147483648) : Int32.ofInt (x % y) = Int32.ofInt x - Int32.ofInt x / Int32.ofInt y * Int32.ofInt y := by
  rw [← am_div h1 h2 h3 h4, ← Int32.ofInt_mul, ← Int32.ofInt_sub]
  congr 1
  have := Int.emod_add_mul_ediv x y
  rw [Int.mul_comm (x / y) y]
  omega
theorem am_i2l_eq {x : Int} (h1 : -2147483648 ≤ x) (h2 : x < 2147483648) : (Int32.ofInt x).toInt64 = Int64.ofInt x := by
  rw [← Int64.toInt_inj, Int32.toInt_toInt64, am_rg32 h1 h2, am_rg64 (by omega) (by omega)]
theorem am_lcmp_eq {x y : Int} (h1 : -9223372036854775808 ≤ x) (h2 : x < 9223372036854775808) (h3 : -9223372036854775808 ≤ y) (h4 : y < 9223372036854775808) : Int32.ofInt (if y < x then 1 else if x = y then 0 else -1) = lg_cmp (Int64.ofInt x) (Int64.ofInt y) := by
  unfold lg_cmp
  have e1 : (Int64.ofInt x > Int64.ofInt y) ↔ y < x := by
    rw [gt_iff_lt, Int64.lt_iff_toInt_lt, am_rg64 h1 h2, am_rg64 h3 h4]
  have e2 : (Int64.ofInt x = Int64.ofInt y) ↔ x = y := by
    rw [← Int64.toInt_inj, am_rg64 h1 h2, am_rg64 h3 h4]
  by_cases c1 : y < x
  · rw [if_pos c1, if_pos (e1.mpr c1)]; rfl
  · rw [if_neg c1, if_neg (fun q => c1 (e1.mp q))]
    by_cases c2 : x = y
    · rw [if_pos c2, if_pos (e2.mpr c2)]; rfl
    · rw [if_neg c2, if_neg (fun q => c2 (e2.mp q))]; rfl
section LD2
variable {own nL fr rk : Nat} {bytes : ByteArray} {ini : Bool} {sc : am_Sc} {Q : Option am_V → am_H → Prop} {pc : Nat} {ls st : List am_V} {h : am_H}
theorem am_iadd {x y : Int} (hd : decode bytes pc = .ok (.iadd, 1)) (k : am_Z own nL fr rk bytes ini sc Q (pc + 1) ls (.inl (x + y) :: st) h) : am_Z own nL fr rk bytes ini sc Q pc ls (.inl y :: .inl x :: st) h := by
  refine am_simple (fun p l e R s m args below meth c D cA A cx Qs α H locs cells slots lsA S => ⟨am_cons (by exact trivial) (am_tl (am_tl S.2.2.2.1)), fun w => ?_⟩) k
  have w := w
  simp only [List.map_cons, am_c, Int32.ofInt_add] at w ⊢
  exact lv_iadd cx.1 cx.2.1 hd w
theorem am_ladd {x y : Int} (hd : decode bytes pc = .ok (.ladd, 1)) (k : am_Z own nL fr rk bytes ini sc Q (pc + 1) ls (.inr (.inl (x + y)) :: st) h) : am_Z own nL fr rk bytes ini sc Q pc ls (.inr (.inl y) :: .inr (.inl x) :: st) h := by
  refine am_simple (fun p l e R s m args below meth c D cA A cx Qs α H locs cells slots lsA S => ⟨am_cons (by exact trivial) (am_tl (am_tl S.2.2.2.1)), fun w => ?_⟩) k
  have w := w
  simp only [List.map_cons, am_c, Int64.ofInt_add] at w ⊢
  exact lv_ladd cx.1 cx.2.1 hd w
theorem am_isub {x y : Int} (hd : decode bytes pc = .ok (.isub, 1)) (k : am_Z own nL fr rk bytes ini sc Q (pc + 1) ls (.inl (x - y) :: st) h) : am_Z own nL fr rk bytes ini sc Q pc ls (.inl y :: .inl x :: st) h := by
  refine am_simple (fun p l e R s m args below meth c D cA A cx Qs α H locs cells slots lsA S => ⟨am_cons (by exact trivial) (am_tl (am_tl S.2.2.2.1)), fun w => ?_⟩) k
  have w := w
  simp only [List.map_cons, am_c, Int32.ofInt_sub] at w ⊢
  exact lv_isub cx.1 cx.2.1 hd w
theorem am_lsub {x y : Int} (hd : decode bytes pc = .ok (.lsub, 1)) (k : am_Z own nL fr rk bytes ini sc Q (pc + 1) ls (.inr (.inl (x - y)) :: st) h) : am_Z own nL fr rk bytes ini sc Q pc ls (.inr (.inl y) :: .inr (.inl x) :: st) h := by
  refine am_simple (fun p l e R s m args below meth c D cA A cx Qs α H locs cells slots lsA S => ⟨am_cons (by exact trivial) (am_tl (am_tl S.2.2.2.1)), fun w => ?_⟩) k
  have w := w
  simp only [List.map_cons, am_c, Int64.ofInt_sub] at w ⊢
  exact lv_lsub cx.1 cx.2.1 hd w
theorem am_imul {x y : Int} (hd : decode bytes pc = .ok (.imul, 1)) (k : am_Z own nL fr rk bytes ini sc Q (pc + 1) ls (.inl (x * y) :: st) h) : am_Z own nL fr rk bytes ini sc Q pc ls (.inl y :: .inl x :: st) h := by
  refine am_simple (fun p l e R s m args below meth c D cA A cx Qs α H locs cells slots lsA S => ⟨am_cons (by exact trivial) (am_tl (am_tl S.2.2.2.1)), fun w => ?_⟩) k
  have w := w
  simp only [List.map_cons, am_c, Int32.ofInt_mul] at w ⊢
  exact lv_imul cx.1 cx.2.1 hd w
theorem am_lmul {x y : Int} (hd : decode bytes pc = .ok (.lmul, 1)) (k : am_Z own nL fr rk bytes ini sc Q (pc + 1) ls (.inr (.inl (x * y)) :: st) h) : am_Z own nL fr rk bytes ini sc Q pc ls (.inr (.inl y) :: .inr (.inl x) :: st) h := by
  refine am_simple (fun p l e R s m args below meth c D cA A cx Qs α H locs cells slots lsA S => ⟨am_cons (by exact trivial) (am_tl (am_tl S.2.2.2.1)), fun w => ?_⟩) k
  have w := w
  simp only [List.map_cons, am_c, Int64.ofInt_mul] at w ⊢
  exact lv_lmul cx.1 cx.2.1 hd w
theorem am_ineg {x : Int} (hd : decode bytes pc = .ok (.ineg, 1)) (k : am_Z own nL fr rk bytes ini sc Q (pc + 1) ls (.inl (-x) :: st) h) : am_Z own nL fr rk bytes ini sc Q pc ls (.inl x :: st) h := by
  refine am_simple (fun p l e R s m args below meth c D cA A cx Qs α H locs cells slots lsA S => ⟨am_cons (by exact trivial) (am_tl S.2.2.2.1), fun w => ?_⟩) k
  have w := w
  simp only [List.map_cons, am_c, Int32.ofInt_neg] at w ⊢
  exact lv_ineg cx.1 cx.2.1 hd w
theorem am_iand {x y : Int} (hd : decode bytes pc = .ok (.iand, 1)) (k : am_Z own nL fr rk bytes ini sc Q (pc + 1) ls (.inl (Int32.ofInt x &&& Int32.ofInt y).toInt :: st) h) : am_Z own nL fr rk bytes ini sc Q pc ls (.inl y :: .inl x :: st) h := by
  refine am_simple (fun p l e R s m args below meth c D cA A cx Qs α H locs cells slots lsA S => ⟨am_cons (by exact trivial) (am_tl (am_tl S.2.2.2.1)), fun w => ?_⟩) k
  have w := w
  simp only [List.map_cons, am_c, Int32.ofInt_toInt] at w ⊢
  exact lv_iand cx.1 cx.2.1 hd w
theorem am_ior {x y : Int} (hd : decode bytes pc = .ok (.ior, 1)) (k : am_Z own nL fr rk bytes ini sc Q (pc + 1) ls (.inl (Int32.ofInt x ||| Int32.ofInt y).toInt :: st) h) : am_Z own nL fr rk bytes ini sc Q pc ls (.inl y :: .inl x :: st) h := by
  refine am_simple (fun p l e R s m args below meth c D cA A cx Qs α H locs cells slots lsA S => ⟨am_cons (by exact trivial) (am_tl (am_tl S.2.2.2.1)), fun w => ?_⟩) k
  have w := w
  simp only [List.map_cons, am_c, Int32.ofInt_toInt] at w ⊢
  exact lv_ior cx.1 cx.2.1 hd w
theorem am_ishl {x y : Int} (hd : decode bytes pc = .ok (.ishl, 1)) (k : am_Z own nL fr rk bytes ini sc Q (pc + 1) ls (.inl (Int32.ofInt x <<< (Int32.ofInt y &&& 31)).toInt :: st) h) : am_Z own nL fr rk bytes ini sc Q pc ls (.inl y :: .inl x :: st) h := by
  refine am_simple (fun p l e R s m args below meth c D cA A cx Qs α H locs cells slots lsA S => ⟨am_cons (by exact trivial) (am_tl (am_tl S.2.2.2.1)), fun w => ?_⟩) k
  have w := w
  simp only [List.map_cons, am_c, Int32.ofInt_toInt] at w ⊢
  exact lv_ishl cx.1 cx.2.1 hd w
theorem am_ishr {x y : Int} (hd : decode bytes pc = .ok (.ishr, 1)) (k : am_Z own nL fr rk bytes ini sc Q (pc + 1) ls (.inl (Int32.ofInt x >>> (Int32.ofInt y &&& 31)).toInt :: st) h) : am_Z own nL fr rk bytes ini sc Q pc ls (.inl y :: .inl x :: st) h := by
  refine am_simple (fun p l e R s m args below meth c D cA A cx Qs α H locs cells slots lsA S => ⟨am_cons (by exact trivial) (am_tl (am_tl S.2.2.2.1)), fun w => ?_⟩) k
  have w := w
  simp only [List.map_cons, am_c, Int32.ofInt_toInt] at w ⊢
  exact lv_ishr cx.1 cx.2.1 hd w
theorem am_land {x y : Int} (hd : decode bytes pc = .ok (.land, 1)) (k : am_Z own nL fr rk bytes ini sc Q (pc + 1) ls (.inr (.inl (Int64.ofInt x &&& Int64.ofInt y).toInt) :: st) h) : am_Z own nL fr rk bytes ini sc Q pc ls (.inr (.inl y) :: .inr (.inl x) :: st) h := by
  refine am_simple (fun p l e R s m args below meth c D cA A cx Qs α H locs cells slots lsA S => ⟨am_cons (by exact trivial) (am_tl (am_tl S.2.2.2.1)), fun w => ?_⟩) k
  have w := w
  simp only [List.map_cons, am_c, Int64.ofInt_toInt] at w ⊢
  exact lv_land cx.1 cx.2.1 hd w
theorem am_lor {x y : Int} (hd : decode bytes pc = .ok (.lor, 1)) (k : am_Z own nL fr rk bytes ini sc Q (pc + 1) ls (.inr (.inl (Int64.ofInt x ||| Int64.ofInt y).toInt) :: st) h) : am_Z own nL fr rk bytes ini sc Q pc ls (.inr (.inl y) :: .inr (.inl x) :: st) h := by
  refine am_simple (fun p l e R s m args below meth c D cA A cx Qs α H locs cells slots lsA S => ⟨am_cons (by exact trivial) (am_tl (am_tl S.2.2.2.1)), fun w => ?_⟩) k
  have w := w
  simp only [List.map_cons, am_c, Int64.ofInt_toInt] at w ⊢
  exact lv_lor cx.1 cx.2.1 hd w
theorem am_lshl {x y : Int} (hd : decode bytes pc = .ok (.lshl, 1)) (k : am_Z own nL fr rk bytes ini sc Q (pc + 1) ls (.inr (.inl (Int64.ofInt x <<< ((Int32.ofInt y).toInt64 &&& 63)).toInt) :: st) h) : am_Z own nL fr rk bytes ini sc Q pc ls (.inl y :: .inr (.inl x) :: st) h := by
  refine am_simple (fun p l e R s m args below meth c D cA A cx Qs α H locs cells slots lsA S => ⟨am_cons (by exact trivial) (am_tl (am_tl S.2.2.2.1)), fun w => ?_⟩) k
  have w := w
  simp only [List.map_cons, am_c, Int64.ofInt_toInt] at w ⊢
  exact lv_lshl cx.1 cx.2.1 hd rfl w
theorem am_lshr {x y : Int} (hd : decode bytes pc = .ok (.lshr, 1)) (k : am_Z own nL fr rk bytes ini sc Q (pc + 1) ls (.inr (.inl (Int64.ofInt x >>> ((Int32.ofInt y).toInt64 &&& 63)).toInt) :: st) h) : am_Z own nL fr rk bytes ini sc Q pc ls (.inl y :: .inr (.inl x) :: st) h := by
  refine am_simple (fun p l e R s m args below meth c D cA A cx Qs α H locs cells slots lsA S => ⟨am_cons (by exact trivial) (am_tl (am_tl S.2.2.2.1)), fun w => ?_⟩) k
  have w := w
  simp only [List.map_cons, am_c, Int64.ofInt_toInt] at w ⊢
  exact lv_lshr cx.1 cx.2.1 hd rfl w
theorem am_idiv {x y : Int} (hd : decode bytes pc = .ok (.idiv, 1)) (h1 : 0 ≤ x) (h2 : x < 2147483648) (h3 : 0 < y) (h4 : y < 2147483648) (k : am_Z own nL fr rk bytes ini sc Q (pc + 1) ls (.inl (x / y) :: st) h) : am_Z own nL fr rk bytes ini sc Q pc ls (.inl y :: .inl x :: st) h := by
  refine am_simple (fun p l e R s m args below meth c D cA A cx Qs α H locs cells slots lsA S => ⟨am_cons (by exact trivial) (am_tl (am_tl S.2.2.2.1)), fun w => ?_⟩) k
  have w := w
  simp only [List.map_cons, am_c, am_div h1 h2 h3 h4] at w ⊢
  exact lv_idiv cx.1 cx.2.1 hd (am_ne0 h3 h4) w
theorem am_irem {x y : Int} (hd : decode bytes pc = .ok (.irem, 1)) (h1 : 0 ≤ x) (h2 : x < 2147483648) (h3 : 0 < y) (h4 : y < 2147483648) (k : am_Z own nL fr rk bytes ini sc Q (pc + 1) ls (.inl (x % y) :: st) h) : am_Z own nL fr rk bytes ini sc Q pc ls (.inl y :: .inl x :: st) h := by
  refine am_simple (fun p l e R s m args below meth c D cA A cx Qs α H locs cells slots lsA S => ⟨am_cons (by exact trivial) (am_tl (am_tl S.2.2.2.1)), fun w => ?_⟩) k
  have w := w
  simp only [List.map_cons, am_c, am_mod h1 h2 h3 h4] at w ⊢
  exact lv_irem cx.1 cx.2.1 hd (am_ne0 h3 h4) w
theorem am_i2l {x : Int} (hd : decode bytes pc = .ok (.i2l, 1)) (h1 : -2147483648 ≤ x) (h2 : x < 2147483648) (k : am_Z own nL fr rk bytes ini sc Q (pc + 1) ls (.inr (.inl x) :: st) h) : am_Z own nL fr rk bytes ini sc Q pc ls (.inl x :: st) h := by
  refine am_simple (fun p l e R s m args below meth c D cA A cx Qs α H locs cells slots lsA S => ⟨am_cons (by exact trivial) (am_tl S.2.2.2.1), fun w => ?_⟩) k
  have w := w
  simp only [List.map_cons, am_c] at w ⊢
  exact lv_i2l cx.1 cx.2.1 hd (am_i2l_eq h1 h2) w
theorem am_l2i {x : Int} (hd : decode bytes pc = .ok (.l2i, 1)) (k : am_Z own nL fr rk bytes ini sc Q (pc + 1) ls (.inl x :: st) h) : am_Z own nL fr rk bytes ini sc Q pc ls (.inr (.inl x) :: st) h := by
  refine am_simple (fun p l e R s m args below meth c D cA A cx Qs α H locs cells slots lsA S => ⟨am_cons (by exact trivial) (am_tl S.2.2.2.1), fun w => ?_⟩) k
  have w := w
  simp only [List.map_cons, am_c] at w ⊢
  exact lv_l2i cx.1 cx.2.1 hd Int64.toInt32_ofInt w
theorem am_lcmp {x y : Int} (hd : decode bytes pc = .ok (.lcmp, 1)) (h1 : -9223372036854775808 ≤ x) (h2 : x < 9223372036854775808) (h3 : -9223372036854775808 ≤ y) (h4 : y < 9223372036854775808) (k : am_Z own nL fr rk bytes ini sc Q (pc + 1) ls (.inl (if y < x then 1 else if x = y then 0 else -1) :: st) h) : am_Z own nL fr rk bytes ini sc Q pc ls (.inr (.inl y) :: .inr (.inl x) :: st) h := by
  refine am_simple (fun p l e R s m args below meth c D cA A cx Qs α H locs cells slots lsA S => ⟨am_cons (by exact trivial) (am_tl (am_tl S.2.2.2.1)), fun w => ?_⟩) k
  have w := w
  simp only [List.map_cons, am_c] at w ⊢
  rw [am_lcmp_eq h1 h2 h3 h4] at w
  exact W.lcmp cx.1 cx.2.1 hd w
theorem am_dup {v : am_V} (hv : am_two v = false) (hd : decode bytes pc = .ok (.dup, 1)) (k : am_Z own nL fr rk bytes ini sc Q (pc + 1) ls (v :: v :: st) h) : am_Z own nL fr rk bytes ini sc Q pc ls (v :: st) h :=
  am_simple (fun p l e R s m args below meth c D cA A cx Qs α H locs cells slots lsA S => ⟨am_cons (S.2.2.2.1 _ List.mem_cons_self) S.2.2.2.1, fun w => lv_dup cx.1 cx.2.1 hd (am_cat1 hv α) w⟩) k
theorem am_dup2 {v u : am_V} (hv : am_two v = false) (hu : am_two u = false) (hd : decode bytes pc = .ok (.dup2, 1)) (k : am_Z own nL fr rk bytes ini sc Q (pc + 1) ls (v :: u :: v :: u :: st) h) : am_Z own nL fr rk bytes ini sc Q pc ls (v :: u :: st) h :=
  am_simple (fun p l e R s m args below meth c D cA A cx Qs α H locs cells slots lsA S => ⟨am_cons (S.2.2.2.1 _ List.mem_cons_self) (am_cons (S.2.2.2.1 _ (List.mem_cons_of_mem _ List.mem_cons_self)) S.2.2.2.1), fun w => lv_dup2_11 cx.1 cx.2.1 hd (am_cat1 hv α) (am_cat1 hu α) w⟩) k
theorem am_pop {v : am_V} (hv : am_two v = false) (hd : decode bytes pc = .ok (.pop, 1)) (k : am_Z own nL fr rk bytes ini sc Q (pc + 1) ls st h) : am_Z own nL fr rk bytes ini sc Q pc ls (v :: st) h :=
  am_simple (fun p l e R s m args below meth c D cA A cx Qs α H locs cells slots lsA S => ⟨am_tl S.2.2.2.1, fun w => lv_pop cx.1 cx.2.1 hd (am_cat1 hv α) w⟩) k
theorem am_goto {off : Int} {tgt : Nat} (hd : decode bytes pc = .ok (.goto off, 3)) (ht : (pc : Int) + off = (tgt : Int)) (k : am_Z own nL fr rk bytes ini sc Q tgt ls st h) : am_Z own nL fr rk bytes ini sc Q pc ls st h :=
  am_simple (fun p l e R s m args below meth c D cA A cx Qs α H locs cells slots lsA S => ⟨S.2.2.2.1, fun w => lv_goto cx.1 cx.2.1 hd ht w⟩) k
theorem am_icmp_eq {x y : Int} {off : Int} {tgt : Nat} (hd : decode bytes pc = .ok (.if_icmp .eq off, 3)) (ht : (pc : Int) + off = (tgt : Int)) (h1 : -2147483648 ≤ x) (h2 : x < 2147483648) (h3 : -2147483648 ≤ y) (h4 : y < 2147483648)
    (kt : x = y → am_Z own nL fr rk bytes ini sc Q tgt ls st h) (kf : ¬ (x = y) → am_Z own nL fr rk bytes ini sc Q (pc + 3) ls st h) : am_Z own nL fr rk bytes ini sc Q pc ls (.inl y :: .inl x :: st) h := by
  by_cases cc : x = y
  · exact am_simple (fun p l e R s m args below meth c D cA A cx Qs α H locs cells slots lsA S => ⟨am_tl (am_tl S.2.2.2.1), fun w => lv_icmp_eq cx.1 cx.2.1 hd ht (fun _ => w) (fun q => absurd (by first | exact (am_eq32 h1 h2 h3 h4).mpr cc | exact fun z => cc ((am_eq32 h1 h2 h3 h4).mp z)) q)⟩) (kt cc)
  · exact am_simple (fun p l e R s m args below meth c D cA A cx Qs α H locs cells slots lsA S => ⟨am_tl (am_tl S.2.2.2.1), fun w => lv_icmp_eq cx.1 cx.2.1 hd ht (fun q => absurd (by first | exact (am_eq32 h1 h2 h3 h4).mp q | exact fun z => q ((am_eq32 h1 h2 h3 h4).mpr z)) cc) (fun _ => w)⟩) (kf cc)
theorem am_if_eq {x : Int} {off : Int} {tgt : Nat} (hd : decode bytes pc = .ok (.ifCond .eq off, 3)) (ht : (pc : Int) + off = (tgt : Int)) (h1 : -2147483648 ≤ x) (h2 : x < 2147483648)
    (kt : x = 0 → am_Z own nL fr rk bytes ini sc Q tgt ls st h) (kf : ¬ (x = 0) → am_Z own nL fr rk bytes ini sc Q (pc + 3) ls st h) : am_Z own nL fr rk bytes ini sc Q pc ls (.inl x :: st) h := by
  by_cases cc : x = 0
  · exact am_simple (fun p l e R s m args below meth c D cA A cx Qs α H locs cells slots lsA S => ⟨am_tl S.2.2.2.1, fun w => lv_if_eq cx.1 cx.2.1 hd ht (fun _ => w) (fun q => absurd (by first | exact (am_eq32 (x := x) (y := 0) h1 h2 (by decide) (by decide)).mpr cc | exact fun z => cc ((am_eq32 (x := x) (y := 0) h1 h2 (by decide) (by decide)).mp z)) q)⟩) (kt cc)
  · exact am_simple (fun p l e R s m args below meth c D cA A cx Qs α H locs cells slots lsA S => ⟨am_tl S.2.2.2.1, fun w => lv_if_eq cx.1 cx.2.1 hd ht (fun q => absurd (by first | exact (am_eq32 (x := x) (y := 0) h1 h2 (by decide) (by decide)).mp q | exact fun z => q ((am_eq32 (x := x) (y := 0) h1 h2 (by decide) (by decide)).mpr z)) cc) (fun _ => w)⟩) (kf cc)
theorem am_icmp_ne {x y : Int} {off : Int} {tgt : Nat} (hd : decode bytes pc = .ok (.if_icmp .ne off, 3)) (ht : (pc : Int) + off = (tgt : Int)) (h1 : -2147483648 ≤ x) (h2 : x < 2147483648) (h3 : -2147483648 ≤ y) (h4 : y < 2147483648)
    (kt : x ≠ y → am_Z own nL fr rk bytes ini sc Q tgt ls st h) (kf : ¬ (x ≠ y) → am_Z own nL fr rk bytes ini sc Q (pc + 3) ls st h) : am_Z own nL fr rk bytes ini sc Q pc ls (.inl y :: .inl x :: st) h := by
  by_cases cc : x ≠ y
  · exact am_simple (fun p l e R s m args below meth c D cA A cx Qs α H locs cells slots lsA S => ⟨am_tl (am_tl S.2.2.2.1), fun w => lv_icmp_ne cx.1 cx.2.1 hd ht (fun _ => w) (fun q => absurd ((am_eq32 h1 h2 h3 h4).mp q) cc)⟩) (kt cc)
  · exact am_simple (fun p l e R s m args below meth c D cA A cx Qs α H locs cells slots lsA S => ⟨am_tl (am_tl S.2.2.2.1), fun w => lv_icmp_ne cx.1 cx.2.1 hd ht (fun q => absurd (by first | exact (am_eq32 h1 h2 h3 h4).mp q | exact fun z => q ((am_eq32 h1 h2 h3 h4).mpr z)) cc) (fun _ => w)⟩) (kf cc)
theorem am_if_ne {x : Int} {off : Int} {tgt : Nat} (hd : decode bytes pc = .ok (.ifCond .ne off, 3)) (ht : (pc : Int) + off = (tgt : Int)) (h1 : -2147483648 ≤ x) (h2 : x < 2147483648)
    (kt : x ≠ 0 → am_Z own nL fr rk bytes ini sc Q tgt ls st h) (kf : ¬ (x ≠ 0) → am_Z own nL fr rk bytes ini sc Q (pc + 3) ls st h) : am_Z own nL fr rk bytes ini sc Q pc ls (.inl x :: st) h := by
  by_cases cc : x ≠ 0
  · exact am_simple (fun p l e R s m args below meth c D cA A cx Qs α H locs cells slots lsA S => ⟨am_tl S.2.2.2.1, fun w => lv_if_ne cx.1 cx.2.1 hd ht (fun _ => w) (fun q => absurd ((am_eq32 (x := x) (y := 0) h1 h2 (by decide) (by decide)).mp q) cc)⟩) (kt cc)
  · exact am_simple (fun p l e R s m args below meth c D cA A cx Qs α H locs cells slots lsA S => ⟨am_tl S.2.2.2.1, fun w => lv_if_ne cx.1 cx.2.1 hd ht (fun q => absurd (by first | exact (am_eq32 (x := x) (y := 0) h1 h2 (by decide) (by decide)).mp q | exact fun z => q ((am_eq32 (x := x) (y := 0) h1 h2 (by decide) (by decide)).mpr z)) cc) (fun _ => w)⟩) (kf cc)
theorem am_icmp_lt {x y : Int} {off : Int} {tgt : Nat} (hd : decode bytes pc = .ok (.if_icmp .lt off, 3)) (ht : (pc : Int) + off = (tgt : Int)) (h1 : -2147483648 ≤ x) (h2 : x < 2147483648) (h3 : -2147483648 ≤ y) (h4 : y < 2147483648)
    (kt : x < y → am_Z own nL fr rk bytes ini sc Q tgt ls st h) (kf : ¬ (x < y) → am_Z own nL fr rk bytes ini sc Q (pc + 3) ls st h) : am_Z own nL fr rk bytes ini sc Q pc ls (.inl y :: .inl x :: st) h := by
  by_cases cc : x < y
  · exact am_simple (fun p l e R s m args below meth c D cA A cx Qs α H locs cells slots lsA S => ⟨am_tl (am_tl S.2.2.2.1), fun w => lv_icmp_lt cx.1 cx.2.1 hd ht (fun _ => w) (fun q => absurd (by first | exact (am_lt32 h1 h2 h3 h4).mpr cc | exact fun z => cc ((am_lt32 h1 h2 h3 h4).mp z)) q)⟩) (kt cc)
  · exact am_simple (fun p l e R s m args below meth c D cA A cx Qs α H locs cells slots lsA S => ⟨am_tl (am_tl S.2.2.2.1), fun w => lv_icmp_lt cx.1 cx.2.1 hd ht (fun q => absurd (by first | exact (am_lt32 h1 h2 h3 h4).mp q | exact fun z => q ((am_lt32 h1 h2 h3 h4).mpr z)) cc) (fun _ => w)⟩) (kf cc)
theorem am_if_lt {x : Int} {off : Int} {tgt : Nat} (hd : decode bytes pc = .ok (.ifCond .lt off, 3)) (ht : (pc : Int) + off = (tgt : Int)) (h1 : -2147483648 ≤ x) (h2 : x < 2147483648)
    (kt : x < 0 → am_Z own nL fr rk bytes ini sc Q tgt ls st h) (kf : ¬ (x < 0) → am_Z own nL fr rk bytes ini sc Q (pc + 3) ls st h) : am_Z own nL fr rk bytes ini sc Q pc ls (.inl x :: st) h := by
  by_cases cc : x < 0
  · exact am_simple (fun p l e R s m args below meth c D cA A cx Qs α H locs cells slots lsA S => ⟨am_tl S.2.2.2.1, fun w => lv_if_lt cx.1 cx.2.1 hd ht (fun _ => w) (fun q => absurd (by first | exact (am_lt32 (x := x) (y := 0) h1 h2 (by decide) (by decide)).mpr cc | exact fun z => cc ((am_lt32 (x := x) (y := 0) h1 h2 (by decide) (by decide)).mp z)) q)⟩) (kt cc)
  · exact am_simple (fun p l e R s m args below meth c D cA A cx Qs α H locs cells slots lsA S => ⟨am_tl S.2.2.2.1, fun w => lv_if_lt cx.1 cx.2.1 hd ht (fun q => absurd (by first | exact (am_lt32 (x := x) (y := 0) h1 h2 (by decide) (by decide)).mp q | exact fun z => q ((am_lt32 (x := x) (y := 0) h1 h2 (by decide) (by decide)).mpr z)) cc) (fun _ => w)⟩) (kf cc)
theorem am_icmp_ge {x y : Int} {off : Int} {tgt : Nat} (hd : decode bytes pc = .ok (.if_icmp .ge off, 3)) (ht : (pc : Int) + off = (tgt : Int)) (h1 : -2147483648 ≤ x) (h2 : x < 2147483648) (h3 : -2147483648 ≤ y) (h4 : y < 2147483648)
    (kt : y ≤ x → am_Z own nL fr rk bytes ini sc Q tgt ls st h) (kf : ¬ (y ≤ x) → am_Z own nL fr rk bytes ini sc Q (pc + 3) ls st h) : am_Z own nL fr rk bytes ini sc Q pc ls (.inl y :: .inl x :: st) h := by
  by_cases cc : y ≤ x
  · exact am_simple (fun p l e R s m args below meth c D cA A cx Qs α H locs cells slots lsA S => ⟨am_tl (am_tl S.2.2.2.1), fun w => lv_icmp_ge cx.1 cx.2.1 hd ht (fun _ => w) (fun q => absurd (by first | exact (am_le32 h3 h4 h1 h2).mpr cc | exact fun z => cc ((am_le32 h3 h4 h1 h2).mp z)) q)⟩) (kt cc)
  · exact am_simple (fun p l e R s m args below meth c D cA A cx Qs α H locs cells slots lsA S => ⟨am_tl (am_tl S.2.2.2.1), fun w => lv_icmp_ge cx.1 cx.2.1 hd ht (fun q => absurd (by first | exact (am_le32 h3 h4 h1 h2).mp q | exact fun z => q ((am_le32 h3 h4 h1 h2).mpr z)) cc) (fun _ => w)⟩) (kf cc)
theorem am_if_ge {x : Int} {off : Int} {tgt : Nat} (hd : decode bytes pc = .ok (.ifCond .ge off, 3)) (ht : (pc : Int) + off = (tgt : Int)) (h1 : -2147483648 ≤ x) (h2 : x < 2147483648)
    (kt : 0 ≤ x → am_Z own nL fr rk bytes ini sc Q tgt ls st h) (kf : ¬ (0 ≤ x) → am_Z own nL fr rk bytes ini sc Q (pc + 3) ls st h) : am_Z own nL fr rk bytes ini sc Q pc ls (.inl x :: st) h := by
  by_cases cc : 0 ≤ x
  · exact am_simple (fun p l e R s m args below meth c D cA A cx Qs α H locs cells slots lsA S => ⟨am_tl S.2.2.2.1, fun w => lv_if_ge cx.1 cx.2.1 hd ht (fun _ => w) (fun q => absurd (by first | exact (am_le32 (x := 0) (y := x) (by decide) (by decide) h1 h2).mpr cc | exact fun z => cc ((am_le32 (x := 0) (y := x) (by decide) (by decide) h1 h2).mp z)) q)⟩) (kt cc)
  · exact am_simple (fun p l e R s m args below meth c D cA A cx Qs α H locs cells slots lsA S => ⟨am_tl S.2.2.2.1, fun w => lv_if_ge cx.1 cx.2.1 hd ht (fun q => absurd (by first | exact (am_le32 (x := 0) (y := x) (by decide) (by decide) h1 h2).mp q | exact fun z => q ((am_le32 (x := 0) (y := x) (by decide) (by decide) h1 h2).mpr z)) cc) (fun _ => w)⟩) (kf cc)
theorem am_icmp_gt {x y : Int} {off : Int} {tgt : Nat} (hd : decode bytes pc = .ok (.if_icmp .gt off, 3)) (ht : (pc : Int) + off = (tgt : Int)) (h1 : -2147483648 ≤ x) (h2 : x < 2147483648) (h3 : -2147483648 ≤ y) (h4 : y < 2147483648)
    (kt : y < x → am_Z own nL fr rk bytes ini sc Q tgt ls st h) (kf : ¬ (y < x) → am_Z own nL fr rk bytes ini sc Q (pc + 3) ls st h) : am_Z own nL fr rk bytes ini sc Q pc ls (.inl y :: .inl x :: st) h := by
  by_cases cc : y < x
  · exact am_simple (fun p l e R s m args below meth c D cA A cx Qs α H locs cells slots lsA S => ⟨am_tl (am_tl S.2.2.2.1), fun w => lv_icmp_gt cx.1 cx.2.1 hd ht (fun _ => w) (fun q => absurd (by first | exact (am_lt32 h3 h4 h1 h2).mpr cc | exact fun z => cc ((am_lt32 h3 h4 h1 h2).mp z)) q)⟩) (kt cc)
  · exact am_simple (fun p l e R s m args below meth c D cA A cx Qs α H locs cells slots lsA S => ⟨am_tl (am_tl S.2.2.2.1), fun w => lv_icmp_gt cx.1 cx.2.1 hd ht (fun q => absurd (by first | exact (am_lt32 h3 h4 h1 h2).mp q | exact fun z => q ((am_lt32 h3 h4 h1 h2).mpr z)) cc) (fun _ => w)⟩) (kf cc)
theorem am_if_gt {x : Int} {off : Int} {tgt : Nat} (hd : decode bytes pc = .ok (.ifCond .gt off, 3)) (ht : (pc : Int) + off = (tgt : Int)) (h1 : -2147483648 ≤ x) (h2 : x < 2147483648)
    (kt : 0 < x → am_Z own nL fr rk bytes ini sc Q tgt ls st h) (kf : ¬ (0 < x) → am_Z own nL fr rk bytes ini sc Q (pc + 3) ls st h) : am_Z own nL fr rk bytes ini sc Q pc ls (.inl x :: st) h := by
  by_cases cc : 0 < x
  · exact am_simple (fun p l e R s m args below meth c D cA A cx Qs α H locs cells slots lsA S => ⟨am_tl S.2.2.2.1, fun w => lv_if_gt cx.1 cx.2.1 hd ht (fun _ => w) (fun q => absurd (by first | exact (am_lt32 (x := 0) (y := x) (by decide) (by decide) h1 h2).mpr cc | exact fun z => cc ((am_lt32 (x := 0) (y := x) (by decide) (by decide) h1 h2).mp z)) q)⟩) (kt cc)
  · exact am_simple (fun p l e R s m args below meth c D cA A cx Qs α H locs cells slots lsA S => ⟨am_tl S.2.2.2.1, fun w => lv_if_gt cx.1 cx.2.1 hd ht (fun q => absurd (by first | exact (am_lt32 (x := 0) (y := x) (by decide) (by decide) h1 h2).mp q | exact fun z => q ((am_lt32 (x := 0) (y := x) (by decide) (by decide) h1 h2).mpr z)) cc) (fun _ => w)⟩) (kf cc)
theorem am_icmp_le {x y : Int} {off : Int} {tgt : Nat} (hd : decode bytes pc = .ok (.if_icmp .le off, 3)) (ht : (pc : Int) + off = (tgt : Int)) (h1 : -2147483648 ≤ x) (h2 : x < 2147483648) (h3 : -2147483648 ≤ y) (h4 : y < 2147483648)
    (kt : x ≤ y → am_Z own nL fr rk bytes ini sc Q tgt ls st h) (kf : ¬ (x ≤ y) → am_Z own nL fr rk bytes ini sc Q (pc + 3) ls st h) : am_Z own nL fr rk bytes ini sc Q pc ls (.inl y :: .inl x :: st) h := by
  by_cases cc : x ≤ y
  · exact am_simple (fun p l e R s m args below meth c D cA A cx Qs α H locs cells slots lsA S => ⟨am_tl (am_tl S.2.2.2.1), fun w => lv_icmp_le cx.1 cx.2.1 hd ht (fun _ => w) (fun q => absurd (by first | exact (am_le32 h1 h2 h3 h4).mpr cc | exact fun z => cc ((am_le32 h1 h2 h3 h4).mp z)) q)⟩) (kt cc)
  · exact am_simple (fun p l e R s m args below meth c D cA A cx Qs α H locs cells slots lsA S => ⟨am_tl (am_tl S.2.2.2.1), fun w => lv_icmp_le cx.1 cx.2.1 hd ht (fun q => absurd (by first | exact (am_le32 h1 h2 h3 h4).mp q | exact fun z => q ((am_le32 h1 h2 h3 h4).mpr z)) cc) (fun _ => w)⟩) (kf cc)
theorem am_if_le {x : Int} {off : Int} {tgt : Nat} (hd : decode bytes pc = .ok (.ifCond .le off, 3)) (ht : (pc : Int) + off = (tgt : Int)) (h1 : -2147483648 ≤ x) (h2 : x < 2147483648)
    (kt : x ≤ 0 → am_Z own nL fr rk bytes ini sc Q tgt ls st h) (kf : ¬ (x ≤ 0) → am_Z own nL fr rk bytes ini sc Q (pc + 3) ls st h) : am_Z own nL fr rk bytes ini sc Q pc ls (.inl x :: st) h := by
  by_cases cc : x ≤ 0
  · exact am_simple (fun p l e R s m args below meth c D cA A cx Qs α H locs cells slots lsA S => ⟨am_tl S.2.2.2.1, fun w => lv_if_le cx.1 cx.2.1 hd ht (fun _ => w) (fun q => absurd (by first | exact (am_le32 (x := x) (y := 0) h1 h2 (by decide) (by decide)).mpr cc | exact fun z => cc ((am_le32 (x := x) (y := 0) h1 h2 (by decide) (by decide)).mp z)) q)⟩) (kt cc)
  · exact am_simple (fun p l e R s m args below meth c D cA A cx Qs α H locs cells slots lsA S => ⟨am_tl S.2.2.2.1, fun w => lv_if_le cx.1 cx.2.1 hd ht (fun q => absurd (by first | exact (am_le32 (x := x) (y := 0) h1 h2 (by decide) (by decide)).mp q | exact fun z => q ((am_le32 (x := x) (y := 0) h1 h2 (by decide) (by decide)).mpr z)) cc) (fun _ => w)⟩) (kf cc)
theorem am_tsw_out {dflt lo hi : Int} {offs : Array Int} {len : Nat} {x : Int} {tgt : Nat} (hd : decode bytes pc = .ok (.tableswitch dflt lo hi offs, len)) (ht : (pc : Int) + dflt = (tgt : Int)) (h1 : -2147483648 ≤ x) (h2 : x < 2147483648) (ho : x < lo ∨ hi < x)
    (k : am_Z own nL fr rk bytes ini sc Q tgt ls st h) : am_Z own nL fr rk bytes ini sc Q pc ls (.inl x :: st) h :=
  am_simple (fun p l e R s m args below meth c D cA A cx Qs α H locs cells slots lsA S => ⟨am_tl S.2.2.2.1, fun w => lv_tableOut cx.1 cx.2.1 hd (by rw [am_rg32 h1 h2]; exact ho) ht w⟩) k
theorem am_tsw_in {dflt lo hi : Int} {offs : Array Int} {len : Nat} {x : Int} {off : Int} {tgt : Nat} (hd : decode bytes pc = .ok (.tableswitch dflt lo hi offs, len)) (h1 : -2147483648 ≤ x) (h2 : x < 2147483648) (h3 : lo ≤ x) (h4 : x ≤ hi) (ho : offs[(x - lo).toNat]? = some off) (ht : (pc : Int) + off = (tgt : Int))
    (k : am_Z own nL fr rk bytes ini sc Q tgt ls st h) : am_Z own nL fr rk bytes ini sc Q pc ls (.inl x :: st) h :=
  am_simple (fun p l e R s m args below meth c D cA A cx Qs α H locs cells slots lsA S => ⟨am_tl S.2.2.2.1, fun w => lv_tableIn cx.1 cx.2.1 hd (by rw [am_rg32 h1 h2]; omega) (by rw [am_rg32 h1 h2]; omega) (by rw [am_rg32 h1 h2]; exact ho) ht w⟩) k
end LD2
