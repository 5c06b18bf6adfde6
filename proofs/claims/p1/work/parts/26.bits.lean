/-! ===== bits ===== -/
theorem bit_tag {x : Int} (h1 : -2147483648 ≤ x) (h2 : x < 2147483648) : (Int32.ofInt x &&& Int32.ofInt 7).toInt = x % 8 := by
  have e : (Int32.ofInt x &&& Int32.ofInt 7).toBitVec = BitVec.ofInt 32 x &&& 7#32 := rfl
  show (Int32.ofInt x &&& Int32.ofInt 7).toBitVec.toInt = _
  rw [e]
  have hn : (BitVec.ofInt 32 x &&& 7#32).toNat = (BitVec.ofInt 32 x).toNat % 8 := by
    rw [BitVec.toNat_and]
    exact Nat.and_two_pow_sub_one_eq_mod (BitVec.ofInt 32 x).toNat 3
  have hv : (BitVec.ofInt 32 x).toNat = (x % 4294967296).toNat := rfl
  rw [BitVec.toInt_eq_toNat_of_lt (by rw [hn]; omega), hn, hv]
  omega
theorem bit_num {x : Int} (h1 : -2147483648 ≤ x) (h2 : x < 2147483648) : (Int32.ofInt x >>> (Int32.ofInt 3 &&& 31)).toInt = x / 8 := by
  have e : (Int32.ofInt x >>> (Int32.ofInt 3 &&& 31)).toBitVec = (Int32.ofInt x).toBitVec.sshiftRight 3 := rfl
  show (Int32.ofInt x >>> (Int32.ofInt 3 &&& 31)).toBitVec.toInt = _
  rw [e, BitVec.toInt_sshiftRight, Int.shiftRight_eq_div_pow]
  have : (Int32.ofInt x).toBitVec.toInt = x := am_rg32 h1 h2
  rw [this]
  rfl
theorem bit_val {n t : Int} (h0 : 0 ≤ t) (h1 : t < 8) (h2 : -100000000 ≤ n) (h3 : n < 100000000) : (Int32.ofInt (Int32.ofInt n <<< (Int32.ofInt 3 &&& 31)).toInt ||| Int32.ofInt t).toInt = 8 * n + t := by
  rw [Int32.ofInt_toInt]
  have key : Int32.ofInt n <<< (Int32.ofInt 3 &&& 31) ||| Int32.ofInt t = Int32.ofInt (8 * n + t) := by
    apply Int32.toBitVec_inj.mp
    have e : (Int32.ofInt n <<< (Int32.ofInt 3 &&& 31) ||| Int32.ofInt t).toBitVec = (BitVec.ofInt 32 n <<< 3) ||| BitVec.ofInt 32 t := rfl
    have e2 : (Int32.ofInt (8 * n + t)).toBitVec = BitVec.ofInt 32 (8 * n + t) := rfl
    rw [e, e2]
    apply BitVec.eq_of_toNat_eq
    rw [BitVec.toNat_or, BitVec.toNat_shiftLeft]
    have v1 : (BitVec.ofInt 32 n).toNat = (n % 4294967296).toNat := rfl
    have v2 : (BitVec.ofInt 32 t).toNat = t.toNat := by
      show (t % 4294967296).toNat = t.toNat
      omega
    have v3 : (BitVec.ofInt 32 (8 * n + t)).toNat = ((8 * n + t) % 4294967296).toNat := rfl
    rw [v1, v2, v3, Nat.shiftLeft_eq]
    have v4 : (n % 4294967296).toNat * 2 ^ 3 % 2 ^ 32 = 2 ^ 3 * ((n % 4294967296).toNat % 536870912) := by omega
    rw [v4, ← Nat.two_pow_add_eq_or_of_lt (by omega)]
    omega
  rw [key]
  exact am_rg32 (by omega) (by omega)
theorem bit_or64 {a b : Int} (a0 : 0 ≤ a) (a1 : a < 4611686018427387904) (b0 : 0 ≤ b) (b1 : b < 4611686018427387904) : (Int64.ofInt a ||| Int64.ofInt b).toInt = ((a.toNat ||| b.toNat : Nat) : Int) := by
  have e : (Int64.ofInt a ||| Int64.ofInt b).toBitVec = BitVec.ofInt 64 a ||| BitVec.ofInt 64 b := rfl
  show (Int64.ofInt a ||| Int64.ofInt b).toBitVec.toInt = _
  rw [e]
  have v1 : (BitVec.ofInt 64 a).toNat = a.toNat := by
    show (a % 18446744073709551616).toNat = _
    omega
  have v2 : (BitVec.ofInt 64 b).toNat = b.toNat := by
    show (b % 18446744073709551616).toNat = _
    omega
  have hlt : a.toNat ||| b.toNat < 2 ^ 62 := Nat.or_lt_two_pow (by omega) (by omega)
  have hn : (BitVec.ofInt 64 a ||| BitVec.ofInt 64 b).toNat = a.toNat ||| b.toNat := by rw [BitVec.toNat_or, v1, v2]
  rw [BitVec.toInt_eq_toNat_of_lt (by rw [hn]; omega), hn]
theorem bit_shl64 : ∀ q, q < 45 → (Int64.ofInt 1 <<< ((Int32.ofInt (q : Nat)).toInt64 &&& 63)).toInt = ((2 ^ q : Nat) : Int) := by decide +kernel
theorem bit_amt : ∀ q, q < 45 → (((Int32.ofInt (q : Nat)).toInt64 &&& 63).toBitVec.smod 64).toNat = q := by decide +kernel
theorem bit_shr64 {a : Int} {q : Nat} (a0 : 0 ≤ a) (a1 : a < 4611686018427387904) (hq : q < 45) : (Int64.ofInt a >>> ((Int32.ofInt (q : Nat)).toInt64 &&& 63)).toInt = ((a.toNat >>> q : Nat) : Int) := by
  have e : (Int64.ofInt a >>> ((Int32.ofInt (q : Nat)).toInt64 &&& 63)).toBitVec = (Int64.ofInt a).toBitVec.sshiftRight (((Int32.ofInt (q : Nat)).toInt64 &&& 63).toBitVec.smod 64).toNat := rfl
  show (Int64.ofInt a >>> ((Int32.ofInt (q : Nat)).toInt64 &&& 63)).toBitVec.toInt = _
  rw [e, bit_amt q hq, BitVec.toInt_sshiftRight]
  have : (Int64.ofInt a).toBitVec.toInt = a := am_rg64 (by omega) (by omega)
  rw [this]
  obtain ⟨n, rfl⟩ := Int.eq_ofNat_of_zero_le a0
  rfl
theorem bit_and64 {a : Int} (a0 : 0 ≤ a) (a1 : a < 4611686018427387904) : (Int64.ofInt a &&& Int64.ofInt 1).toInt = a % 2 := by
  have e : (Int64.ofInt a &&& Int64.ofInt 1).toBitVec = BitVec.ofInt 64 a &&& 1#64 := rfl
  show (Int64.ofInt a &&& Int64.ofInt 1).toBitVec.toInt = _
  rw [e]
  have v1 : (BitVec.ofInt 64 a).toNat = a.toNat := by
    show (a % 18446744073709551616).toNat = _
    omega
  have hn : (BitVec.ofInt 64 a &&& 1#64).toNat = a.toNat % 2 := by
    rw [BitVec.toNat_and, v1]
    exact Nat.and_two_pow_sub_one_eq_mod a.toNat 1
  rw [BitVec.toInt_eq_toNat_of_lt (by rw [hn]; omega), hn]
  omega
-- value, tag, number of the reference
def sp_181 : List am_V → W_ → Option (Nat × Prop × Option am_V × W_)
  | [.inl x0, .inl x1], w => some (0, (0 ≤ x0 ∧ x0 < 8) ∧ -100000000 ≤ x1 ∧ x1 < 100000000, some (.inl (8 * x1 + x0)), w)
  | _, _ => none
theorem at_181 (x0 x1 : Int) (w : W_) : sp_181 [.inl x0, .inl x1] w = some (0, (0 ≤ x0 ∧ x0 < 8) ∧ -100000000 ≤ x1 ∧ x1 < 100000000, some (.inl (8 * x1 + x0)), w) := rfl
set_option maxRecDepth 100000 in
set_option maxHeartbeats 4000000 in
theorem lk_181 {x0 x1 : Int} {w : W_} (hp : (0 ≤ x0 ∧ x0 < 8) ∧ -100000000 ≤ x1 ∧ x1 < 100000000) : ww_Ct 181 0 [.inl x0, .inl x1] w fun r w' => r = some (.inl (8 * x1 + x0)) ∧ w' = w := by
  refine of_181 (ww_go ctL_nil 400 [] ?_)
  simp only [ww_S, ww_1, wr_0, wr_1, wr_2, wr_3, wr_4, wr_5, wr_6, wr_7, wr_8, wr_9, wr_10, wr_11, wr_12, wr_13, wr_14, wr_15, wr_16, wr_17, wr_18, wr_19, wr_20, wr_21, wr_22, wr_23, wr_24, wr_25, wr_26, wr_27, wr_28, wr_29, wr_30, wr_31, wr_32, wr_33, wr_34, wr_35, wr_36, wr_37, wr_38, wr_39, wr_40, wr_41, wr_42, wr_43, wr_44, wr_45, wr_46, wr_47, wr_48, wr_49, wr_50, wr_51, wr_52, wr_53, wr_54, wr_55, wr_56, wr_57, wr_58, wr_59, wr_60, wr_61, wr_62, wr_63, wr_64, wr_65, wr_66, wr_67, wr_68, wr_69, wr_70, wr_71, wr_72, wr_73, wr_74, wr_75, wr_76, wr_77, wr_78, wr_79, wr_80, wr_81, wr_82, wr_83, wr_84, wr_85, wr_86, wr_87, ww_v1, ww_v2, ww_v3, ww_v4, ww_g0, ww_gS, ww_t0, ww_tS, ww_s0, ww_sS, ww_s2, ww_w1, ww_w2, ww_w3, ww_b, ww_tg, ww_p1, ww_p2, ww_q0, ww_qS, ww_k1, ww_k2, ww_k3, ww_w0, ww_wS, ww_i1, ww_i2, ww_f0, ww_f1, ww_f2, ww_f4, ww_fd, ww_cl, ww_mc, ww_tk, ww_ci, ww_ak, ww_gv, ww_g1, ww_kcs, w_f1, w_f2, w_a1, w_a2, w_u_at, dm_181, List.elem_nil, List.elem_cons, List.map_nil, List.map_cons, List.sum_nil, List.sum_cons, Option.toList_none, Option.toList_some, List.nil_append, List.cons_append, true_and, and_true, implies_true, false_implies, if_true, if_false, reduceIte, reduceCtorEq, Bool.false_eq_true, Bool.and_false, Bool.false_and, Bool.and_self, Bool.and_true, Bool.true_and, Nat.reduceAdd, Nat.reduceBEq, Nat.reduceEqDiff, Nat.reduceLT, Nat.reduceLeDiff, Int.reduceAdd, Int.reduceNeg, Int.reduceToNat, Int.reduceLE, Int.reduceLT, Int.reduceSub, Int.cast_ofNat_Int, Int.reduceNatCast', Int.reduceNatCast, Nat.zero_add, Int.zero_add, and_self, false_and, and_false, or_false, false_or, true_or, or_true, not_true_eq_false, not_false_eq_true, w_i0, w_i1, w_i2, w_g_f, ctL_c, ctL_n, w_isRs, w_bds]
  rw [bit_val hp.1.1 hp.1.2 hp.2.1 hp.2.2]
theorem ok_181 : ww_cOk1 181 sp_181 := by
  intro as w fr pre r w1 e hp
  unfold sp_181 at e
  split at e
  · cases e
    exact lk_181 hp
  · cases e

def sp_182 : List am_V → W_ → Option (Nat × Prop × Option am_V × W_)
  | [.inl x0], w => some (0, am_rg x0, some (.inl (x0 % 8)), w)
  | _, _ => none
theorem at_182 (x0 : Int) (w : W_) : sp_182 [.inl x0] w = some (0, am_rg x0, some (.inl (x0 % 8)), w) := rfl
set_option maxRecDepth 100000 in
set_option maxHeartbeats 4000000 in
theorem lk_182 {x0 : Int} {w : W_} (hp : am_rg x0) : ww_Ct 182 0 [.inl x0] w fun r w' => r = some (.inl (x0 % 8)) ∧ w' = w := by
  refine of_182 (ww_go ctL_nil 400 [] ?_)
  simp only [ww_S, ww_1, wr_0, wr_1, wr_2, wr_3, wr_4, wr_5, wr_6, wr_7, wr_8, wr_9, wr_10, wr_11, wr_12, wr_13, wr_14, wr_15, wr_16, wr_17, wr_18, wr_19, wr_20, wr_21, wr_22, wr_23, wr_24, wr_25, wr_26, wr_27, wr_28, wr_29, wr_30, wr_31, wr_32, wr_33, wr_34, wr_35, wr_36, wr_37, wr_38, wr_39, wr_40, wr_41, wr_42, wr_43, wr_44, wr_45, wr_46, wr_47, wr_48, wr_49, wr_50, wr_51, wr_52, wr_53, wr_54, wr_55, wr_56, wr_57, wr_58, wr_59, wr_60, wr_61, wr_62, wr_63, wr_64, wr_65, wr_66, wr_67, wr_68, wr_69, wr_70, wr_71, wr_72, wr_73, wr_74, wr_75, wr_76, wr_77, wr_78, wr_79, wr_80, wr_81, wr_82, wr_83, wr_84, wr_85, wr_86, wr_87, ww_v1, ww_v2, ww_v3, ww_v4, ww_g0, ww_gS, ww_t0, ww_tS, ww_s0, ww_sS, ww_s2, ww_w1, ww_w2, ww_w3, ww_b, ww_tg, ww_p1, ww_p2, ww_q0, ww_qS, ww_k1, ww_k2, ww_k3, ww_w0, ww_wS, ww_i1, ww_i2, ww_f0, ww_f1, ww_f2, ww_f4, ww_fd, ww_cl, ww_mc, ww_tk, ww_ci, ww_ak, ww_gv, ww_g1, ww_kcs, w_f1, w_f2, w_a1, w_a2, w_u_at, dm_182, List.elem_nil, List.elem_cons, List.map_nil, List.map_cons, List.sum_nil, List.sum_cons, Option.toList_none, Option.toList_some, List.nil_append, List.cons_append, true_and, and_true, implies_true, false_implies, if_true, if_false, reduceIte, reduceCtorEq, Bool.false_eq_true, Bool.and_false, Bool.false_and, Bool.and_self, Bool.and_true, Bool.true_and, Nat.reduceAdd, Nat.reduceBEq, Nat.reduceEqDiff, Nat.reduceLT, Nat.reduceLeDiff, Int.reduceAdd, Int.reduceNeg, Int.reduceToNat, Int.reduceLE, Int.reduceLT, Int.reduceSub, Int.cast_ofNat_Int, Int.reduceNatCast', Int.reduceNatCast, Nat.zero_add, Int.zero_add, and_self, false_and, and_false, or_false, false_or, true_or, or_true, not_true_eq_false, not_false_eq_true, w_i0, w_i1, w_i2, w_g_f, ctL_c, ctL_n, w_isRs, w_bds]
  rw [bit_tag hp.1 hp.2]
theorem ok_182 : ww_cOk1 182 sp_182 := by
  intro as w fr pre r w1 e hp
  unfold sp_182 at e
  split at e
  · cases e
    exact lk_182 hp
  · cases e

def sp_183 : List am_V → W_ → Option (Nat × Prop × Option am_V × W_)
  | [.inl x0], w => some (0, am_rg x0, some (.inl (x0 / 8)), w)
  | _, _ => none
theorem at_183 (x0 : Int) (w : W_) : sp_183 [.inl x0] w = some (0, am_rg x0, some (.inl (x0 / 8)), w) := rfl
set_option maxRecDepth 100000 in
set_option maxHeartbeats 4000000 in
theorem lk_183 {x0 : Int} {w : W_} (hp : am_rg x0) : ww_Ct 183 0 [.inl x0] w fun r w' => r = some (.inl (x0 / 8)) ∧ w' = w := by
  refine of_183 (ww_go ctL_nil 400 [] ?_)
  simp only [ww_S, ww_1, wr_0, wr_1, wr_2, wr_3, wr_4, wr_5, wr_6, wr_7, wr_8, wr_9, wr_10, wr_11, wr_12, wr_13, wr_14, wr_15, wr_16, wr_17, wr_18, wr_19, wr_20, wr_21, wr_22, wr_23, wr_24, wr_25, wr_26, wr_27, wr_28, wr_29, wr_30, wr_31, wr_32, wr_33, wr_34, wr_35, wr_36, wr_37, wr_38, wr_39, wr_40, wr_41, wr_42, wr_43, wr_44, wr_45, wr_46, wr_47, wr_48, wr_49, wr_50, wr_51, wr_52, wr_53, wr_54, wr_55, wr_56, wr_57, wr_58, wr_59, wr_60, wr_61, wr_62, wr_63, wr_64, wr_65, wr_66, wr_67, wr_68, wr_69, wr_70, wr_71, wr_72, wr_73, wr_74, wr_75, wr_76, wr_77, wr_78, wr_79, wr_80, wr_81, wr_82, wr_83, wr_84, wr_85, wr_86, wr_87, ww_v1, ww_v2, ww_v3, ww_v4, ww_g0, ww_gS, ww_t0, ww_tS, ww_s0, ww_sS, ww_s2, ww_w1, ww_w2, ww_w3, ww_b, ww_tg, ww_p1, ww_p2, ww_q0, ww_qS, ww_k1, ww_k2, ww_k3, ww_w0, ww_wS, ww_i1, ww_i2, ww_f0, ww_f1, ww_f2, ww_f4, ww_fd, ww_cl, ww_mc, ww_tk, ww_ci, ww_ak, ww_gv, ww_g1, ww_kcs, w_f1, w_f2, w_a1, w_a2, w_u_at, dm_183, List.elem_nil, List.elem_cons, List.map_nil, List.map_cons, List.sum_nil, List.sum_cons, Option.toList_none, Option.toList_some, List.nil_append, List.cons_append, true_and, and_true, implies_true, false_implies, if_true, if_false, reduceIte, reduceCtorEq, Bool.false_eq_true, Bool.and_false, Bool.false_and, Bool.and_self, Bool.and_true, Bool.true_and, Nat.reduceAdd, Nat.reduceBEq, Nat.reduceEqDiff, Nat.reduceLT, Nat.reduceLeDiff, Int.reduceAdd, Int.reduceNeg, Int.reduceToNat, Int.reduceLE, Int.reduceLT, Int.reduceSub, Int.cast_ofNat_Int, Int.reduceNatCast', Int.reduceNatCast, Nat.zero_add, Int.zero_add, and_self, false_and, and_false, or_false, false_or, true_or, or_true, not_true_eq_false, not_false_eq_true, w_i0, w_i1, w_i2, w_g_f, ctL_c, ctL_n, w_isRs, w_bds]
  rw [bit_num hp.1 hp.2]
theorem ok_183 : ww_cOk1 183 sp_183 := by
  intro as w fr pre r w1 e hp
  unfold sp_183 at e
  split at e
  · cases e
    exact lk_183 hp
  · cases e

