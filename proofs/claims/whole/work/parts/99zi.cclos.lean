/-! ===== the class: names that are kept ===== -/
def cn : Nat → Nat → Nat
  | _, 0 => 0
  | U, i + 1 => cn U i + (if U >>> i % 2 = 1 then 1 else 0)
theorem cn_le (U : Nat) : ∀ i, cn U i ≤ i := by
  intro i
  induction i with
  | zero => exact Nat.le_refl _
  | succ i ih =>
    show cn U i + (if U >>> i % 2 = 1 then 1 else 0) ≤ i + 1
    split <;> omega
abbrev u_U (U : Nat) : Nat → Bool := fun m => U >>> m % 2 == 1
/-- the answer of ishr, by a name (the simp rows run away on what stands behind it) -/
def bsh (x y : Int) : Int := (Int32.ofInt x >>> (Int32.ofInt y &&& 31)).toInt
theorem bsh_e (x y : Int) : bsh x y = (Int32.ofInt x >>> (Int32.ofInt y &&& 31)).toInt := rfl
theorem wr_46s (own nL fr rk : Nat) (sc : am_Sc) (Q : Option am_V → W_ → Prop) (ct : w_CT) (Kz k : w_KT) (pc : Nat) (ls st : List am_V) (w : W_) (x y : Int) : ww_stp own nL fr rk sc Q ct Kz k pc (.ishr) 1 ls (.inl y :: .inl x :: st) w = (k (pc + 1) ls (.inl (bsh x y) :: st) w) := by rw [bsh_e]; exact wr_46 own nL fr rk sc Q ct Kz k pc ls st w x y
set_option maxRecDepth 100000 in
set_option maxHeartbeats 2000000 in
theorem lk_81t {Q : Option am_V → W_ → Prop} {w : W_} {id u x j bt y : Int} (j0 : 0 ≤ j ∧ j < 10) (b0 : bt = 0 ∨ bt = 1) (hb : (Int32.ofInt (bsh u j) &&& Int32.ofInt 1).toInt = bt) (hn : 0 ≤ w.1 13 2 ∧ w.1 13 2 ≤ 262100) (xr : am_rg x) (yr : am_rg y)
    (K1 : bt ≠ 0 → y ≠ 20005 → ww_Z 8 6 5 1 cX8_closeOver none Q 16 [.inr (.inr (.inl 41)), .inl id, .inl u, .inl (30000 + w.1 13 2), .inl (j + 1), .inl y] [] (w_mk w 14 y x j 0))
    (K2 : (bt = 0 ∨ y = 20005) → ww_Z 8 6 5 1 cX8_closeOver none Q 16 [.inr (.inr (.inl 41)), .inl id, .inl u, .inl x, .inl (j + 1), .inl y] [] w) : ww_Z 8 6 5 1 cX8_closeOver none Q 45 [.inr (.inr (.inl 41)), .inl id, .inl u, .inl x, .inl j, .inl y] [.inl j, .inl u] w := by
  refine ww_go1 (ctL_cons ok_20 ctL_nil) 60 [16] ?_
  simp only [ww_S, ww_1, wr_0, wr_1, wr_2, wr_3, wr_4, wr_5, wr_6, wr_7, wr_8, wr_9, wr_10, wr_11, wr_12, wr_13, wr_14, wr_15, wr_16, wr_17, wr_18, wr_19, wr_20, wr_21, wr_22, wr_23, wr_24, wr_25, wr_26, wr_27, wr_28, wr_29, wr_30, wr_31, wr_32, wr_33, wr_34, wr_35, wr_36, wr_37, wr_38, wr_39, wr_40, wr_41, wr_42, wr_43, wr_44, wr_45, wr_46s, wr_47, wr_48, wr_49, wr_50, wr_51, wr_52, wr_53, wr_54, wr_55, wr_56, wr_57, wr_58, wr_59, wr_60, wr_61, wr_62, wr_63, wr_64, wr_65, wr_66, wr_67, wr_68, wr_69, wr_70, wr_71, wr_72, wr_73, wr_74, wr_75, wr_76, wr_77, wr_78, wr_79, wr_80, wr_81, wr_82, wr_83, wr_84, wr_85, wr_86, wr_87, ww_v1, ww_v2, ww_v3, ww_v4, ww_g0, ww_gS, ww_t0, ww_tS, ww_s0, ww_sS, ww_s2, ww_w1, ww_w2, ww_w3, ww_b, ww_tg, ww_p1, ww_p2, ww_q0, ww_qS, ww_k1, ww_k2, ww_k3, ww_w0, ww_wS, ww_i1, ww_i2, ww_f0, ww_f1, ww_f2, ww_f4, ww_fd, ww_cl, ww_mc, ww_tk, ww_ci, ww_ak, ww_gv, ww_g1, ww_kcs, w_f1, w_f2, w_a1, w_a2, w_u_at, dm_81, List.elem_nil, List.elem_cons, List.map_nil, List.map_cons, List.sum_nil, List.sum_cons, Option.toList_none, Option.toList_some, List.nil_append, List.cons_append, true_and, and_true, implies_true, false_implies, if_true, if_false, reduceIte, reduceCtorEq, Bool.false_eq_true, Bool.and_false, Bool.false_and, Bool.and_self, Bool.and_true, Bool.true_and, Nat.reduceAdd, Nat.reduceBEq, Nat.reduceEqDiff, Nat.reduceLT, Nat.reduceLeDiff, Int.reduceAdd, Int.reduceNeg, Int.reduceToNat, Int.reduceLE, Int.reduceLT, Int.reduceSub, Int.cast_ofNat_Int, Int.reduceNatCast', Int.reduceNatCast, Nat.zero_add, Int.zero_add, and_self, false_and, and_false, or_false, false_or, true_or, or_true, not_true_eq_false, not_false_eq_true, at_20, ctL_c, ctL_n, hb]
  refine ⟨by unfold am_rg; omega, fun q => K2 (Or.inl q), fun q => ⟨yr, by unfold am_rg; omega, fun q2 => K2 (Or.inr q2), fun q2 => ?_⟩⟩
  have z := K1 q q2
  (repeat' (first | (with_reducible exact z) | (with_reducible exact trivial) | (with_reducible assumption) | refine And.intro ?_ ?_ | intro _)) <;> first | omega | (unfold am_rg at *; omega) | skip
set_option maxRecDepth 100000 in
set_option maxHeartbeats 2000000 in
theorem lk_81s {Q : Option am_V → W_ → Prop} {w : W_} {id u x j y : Int} {v5 : am_V} (j0 : 0 ≤ j ∧ j < 10) (h5 : am_two v5 = false) (hs : 0 ≤ w.1 41 12 ∧ w.1 41 12 < 2300) (hy : w_g w 42 (w.1 41 12 * 10 + j) = y)
    (K : ww_Z 8 6 5 1 cX8_closeOver none Q 45 [.inr (.inr (.inl 41)), .inl id, .inl u, .inl x, .inl j, .inl y] [.inl j, .inl u] w) : ww_Z 8 6 5 1 cX8_closeOver none Q 16 [.inr (.inr (.inl 41)), .inl id, .inl u, .inl x, .inl j, v5] [] w := by
  refine ww_go1 (ctL_cons ok_68 ctL_nil) 60 [16, 45] ?_
  simp only [ww_S, ww_1, wr_0, wr_1, wr_2, wr_3, wr_4, wr_5, wr_6, wr_7, wr_8, wr_9, wr_10, wr_11, wr_12, wr_13, wr_14, wr_15, wr_16, wr_17, wr_18, wr_19, wr_20, wr_21, wr_22, wr_23, wr_24, wr_25, wr_26, wr_27, wr_28, wr_29, wr_30, wr_31, wr_32, wr_33, wr_34, wr_35, wr_36, wr_37, wr_38, wr_39, wr_40, wr_41, wr_42, wr_43, wr_44, wr_45, wr_46, wr_47, wr_48, wr_49, wr_50, wr_51, wr_52, wr_53, wr_54, wr_55, wr_56, wr_57, wr_58, wr_59, wr_60, wr_61, wr_62, wr_63, wr_64, wr_65, wr_66, wr_67, wr_68, wr_69, wr_70, wr_71, wr_72, wr_73, wr_74, wr_75, wr_76, wr_77, wr_78, wr_79, wr_80, wr_81, wr_82, wr_83, wr_84, wr_85, wr_86, wr_87, ww_v1, ww_v2, ww_v3, ww_v4, ww_g0, ww_gS, ww_t0, ww_tS, ww_s0, ww_sS, ww_s2, ww_w1, ww_w2, ww_w3, ww_b, ww_tg, ww_p1, ww_p2, ww_q0, ww_qS, ww_k1, ww_k2, ww_k3, ww_w0, ww_wS, ww_i1, ww_i2, ww_f0, ww_f1, ww_f2, ww_f4, ww_fd, ww_cl, ww_mc, ww_tk, ww_ci, ww_ak, ww_gv, ww_g1, ww_kcs, w_f1, w_f2, w_a1, w_a2, w_u_at, dm_81, List.elem_nil, List.elem_cons, List.map_nil, List.map_cons, List.sum_nil, List.sum_cons, Option.toList_none, Option.toList_some, List.nil_append, List.cons_append, true_and, and_true, implies_true, false_implies, if_true, if_false, reduceIte, reduceCtorEq, Bool.false_eq_true, Bool.and_false, Bool.false_and, Bool.and_self, Bool.and_true, Bool.true_and, Nat.reduceAdd, Nat.reduceBEq, Nat.reduceEqDiff, Nat.reduceLT, Nat.reduceLeDiff, Int.reduceAdd, Int.reduceNeg, Int.reduceToNat, Int.reduceLE, Int.reduceLT, Int.reduceSub, Int.cast_ofNat_Int, Int.reduceNatCast', Int.reduceNatCast, Nat.zero_add, Int.zero_add, and_self, false_and, and_false, or_false, false_or, true_or, or_true, not_true_eq_false, not_false_eq_true, at_68, ctL_c, ctL_n, w_isRs, hy]
  have z := K
  (repeat' (first | (with_reducible exact z) | (with_reducible exact trivial) | (with_reducible assumption) | refine And.intro ?_ ?_ | intro _)) <;> first | omega | (unfold am_rg at *; omega) | (exfalso; omega) | skip
