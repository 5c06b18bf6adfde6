/-! ===== leaves of the class: notes, the memory, the tree, the setter ===== -/
abbrev w_o (w : W_) : Nat := (w.1 17 7).toNat
def sp_65 : List am_V → W_ → Option (Nat × Prop × Option am_V × W_)
  | [.inr (.inr (.inl 17)), .inl x0, .inl x1], w => some (3, (0 ≤ w.1 (w_o w) 5 ∧ w.1 (w_o w) 5 < 64) ∧ (w.1 17 7 = 24 ∨ w.1 17 7 = 55 ∨ w.1 17 7 = 64), none, (if w.1 (w_o w) 5 < 60 then w_f (w_a (w_f w 17 5 (w.1 17 5 + 1)) (w_o w + 3) (w.1 (w_o w) 5).toNat (100000 * x0 + x1 + w.1 17 6)) (w_o w) 5 (w.1 (w_o w) 5 + 1) else w_f w 17 5 (w.1 17 5 + 1)))
  | _, _ => none
theorem at_65 (x0 x1 : Int) (w : W_) : sp_65 [.inr (.inr (.inl 17)), .inl x0, .inl x1] w = some (3, (0 ≤ w.1 (w_o w) 5 ∧ w.1 (w_o w) 5 < 64) ∧ (w.1 17 7 = 24 ∨ w.1 17 7 = 55 ∨ w.1 17 7 = 64), none, (if w.1 (w_o w) 5 < 60 then w_f (w_a (w_f w 17 5 (w.1 17 5 + 1)) (w_o w + 3) (w.1 (w_o w) 5).toNat (100000 * x0 + x1 + w.1 17 6)) (w_o w) 5 (w.1 (w_o w) 5 + 1) else w_f w 17 5 (w.1 17 5 + 1))) := rfl
set_option maxRecDepth 100000 in
set_option maxHeartbeats 4000000 in
theorem lk_65 {x0 x1 : Int} {w : W_} (hp : (0 ≤ w.1 (w_o w) 5 ∧ w.1 (w_o w) 5 < 64) ∧ (w.1 17 7 = 24 ∨ w.1 17 7 = 55 ∨ w.1 17 7 = 64)) : ww_Ct 65 3 [.inr (.inr (.inl 17)), .inl x0, .inl x1] w fun r w' => r = none ∧ w' = (if w.1 (w_o w) 5 < 60 then w_f (w_a (w_f w 17 5 (w.1 17 5 + 1)) (w_o w + 3) (w.1 (w_o w) 5).toNat (100000 * x0 + x1 + w.1 17 6)) (w_o w) 5 (w.1 (w_o w) 5 + 1) else w_f w 17 5 (w.1 17 5 + 1)) := by
  rcases hp.2 with h0 | h0 | h0
  · refine of_65 (ww_go (ctL_cons ok_69 ctL_nil) 400 [] ?_)
    simp only [ww_S, ww_1, wr_0, wr_1, wr_2, wr_3, wr_4, wr_5, wr_6, wr_7, wr_8, wr_9, wr_10, wr_11, wr_12, wr_13, wr_14, wr_15, wr_16, wr_17, wr_18, wr_19, wr_20, wr_21, wr_22, wr_23, wr_24, wr_25, wr_26, wr_27, wr_28, wr_29, wr_30, wr_31, wr_32, wr_33, wr_34, wr_35, wr_36, wr_37, wr_38, wr_39, wr_40, wr_41, wr_42, wr_43, wr_44, wr_45, wr_46, wr_47, wr_48, wr_49, wr_50, wr_51, wr_52, wr_53, wr_54, wr_55, wr_56, wr_57, wr_58, wr_59, wr_60, wr_61, wr_62, wr_63, wr_64, wr_65, wr_66, wr_67, wr_68, wr_69, wr_70, wr_71, wr_72, wr_73, wr_74, wr_75, wr_76, wr_77, wr_78, wr_79, wr_80, wr_81, wr_82, wr_83, wr_84, wr_85, wr_86, wr_87, ww_v1, ww_v2, ww_v3, ww_v4, ww_g0, ww_gS, ww_t0, ww_tS, ww_s0, ww_sS, ww_s2, ww_w1, ww_w2, ww_w3, ww_b, ww_tg, ww_p1, ww_p2, ww_q0, ww_qS, ww_k1, ww_k2, ww_k3, ww_w0, ww_wS, ww_i1, ww_i2, ww_f0, ww_f1, ww_f2, ww_f4, ww_fd, ww_cl, ww_mc, ww_tk, ww_ci, ww_ak, ww_gv, ww_g1, ww_kcs, w_f1, w_f2, w_a1, w_a2, w_u_at, dm_65, List.elem_nil, List.elem_cons, List.map_nil, List.map_cons, List.sum_nil, List.sum_cons, Option.toList_none, Option.toList_some, List.nil_append, List.cons_append, true_and, and_true, implies_true, false_implies, if_true, if_false, reduceIte, reduceCtorEq, Bool.false_eq_true, Bool.and_false, Bool.false_and, Bool.and_self, Bool.and_true, Bool.true_and, Nat.reduceAdd, Nat.reduceBEq, Nat.reduceEqDiff, Nat.reduceLT, Nat.reduceLeDiff, Int.reduceAdd, Int.reduceNeg, Int.reduceToNat, Int.reduceLE, Int.reduceLT, Int.reduceSub, Int.cast_ofNat_Int, Int.reduceNatCast', Int.reduceNatCast, Nat.zero_add, Int.zero_add, and_self, false_and, and_false, or_false, false_or, true_or, or_true, not_true_eq_false, not_false_eq_true, at_69, w_i0, w_i1, w_i2, w_g_f, ctL_c, ctL_n, w_isRs, w_bds, h0]
    try simp only [w_o, h0, Int.reduceToNat, Nat.reduceAdd] at hp ⊢
    (try simp only [h_ok, h_cC, h_cF, h_w, h_nf, h_code, am_rg] at hp ⊢); all_goals ((repeat' (first | refine And.intro ?_ ?_ | intro _)) <;> first | assumption | trivial | omega | (refine congrArg (fun z : Int => some (Sum.inl z)) ?_; (repeat' split) <;> omega) | ((repeat' split) <;> first | rfl | omega))
  · refine of_65 (ww_go (ctL_cons ok_69 ctL_nil) 400 [] ?_)
    simp only [ww_S, ww_1, wr_0, wr_1, wr_2, wr_3, wr_4, wr_5, wr_6, wr_7, wr_8, wr_9, wr_10, wr_11, wr_12, wr_13, wr_14, wr_15, wr_16, wr_17, wr_18, wr_19, wr_20, wr_21, wr_22, wr_23, wr_24, wr_25, wr_26, wr_27, wr_28, wr_29, wr_30, wr_31, wr_32, wr_33, wr_34, wr_35, wr_36, wr_37, wr_38, wr_39, wr_40, wr_41, wr_42, wr_43, wr_44, wr_45, wr_46, wr_47, wr_48, wr_49, wr_50, wr_51, wr_52, wr_53, wr_54, wr_55, wr_56, wr_57, wr_58, wr_59, wr_60, wr_61, wr_62, wr_63, wr_64, wr_65, wr_66, wr_67, wr_68, wr_69, wr_70, wr_71, wr_72, wr_73, wr_74, wr_75, wr_76, wr_77, wr_78, wr_79, wr_80, wr_81, wr_82, wr_83, wr_84, wr_85, wr_86, wr_87, ww_v1, ww_v2, ww_v3, ww_v4, ww_g0, ww_gS, ww_t0, ww_tS, ww_s0, ww_sS, ww_s2, ww_w1, ww_w2, ww_w3, ww_b, ww_tg, ww_p1, ww_p2, ww_q0, ww_qS, ww_k1, ww_k2, ww_k3, ww_w0, ww_wS, ww_i1, ww_i2, ww_f0, ww_f1, ww_f2, ww_f4, ww_fd, ww_cl, ww_mc, ww_tk, ww_ci, ww_ak, ww_gv, ww_g1, ww_kcs, w_f1, w_f2, w_a1, w_a2, w_u_at, dm_65, List.elem_nil, List.elem_cons, List.map_nil, List.map_cons, List.sum_nil, List.sum_cons, Option.toList_none, Option.toList_some, List.nil_append, List.cons_append, true_and, and_true, implies_true, false_implies, if_true, if_false, reduceIte, reduceCtorEq, Bool.false_eq_true, Bool.and_false, Bool.false_and, Bool.and_self, Bool.and_true, Bool.true_and, Nat.reduceAdd, Nat.reduceBEq, Nat.reduceEqDiff, Nat.reduceLT, Nat.reduceLeDiff, Int.reduceAdd, Int.reduceNeg, Int.reduceToNat, Int.reduceLE, Int.reduceLT, Int.reduceSub, Int.cast_ofNat_Int, Int.reduceNatCast', Int.reduceNatCast, Nat.zero_add, Int.zero_add, and_self, false_and, and_false, or_false, false_or, true_or, or_true, not_true_eq_false, not_false_eq_true, at_69, w_i0, w_i1, w_i2, w_g_f, ctL_c, ctL_n, w_isRs, w_bds, h0]
    try simp only [w_o, h0, Int.reduceToNat, Nat.reduceAdd] at hp ⊢
    (try simp only [h_ok, h_cC, h_cF, h_w, h_nf, h_code, am_rg] at hp ⊢); all_goals ((repeat' (first | refine And.intro ?_ ?_ | intro _)) <;> first | assumption | trivial | omega | (refine congrArg (fun z : Int => some (Sum.inl z)) ?_; (repeat' split) <;> omega) | ((repeat' split) <;> first | rfl | omega))
  · refine of_65 (ww_go (ctL_cons ok_69 ctL_nil) 400 [] ?_)
    simp only [ww_S, ww_1, wr_0, wr_1, wr_2, wr_3, wr_4, wr_5, wr_6, wr_7, wr_8, wr_9, wr_10, wr_11, wr_12, wr_13, wr_14, wr_15, wr_16, wr_17, wr_18, wr_19, wr_20, wr_21, wr_22, wr_23, wr_24, wr_25, wr_26, wr_27, wr_28, wr_29, wr_30, wr_31, wr_32, wr_33, wr_34, wr_35, wr_36, wr_37, wr_38, wr_39, wr_40, wr_41, wr_42, wr_43, wr_44, wr_45, wr_46, wr_47, wr_48, wr_49, wr_50, wr_51, wr_52, wr_53, wr_54, wr_55, wr_56, wr_57, wr_58, wr_59, wr_60, wr_61, wr_62, wr_63, wr_64, wr_65, wr_66, wr_67, wr_68, wr_69, wr_70, wr_71, wr_72, wr_73, wr_74, wr_75, wr_76, wr_77, wr_78, wr_79, wr_80, wr_81, wr_82, wr_83, wr_84, wr_85, wr_86, wr_87, ww_v1, ww_v2, ww_v3, ww_v4, ww_g0, ww_gS, ww_t0, ww_tS, ww_s0, ww_sS, ww_s2, ww_w1, ww_w2, ww_w3, ww_b, ww_tg, ww_p1, ww_p2, ww_q0, ww_qS, ww_k1, ww_k2, ww_k3, ww_w0, ww_wS, ww_i1, ww_i2, ww_f0, ww_f1, ww_f2, ww_f4, ww_fd, ww_cl, ww_mc, ww_tk, ww_ci, ww_ak, ww_gv, ww_g1, ww_kcs, w_f1, w_f2, w_a1, w_a2, w_u_at, dm_65, List.elem_nil, List.elem_cons, List.map_nil, List.map_cons, List.sum_nil, List.sum_cons, Option.toList_none, Option.toList_some, List.nil_append, List.cons_append, true_and, and_true, implies_true, false_implies, if_true, if_false, reduceIte, reduceCtorEq, Bool.false_eq_true, Bool.and_false, Bool.false_and, Bool.and_self, Bool.and_true, Bool.true_and, Nat.reduceAdd, Nat.reduceBEq, Nat.reduceEqDiff, Nat.reduceLT, Nat.reduceLeDiff, Int.reduceAdd, Int.reduceNeg, Int.reduceToNat, Int.reduceLE, Int.reduceLT, Int.reduceSub, Int.cast_ofNat_Int, Int.reduceNatCast', Int.reduceNatCast, Nat.zero_add, Int.zero_add, and_self, false_and, and_false, or_false, false_or, true_or, or_true, not_true_eq_false, not_false_eq_true, at_69, w_i0, w_i1, w_i2, w_g_f, ctL_c, ctL_n, w_isRs, w_bds, h0]
    try simp only [w_o, h0, Int.reduceToNat, Nat.reduceAdd] at hp ⊢
    (try simp only [h_ok, h_cC, h_cF, h_w, h_nf, h_code, am_rg] at hp ⊢); all_goals ((repeat' (first | refine And.intro ?_ ?_ | intro _)) <;> first | assumption | trivial | omega | (refine congrArg (fun z : Int => some (Sum.inl z)) ?_; (repeat' split) <;> omega) | ((repeat' split) <;> first | rfl | omega))
theorem ok_65 : ww_cOk1 65 sp_65 := by
  intro as w fr pre r w1 e hp
  unfold sp_65 at e
  split at e
  · cases e
    exact lk_65 hp
  · cases e

def sp_46 : List am_V → W_ → Option (Nat × Prop × Option am_V × W_)
  | [.inr (.inr (.inl 10)), .inl x0, .inl x1], w => some (1, (0 ≤ x0 ∧ x0 < 1000) ∧ (0 ≤ x1 ∧ x1 < 45) ∧ am_rg (w_g w 11 (x0 * 61 + 16 + x1)), some (.inl (if w_g w 11 (x0 * 61 + 16 + x1) ≠ 20005 then 1 else 0)), w)
  | _, _ => none
theorem at_46 (x0 x1 : Int) (w : W_) : sp_46 [.inr (.inr (.inl 10)), .inl x0, .inl x1] w = some (1, (0 ≤ x0 ∧ x0 < 1000) ∧ (0 ≤ x1 ∧ x1 < 45) ∧ am_rg (w_g w 11 (x0 * 61 + 16 + x1)), some (.inl (if w_g w 11 (x0 * 61 + 16 + x1) ≠ 20005 then 1 else 0)), w) := rfl
set_option maxRecDepth 100000 in
set_option maxHeartbeats 4000000 in
theorem lk_46 {x0 x1 : Int} {w : W_} (hp : (0 ≤ x0 ∧ x0 < 1000) ∧ (0 ≤ x1 ∧ x1 < 45) ∧ am_rg (w_g w 11 (x0 * 61 + 16 + x1))) : ww_Ct 46 1 [.inr (.inr (.inl 10)), .inl x0, .inl x1] w fun r w' => r = some (.inl (if w_g w 11 (x0 * 61 + 16 + x1) ≠ 20005 then 1 else 0)) ∧ w' = w := by
  refine of_46 (ww_go (ctL_cons ok_68 ctL_nil) 400 [] ?_)
  simp only [ww_S, ww_1, wr_0, wr_1, wr_2, wr_3, wr_4, wr_5, wr_6, wr_7, wr_8, wr_9, wr_10, wr_11, wr_12, wr_13, wr_14, wr_15, wr_16, wr_17, wr_18, wr_19, wr_20, wr_21, wr_22, wr_23, wr_24, wr_25, wr_26, wr_27, wr_28, wr_29, wr_30, wr_31, wr_32, wr_33, wr_34, wr_35, wr_36, wr_37, wr_38, wr_39, wr_40, wr_41, wr_42, wr_43, wr_44, wr_45, wr_46, wr_47, wr_48, wr_49, wr_50, wr_51, wr_52, wr_53, wr_54, wr_55, wr_56, wr_57, wr_58, wr_59, wr_60, wr_61, wr_62, wr_63, wr_64, wr_65, wr_66, wr_67, wr_68, wr_69, wr_70, wr_71, wr_72, wr_73, wr_74, wr_75, wr_76, wr_77, wr_78, wr_79, wr_80, wr_81, wr_82, wr_83, wr_84, wr_85, wr_86, wr_87, ww_v1, ww_v2, ww_v3, ww_v4, ww_g0, ww_gS, ww_t0, ww_tS, ww_s0, ww_sS, ww_s2, ww_w1, ww_w2, ww_w3, ww_b, ww_tg, ww_p1, ww_p2, ww_q0, ww_qS, ww_k1, ww_k2, ww_k3, ww_w0, ww_wS, ww_i1, ww_i2, ww_f0, ww_f1, ww_f2, ww_f4, ww_fd, ww_cl, ww_mc, ww_tk, ww_ci, ww_ak, ww_gv, ww_g1, ww_kcs, w_f1, w_f2, w_a1, w_a2, w_u_at, dm_46, List.elem_nil, List.elem_cons, List.map_nil, List.map_cons, List.sum_nil, List.sum_cons, Option.toList_none, Option.toList_some, List.nil_append, List.cons_append, true_and, and_true, implies_true, false_implies, if_true, if_false, reduceIte, reduceCtorEq, Bool.false_eq_true, Bool.and_false, Bool.false_and, Bool.and_self, Bool.and_true, Bool.true_and, Nat.reduceAdd, Nat.reduceBEq, Nat.reduceEqDiff, Nat.reduceLT, Nat.reduceLeDiff, Int.reduceAdd, Int.reduceNeg, Int.reduceToNat, Int.reduceLE, Int.reduceLT, Int.reduceSub, Int.cast_ofNat_Int, Int.reduceNatCast', Int.reduceNatCast, Nat.zero_add, Int.zero_add, and_self, false_and, and_false, or_false, false_or, true_or, or_true, not_true_eq_false, not_false_eq_true, at_68, w_i0, w_i1, w_i2, w_g_f, ctL_c, ctL_n, w_isRs, w_bds]
  (try simp only [h_ok, h_cC, h_cF, h_w, h_nf, h_code, am_rg] at hp ⊢); all_goals ((repeat' (first | refine And.intro ?_ ?_ | intro _)) <;> first | assumption | trivial | omega | (refine congrArg (fun z : Int => some (Sum.inl z)) ?_; (repeat' split) <;> omega) | ((repeat' split) <;> first | rfl | omega))
theorem ok_46 : ww_cOk1 46 sp_46 := by
  intro as w fr pre r w1 e hp
  unfold sp_46 at e
  split at e
  · cases e
    exact lk_46 hp
  · cases e

def sp_50 : List am_V → W_ → Option (Nat × Prop × Option am_V × W_)
  | [.inr (.inr (.inl 10)), .inl x0, .inl x1, .inl x2], w => some (3, 0 ≤ w.1 10 1 ∧ w.1 10 1 ≤ 60, some (.inl (if 60 ≤ w.1 10 1 then -1 else w.1 10 1)), (if 60 ≤ w.1 10 1 then w else w_f (w_a (w_a (w_a w 11 (w.1 10 1 * 61 + 0).toNat x0) 11 (w.1 10 1 * 61 + 1).toNat x1) 11 (w.1 10 1 * 61 + 2).toNat x2) 10 1 (w.1 10 1 + 1)))
  | _, _ => none
theorem at_50 (x0 x1 x2 : Int) (w : W_) : sp_50 [.inr (.inr (.inl 10)), .inl x0, .inl x1, .inl x2] w = some (3, 0 ≤ w.1 10 1 ∧ w.1 10 1 ≤ 60, some (.inl (if 60 ≤ w.1 10 1 then -1 else w.1 10 1)), (if 60 ≤ w.1 10 1 then w else w_f (w_a (w_a (w_a w 11 (w.1 10 1 * 61 + 0).toNat x0) 11 (w.1 10 1 * 61 + 1).toNat x1) 11 (w.1 10 1 * 61 + 2).toNat x2) 10 1 (w.1 10 1 + 1))) := rfl
set_option maxRecDepth 100000 in
set_option maxHeartbeats 4000000 in
theorem lk_50 {x0 x1 x2 : Int} {w : W_} (hp : 0 ≤ w.1 10 1 ∧ w.1 10 1 ≤ 60) : ww_Ct 50 3 [.inr (.inr (.inl 10)), .inl x0, .inl x1, .inl x2] w fun r w' => r = some (.inl (if 60 ≤ w.1 10 1 then -1 else w.1 10 1)) ∧ w' = (if 60 ≤ w.1 10 1 then w else w_f (w_a (w_a (w_a w 11 (w.1 10 1 * 61 + 0).toNat x0) 11 (w.1 10 1 * 61 + 1).toNat x1) 11 (w.1 10 1 * 61 + 2).toNat x2) 10 1 (w.1 10 1 + 1)) := by
  refine of_50 (ww_go (ctL_cons ok_69 ctL_nil) 400 [] ?_)
  simp only [ww_S, ww_1, wr_0, wr_1, wr_2, wr_3, wr_4, wr_5, wr_6, wr_7, wr_8, wr_9, wr_10, wr_11, wr_12, wr_13, wr_14, wr_15, wr_16, wr_17, wr_18, wr_19, wr_20, wr_21, wr_22, wr_23, wr_24, wr_25, wr_26, wr_27, wr_28, wr_29, wr_30, wr_31, wr_32, wr_33, wr_34, wr_35, wr_36, wr_37, wr_38, wr_39, wr_40, wr_41, wr_42, wr_43, wr_44, wr_45, wr_46, wr_47, wr_48, wr_49, wr_50, wr_51, wr_52, wr_53, wr_54, wr_55, wr_56, wr_57, wr_58, wr_59, wr_60, wr_61, wr_62, wr_63, wr_64, wr_65, wr_66, wr_67, wr_68, wr_69, wr_70, wr_71, wr_72, wr_73, wr_74, wr_75, wr_76, wr_77, wr_78, wr_79, wr_80, wr_81, wr_82, wr_83, wr_84, wr_85, wr_86, wr_87, ww_v1, ww_v2, ww_v3, ww_v4, ww_g0, ww_gS, ww_t0, ww_tS, ww_s0, ww_sS, ww_s2, ww_w1, ww_w2, ww_w3, ww_b, ww_tg, ww_p1, ww_p2, ww_q0, ww_qS, ww_k1, ww_k2, ww_k3, ww_w0, ww_wS, ww_i1, ww_i2, ww_f0, ww_f1, ww_f2, ww_f4, ww_fd, ww_cl, ww_mc, ww_tk, ww_ci, ww_ak, ww_gv, ww_g1, ww_kcs, w_f1, w_f2, w_a1, w_a2, w_u_at, dm_50, List.elem_nil, List.elem_cons, List.map_nil, List.map_cons, List.sum_nil, List.sum_cons, Option.toList_none, Option.toList_some, List.nil_append, List.cons_append, true_and, and_true, implies_true, false_implies, if_true, if_false, reduceIte, reduceCtorEq, Bool.false_eq_true, Bool.and_false, Bool.false_and, Bool.and_self, Bool.and_true, Bool.true_and, Nat.reduceAdd, Nat.reduceBEq, Nat.reduceEqDiff, Nat.reduceLT, Nat.reduceLeDiff, Int.reduceAdd, Int.reduceNeg, Int.reduceToNat, Int.reduceLE, Int.reduceLT, Int.reduceSub, Int.cast_ofNat_Int, Int.reduceNatCast', Int.reduceNatCast, Nat.zero_add, Int.zero_add, and_self, false_and, and_false, or_false, false_or, true_or, or_true, not_true_eq_false, not_false_eq_true, at_69, w_i0, w_i1, w_i2, w_g_f, ctL_c, ctL_n, w_isRs, w_bds]
  (try simp only [h_ok, h_cC, h_cF, h_w, h_nf, h_code, am_rg] at hp ⊢); all_goals ((repeat' (first | refine And.intro ?_ ?_ | intro _)) <;> first | assumption | trivial | omega | (refine congrArg (fun z : Int => some (Sum.inl z)) ?_; (repeat' split) <;> omega) | ((repeat' split) <;> first | rfl | omega))
theorem ok_50 : ww_cOk1 50 sp_50 := by
  intro as w fr pre r w1 e hp
  unfold sp_50 at e
  split at e
  · cases e
    exact lk_50 hp
  · cases e

def sp_51 : List am_V → W_ → Option (Nat × Prop × Option am_V × W_)
  | [.inr (.inr (.inl 10)), .inl x0, .inl x1, .inl x2, .inl x3], w => some (3, 0 ≤ x0 ∧ x0 < 60, none, w_a (w_a (w_a w 11 (x0 * 61 + 3).toNat x1) 11 (x0 * 61 + 4).toNat x2) 11 (x0 * 61 + 5).toNat x3)
  | _, _ => none
theorem at_51 (x0 x1 x2 x3 : Int) (w : W_) : sp_51 [.inr (.inr (.inl 10)), .inl x0, .inl x1, .inl x2, .inl x3] w = some (3, 0 ≤ x0 ∧ x0 < 60, none, w_a (w_a (w_a w 11 (x0 * 61 + 3).toNat x1) 11 (x0 * 61 + 4).toNat x2) 11 (x0 * 61 + 5).toNat x3) := rfl
set_option maxRecDepth 100000 in
set_option maxHeartbeats 4000000 in
theorem lk_51 {x0 x1 x2 x3 : Int} {w : W_} (hp : 0 ≤ x0 ∧ x0 < 60) : ww_Ct 51 3 [.inr (.inr (.inl 10)), .inl x0, .inl x1, .inl x2, .inl x3] w fun r w' => r = none ∧ w' = w_a (w_a (w_a w 11 (x0 * 61 + 3).toNat x1) 11 (x0 * 61 + 4).toNat x2) 11 (x0 * 61 + 5).toNat x3 := by
  refine of_51 (ww_go (ctL_cons ok_69 ctL_nil) 400 [] ?_)
  simp only [ww_S, ww_1, wr_0, wr_1, wr_2, wr_3, wr_4, wr_5, wr_6, wr_7, wr_8, wr_9, wr_10, wr_11, wr_12, wr_13, wr_14, wr_15, wr_16, wr_17, wr_18, wr_19, wr_20, wr_21, wr_22, wr_23, wr_24, wr_25, wr_26, wr_27, wr_28, wr_29, wr_30, wr_31, wr_32, wr_33, wr_34, wr_35, wr_36, wr_37, wr_38, wr_39, wr_40, wr_41, wr_42, wr_43, wr_44, wr_45, wr_46, wr_47, wr_48, wr_49, wr_50, wr_51, wr_52, wr_53, wr_54, wr_55, wr_56, wr_57, wr_58, wr_59, wr_60, wr_61, wr_62, wr_63, wr_64, wr_65, wr_66, wr_67, wr_68, wr_69, wr_70, wr_71, wr_72, wr_73, wr_74, wr_75, wr_76, wr_77, wr_78, wr_79, wr_80, wr_81, wr_82, wr_83, wr_84, wr_85, wr_86, wr_87, ww_v1, ww_v2, ww_v3, ww_v4, ww_g0, ww_gS, ww_t0, ww_tS, ww_s0, ww_sS, ww_s2, ww_w1, ww_w2, ww_w3, ww_b, ww_tg, ww_p1, ww_p2, ww_q0, ww_qS, ww_k1, ww_k2, ww_k3, ww_w0, ww_wS, ww_i1, ww_i2, ww_f0, ww_f1, ww_f2, ww_f4, ww_fd, ww_cl, ww_mc, ww_tk, ww_ci, ww_ak, ww_gv, ww_g1, ww_kcs, w_f1, w_f2, w_a1, w_a2, w_u_at, dm_51, List.elem_nil, List.elem_cons, List.map_nil, List.map_cons, List.sum_nil, List.sum_cons, Option.toList_none, Option.toList_some, List.nil_append, List.cons_append, true_and, and_true, implies_true, false_implies, if_true, if_false, reduceIte, reduceCtorEq, Bool.false_eq_true, Bool.and_false, Bool.false_and, Bool.and_self, Bool.and_true, Bool.true_and, Nat.reduceAdd, Nat.reduceBEq, Nat.reduceEqDiff, Nat.reduceLT, Nat.reduceLeDiff, Int.reduceAdd, Int.reduceNeg, Int.reduceToNat, Int.reduceLE, Int.reduceLT, Int.reduceSub, Int.cast_ofNat_Int, Int.reduceNatCast', Int.reduceNatCast, Nat.zero_add, Int.zero_add, and_self, false_and, and_false, or_false, false_or, true_or, or_true, not_true_eq_false, not_false_eq_true, at_69, w_i0, w_i1, w_i2, w_g_f, ctL_c, ctL_n, w_isRs, w_bds]
  (try simp only [h_ok, h_cC, h_cF, h_w, h_nf, h_code, am_rg] at hp ⊢); all_goals ((repeat' (first | refine And.intro ?_ ?_ | intro _)) <;> first | assumption | trivial | omega | (refine congrArg (fun z : Int => some (Sum.inl z)) ?_; (repeat' split) <;> omega) | ((repeat' split) <;> first | rfl | omega))
theorem ok_51 : ww_cOk1 51 sp_51 := by
  intro as w fr pre r w1 e hp
  unfold sp_51 at e
  split at e
  · cases e
    exact lk_51 hp
  · cases e

def sp_132 : List am_V → W_ → Option (Nat × Prop × Option am_V × W_)
  | [.inr (.inr (.inl 36)), .inl x0], w => some (1, (0 ≤ x0 ∧ x0 < 1000) ∧ am_rg (w_g w 37 (x0 * 9 + 5)), some (.inl (if w_g w 37 (x0 * 9 + 5) ≠ 0 then 1 else 0)), w)
  | _, _ => none
theorem at_132 (x0 : Int) (w : W_) : sp_132 [.inr (.inr (.inl 36)), .inl x0] w = some (1, (0 ≤ x0 ∧ x0 < 1000) ∧ am_rg (w_g w 37 (x0 * 9 + 5)), some (.inl (if w_g w 37 (x0 * 9 + 5) ≠ 0 then 1 else 0)), w) := rfl
set_option maxRecDepth 100000 in
set_option maxHeartbeats 4000000 in
theorem lk_132 {x0 : Int} {w : W_} (hp : (0 ≤ x0 ∧ x0 < 1000) ∧ am_rg (w_g w 37 (x0 * 9 + 5))) : ww_Ct 132 1 [.inr (.inr (.inl 36)), .inl x0] w fun r w' => r = some (.inl (if w_g w 37 (x0 * 9 + 5) ≠ 0 then 1 else 0)) ∧ w' = w := by
  refine of_132 (ww_go (ctL_cons ok_68 ctL_nil) 400 [] ?_)
  simp only [ww_S, ww_1, wr_0, wr_1, wr_2, wr_3, wr_4, wr_5, wr_6, wr_7, wr_8, wr_9, wr_10, wr_11, wr_12, wr_13, wr_14, wr_15, wr_16, wr_17, wr_18, wr_19, wr_20, wr_21, wr_22, wr_23, wr_24, wr_25, wr_26, wr_27, wr_28, wr_29, wr_30, wr_31, wr_32, wr_33, wr_34, wr_35, wr_36, wr_37, wr_38, wr_39, wr_40, wr_41, wr_42, wr_43, wr_44, wr_45, wr_46, wr_47, wr_48, wr_49, wr_50, wr_51, wr_52, wr_53, wr_54, wr_55, wr_56, wr_57, wr_58, wr_59, wr_60, wr_61, wr_62, wr_63, wr_64, wr_65, wr_66, wr_67, wr_68, wr_69, wr_70, wr_71, wr_72, wr_73, wr_74, wr_75, wr_76, wr_77, wr_78, wr_79, wr_80, wr_81, wr_82, wr_83, wr_84, wr_85, wr_86, wr_87, ww_v1, ww_v2, ww_v3, ww_v4, ww_g0, ww_gS, ww_t0, ww_tS, ww_s0, ww_sS, ww_s2, ww_w1, ww_w2, ww_w3, ww_b, ww_tg, ww_p1, ww_p2, ww_q0, ww_qS, ww_k1, ww_k2, ww_k3, ww_w0, ww_wS, ww_i1, ww_i2, ww_f0, ww_f1, ww_f2, ww_f4, ww_fd, ww_cl, ww_mc, ww_tk, ww_ci, ww_ak, ww_gv, ww_g1, ww_kcs, w_f1, w_f2, w_a1, w_a2, w_u_at, dm_132, List.elem_nil, List.elem_cons, List.map_nil, List.map_cons, List.sum_nil, List.sum_cons, Option.toList_none, Option.toList_some, List.nil_append, List.cons_append, true_and, and_true, implies_true, false_implies, if_true, if_false, reduceIte, reduceCtorEq, Bool.false_eq_true, Bool.and_false, Bool.false_and, Bool.and_self, Bool.and_true, Bool.true_and, Nat.reduceAdd, Nat.reduceBEq, Nat.reduceEqDiff, Nat.reduceLT, Nat.reduceLeDiff, Int.reduceAdd, Int.reduceNeg, Int.reduceToNat, Int.reduceLE, Int.reduceLT, Int.reduceSub, Int.cast_ofNat_Int, Int.reduceNatCast', Int.reduceNatCast, Nat.zero_add, Int.zero_add, and_self, false_and, and_false, or_false, false_or, true_or, or_true, not_true_eq_false, not_false_eq_true, at_68, w_i0, w_i1, w_i2, w_g_f, ctL_c, ctL_n, w_isRs, w_bds]
  (try simp only [h_ok, h_cC, h_cF, h_w, h_nf, h_code, am_rg] at hp ⊢); all_goals ((repeat' (first | refine And.intro ?_ ?_ | intro _)) <;> first | assumption | trivial | omega | (refine congrArg (fun z : Int => some (Sum.inl z)) ?_; (repeat' split) <;> omega) | ((repeat' split) <;> first | rfl | omega))
theorem ok_132 : ww_cOk1 132 sp_132 := by
  intro as w fr pre r w1 e hp
  unfold sp_132 at e
  split at e
  · cases e
    exact lk_132 hp
  · cases e

def sp_133 : List am_V → W_ → Option (Nat × Prop × Option am_V × W_)
  | [.inr (.inr (.inl 36)), .inl x0], w => some (1, (0 ≤ x0 ∧ x0 < 1000) ∧ am_rg (w_g w 37 (x0 * 9 + 6)), some (.inl (if w_g w 37 (x0 * 9 + 6) ≠ 0 then 1 else 0)), w)
  | _, _ => none
theorem at_133 (x0 : Int) (w : W_) : sp_133 [.inr (.inr (.inl 36)), .inl x0] w = some (1, (0 ≤ x0 ∧ x0 < 1000) ∧ am_rg (w_g w 37 (x0 * 9 + 6)), some (.inl (if w_g w 37 (x0 * 9 + 6) ≠ 0 then 1 else 0)), w) := rfl
set_option maxRecDepth 100000 in
set_option maxHeartbeats 4000000 in
theorem lk_133 {x0 : Int} {w : W_} (hp : (0 ≤ x0 ∧ x0 < 1000) ∧ am_rg (w_g w 37 (x0 * 9 + 6))) : ww_Ct 133 1 [.inr (.inr (.inl 36)), .inl x0] w fun r w' => r = some (.inl (if w_g w 37 (x0 * 9 + 6) ≠ 0 then 1 else 0)) ∧ w' = w := by
  refine of_133 (ww_go (ctL_cons ok_68 ctL_nil) 400 [] ?_)
  simp only [ww_S, ww_1, wr_0, wr_1, wr_2, wr_3, wr_4, wr_5, wr_6, wr_7, wr_8, wr_9, wr_10, wr_11, wr_12, wr_13, wr_14, wr_15, wr_16, wr_17, wr_18, wr_19, wr_20, wr_21, wr_22, wr_23, wr_24, wr_25, wr_26, wr_27, wr_28, wr_29, wr_30, wr_31, wr_32, wr_33, wr_34, wr_35, wr_36, wr_37, wr_38, wr_39, wr_40, wr_41, wr_42, wr_43, wr_44, wr_45, wr_46, wr_47, wr_48, wr_49, wr_50, wr_51, wr_52, wr_53, wr_54, wr_55, wr_56, wr_57, wr_58, wr_59, wr_60, wr_61, wr_62, wr_63, wr_64, wr_65, wr_66, wr_67, wr_68, wr_69, wr_70, wr_71, wr_72, wr_73, wr_74, wr_75, wr_76, wr_77, wr_78, wr_79, wr_80, wr_81, wr_82, wr_83, wr_84, wr_85, wr_86, wr_87, ww_v1, ww_v2, ww_v3, ww_v4, ww_g0, ww_gS, ww_t0, ww_tS, ww_s0, ww_sS, ww_s2, ww_w1, ww_w2, ww_w3, ww_b, ww_tg, ww_p1, ww_p2, ww_q0, ww_qS, ww_k1, ww_k2, ww_k3, ww_w0, ww_wS, ww_i1, ww_i2, ww_f0, ww_f1, ww_f2, ww_f4, ww_fd, ww_cl, ww_mc, ww_tk, ww_ci, ww_ak, ww_gv, ww_g1, ww_kcs, w_f1, w_f2, w_a1, w_a2, w_u_at, dm_133, List.elem_nil, List.elem_cons, List.map_nil, List.map_cons, List.sum_nil, List.sum_cons, Option.toList_none, Option.toList_some, List.nil_append, List.cons_append, true_and, and_true, implies_true, false_implies, if_true, if_false, reduceIte, reduceCtorEq, Bool.false_eq_true, Bool.and_false, Bool.false_and, Bool.and_self, Bool.and_true, Bool.true_and, Nat.reduceAdd, Nat.reduceBEq, Nat.reduceEqDiff, Nat.reduceLT, Nat.reduceLeDiff, Int.reduceAdd, Int.reduceNeg, Int.reduceToNat, Int.reduceLE, Int.reduceLT, Int.reduceSub, Int.cast_ofNat_Int, Int.reduceNatCast', Int.reduceNatCast, Nat.zero_add, Int.zero_add, and_self, false_and, and_false, or_false, false_or, true_or, or_true, not_true_eq_false, not_false_eq_true, at_68, w_i0, w_i1, w_i2, w_g_f, ctL_c, ctL_n, w_isRs, w_bds]
  (try simp only [h_ok, h_cC, h_cF, h_w, h_nf, h_code, am_rg] at hp ⊢); all_goals ((repeat' (first | refine And.intro ?_ ?_ | intro _)) <;> first | assumption | trivial | omega | (refine congrArg (fun z : Int => some (Sum.inl z)) ?_; (repeat' split) <;> omega) | ((repeat' split) <;> first | rfl | omega))
theorem ok_133 : ww_cOk1 133 sp_133 := by
  intro as w fr pre r w1 e hp
  unfold sp_133 at e
  split at e
  · cases e
    exact lk_133 hp
  · cases e

def sp_140 : List am_V → W_ → Option (Nat × Prop × Option am_V × W_)
  | [.inl x0], w => some (0, am_rg x0, some (.inl (if x0 = 14 then 3 else if (9 ≤ x0 ∧ x0 ≤ 13) ∨ x0 = 17 ∨ x0 = 30 then 2 else if x0 = 15 ∨ x0 = 16 ∨ (18 ≤ x0 ∧ x0 ≤ 22) ∨ x0 = 28 ∨ x0 = 31 then 1 else 0)), w)
  | _, _ => none
theorem at_140 (x0 : Int) (w : W_) : sp_140 [.inl x0] w = some (0, am_rg x0, some (.inl (if x0 = 14 then 3 else if (9 ≤ x0 ∧ x0 ≤ 13) ∨ x0 = 17 ∨ x0 = 30 then 2 else if x0 = 15 ∨ x0 = 16 ∨ (18 ≤ x0 ∧ x0 ≤ 22) ∨ x0 = 28 ∨ x0 = 31 then 1 else 0)), w) := rfl
set_option maxRecDepth 100000 in
set_option maxHeartbeats 4000000 in
theorem lk_140 {x0 : Int} {w : W_} (hp : am_rg x0) : ww_Ct 140 0 [.inl x0] w fun r w' => r = some (.inl (if x0 = 14 then 3 else if (9 ≤ x0 ∧ x0 ≤ 13) ∨ x0 = 17 ∨ x0 = 30 then 2 else if x0 = 15 ∨ x0 = 16 ∨ (18 ≤ x0 ∧ x0 ≤ 22) ∨ x0 = 28 ∨ x0 = 31 then 1 else 0)) ∧ w' = w := by
  refine of_140 (ww_go ctL_nil 400 [] ?_)
  simp only [ww_S, ww_1, wr_0, wr_1, wr_2, wr_3, wr_4, wr_5, wr_6, wr_7, wr_8, wr_9, wr_10, wr_11, wr_12, wr_13, wr_14, wr_15, wr_16, wr_17, wr_18, wr_19, wr_20, wr_21, wr_22, wr_23, wr_24, wr_25, wr_26, wr_27, wr_28, wr_29, wr_30, wr_31, wr_32, wr_33, wr_34, wr_35, wr_36, wr_37, wr_38, wr_39, wr_40, wr_41, wr_42, wr_43, wr_44, wr_45, wr_46, wr_47, wr_48, wr_49, wr_50, wr_51, wr_52, wr_53, wr_54, wr_55, wr_56, wr_57, wr_58, wr_59, wr_60, wr_61, wr_62, wr_63, wr_64, wr_65, wr_66, wr_67, wr_68, wr_69, wr_70, wr_71, wr_72, wr_73, wr_74, wr_75, wr_76, wr_77, wr_78, wr_79, wr_80, wr_81, wr_82, wr_83, wr_84, wr_85, wr_86, wr_87, ww_v1, ww_v2, ww_v3, ww_v4, ww_g0, ww_gS, ww_t0, ww_tS, ww_s0, ww_sS, ww_s2, ww_w1, ww_w2, ww_w3, ww_b, ww_tg, ww_p1, ww_p2, ww_q0, ww_qS, ww_k1, ww_k2, ww_k3, ww_w0, ww_wS, ww_i1, ww_i2, ww_f0, ww_f1, ww_f2, ww_f4, ww_fd, ww_cl, ww_mc, ww_tk, ww_ci, ww_ak, ww_gv, ww_g1, ww_kcs, w_f1, w_f2, w_a1, w_a2, w_u_at, dm_140, List.elem_nil, List.elem_cons, List.map_nil, List.map_cons, List.sum_nil, List.sum_cons, Option.toList_none, Option.toList_some, List.nil_append, List.cons_append, true_and, and_true, implies_true, false_implies, if_true, if_false, reduceIte, reduceCtorEq, Bool.false_eq_true, Bool.and_false, Bool.false_and, Bool.and_self, Bool.and_true, Bool.true_and, Nat.reduceAdd, Nat.reduceBEq, Nat.reduceEqDiff, Nat.reduceLT, Nat.reduceLeDiff, Int.reduceAdd, Int.reduceNeg, Int.reduceToNat, Int.reduceLE, Int.reduceLT, Int.reduceSub, Int.cast_ofNat_Int, Int.reduceNatCast', Int.reduceNatCast, Nat.zero_add, Int.zero_add, and_self, false_and, and_false, or_false, false_or, true_or, or_true, not_true_eq_false, not_false_eq_true, w_i0, w_i1, w_i2, w_g_f, ctL_c, ctL_n, w_isRs, w_bds]
  (try simp only [h_ok, h_cC, h_cF, h_w, h_nf, h_code, am_rg] at hp ⊢); all_goals ((repeat' (first | refine And.intro ?_ ?_ | intro _)) <;> first | assumption | trivial | omega | (refine congrArg (fun z : Int => some (Sum.inl z)) ?_; (repeat' split) <;> omega) | ((repeat' split) <;> first | rfl | omega))
theorem ok_140 : ww_cOk1 140 sp_140 := by
  intro as w fr pre r w1 e hp
  unfold sp_140 at e
  split at e
  · cases e
    exact lk_140 hp
  · cases e

def sp_141 : List am_V → W_ → Option (Nat × Prop × Option am_V × W_)
  | [.inr (.inr (.inl 36)), .inl x0, .inl x1, .inl x2, .inl x3, .inl x4], w => some (3, 0 ≤ w.1 36 4 ∧ w.1 36 4 < 230, none, w_f (w_a (w_a (w_a (w_a (w_a w 39 (w.1 36 4 * 5 + 0).toNat x0) 39 (w.1 36 4 * 5 + 1).toNat x1) 39 (w.1 36 4 * 5 + 2).toNat x2) 39 (w.1 36 4 * 5 + 3).toNat x3) 39 (w.1 36 4 * 5 + 4).toNat x4) 36 4 (w.1 36 4 + 1))
  | _, _ => none
theorem at_141 (x0 x1 x2 x3 x4 : Int) (w : W_) : sp_141 [.inr (.inr (.inl 36)), .inl x0, .inl x1, .inl x2, .inl x3, .inl x4] w = some (3, 0 ≤ w.1 36 4 ∧ w.1 36 4 < 230, none, w_f (w_a (w_a (w_a (w_a (w_a w 39 (w.1 36 4 * 5 + 0).toNat x0) 39 (w.1 36 4 * 5 + 1).toNat x1) 39 (w.1 36 4 * 5 + 2).toNat x2) 39 (w.1 36 4 * 5 + 3).toNat x3) 39 (w.1 36 4 * 5 + 4).toNat x4) 36 4 (w.1 36 4 + 1)) := rfl
set_option maxRecDepth 100000 in
set_option maxHeartbeats 4000000 in
theorem lk_141 {x0 x1 x2 x3 x4 : Int} {w : W_} (hp : 0 ≤ w.1 36 4 ∧ w.1 36 4 < 230) : ww_Ct 141 3 [.inr (.inr (.inl 36)), .inl x0, .inl x1, .inl x2, .inl x3, .inl x4] w fun r w' => r = none ∧ w' = w_f (w_a (w_a (w_a (w_a (w_a w 39 (w.1 36 4 * 5 + 0).toNat x0) 39 (w.1 36 4 * 5 + 1).toNat x1) 39 (w.1 36 4 * 5 + 2).toNat x2) 39 (w.1 36 4 * 5 + 3).toNat x3) 39 (w.1 36 4 * 5 + 4).toNat x4) 36 4 (w.1 36 4 + 1) := by
  refine of_141 (ww_go (ctL_cons ok_69 ctL_nil) 400 [] ?_)
  simp only [ww_S, ww_1, wr_0, wr_1, wr_2, wr_3, wr_4, wr_5, wr_6, wr_7, wr_8, wr_9, wr_10, wr_11, wr_12, wr_13, wr_14, wr_15, wr_16, wr_17, wr_18, wr_19, wr_20, wr_21, wr_22, wr_23, wr_24, wr_25, wr_26, wr_27, wr_28, wr_29, wr_30, wr_31, wr_32, wr_33, wr_34, wr_35, wr_36, wr_37, wr_38, wr_39, wr_40, wr_41, wr_42, wr_43, wr_44, wr_45, wr_46, wr_47, wr_48, wr_49, wr_50, wr_51, wr_52, wr_53, wr_54, wr_55, wr_56, wr_57, wr_58, wr_59, wr_60, wr_61, wr_62, wr_63, wr_64, wr_65, wr_66, wr_67, wr_68, wr_69, wr_70, wr_71, wr_72, wr_73, wr_74, wr_75, wr_76, wr_77, wr_78, wr_79, wr_80, wr_81, wr_82, wr_83, wr_84, wr_85, wr_86, wr_87, ww_v1, ww_v2, ww_v3, ww_v4, ww_g0, ww_gS, ww_t0, ww_tS, ww_s0, ww_sS, ww_s2, ww_w1, ww_w2, ww_w3, ww_b, ww_tg, ww_p1, ww_p2, ww_q0, ww_qS, ww_k1, ww_k2, ww_k3, ww_w0, ww_wS, ww_i1, ww_i2, ww_f0, ww_f1, ww_f2, ww_f4, ww_fd, ww_cl, ww_mc, ww_tk, ww_ci, ww_ak, ww_gv, ww_g1, ww_kcs, w_f1, w_f2, w_a1, w_a2, w_u_at, dm_141, List.elem_nil, List.elem_cons, List.map_nil, List.map_cons, List.sum_nil, List.sum_cons, Option.toList_none, Option.toList_some, List.nil_append, List.cons_append, true_and, and_true, implies_true, false_implies, if_true, if_false, reduceIte, reduceCtorEq, Bool.false_eq_true, Bool.and_false, Bool.false_and, Bool.and_self, Bool.and_true, Bool.true_and, Nat.reduceAdd, Nat.reduceBEq, Nat.reduceEqDiff, Nat.reduceLT, Nat.reduceLeDiff, Int.reduceAdd, Int.reduceNeg, Int.reduceToNat, Int.reduceLE, Int.reduceLT, Int.reduceSub, Int.cast_ofNat_Int, Int.reduceNatCast', Int.reduceNatCast, Nat.zero_add, Int.zero_add, and_self, false_and, and_false, or_false, false_or, true_or, or_true, not_true_eq_false, not_false_eq_true, at_69, w_i0, w_i1, w_i2, w_g_f, ctL_c, ctL_n, w_isRs, w_bds]
  (try simp only [h_ok, h_cC, h_cF, h_w, h_nf, h_code, am_rg] at hp ⊢); all_goals ((repeat' (first | refine And.intro ?_ ?_ | intro _)) <;> first | assumption | trivial | omega | (refine congrArg (fun z : Int => some (Sum.inl z)) ?_; (repeat' split) <;> omega) | ((repeat' split) <;> first | rfl | omega))
theorem ok_141 : ww_cOk1 141 sp_141 := by
  intro as w fr pre r w1 e hp
  unfold sp_141 at e
  split at e
  · cases e
    exact lk_141 hp
  · cases e

def sp_121 : List am_V → W_ → Option (Nat × Prop × Option am_V × W_)
  | [.inr (.inr (.inl 50))], w => some (0, am_rg (w.1 50 12 + 1) ∧ am_rg (w.1 50 16), none, (if w.1 50 16 ≤ w.1 50 12 + 1 then w_f (w_f (w_f (w_f w 50 12 (w.1 50 12 + 1)) 50 12 0) 50 11 (w.1 50 11 + 1)) 50 13 (w.1 50 10) else w_f (w_f w 50 12 (w.1 50 12 + 1)) 50 13 (w.1 50 10)))
  | _, _ => none
theorem at_121 (w : W_) : sp_121 [.inr (.inr (.inl 50))] w = some (0, am_rg (w.1 50 12 + 1) ∧ am_rg (w.1 50 16), none, (if w.1 50 16 ≤ w.1 50 12 + 1 then w_f (w_f (w_f (w_f w 50 12 (w.1 50 12 + 1)) 50 12 0) 50 11 (w.1 50 11 + 1)) 50 13 (w.1 50 10) else w_f (w_f w 50 12 (w.1 50 12 + 1)) 50 13 (w.1 50 10))) := rfl
set_option maxRecDepth 100000 in
set_option maxHeartbeats 4000000 in
theorem lk_121 {w : W_} (hp : am_rg (w.1 50 12 + 1) ∧ am_rg (w.1 50 16)) : ww_Ct 121 0 [.inr (.inr (.inl 50))] w fun r w' => r = none ∧ w' = (if w.1 50 16 ≤ w.1 50 12 + 1 then w_f (w_f (w_f (w_f w 50 12 (w.1 50 12 + 1)) 50 12 0) 50 11 (w.1 50 11 + 1)) 50 13 (w.1 50 10) else w_f (w_f w 50 12 (w.1 50 12 + 1)) 50 13 (w.1 50 10)) := by
  refine of_121 (ww_go ctL_nil 400 [] ?_)
  simp only [ww_S, ww_1, wr_0, wr_1, wr_2, wr_3, wr_4, wr_5, wr_6, wr_7, wr_8, wr_9, wr_10, wr_11, wr_12, wr_13, wr_14, wr_15, wr_16, wr_17, wr_18, wr_19, wr_20, wr_21, wr_22, wr_23, wr_24, wr_25, wr_26, wr_27, wr_28, wr_29, wr_30, wr_31, wr_32, wr_33, wr_34, wr_35, wr_36, wr_37, wr_38, wr_39, wr_40, wr_41, wr_42, wr_43, wr_44, wr_45, wr_46, wr_47, wr_48, wr_49, wr_50, wr_51, wr_52, wr_53, wr_54, wr_55, wr_56, wr_57, wr_58, wr_59, wr_60, wr_61, wr_62, wr_63, wr_64, wr_65, wr_66, wr_67, wr_68, wr_69, wr_70, wr_71, wr_72, wr_73, wr_74, wr_75, wr_76, wr_77, wr_78, wr_79, wr_80, wr_81, wr_82, wr_83, wr_84, wr_85, wr_86, wr_87, ww_v1, ww_v2, ww_v3, ww_v4, ww_g0, ww_gS, ww_t0, ww_tS, ww_s0, ww_sS, ww_s2, ww_w1, ww_w2, ww_w3, ww_b, ww_tg, ww_p1, ww_p2, ww_q0, ww_qS, ww_k1, ww_k2, ww_k3, ww_w0, ww_wS, ww_i1, ww_i2, ww_f0, ww_f1, ww_f2, ww_f4, ww_fd, ww_cl, ww_mc, ww_tk, ww_ci, ww_ak, ww_gv, ww_g1, ww_kcs, w_f1, w_f2, w_a1, w_a2, w_u_at, dm_121, List.elem_nil, List.elem_cons, List.map_nil, List.map_cons, List.sum_nil, List.sum_cons, Option.toList_none, Option.toList_some, List.nil_append, List.cons_append, true_and, and_true, implies_true, false_implies, if_true, if_false, reduceIte, reduceCtorEq, Bool.false_eq_true, Bool.and_false, Bool.false_and, Bool.and_self, Bool.and_true, Bool.true_and, Nat.reduceAdd, Nat.reduceBEq, Nat.reduceEqDiff, Nat.reduceLT, Nat.reduceLeDiff, Int.reduceAdd, Int.reduceNeg, Int.reduceToNat, Int.reduceLE, Int.reduceLT, Int.reduceSub, Int.cast_ofNat_Int, Int.reduceNatCast', Int.reduceNatCast, Nat.zero_add, Int.zero_add, and_self, false_and, and_false, or_false, false_or, true_or, or_true, not_true_eq_false, not_false_eq_true, w_i0, w_i1, w_i2, w_g_f, ctL_c, ctL_n, w_isRs, w_bds]
  (try simp only [h_ok, h_cC, h_cF, h_w, h_nf, h_code, am_rg] at hp ⊢); all_goals ((repeat' (first | refine And.intro ?_ ?_ | intro _)) <;> first | assumption | trivial | omega | (refine congrArg (fun z : Int => some (Sum.inl z)) ?_; (repeat' split) <;> omega) | ((repeat' split) <;> first | rfl | omega))
theorem ok_121 : ww_cOk1 121 sp_121 := by
  intro as w fr pre r w1 e hp
  unfold sp_121 at e
  split at e
  · cases e
    exact lk_121 hp
  · cases e

def sp_111 : List am_V → W_ → Option (Nat × Prop × Option am_V × W_)
  | [.inr (.inr (.inl 50)), .inl x0, .inl x1], w => some (0, True, some (.inl (w.1 50 15)), w_f (w_f w 50 15 x0) 50 16 x1)
  | _, _ => none
theorem at_111 (x0 x1 : Int) (w : W_) : sp_111 [.inr (.inr (.inl 50)), .inl x0, .inl x1] w = some (0, True, some (.inl (w.1 50 15)), w_f (w_f w 50 15 x0) 50 16 x1) := rfl
set_option maxRecDepth 100000 in
set_option maxHeartbeats 4000000 in
theorem lk_111 {x0 x1 : Int} {w : W_} (hp : True) : ww_Ct 111 0 [.inr (.inr (.inl 50)), .inl x0, .inl x1] w fun r w' => r = some (.inl (w.1 50 15)) ∧ w' = w_f (w_f w 50 15 x0) 50 16 x1 := by
  refine of_111 (ww_go ctL_nil 400 [] ?_)
  simp only [ww_S, ww_1, wr_0, wr_1, wr_2, wr_3, wr_4, wr_5, wr_6, wr_7, wr_8, wr_9, wr_10, wr_11, wr_12, wr_13, wr_14, wr_15, wr_16, wr_17, wr_18, wr_19, wr_20, wr_21, wr_22, wr_23, wr_24, wr_25, wr_26, wr_27, wr_28, wr_29, wr_30, wr_31, wr_32, wr_33, wr_34, wr_35, wr_36, wr_37, wr_38, wr_39, wr_40, wr_41, wr_42, wr_43, wr_44, wr_45, wr_46, wr_47, wr_48, wr_49, wr_50, wr_51, wr_52, wr_53, wr_54, wr_55, wr_56, wr_57, wr_58, wr_59, wr_60, wr_61, wr_62, wr_63, wr_64, wr_65, wr_66, wr_67, wr_68, wr_69, wr_70, wr_71, wr_72, wr_73, wr_74, wr_75, wr_76, wr_77, wr_78, wr_79, wr_80, wr_81, wr_82, wr_83, wr_84, wr_85, wr_86, wr_87, ww_v1, ww_v2, ww_v3, ww_v4, ww_g0, ww_gS, ww_t0, ww_tS, ww_s0, ww_sS, ww_s2, ww_w1, ww_w2, ww_w3, ww_b, ww_tg, ww_p1, ww_p2, ww_q0, ww_qS, ww_k1, ww_k2, ww_k3, ww_w0, ww_wS, ww_i1, ww_i2, ww_f0, ww_f1, ww_f2, ww_f4, ww_fd, ww_cl, ww_mc, ww_tk, ww_ci, ww_ak, ww_gv, ww_g1, ww_kcs, w_f1, w_f2, w_a1, w_a2, w_u_at, dm_111, List.elem_nil, List.elem_cons, List.map_nil, List.map_cons, List.sum_nil, List.sum_cons, Option.toList_none, Option.toList_some, List.nil_append, List.cons_append, true_and, and_true, implies_true, false_implies, if_true, if_false, reduceIte, reduceCtorEq, Bool.false_eq_true, Bool.and_false, Bool.false_and, Bool.and_self, Bool.and_true, Bool.true_and, Nat.reduceAdd, Nat.reduceBEq, Nat.reduceEqDiff, Nat.reduceLT, Nat.reduceLeDiff, Int.reduceAdd, Int.reduceNeg, Int.reduceToNat, Int.reduceLE, Int.reduceLT, Int.reduceSub, Int.cast_ofNat_Int, Int.reduceNatCast', Int.reduceNatCast, Nat.zero_add, Int.zero_add, and_self, false_and, and_false, or_false, false_or, true_or, or_true, not_true_eq_false, not_false_eq_true, w_i0, w_i1, w_i2, w_g_f, ctL_c, ctL_n, w_isRs, w_bds]
  (try simp only [h_ok, h_cC, h_cF, h_w, h_nf, h_code, am_rg] at hp ⊢); all_goals ((repeat' (first | refine And.intro ?_ ?_ | intro _)) <;> first | assumption | trivial | omega | (refine congrArg (fun z : Int => some (Sum.inl z)) ?_; (repeat' split) <;> omega) | ((repeat' split) <;> first | rfl | omega))
theorem ok_111 : ww_cOk1 111 sp_111 := by
  intro as w fr pre r w1 e hp
  unfold sp_111 at e
  split at e
  · cases e
    exact lk_111 hp
  · cases e

def sp_75 : List am_V → W_ → Option (Nat × Prop × Option am_V × W_)
  | [.inr (.inr (.inl 41)), .inl x0, .inl x1], w => some (1, (0 ≤ x0 ∧ x0 < 3) ∧ 0 ≤ x1 ∧ x1 < 10, some (.inl (w_g w 44 (x0 * 10 + x1))), w)
  | _, _ => none
theorem at_75 (x0 x1 : Int) (w : W_) : sp_75 [.inr (.inr (.inl 41)), .inl x0, .inl x1] w = some (1, (0 ≤ x0 ∧ x0 < 3) ∧ 0 ≤ x1 ∧ x1 < 10, some (.inl (w_g w 44 (x0 * 10 + x1))), w) := rfl
set_option maxRecDepth 100000 in
set_option maxHeartbeats 4000000 in
theorem lk_75 {x0 x1 : Int} {w : W_} (hp : (0 ≤ x0 ∧ x0 < 3) ∧ 0 ≤ x1 ∧ x1 < 10) : ww_Ct 75 1 [.inr (.inr (.inl 41)), .inl x0, .inl x1] w fun r w' => r = some (.inl (w_g w 44 (x0 * 10 + x1))) ∧ w' = w := by
  refine of_75 (ww_go (ctL_cons ok_68 ctL_nil) 400 [] ?_)
  simp only [ww_S, ww_1, wr_0, wr_1, wr_2, wr_3, wr_4, wr_5, wr_6, wr_7, wr_8, wr_9, wr_10, wr_11, wr_12, wr_13, wr_14, wr_15, wr_16, wr_17, wr_18, wr_19, wr_20, wr_21, wr_22, wr_23, wr_24, wr_25, wr_26, wr_27, wr_28, wr_29, wr_30, wr_31, wr_32, wr_33, wr_34, wr_35, wr_36, wr_37, wr_38, wr_39, wr_40, wr_41, wr_42, wr_43, wr_44, wr_45, wr_46, wr_47, wr_48, wr_49, wr_50, wr_51, wr_52, wr_53, wr_54, wr_55, wr_56, wr_57, wr_58, wr_59, wr_60, wr_61, wr_62, wr_63, wr_64, wr_65, wr_66, wr_67, wr_68, wr_69, wr_70, wr_71, wr_72, wr_73, wr_74, wr_75, wr_76, wr_77, wr_78, wr_79, wr_80, wr_81, wr_82, wr_83, wr_84, wr_85, wr_86, wr_87, ww_v1, ww_v2, ww_v3, ww_v4, ww_g0, ww_gS, ww_t0, ww_tS, ww_s0, ww_sS, ww_s2, ww_w1, ww_w2, ww_w3, ww_b, ww_tg, ww_p1, ww_p2, ww_q0, ww_qS, ww_k1, ww_k2, ww_k3, ww_w0, ww_wS, ww_i1, ww_i2, ww_f0, ww_f1, ww_f2, ww_f4, ww_fd, ww_cl, ww_mc, ww_tk, ww_ci, ww_ak, ww_gv, ww_g1, ww_kcs, w_f1, w_f2, w_a1, w_a2, w_u_at, dm_75, List.elem_nil, List.elem_cons, List.map_nil, List.map_cons, List.sum_nil, List.sum_cons, Option.toList_none, Option.toList_some, List.nil_append, List.cons_append, true_and, and_true, implies_true, false_implies, if_true, if_false, reduceIte, reduceCtorEq, Bool.false_eq_true, Bool.and_false, Bool.false_and, Bool.and_self, Bool.and_true, Bool.true_and, Nat.reduceAdd, Nat.reduceBEq, Nat.reduceEqDiff, Nat.reduceLT, Nat.reduceLeDiff, Int.reduceAdd, Int.reduceNeg, Int.reduceToNat, Int.reduceLE, Int.reduceLT, Int.reduceSub, Int.cast_ofNat_Int, Int.reduceNatCast', Int.reduceNatCast, Nat.zero_add, Int.zero_add, and_self, false_and, and_false, or_false, false_or, true_or, or_true, not_true_eq_false, not_false_eq_true, at_68, w_i0, w_i1, w_i2, w_g_f, ctL_c, ctL_n, w_isRs, w_bds]
  (try simp only [h_ok, h_cC, h_cF, h_w, h_nf, h_code, am_rg] at hp ⊢); all_goals ((repeat' (first | refine And.intro ?_ ?_ | intro _)) <;> first | assumption | trivial | omega | (refine congrArg (fun z : Int => some (Sum.inl z)) ?_; (repeat' split) <;> omega) | ((repeat' split) <;> first | rfl | omega))
theorem ok_75 : ww_cOk1 75 sp_75 := by
  intro as w fr pre r w1 e hp
  unfold sp_75 at e
  split at e
  · cases e
    exact lk_75 hp
  · cases e

def sp_80 : List am_V → W_ → Option (Nat × Prop × Option am_V × W_)
  | [.inr (.inr (.inl 41)), .inl x0, .inl x1], w => some (3, (0 ≤ w.1 41 12 ∧ w.1 41 12 < 2300) ∧ 0 ≤ x0 ∧ x0 < 10, none, w_a w 42 (w.1 41 12 * 10 + x0).toNat x1)
  | _, _ => none
theorem at_80 (x0 x1 : Int) (w : W_) : sp_80 [.inr (.inr (.inl 41)), .inl x0, .inl x1] w = some (3, (0 ≤ w.1 41 12 ∧ w.1 41 12 < 2300) ∧ 0 ≤ x0 ∧ x0 < 10, none, w_a w 42 (w.1 41 12 * 10 + x0).toNat x1) := rfl
set_option maxRecDepth 100000 in
set_option maxHeartbeats 4000000 in
theorem lk_80 {x0 x1 : Int} {w : W_} (hp : (0 ≤ w.1 41 12 ∧ w.1 41 12 < 2300) ∧ 0 ≤ x0 ∧ x0 < 10) : ww_Ct 80 3 [.inr (.inr (.inl 41)), .inl x0, .inl x1] w fun r w' => r = none ∧ w' = w_a w 42 (w.1 41 12 * 10 + x0).toNat x1 := by
  refine of_80 (ww_go (ctL_cons ok_69 ctL_nil) 400 [] ?_)
  simp only [ww_S, ww_1, wr_0, wr_1, wr_2, wr_3, wr_4, wr_5, wr_6, wr_7, wr_8, wr_9, wr_10, wr_11, wr_12, wr_13, wr_14, wr_15, wr_16, wr_17, wr_18, wr_19, wr_20, wr_21, wr_22, wr_23, wr_24, wr_25, wr_26, wr_27, wr_28, wr_29, wr_30, wr_31, wr_32, wr_33, wr_34, wr_35, wr_36, wr_37, wr_38, wr_39, wr_40, wr_41, wr_42, wr_43, wr_44, wr_45, wr_46, wr_47, wr_48, wr_49, wr_50, wr_51, wr_52, wr_53, wr_54, wr_55, wr_56, wr_57, wr_58, wr_59, wr_60, wr_61, wr_62, wr_63, wr_64, wr_65, wr_66, wr_67, wr_68, wr_69, wr_70, wr_71, wr_72, wr_73, wr_74, wr_75, wr_76, wr_77, wr_78, wr_79, wr_80, wr_81, wr_82, wr_83, wr_84, wr_85, wr_86, wr_87, ww_v1, ww_v2, ww_v3, ww_v4, ww_g0, ww_gS, ww_t0, ww_tS, ww_s0, ww_sS, ww_s2, ww_w1, ww_w2, ww_w3, ww_b, ww_tg, ww_p1, ww_p2, ww_q0, ww_qS, ww_k1, ww_k2, ww_k3, ww_w0, ww_wS, ww_i1, ww_i2, ww_f0, ww_f1, ww_f2, ww_f4, ww_fd, ww_cl, ww_mc, ww_tk, ww_ci, ww_ak, ww_gv, ww_g1, ww_kcs, w_f1, w_f2, w_a1, w_a2, w_u_at, dm_80, List.elem_nil, List.elem_cons, List.map_nil, List.map_cons, List.sum_nil, List.sum_cons, Option.toList_none, Option.toList_some, List.nil_append, List.cons_append, true_and, and_true, implies_true, false_implies, if_true, if_false, reduceIte, reduceCtorEq, Bool.false_eq_true, Bool.and_false, Bool.false_and, Bool.and_self, Bool.and_true, Bool.true_and, Nat.reduceAdd, Nat.reduceBEq, Nat.reduceEqDiff, Nat.reduceLT, Nat.reduceLeDiff, Int.reduceAdd, Int.reduceNeg, Int.reduceToNat, Int.reduceLE, Int.reduceLT, Int.reduceSub, Int.cast_ofNat_Int, Int.reduceNatCast', Int.reduceNatCast, Nat.zero_add, Int.zero_add, and_self, false_and, and_false, or_false, false_or, true_or, or_true, not_true_eq_false, not_false_eq_true, at_69, w_i0, w_i1, w_i2, w_g_f, ctL_c, ctL_n, w_isRs, w_bds]
  (try simp only [h_ok, h_cC, h_cF, h_w, h_nf, h_code, am_rg] at hp ⊢); all_goals ((repeat' (first | refine And.intro ?_ ?_ | intro _)) <;> first | assumption | trivial | omega | (refine congrArg (fun z : Int => some (Sum.inl z)) ?_; (repeat' split) <;> omega) | ((repeat' split) <;> first | rfl | omega))
theorem ok_80 : ww_cOk1 80 sp_80 := by
  intro as w fr pre r w1 e hp
  unfold sp_80 at e
  split at e
  · cases e
    exact lk_80 hp
  · cases e

def sp_102 : List am_V → W_ → Option (Nat × Prop × Option am_V × W_)
  | [.inr (.inr (.inl 41))], w => some (0, True, none, w_f w 41 12 (w.1 41 12 - 1))
  | _, _ => none
theorem at_102 (w : W_) : sp_102 [.inr (.inr (.inl 41))] w = some (0, True, none, w_f w 41 12 (w.1 41 12 - 1)) := rfl
set_option maxRecDepth 100000 in
set_option maxHeartbeats 4000000 in
theorem lk_102 {w : W_} (hp : True) : ww_Ct 102 0 [.inr (.inr (.inl 41))] w fun r w' => r = none ∧ w' = w_f w 41 12 (w.1 41 12 - 1) := by
  refine of_102 (ww_go ctL_nil 400 [] ?_)
  simp only [ww_S, ww_1, wr_0, wr_1, wr_2, wr_3, wr_4, wr_5, wr_6, wr_7, wr_8, wr_9, wr_10, wr_11, wr_12, wr_13, wr_14, wr_15, wr_16, wr_17, wr_18, wr_19, wr_20, wr_21, wr_22, wr_23, wr_24, wr_25, wr_26, wr_27, wr_28, wr_29, wr_30, wr_31, wr_32, wr_33, wr_34, wr_35, wr_36, wr_37, wr_38, wr_39, wr_40, wr_41, wr_42, wr_43, wr_44, wr_45, wr_46, wr_47, wr_48, wr_49, wr_50, wr_51, wr_52, wr_53, wr_54, wr_55, wr_56, wr_57, wr_58, wr_59, wr_60, wr_61, wr_62, wr_63, wr_64, wr_65, wr_66, wr_67, wr_68, wr_69, wr_70, wr_71, wr_72, wr_73, wr_74, wr_75, wr_76, wr_77, wr_78, wr_79, wr_80, wr_81, wr_82, wr_83, wr_84, wr_85, wr_86, wr_87, ww_v1, ww_v2, ww_v3, ww_v4, ww_g0, ww_gS, ww_t0, ww_tS, ww_s0, ww_sS, ww_s2, ww_w1, ww_w2, ww_w3, ww_b, ww_tg, ww_p1, ww_p2, ww_q0, ww_qS, ww_k1, ww_k2, ww_k3, ww_w0, ww_wS, ww_i1, ww_i2, ww_f0, ww_f1, ww_f2, ww_f4, ww_fd, ww_cl, ww_mc, ww_tk, ww_ci, ww_ak, ww_gv, ww_g1, ww_kcs, w_f1, w_f2, w_a1, w_a2, w_u_at, dm_102, List.elem_nil, List.elem_cons, List.map_nil, List.map_cons, List.sum_nil, List.sum_cons, Option.toList_none, Option.toList_some, List.nil_append, List.cons_append, true_and, and_true, implies_true, false_implies, if_true, if_false, reduceIte, reduceCtorEq, Bool.false_eq_true, Bool.and_false, Bool.false_and, Bool.and_self, Bool.and_true, Bool.true_and, Nat.reduceAdd, Nat.reduceBEq, Nat.reduceEqDiff, Nat.reduceLT, Nat.reduceLeDiff, Int.reduceAdd, Int.reduceNeg, Int.reduceToNat, Int.reduceLE, Int.reduceLT, Int.reduceSub, Int.cast_ofNat_Int, Int.reduceNatCast', Int.reduceNatCast, Nat.zero_add, Int.zero_add, and_self, false_and, and_false, or_false, false_or, true_or, or_true, not_true_eq_false, not_false_eq_true, w_i0, w_i1, w_i2, w_g_f, ctL_c, ctL_n, w_isRs, w_bds]
  (try simp only [h_ok, h_cC, h_cF, h_w, h_nf, h_code, am_rg] at hp ⊢); all_goals ((repeat' (first | refine And.intro ?_ ?_ | intro _)) <;> first | assumption | trivial | omega | (refine congrArg (fun z : Int => some (Sum.inl z)) ?_; (repeat' split) <;> omega) | ((repeat' split) <;> first | rfl | omega))
theorem ok_102 : ww_cOk1 102 sp_102 := by
  intro as w fr pre r w1 e hp
  unfold sp_102 at e
  split at e
  · cases e
    exact lk_102 hp
  · cases e

def sp_57 : List am_V → W_ → Option (Nat × Prop × Option am_V × W_)
  | [.inr (.inr (.inl 9))], w => some (1, True, some (.inl (w.1 10 1)), w)
  | _, _ => none
theorem at_57 (w : W_) : sp_57 [.inr (.inr (.inl 9))] w = some (1, True, some (.inl (w.1 10 1)), w) := rfl
set_option maxRecDepth 100000 in
set_option maxHeartbeats 4000000 in
theorem lk_57 {w : W_} (hp : True) : ww_Ct 57 1 [.inr (.inr (.inl 9))] w fun r w' => r = some (.inl (w.1 10 1)) ∧ w' = w := by
  refine of_57 (ww_go (ctL_cons ok_40 ctL_nil) 400 [] ?_)
  simp only [ww_S, ww_1, wr_0, wr_1, wr_2, wr_3, wr_4, wr_5, wr_6, wr_7, wr_8, wr_9, wr_10, wr_11, wr_12, wr_13, wr_14, wr_15, wr_16, wr_17, wr_18, wr_19, wr_20, wr_21, wr_22, wr_23, wr_24, wr_25, wr_26, wr_27, wr_28, wr_29, wr_30, wr_31, wr_32, wr_33, wr_34, wr_35, wr_36, wr_37, wr_38, wr_39, wr_40, wr_41, wr_42, wr_43, wr_44, wr_45, wr_46, wr_47, wr_48, wr_49, wr_50, wr_51, wr_52, wr_53, wr_54, wr_55, wr_56, wr_57, wr_58, wr_59, wr_60, wr_61, wr_62, wr_63, wr_64, wr_65, wr_66, wr_67, wr_68, wr_69, wr_70, wr_71, wr_72, wr_73, wr_74, wr_75, wr_76, wr_77, wr_78, wr_79, wr_80, wr_81, wr_82, wr_83, wr_84, wr_85, wr_86, wr_87, ww_v1, ww_v2, ww_v3, ww_v4, ww_g0, ww_gS, ww_t0, ww_tS, ww_s0, ww_sS, ww_s2, ww_w1, ww_w2, ww_w3, ww_b, ww_tg, ww_p1, ww_p2, ww_q0, ww_qS, ww_k1, ww_k2, ww_k3, ww_w0, ww_wS, ww_i1, ww_i2, ww_f0, ww_f1, ww_f2, ww_f4, ww_fd, ww_cl, ww_mc, ww_tk, ww_ci, ww_ak, ww_gv, ww_g1, ww_kcs, w_f1, w_f2, w_a1, w_a2, w_u_at, dm_57, List.elem_nil, List.elem_cons, List.map_nil, List.map_cons, List.sum_nil, List.sum_cons, Option.toList_none, Option.toList_some, List.nil_append, List.cons_append, true_and, and_true, implies_true, false_implies, if_true, if_false, reduceIte, reduceCtorEq, Bool.false_eq_true, Bool.and_false, Bool.false_and, Bool.and_self, Bool.and_true, Bool.true_and, Nat.reduceAdd, Nat.reduceBEq, Nat.reduceEqDiff, Nat.reduceLT, Nat.reduceLeDiff, Int.reduceAdd, Int.reduceNeg, Int.reduceToNat, Int.reduceLE, Int.reduceLT, Int.reduceSub, Int.cast_ofNat_Int, Int.reduceNatCast', Int.reduceNatCast, Nat.zero_add, Int.zero_add, and_self, false_and, and_false, or_false, false_or, true_or, or_true, not_true_eq_false, not_false_eq_true, at_40, w_i0, w_i1, w_i2, w_g_f, ctL_c, ctL_n, w_isRs, w_bds]
  (try simp only [h_ok, h_cC, h_cF, h_w, h_nf, h_code, am_rg] at hp ⊢); all_goals ((repeat' (first | refine And.intro ?_ ?_ | intro _)) <;> first | assumption | trivial | omega | (refine congrArg (fun z : Int => some (Sum.inl z)) ?_; (repeat' split) <;> omega) | ((repeat' split) <;> first | rfl | omega))
theorem ok_57 : ww_cOk1 57 sp_57 := by
  intro as w fr pre r w1 e hp
  unfold sp_57 at e
  split at e
  · cases e
    exact lk_57 hp
  · cases e

