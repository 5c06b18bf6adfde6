/-! ===== leaves of the class: the heap, notes ===== -/
def sp_24 : List am_V → W_ → Option (Nat × Prop × Option am_V × W_)
  | [.inr (.inr (.inl 13)), .inl x0, .inl x1, .inl x2, .inl x3], w => some (1, 30000 ≤ x0 ∧ x0 - 30000 < w.1 13 2, some (.inl x0), w_wid w x0 x1 x2 x3)
  | _, _ => none
theorem at_24 (x0 x1 x2 x3 : Int) (w : W_) : sp_24 [.inr (.inr (.inl 13)), .inl x0, .inl x1, .inl x2, .inl x3] w = some (1, 30000 ≤ x0 ∧ x0 - 30000 < w.1 13 2, some (.inl x0), w_wid w x0 x1 x2 x3) := rfl
set_option maxRecDepth 100000 in
set_option maxHeartbeats 4000000 in
theorem lk_24 {x0 x1 x2 x3 : Int} {w : W_} (hp : 30000 ≤ x0 ∧ x0 - 30000 < w.1 13 2) : ww_Ct 24 1 [.inr (.inr (.inl 13)), .inl x0, .inl x1, .inl x2, .inl x3] w fun r w' => r = some (.inl x0) ∧ w' = w_wid w x0 x1 x2 x3 := by
  refine of_24 (ww_go (ctL_cons ok_19 ctL_nil) 400 [] ?_)
  simp only [ww_S, ww_1, wr_0, wr_1, wr_2, wr_3, wr_4, wr_5, wr_6, wr_7, wr_8, wr_9, wr_10, wr_11, wr_12, wr_13, wr_14, wr_15, wr_16, wr_17, wr_18, wr_19, wr_20, wr_21, wr_22, wr_23, wr_24, wr_25, wr_26, wr_27, wr_28, wr_29, wr_30, wr_31, wr_32, wr_33, wr_34, wr_35, wr_36, wr_37, wr_38, wr_39, wr_40, wr_41, wr_42, wr_43, wr_44, wr_45, wr_46, wr_47, wr_48, wr_49, wr_50, wr_51, wr_52, wr_53, wr_54, wr_55, wr_56, wr_57, wr_58, wr_59, wr_60, wr_61, wr_62, wr_63, wr_64, wr_65, wr_66, wr_67, wr_68, wr_69, wr_70, wr_71, wr_72, wr_73, wr_74, wr_75, wr_76, wr_77, wr_78, wr_79, wr_80, wr_81, wr_82, wr_83, wr_84, wr_85, wr_86, wr_87, ww_v1, ww_v2, ww_v3, ww_v4, ww_g0, ww_gS, ww_t0, ww_tS, ww_s0, ww_sS, ww_s2, ww_w1, ww_w2, ww_w3, ww_b, ww_tg, ww_p1, ww_p2, ww_q0, ww_qS, ww_k1, ww_k2, ww_k3, ww_w0, ww_wS, ww_i1, ww_i2, ww_f0, ww_f1, ww_f2, ww_f4, ww_fd, ww_cl, ww_mc, ww_tk, ww_ci, ww_ak, ww_gv, ww_g1, ww_kcs, w_f1, w_f2, w_a1, w_a2, w_u_at, dm_24, List.elem_nil, List.elem_cons, List.map_nil, List.map_cons, List.sum_nil, List.sum_cons, Option.toList_none, Option.toList_some, List.nil_append, List.cons_append, true_and, and_true, implies_true, false_implies, if_true, if_false, reduceIte, reduceCtorEq, Bool.false_eq_true, Bool.and_false, Bool.false_and, Bool.and_self, Bool.and_true, Bool.true_and, Nat.reduceAdd, Nat.reduceBEq, Nat.reduceEqDiff, Nat.reduceLT, Nat.reduceLeDiff, Int.reduceAdd, Int.reduceNeg, Int.reduceToNat, Int.reduceLE, Int.reduceLT, Int.reduceSub, Int.cast_ofNat_Int, Int.reduceNatCast', Int.reduceNatCast, Nat.zero_add, Int.zero_add, and_self, false_and, and_false, or_false, false_or, true_or, or_true, not_true_eq_false, not_false_eq_true, at_19, w_i0, w_i1, w_i2, w_g_f, ctL_c, ctL_n, w_isRs, w_bds]
  all_goals ((repeat' (first | refine And.intro ?_ ?_ | intro _)) <;> first | assumption | trivial | (unfold am_rg at *; omega) | omega | (refine congrArg (fun z : Int => some (Sum.inl z)) ?_; (try unfold b9); (repeat' split) <;> omega) | (unfold am_rg at *; (repeat' split) <;> omega) | rfl)
theorem ok_24 : ww_cOk1 24 sp_24 := by
  intro as w fr pre r w1 e hp
  unfold sp_24 at e
  split at e
  · cases e
    exact lk_24 hp
  · cases e

def sp_21 : List am_V → W_ → Option (Nat × Prop × Option am_V × W_)
  | [.inr (.inr (.inl 13)), .inl x0], w => some (3, (0 ≤ w.1 13 2 ∧ w.1 13 2 < 262144), some (.inl (30000 + w.1 13 2)), w_wid (w_mk w 1 20003 20003 x0 0) (30000 + w.1 13 2) 1 2 3)
  | _, _ => none
theorem at_21 (x0 : Int) (w : W_) : sp_21 [.inr (.inr (.inl 13)), .inl x0] w = some (3, (0 ≤ w.1 13 2 ∧ w.1 13 2 < 262144), some (.inl (30000 + w.1 13 2)), w_wid (w_mk w 1 20003 20003 x0 0) (30000 + w.1 13 2) 1 2 3) := rfl
set_option maxRecDepth 100000 in
set_option maxHeartbeats 4000000 in
theorem lk_21 {x0 : Int} {w : W_} (hp : (0 ≤ w.1 13 2 ∧ w.1 13 2 < 262144)) : ww_Ct 21 3 [.inr (.inr (.inl 13)), .inl x0] w fun r w' => r = some (.inl (30000 + w.1 13 2)) ∧ w' = w_wid (w_mk w 1 20003 20003 x0 0) (30000 + w.1 13 2) 1 2 3 := by
  refine of_21 (ww_go (ctL_cons ok_20 (ctL_cons ok_24 ctL_nil)) 400 [] ?_)
  simp only [ww_S, ww_1, wr_0, wr_1, wr_2, wr_3, wr_4, wr_5, wr_6, wr_7, wr_8, wr_9, wr_10, wr_11, wr_12, wr_13, wr_14, wr_15, wr_16, wr_17, wr_18, wr_19, wr_20, wr_21, wr_22, wr_23, wr_24, wr_25, wr_26, wr_27, wr_28, wr_29, wr_30, wr_31, wr_32, wr_33, wr_34, wr_35, wr_36, wr_37, wr_38, wr_39, wr_40, wr_41, wr_42, wr_43, wr_44, wr_45, wr_46, wr_47, wr_48, wr_49, wr_50, wr_51, wr_52, wr_53, wr_54, wr_55, wr_56, wr_57, wr_58, wr_59, wr_60, wr_61, wr_62, wr_63, wr_64, wr_65, wr_66, wr_67, wr_68, wr_69, wr_70, wr_71, wr_72, wr_73, wr_74, wr_75, wr_76, wr_77, wr_78, wr_79, wr_80, wr_81, wr_82, wr_83, wr_84, wr_85, wr_86, wr_87, ww_v1, ww_v2, ww_v3, ww_v4, ww_g0, ww_gS, ww_t0, ww_tS, ww_s0, ww_sS, ww_s2, ww_w1, ww_w2, ww_w3, ww_b, ww_tg, ww_p1, ww_p2, ww_q0, ww_qS, ww_k1, ww_k2, ww_k3, ww_w0, ww_wS, ww_i1, ww_i2, ww_f0, ww_f1, ww_f2, ww_f4, ww_fd, ww_cl, ww_mc, ww_tk, ww_ci, ww_ak, ww_gv, ww_g1, ww_kcs, w_f1, w_f2, w_a1, w_a2, w_u_at, dm_21, List.elem_nil, List.elem_cons, List.map_nil, List.map_cons, List.sum_nil, List.sum_cons, Option.toList_none, Option.toList_some, List.nil_append, List.cons_append, true_and, and_true, implies_true, false_implies, if_true, if_false, reduceIte, reduceCtorEq, Bool.false_eq_true, Bool.and_false, Bool.false_and, Bool.and_self, Bool.and_true, Bool.true_and, Nat.reduceAdd, Nat.reduceBEq, Nat.reduceEqDiff, Nat.reduceLT, Nat.reduceLeDiff, Int.reduceAdd, Int.reduceNeg, Int.reduceToNat, Int.reduceLE, Int.reduceLT, Int.reduceSub, Int.cast_ofNat_Int, Int.reduceNatCast', Int.reduceNatCast, Nat.zero_add, Int.zero_add, and_self, false_and, and_false, or_false, false_or, true_or, or_true, not_true_eq_false, not_false_eq_true, at_20, at_24, w_mk1, w_i0, w_i1, w_i2, w_g_f, ctL_c, ctL_n, w_isRs, w_bds]
  all_goals ((repeat' (first | refine And.intro ?_ ?_ | intro _)) <;> first | assumption | trivial | (unfold am_rg at *; omega) | omega | (refine congrArg (fun z : Int => some (Sum.inl z)) ?_; (try unfold b9); (repeat' split) <;> omega) | (unfold am_rg at *; (repeat' split) <;> omega) | rfl)
theorem ok_21 : ww_cOk1 21 sp_21 := by
  intro as w fr pre r w1 e hp
  unfold sp_21 at e
  split at e
  · cases e
    exact lk_21 hp
  · cases e

def sp_22 : List am_V → W_ → Option (Nat × Prop × Option am_V × W_)
  | [.inr (.inr (.inl 13)), .inl x0], w => some (3, (0 ≤ w.1 13 2 ∧ w.1 13 2 < 262144), some (.inl (30000 + w.1 13 2)), w_wid (w_mk w 4 20003 20003 x0 0) (30000 + w.1 13 2) x0 x0 x0)
  | _, _ => none
theorem at_22 (x0 : Int) (w : W_) : sp_22 [.inr (.inr (.inl 13)), .inl x0] w = some (3, (0 ≤ w.1 13 2 ∧ w.1 13 2 < 262144), some (.inl (30000 + w.1 13 2)), w_wid (w_mk w 4 20003 20003 x0 0) (30000 + w.1 13 2) x0 x0 x0) := rfl
set_option maxRecDepth 100000 in
set_option maxHeartbeats 4000000 in
theorem lk_22 {x0 : Int} {w : W_} (hp : (0 ≤ w.1 13 2 ∧ w.1 13 2 < 262144)) : ww_Ct 22 3 [.inr (.inr (.inl 13)), .inl x0] w fun r w' => r = some (.inl (30000 + w.1 13 2)) ∧ w' = w_wid (w_mk w 4 20003 20003 x0 0) (30000 + w.1 13 2) x0 x0 x0 := by
  refine of_22 (ww_go (ctL_cons ok_20 (ctL_cons ok_24 ctL_nil)) 400 [] ?_)
  simp only [ww_S, ww_1, wr_0, wr_1, wr_2, wr_3, wr_4, wr_5, wr_6, wr_7, wr_8, wr_9, wr_10, wr_11, wr_12, wr_13, wr_14, wr_15, wr_16, wr_17, wr_18, wr_19, wr_20, wr_21, wr_22, wr_23, wr_24, wr_25, wr_26, wr_27, wr_28, wr_29, wr_30, wr_31, wr_32, wr_33, wr_34, wr_35, wr_36, wr_37, wr_38, wr_39, wr_40, wr_41, wr_42, wr_43, wr_44, wr_45, wr_46, wr_47, wr_48, wr_49, wr_50, wr_51, wr_52, wr_53, wr_54, wr_55, wr_56, wr_57, wr_58, wr_59, wr_60, wr_61, wr_62, wr_63, wr_64, wr_65, wr_66, wr_67, wr_68, wr_69, wr_70, wr_71, wr_72, wr_73, wr_74, wr_75, wr_76, wr_77, wr_78, wr_79, wr_80, wr_81, wr_82, wr_83, wr_84, wr_85, wr_86, wr_87, ww_v1, ww_v2, ww_v3, ww_v4, ww_g0, ww_gS, ww_t0, ww_tS, ww_s0, ww_sS, ww_s2, ww_w1, ww_w2, ww_w3, ww_b, ww_tg, ww_p1, ww_p2, ww_q0, ww_qS, ww_k1, ww_k2, ww_k3, ww_w0, ww_wS, ww_i1, ww_i2, ww_f0, ww_f1, ww_f2, ww_f4, ww_fd, ww_cl, ww_mc, ww_tk, ww_ci, ww_ak, ww_gv, ww_g1, ww_kcs, w_f1, w_f2, w_a1, w_a2, w_u_at, dm_22, List.elem_nil, List.elem_cons, List.map_nil, List.map_cons, List.sum_nil, List.sum_cons, Option.toList_none, Option.toList_some, List.nil_append, List.cons_append, true_and, and_true, implies_true, false_implies, if_true, if_false, reduceIte, reduceCtorEq, Bool.false_eq_true, Bool.and_false, Bool.false_and, Bool.and_self, Bool.and_true, Bool.true_and, Nat.reduceAdd, Nat.reduceBEq, Nat.reduceEqDiff, Nat.reduceLT, Nat.reduceLeDiff, Int.reduceAdd, Int.reduceNeg, Int.reduceToNat, Int.reduceLE, Int.reduceLT, Int.reduceSub, Int.cast_ofNat_Int, Int.reduceNatCast', Int.reduceNatCast, Nat.zero_add, Int.zero_add, and_self, false_and, and_false, or_false, false_or, true_or, or_true, not_true_eq_false, not_false_eq_true, at_20, at_24, w_mk1, w_i0, w_i1, w_i2, w_g_f, ctL_c, ctL_n, w_isRs, w_bds]
  all_goals ((repeat' (first | refine And.intro ?_ ?_ | intro _)) <;> first | assumption | trivial | (unfold am_rg at *; omega) | omega | (refine congrArg (fun z : Int => some (Sum.inl z)) ?_; (try unfold b9); (repeat' split) <;> omega) | (unfold am_rg at *; (repeat' split) <;> omega) | rfl)
theorem ok_22 : ww_cOk1 22 sp_22 := by
  intro as w fr pre r w1 e hp
  unfold sp_22 at e
  split at e
  · cases e
    exact lk_22 hp
  · cases e

def sp_28 : List am_V → W_ → Option (Nat × Prop × Option am_V × W_)
  | [.inr (.inr (.inl 13)), .inl x0, .inl x1], w => some (3, am_rg x0 ∧ (0 ≤ w.1 13 2 ∧ w.1 13 2 < 262144), some (.inl (if x0 = 20003 then x1 else 30000 + w.1 13 2)), (if x0 = 20003 then w else w_mk w 8 x0 x1 0 0))
  | _, _ => none
theorem at_28 (x0 x1 : Int) (w : W_) : sp_28 [.inr (.inr (.inl 13)), .inl x0, .inl x1] w = some (3, am_rg x0 ∧ (0 ≤ w.1 13 2 ∧ w.1 13 2 < 262144), some (.inl (if x0 = 20003 then x1 else 30000 + w.1 13 2)), (if x0 = 20003 then w else w_mk w 8 x0 x1 0 0)) := rfl
set_option maxRecDepth 100000 in
set_option maxHeartbeats 4000000 in
theorem lk_28 {x0 x1 : Int} {w : W_} (hp : am_rg x0 ∧ (0 ≤ w.1 13 2 ∧ w.1 13 2 < 262144)) : ww_Ct 28 3 [.inr (.inr (.inl 13)), .inl x0, .inl x1] w fun r w' => r = some (.inl (if x0 = 20003 then x1 else 30000 + w.1 13 2)) ∧ w' = (if x0 = 20003 then w else w_mk w 8 x0 x1 0 0) := by
  refine of_28 (ww_go (ctL_cons ok_20 ctL_nil) 400 [] ?_)
  simp only [ww_S, ww_1, wr_0, wr_1, wr_2, wr_3, wr_4, wr_5, wr_6, wr_7, wr_8, wr_9, wr_10, wr_11, wr_12, wr_13, wr_14, wr_15, wr_16, wr_17, wr_18, wr_19, wr_20, wr_21, wr_22, wr_23, wr_24, wr_25, wr_26, wr_27, wr_28, wr_29, wr_30, wr_31, wr_32, wr_33, wr_34, wr_35, wr_36, wr_37, wr_38, wr_39, wr_40, wr_41, wr_42, wr_43, wr_44, wr_45, wr_46, wr_47, wr_48, wr_49, wr_50, wr_51, wr_52, wr_53, wr_54, wr_55, wr_56, wr_57, wr_58, wr_59, wr_60, wr_61, wr_62, wr_63, wr_64, wr_65, wr_66, wr_67, wr_68, wr_69, wr_70, wr_71, wr_72, wr_73, wr_74, wr_75, wr_76, wr_77, wr_78, wr_79, wr_80, wr_81, wr_82, wr_83, wr_84, wr_85, wr_86, wr_87, ww_v1, ww_v2, ww_v3, ww_v4, ww_g0, ww_gS, ww_t0, ww_tS, ww_s0, ww_sS, ww_s2, ww_w1, ww_w2, ww_w3, ww_b, ww_tg, ww_p1, ww_p2, ww_q0, ww_qS, ww_k1, ww_k2, ww_k3, ww_w0, ww_wS, ww_i1, ww_i2, ww_f0, ww_f1, ww_f2, ww_f4, ww_fd, ww_cl, ww_mc, ww_tk, ww_ci, ww_ak, ww_gv, ww_g1, ww_kcs, w_f1, w_f2, w_a1, w_a2, w_u_at, dm_28, List.elem_nil, List.elem_cons, List.map_nil, List.map_cons, List.sum_nil, List.sum_cons, Option.toList_none, Option.toList_some, List.nil_append, List.cons_append, true_and, and_true, implies_true, false_implies, if_true, if_false, reduceIte, reduceCtorEq, Bool.false_eq_true, Bool.and_false, Bool.false_and, Bool.and_self, Bool.and_true, Bool.true_and, Nat.reduceAdd, Nat.reduceBEq, Nat.reduceEqDiff, Nat.reduceLT, Nat.reduceLeDiff, Int.reduceAdd, Int.reduceNeg, Int.reduceToNat, Int.reduceLE, Int.reduceLT, Int.reduceSub, Int.cast_ofNat_Int, Int.reduceNatCast', Int.reduceNatCast, Nat.zero_add, Int.zero_add, and_self, false_and, and_false, or_false, false_or, true_or, or_true, not_true_eq_false, not_false_eq_true, at_20, w_i0, w_i1, w_i2, w_g_f, ctL_c, ctL_n, w_isRs, w_bds]
  (try simp only [h_ok, h_cC, h_cF, h_w, h_nf, h_code, am_rg] at hp ⊢); all_goals ((repeat' (first | refine And.intro ?_ ?_ | intro _)) <;> first | assumption | trivial | omega | (refine congrArg (fun z : Int => some (Sum.inl z)) ?_; (repeat' split) <;> omega) | ((repeat' split) <;> first | rfl | omega))
theorem ok_28 : ww_cOk1 28 sp_28 := by
  intro as w fr pre r w1 e hp
  unfold sp_28 at e
  split at e
  · cases e
    exact lk_28 hp
  · cases e

def sp_29 : List am_V → W_ → Option (Nat × Prop × Option am_V × W_)
  | [.inr (.inr (.inl 13)), .inl x0, .inl x1], w => some (1, h_ok w x0 ∧ am_rg x1, some (.inl (h_w w x0 x1)), w)
  | _, _ => none
theorem at_29 (x0 x1 : Int) (w : W_) : sp_29 [.inr (.inr (.inl 13)), .inl x0, .inl x1] w = some (1, h_ok w x0 ∧ am_rg x1, some (.inl (h_w w x0 x1)), w) := rfl
set_option maxRecDepth 100000 in
set_option maxHeartbeats 4000000 in
theorem lk_29 {x0 x1 : Int} {w : W_} (hp : h_ok w x0 ∧ am_rg x1) : ww_Ct 29 1 [.inr (.inr (.inl 13)), .inl x0, .inl x1] w fun r w' => r = some (.inl (h_w w x0 x1)) ∧ w' = w := by
  refine of_29 (ww_go (ctL_cons ok_18 (ctL_cons ok_161 ctL_nil)) 400 [] ?_)
  simp only [ww_S, ww_1, wr_0, wr_1, wr_2, wr_3, wr_4, wr_5, wr_6, wr_7, wr_8, wr_9, wr_10, wr_11, wr_12, wr_13, wr_14, wr_15, wr_16, wr_17, wr_18, wr_19, wr_20, wr_21, wr_22, wr_23, wr_24, wr_25, wr_26, wr_27, wr_28, wr_29, wr_30, wr_31, wr_32, wr_33, wr_34, wr_35, wr_36, wr_37, wr_38, wr_39, wr_40, wr_41, wr_42, wr_43, wr_44, wr_45, wr_46, wr_47, wr_48, wr_49, wr_50, wr_51, wr_52, wr_53, wr_54, wr_55, wr_56, wr_57, wr_58, wr_59, wr_60, wr_61, wr_62, wr_63, wr_64, wr_65, wr_66, wr_67, wr_68, wr_69, wr_70, wr_71, wr_72, wr_73, wr_74, wr_75, wr_76, wr_77, wr_78, wr_79, wr_80, wr_81, wr_82, wr_83, wr_84, wr_85, wr_86, wr_87, ww_v1, ww_v2, ww_v3, ww_v4, ww_g0, ww_gS, ww_t0, ww_tS, ww_s0, ww_sS, ww_s2, ww_w1, ww_w2, ww_w3, ww_b, ww_tg, ww_p1, ww_p2, ww_q0, ww_qS, ww_k1, ww_k2, ww_k3, ww_w0, ww_wS, ww_i1, ww_i2, ww_f0, ww_f1, ww_f2, ww_f4, ww_fd, ww_cl, ww_mc, ww_tk, ww_ci, ww_ak, ww_gv, ww_g1, ww_kcs, w_f1, w_f2, w_a1, w_a2, w_u_at, dm_29, List.elem_nil, List.elem_cons, List.map_nil, List.map_cons, List.sum_nil, List.sum_cons, Option.toList_none, Option.toList_some, List.nil_append, List.cons_append, true_and, and_true, implies_true, false_implies, if_true, if_false, reduceIte, reduceCtorEq, Bool.false_eq_true, Bool.and_false, Bool.false_and, Bool.and_self, Bool.and_true, Bool.true_and, Nat.reduceAdd, Nat.reduceBEq, Nat.reduceEqDiff, Nat.reduceLT, Nat.reduceLeDiff, Int.reduceAdd, Int.reduceNeg, Int.reduceToNat, Int.reduceLE, Int.reduceLT, Int.reduceSub, Int.cast_ofNat_Int, Int.reduceNatCast', Int.reduceNatCast, Nat.zero_add, Int.zero_add, and_self, false_and, and_false, or_false, false_or, true_or, or_true, not_true_eq_false, not_false_eq_true, at_18, at_161, w_i0, w_i1, w_i2, w_g_f, ctL_c, ctL_n, w_isRs, w_bds]
  (try simp only [h_ok, h_cC, h_cF, h_w, h_nf, h_code, am_rg] at hp ⊢); all_goals ((repeat' (first | refine And.intro ?_ ?_ | intro _)) <;> first | assumption | trivial | omega | (refine congrArg (fun z : Int => some (Sum.inl z)) ?_; (repeat' split) <;> omega) | ((repeat' split) <;> first | rfl | omega))
theorem ok_29 : ww_cOk1 29 sp_29 := by
  intro as w fr pre r w1 e hp
  unfold sp_29 at e
  split at e
  · cases e
    exact lk_29 hp
  · cases e

def sp_30 : List am_V → W_ → Option (Nat × Prop × Option am_V × W_)
  | [.inr (.inr (.inl 13)), .inl x0], w => some (1, h_ok w x0, some (.inl (h_nf w x0)), w)
  | _, _ => none
theorem at_30 (x0 : Int) (w : W_) : sp_30 [.inr (.inr (.inl 13)), .inl x0] w = some (1, h_ok w x0, some (.inl (h_nf w x0)), w) := rfl
set_option maxRecDepth 100000 in
set_option maxHeartbeats 4000000 in
theorem lk_30 {x0 : Int} {w : W_} (hp : h_ok w x0) : ww_Ct 30 1 [.inr (.inr (.inl 13)), .inl x0] w fun r w' => r = some (.inl (h_nf w x0)) ∧ w' = w := by
  refine of_30 (ww_go (ctL_cons ok_18 ctL_nil) 400 [] ?_)
  simp only [ww_S, ww_1, wr_0, wr_1, wr_2, wr_3, wr_4, wr_5, wr_6, wr_7, wr_8, wr_9, wr_10, wr_11, wr_12, wr_13, wr_14, wr_15, wr_16, wr_17, wr_18, wr_19, wr_20, wr_21, wr_22, wr_23, wr_24, wr_25, wr_26, wr_27, wr_28, wr_29, wr_30, wr_31, wr_32, wr_33, wr_34, wr_35, wr_36, wr_37, wr_38, wr_39, wr_40, wr_41, wr_42, wr_43, wr_44, wr_45, wr_46, wr_47, wr_48, wr_49, wr_50, wr_51, wr_52, wr_53, wr_54, wr_55, wr_56, wr_57, wr_58, wr_59, wr_60, wr_61, wr_62, wr_63, wr_64, wr_65, wr_66, wr_67, wr_68, wr_69, wr_70, wr_71, wr_72, wr_73, wr_74, wr_75, wr_76, wr_77, wr_78, wr_79, wr_80, wr_81, wr_82, wr_83, wr_84, wr_85, wr_86, wr_87, ww_v1, ww_v2, ww_v3, ww_v4, ww_g0, ww_gS, ww_t0, ww_tS, ww_s0, ww_sS, ww_s2, ww_w1, ww_w2, ww_w3, ww_b, ww_tg, ww_p1, ww_p2, ww_q0, ww_qS, ww_k1, ww_k2, ww_k3, ww_w0, ww_wS, ww_i1, ww_i2, ww_f0, ww_f1, ww_f2, ww_f4, ww_fd, ww_cl, ww_mc, ww_tk, ww_ci, ww_ak, ww_gv, ww_g1, ww_kcs, w_f1, w_f2, w_a1, w_a2, w_u_at, dm_30, List.elem_nil, List.elem_cons, List.map_nil, List.map_cons, List.sum_nil, List.sum_cons, Option.toList_none, Option.toList_some, List.nil_append, List.cons_append, true_and, and_true, implies_true, false_implies, if_true, if_false, reduceIte, reduceCtorEq, Bool.false_eq_true, Bool.and_false, Bool.false_and, Bool.and_self, Bool.and_true, Bool.true_and, Nat.reduceAdd, Nat.reduceBEq, Nat.reduceEqDiff, Nat.reduceLT, Nat.reduceLeDiff, Int.reduceAdd, Int.reduceNeg, Int.reduceToNat, Int.reduceLE, Int.reduceLT, Int.reduceSub, Int.cast_ofNat_Int, Int.reduceNatCast', Int.reduceNatCast, Nat.zero_add, Int.zero_add, and_self, false_and, and_false, or_false, false_or, true_or, or_true, not_true_eq_false, not_false_eq_true, at_18, w_i0, w_i1, w_i2, w_g_f, ctL_c, ctL_n, w_isRs, w_bds]
  (try simp only [h_ok, h_cC, h_cF, h_w, h_nf, h_code, am_rg] at hp ⊢); all_goals ((repeat' (first | refine And.intro ?_ ?_ | intro _)) <;> first | assumption | trivial | omega | (refine congrArg (fun z : Int => some (Sum.inl z)) ?_; (repeat' split) <;> omega) | ((repeat' split) <;> first | rfl | omega))
theorem ok_30 : ww_cOk1 30 sp_30 := by
  intro as w fr pre r w1 e hp
  unfold sp_30 at e
  split at e
  · cases e
    exact lk_30 hp
  · cases e

def sp_31 : List am_V → W_ → Option (Nat × Prop × Option am_V × W_)
  | [.inr (.inr (.inl 13)), .inl x0], w => some (1, h_ok w x0, some (.inl (if h_cC w x0 then 1 else 0)), w)
  | _, _ => none
theorem at_31 (x0 : Int) (w : W_) : sp_31 [.inr (.inr (.inl 13)), .inl x0] w = some (1, h_ok w x0, some (.inl (if h_cC w x0 then 1 else 0)), w) := rfl
set_option maxRecDepth 100000 in
set_option maxHeartbeats 4000000 in
theorem lk_31 {x0 : Int} {w : W_} (hp : h_ok w x0) : ww_Ct 31 1 [.inr (.inr (.inl 13)), .inl x0] w fun r w' => r = some (.inl (if h_cC w x0 then 1 else 0)) ∧ w' = w := by
  refine of_31 (ww_go (ctL_cons ok_18 ctL_nil) 400 [] ?_)
  simp only [ww_S, ww_1, wr_0, wr_1, wr_2, wr_3, wr_4, wr_5, wr_6, wr_7, wr_8, wr_9, wr_10, wr_11, wr_12, wr_13, wr_14, wr_15, wr_16, wr_17, wr_18, wr_19, wr_20, wr_21, wr_22, wr_23, wr_24, wr_25, wr_26, wr_27, wr_28, wr_29, wr_30, wr_31, wr_32, wr_33, wr_34, wr_35, wr_36, wr_37, wr_38, wr_39, wr_40, wr_41, wr_42, wr_43, wr_44, wr_45, wr_46, wr_47, wr_48, wr_49, wr_50, wr_51, wr_52, wr_53, wr_54, wr_55, wr_56, wr_57, wr_58, wr_59, wr_60, wr_61, wr_62, wr_63, wr_64, wr_65, wr_66, wr_67, wr_68, wr_69, wr_70, wr_71, wr_72, wr_73, wr_74, wr_75, wr_76, wr_77, wr_78, wr_79, wr_80, wr_81, wr_82, wr_83, wr_84, wr_85, wr_86, wr_87, ww_v1, ww_v2, ww_v3, ww_v4, ww_g0, ww_gS, ww_t0, ww_tS, ww_s0, ww_sS, ww_s2, ww_w1, ww_w2, ww_w3, ww_b, ww_tg, ww_p1, ww_p2, ww_q0, ww_qS, ww_k1, ww_k2, ww_k3, ww_w0, ww_wS, ww_i1, ww_i2, ww_f0, ww_f1, ww_f2, ww_f4, ww_fd, ww_cl, ww_mc, ww_tk, ww_ci, ww_ak, ww_gv, ww_g1, ww_kcs, w_f1, w_f2, w_a1, w_a2, w_u_at, dm_31, List.elem_nil, List.elem_cons, List.map_nil, List.map_cons, List.sum_nil, List.sum_cons, Option.toList_none, Option.toList_some, List.nil_append, List.cons_append, true_and, and_true, implies_true, false_implies, if_true, if_false, reduceIte, reduceCtorEq, Bool.false_eq_true, Bool.and_false, Bool.false_and, Bool.and_self, Bool.and_true, Bool.true_and, Nat.reduceAdd, Nat.reduceBEq, Nat.reduceEqDiff, Nat.reduceLT, Nat.reduceLeDiff, Int.reduceAdd, Int.reduceNeg, Int.reduceToNat, Int.reduceLE, Int.reduceLT, Int.reduceSub, Int.cast_ofNat_Int, Int.reduceNatCast', Int.reduceNatCast, Nat.zero_add, Int.zero_add, and_self, false_and, and_false, or_false, false_or, true_or, or_true, not_true_eq_false, not_false_eq_true, at_18, w_i0, w_i1, w_i2, w_g_f, ctL_c, ctL_n, w_isRs, w_bds]
  (try simp only [h_ok, h_cC, h_cF, h_w, h_nf, h_code, am_rg] at hp ⊢); all_goals ((repeat' (first | refine And.intro ?_ ?_ | intro _)) <;> first | assumption | trivial | omega | (refine congrArg (fun z : Int => some (Sum.inl z)) ?_; (repeat' split) <;> omega) | ((repeat' split) <;> first | rfl | omega))
theorem ok_31 : ww_cOk1 31 sp_31 := by
  intro as w fr pre r w1 e hp
  unfold sp_31 at e
  split at e
  · cases e
    exact lk_31 hp
  · cases e

def sp_32 : List am_V → W_ → Option (Nat × Prop × Option am_V × W_)
  | [.inr (.inr (.inl 13)), .inl x0], w => some (1, h_ok w x0, some (.inl (if h_cF w x0 then 1 else 0)), w)
  | _, _ => none
theorem at_32 (x0 : Int) (w : W_) : sp_32 [.inr (.inr (.inl 13)), .inl x0] w = some (1, h_ok w x0, some (.inl (if h_cF w x0 then 1 else 0)), w) := rfl
set_option maxRecDepth 100000 in
set_option maxHeartbeats 4000000 in
theorem lk_32 {x0 : Int} {w : W_} (hp : h_ok w x0) : ww_Ct 32 1 [.inr (.inr (.inl 13)), .inl x0] w fun r w' => r = some (.inl (if h_cF w x0 then 1 else 0)) ∧ w' = w := by
  refine of_32 (ww_go (ctL_cons ok_18 (ctL_cons ok_161 ctL_nil)) 400 [] ?_)
  simp only [ww_S, ww_1, wr_0, wr_1, wr_2, wr_3, wr_4, wr_5, wr_6, wr_7, wr_8, wr_9, wr_10, wr_11, wr_12, wr_13, wr_14, wr_15, wr_16, wr_17, wr_18, wr_19, wr_20, wr_21, wr_22, wr_23, wr_24, wr_25, wr_26, wr_27, wr_28, wr_29, wr_30, wr_31, wr_32, wr_33, wr_34, wr_35, wr_36, wr_37, wr_38, wr_39, wr_40, wr_41, wr_42, wr_43, wr_44, wr_45, wr_46, wr_47, wr_48, wr_49, wr_50, wr_51, wr_52, wr_53, wr_54, wr_55, wr_56, wr_57, wr_58, wr_59, wr_60, wr_61, wr_62, wr_63, wr_64, wr_65, wr_66, wr_67, wr_68, wr_69, wr_70, wr_71, wr_72, wr_73, wr_74, wr_75, wr_76, wr_77, wr_78, wr_79, wr_80, wr_81, wr_82, wr_83, wr_84, wr_85, wr_86, wr_87, ww_v1, ww_v2, ww_v3, ww_v4, ww_g0, ww_gS, ww_t0, ww_tS, ww_s0, ww_sS, ww_s2, ww_w1, ww_w2, ww_w3, ww_b, ww_tg, ww_p1, ww_p2, ww_q0, ww_qS, ww_k1, ww_k2, ww_k3, ww_w0, ww_wS, ww_i1, ww_i2, ww_f0, ww_f1, ww_f2, ww_f4, ww_fd, ww_cl, ww_mc, ww_tk, ww_ci, ww_ak, ww_gv, ww_g1, ww_kcs, w_f1, w_f2, w_a1, w_a2, w_u_at, dm_32, List.elem_nil, List.elem_cons, List.map_nil, List.map_cons, List.sum_nil, List.sum_cons, Option.toList_none, Option.toList_some, List.nil_append, List.cons_append, true_and, and_true, implies_true, false_implies, if_true, if_false, reduceIte, reduceCtorEq, Bool.false_eq_true, Bool.and_false, Bool.false_and, Bool.and_self, Bool.and_true, Bool.true_and, Nat.reduceAdd, Nat.reduceBEq, Nat.reduceEqDiff, Nat.reduceLT, Nat.reduceLeDiff, Int.reduceAdd, Int.reduceNeg, Int.reduceToNat, Int.reduceLE, Int.reduceLT, Int.reduceSub, Int.cast_ofNat_Int, Int.reduceNatCast', Int.reduceNatCast, Nat.zero_add, Int.zero_add, and_self, false_and, and_false, or_false, false_or, true_or, or_true, not_true_eq_false, not_false_eq_true, at_18, at_161, w_i0, w_i1, w_i2, w_g_f, ctL_c, ctL_n, w_isRs, w_bds]
  (try simp only [h_ok, h_cC, h_cF, h_w, h_nf, h_code, am_rg] at hp ⊢); all_goals ((repeat' (first | refine And.intro ?_ ?_ | intro _)) <;> first | assumption | trivial | omega | (refine congrArg (fun z : Int => some (Sum.inl z)) ?_; (repeat' split) <;> omega) | ((repeat' split) <;> first | rfl | omega))
theorem ok_32 : ww_cOk1 32 sp_32 := by
  intro as w fr pre r w1 e hp
  unfold sp_32 at e
  split at e
  · cases e
    exact lk_32 hp
  · cases e

def sp_33 : List am_V → W_ → Option (Nat × Prop × Option am_V × W_)
  | [.inr (.inr (.inl 13)), .inl x0], w => some (1, h_ok w x0, some (.inl (h_code w x0)), w)
  | _, _ => none
theorem at_33 (x0 : Int) (w : W_) : sp_33 [.inr (.inr (.inl 13)), .inl x0] w = some (1, h_ok w x0, some (.inl (h_code w x0)), w) := rfl
set_option maxRecDepth 100000 in
set_option maxHeartbeats 4000000 in
theorem lk_33 {x0 : Int} {w : W_} (hp : h_ok w x0) : ww_Ct 33 1 [.inr (.inr (.inl 13)), .inl x0] w fun r w' => r = some (.inl (h_code w x0)) ∧ w' = w := by
  refine of_33 (ww_go (ctL_cons ok_18 ctL_nil) 400 [] ?_)
  simp only [ww_S, ww_1, wr_0, wr_1, wr_2, wr_3, wr_4, wr_5, wr_6, wr_7, wr_8, wr_9, wr_10, wr_11, wr_12, wr_13, wr_14, wr_15, wr_16, wr_17, wr_18, wr_19, wr_20, wr_21, wr_22, wr_23, wr_24, wr_25, wr_26, wr_27, wr_28, wr_29, wr_30, wr_31, wr_32, wr_33, wr_34, wr_35, wr_36, wr_37, wr_38, wr_39, wr_40, wr_41, wr_42, wr_43, wr_44, wr_45, wr_46, wr_47, wr_48, wr_49, wr_50, wr_51, wr_52, wr_53, wr_54, wr_55, wr_56, wr_57, wr_58, wr_59, wr_60, wr_61, wr_62, wr_63, wr_64, wr_65, wr_66, wr_67, wr_68, wr_69, wr_70, wr_71, wr_72, wr_73, wr_74, wr_75, wr_76, wr_77, wr_78, wr_79, wr_80, wr_81, wr_82, wr_83, wr_84, wr_85, wr_86, wr_87, ww_v1, ww_v2, ww_v3, ww_v4, ww_g0, ww_gS, ww_t0, ww_tS, ww_s0, ww_sS, ww_s2, ww_w1, ww_w2, ww_w3, ww_b, ww_tg, ww_p1, ww_p2, ww_q0, ww_qS, ww_k1, ww_k2, ww_k3, ww_w0, ww_wS, ww_i1, ww_i2, ww_f0, ww_f1, ww_f2, ww_f4, ww_fd, ww_cl, ww_mc, ww_tk, ww_ci, ww_ak, ww_gv, ww_g1, ww_kcs, w_f1, w_f2, w_a1, w_a2, w_u_at, dm_33, List.elem_nil, List.elem_cons, List.map_nil, List.map_cons, List.sum_nil, List.sum_cons, Option.toList_none, Option.toList_some, List.nil_append, List.cons_append, true_and, and_true, implies_true, false_implies, if_true, if_false, reduceIte, reduceCtorEq, Bool.false_eq_true, Bool.and_false, Bool.false_and, Bool.and_self, Bool.and_true, Bool.true_and, Nat.reduceAdd, Nat.reduceBEq, Nat.reduceEqDiff, Nat.reduceLT, Nat.reduceLeDiff, Int.reduceAdd, Int.reduceNeg, Int.reduceToNat, Int.reduceLE, Int.reduceLT, Int.reduceSub, Int.cast_ofNat_Int, Int.reduceNatCast', Int.reduceNatCast, Nat.zero_add, Int.zero_add, and_self, false_and, and_false, or_false, false_or, true_or, or_true, not_true_eq_false, not_false_eq_true, at_18, w_i0, w_i1, w_i2, w_g_f, ctL_c, ctL_n, w_isRs, w_bds]
  (try simp only [h_ok, h_cC, h_cF, h_w, h_nf, h_code, am_rg] at hp ⊢); all_goals ((repeat' (first | refine And.intro ?_ ?_ | intro _)) <;> first | assumption | trivial | omega | (refine congrArg (fun z : Int => some (Sum.inl z)) ?_; (repeat' split) <;> omega) | ((repeat' split) <;> first | rfl | omega))
theorem ok_33 : ww_cOk1 33 sp_33 := by
  intro as w fr pre r w1 e hp
  unfold sp_33 at e
  split at e
  · cases e
    exact lk_33 hp
  · cases e

