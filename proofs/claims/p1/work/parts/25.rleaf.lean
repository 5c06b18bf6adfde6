/-! ===== leaves of the reference ===== -/
def sp_166 : List am_V → W_ → Option (Nat × Prop × Option am_V × W_)
  | [.inr (.inr (.inl 73))], w => some (0, True, some (.inl (w.1 73 93)), w)
  | _, _ => none
theorem at_166 (w : W_) : sp_166 [.inr (.inr (.inl 73))] w = some (0, True, some (.inl (w.1 73 93)), w) := rfl
set_option maxRecDepth 100000 in
set_option maxHeartbeats 4000000 in
theorem lk_166 {w : W_} (hp : True) : ww_Ct 166 0 [.inr (.inr (.inl 73))] w fun r w' => r = some (.inl (w.1 73 93)) ∧ w' = w := by
  refine of_166 (ww_go ctL_nil 400 [] ?_)
  simp only [ww_S, ww_1, wr_0, wr_1, wr_2, wr_3, wr_4, wr_5, wr_6, wr_7, wr_8, wr_9, wr_10, wr_11, wr_12, wr_13, wr_14, wr_15, wr_16, wr_17, wr_18, wr_19, wr_20, wr_21, wr_22, wr_23, wr_24, wr_25, wr_26, wr_27, wr_28, wr_29, wr_30, wr_31, wr_32, wr_33, wr_34, wr_35, wr_36, wr_37, wr_38, wr_39, wr_40, wr_41, wr_42, wr_43, wr_44, wr_45, wr_46, wr_47, wr_48, wr_49, wr_50, wr_51, wr_52, wr_53, wr_54, wr_55, wr_56, wr_57, wr_58, wr_59, wr_60, wr_61, wr_62, wr_63, wr_64, wr_65, wr_66, wr_67, wr_68, wr_69, wr_70, wr_71, wr_72, wr_73, wr_74, wr_75, wr_76, wr_77, wr_78, wr_79, wr_80, wr_81, wr_82, wr_83, wr_84, wr_85, wr_86, wr_87, ww_v1, ww_v2, ww_v3, ww_v4, ww_g0, ww_gS, ww_t0, ww_tS, ww_s0, ww_sS, ww_s2, ww_w1, ww_w2, ww_w3, ww_b, ww_tg, ww_p1, ww_p2, ww_q0, ww_qS, ww_k1, ww_k2, ww_k3, ww_w0, ww_wS, ww_i1, ww_i2, ww_f0, ww_f1, ww_f2, ww_f4, ww_fd, ww_cl, ww_mc, ww_tk, ww_ci, ww_ak, ww_gv, ww_g1, ww_kcs, w_f1, w_f2, w_a1, w_a2, w_u_at, dm_166, List.elem_nil, List.elem_cons, List.map_nil, List.map_cons, List.sum_nil, List.sum_cons, Option.toList_none, Option.toList_some, List.nil_append, List.cons_append, true_and, and_true, implies_true, false_implies, if_true, if_false, reduceIte, reduceCtorEq, Bool.false_eq_true, Bool.and_false, Bool.false_and, Bool.and_self, Bool.and_true, Bool.true_and, Nat.reduceAdd, Nat.reduceBEq, Nat.reduceEqDiff, Nat.reduceLT, Nat.reduceLeDiff, Int.reduceAdd, Int.reduceNeg, Int.reduceToNat, Int.reduceLE, Int.reduceLT, Int.reduceSub, Int.cast_ofNat_Int, Int.reduceNatCast', Int.reduceNatCast, Nat.zero_add, Int.zero_add, and_self, false_and, and_false, or_false, false_or, true_or, or_true, not_true_eq_false, not_false_eq_true, w_i0, w_i1, w_i2, w_g_f, ctL_c, ctL_n, w_isRs, w_bds]
  (try simp only [h_ok, h_cC, h_cF, h_w, h_nf, h_code, am_rg] at hp ⊢); all_goals ((repeat' (first | refine And.intro ?_ ?_ | intro _)) <;> first | assumption | trivial | omega | (refine congrArg (fun z : Int => some (Sum.inl z)) ?_; (repeat' split) <;> omega) | ((repeat' split) <;> first | rfl | omega))
theorem ok_166 : ww_cOk1 166 sp_166 := by
  intro as w fr pre r w1 e hp
  unfold sp_166 at e
  split at e
  · cases e
    exact lk_166 hp
  · cases e

def sp_167 : List am_V → W_ → Option (Nat × Prop × Option am_V × W_)
  | [.inr (.inr (.inl 73)), .inl x0], w => some (0, am_rg x0, some (.inl (if x0 = 0 then 1 else 0)), w_f w 73 93 x0)
  | _, _ => none
theorem at_167 (x0 : Int) (w : W_) : sp_167 [.inr (.inr (.inl 73)), .inl x0] w = some (0, am_rg x0, some (.inl (if x0 = 0 then 1 else 0)), w_f w 73 93 x0) := rfl
set_option maxRecDepth 100000 in
set_option maxHeartbeats 4000000 in
theorem lk_167 {x0 : Int} {w : W_} (hp : am_rg x0) : ww_Ct 167 0 [.inr (.inr (.inl 73)), .inl x0] w fun r w' => r = some (.inl (if x0 = 0 then 1 else 0)) ∧ w' = w_f w 73 93 x0 := by
  refine of_167 (ww_go ctL_nil 400 [] ?_)
  simp only [ww_S, ww_1, wr_0, wr_1, wr_2, wr_3, wr_4, wr_5, wr_6, wr_7, wr_8, wr_9, wr_10, wr_11, wr_12, wr_13, wr_14, wr_15, wr_16, wr_17, wr_18, wr_19, wr_20, wr_21, wr_22, wr_23, wr_24, wr_25, wr_26, wr_27, wr_28, wr_29, wr_30, wr_31, wr_32, wr_33, wr_34, wr_35, wr_36, wr_37, wr_38, wr_39, wr_40, wr_41, wr_42, wr_43, wr_44, wr_45, wr_46, wr_47, wr_48, wr_49, wr_50, wr_51, wr_52, wr_53, wr_54, wr_55, wr_56, wr_57, wr_58, wr_59, wr_60, wr_61, wr_62, wr_63, wr_64, wr_65, wr_66, wr_67, wr_68, wr_69, wr_70, wr_71, wr_72, wr_73, wr_74, wr_75, wr_76, wr_77, wr_78, wr_79, wr_80, wr_81, wr_82, wr_83, wr_84, wr_85, wr_86, wr_87, ww_v1, ww_v2, ww_v3, ww_v4, ww_g0, ww_gS, ww_t0, ww_tS, ww_s0, ww_sS, ww_s2, ww_w1, ww_w2, ww_w3, ww_b, ww_tg, ww_p1, ww_p2, ww_q0, ww_qS, ww_k1, ww_k2, ww_k3, ww_w0, ww_wS, ww_i1, ww_i2, ww_f0, ww_f1, ww_f2, ww_f4, ww_fd, ww_cl, ww_mc, ww_tk, ww_ci, ww_ak, ww_gv, ww_g1, ww_kcs, w_f1, w_f2, w_a1, w_a2, w_u_at, dm_167, List.elem_nil, List.elem_cons, List.map_nil, List.map_cons, List.sum_nil, List.sum_cons, Option.toList_none, Option.toList_some, List.nil_append, List.cons_append, true_and, and_true, implies_true, false_implies, if_true, if_false, reduceIte, reduceCtorEq, Bool.false_eq_true, Bool.and_false, Bool.false_and, Bool.and_self, Bool.and_true, Bool.true_and, Nat.reduceAdd, Nat.reduceBEq, Nat.reduceEqDiff, Nat.reduceLT, Nat.reduceLeDiff, Int.reduceAdd, Int.reduceNeg, Int.reduceToNat, Int.reduceLE, Int.reduceLT, Int.reduceSub, Int.cast_ofNat_Int, Int.reduceNatCast', Int.reduceNatCast, Nat.zero_add, Int.zero_add, and_self, false_and, and_false, or_false, false_or, true_or, or_true, not_true_eq_false, not_false_eq_true, w_i0, w_i1, w_i2, w_g_f, ctL_c, ctL_n, w_isRs, w_bds]
  (try simp only [h_ok, h_cC, h_cF, h_w, h_nf, h_code, am_rg] at hp ⊢); all_goals ((repeat' (first | refine And.intro ?_ ?_ | intro _)) <;> first | assumption | trivial | omega | (refine congrArg (fun z : Int => some (Sum.inl z)) ?_; (repeat' split) <;> omega) | ((repeat' split) <;> first | rfl | omega))
theorem ok_167 : ww_cOk1 167 sp_167 := by
  intro as w fr pre r w1 e hp
  unfold sp_167 at e
  split at e
  · cases e
    exact lk_167 hp
  · cases e

def sp_168 : List am_V → W_ → Option (Nat × Prop × Option am_V × W_)
  | [.inl x0, .inl x1, .inl x2], w => some (0, am_rg x0 ∧ am_rg x1 ∧ am_rg x2, some (.inl (if x1 ≤ x0 ∧ x0 ≤ x2 then 1 else 0)), w)
  | _, _ => none
theorem at_168 (x0 x1 x2 : Int) (w : W_) : sp_168 [.inl x0, .inl x1, .inl x2] w = some (0, am_rg x0 ∧ am_rg x1 ∧ am_rg x2, some (.inl (if x1 ≤ x0 ∧ x0 ≤ x2 then 1 else 0)), w) := rfl
set_option maxRecDepth 100000 in
set_option maxHeartbeats 4000000 in
theorem lk_168 {x0 x1 x2 : Int} {w : W_} (hp : am_rg x0 ∧ am_rg x1 ∧ am_rg x2) : ww_Ct 168 0 [.inl x0, .inl x1, .inl x2] w fun r w' => r = some (.inl (if x1 ≤ x0 ∧ x0 ≤ x2 then 1 else 0)) ∧ w' = w := by
  refine of_168 (ww_go ctL_nil 400 [] ?_)
  simp only [ww_S, ww_1, wr_0, wr_1, wr_2, wr_3, wr_4, wr_5, wr_6, wr_7, wr_8, wr_9, wr_10, wr_11, wr_12, wr_13, wr_14, wr_15, wr_16, wr_17, wr_18, wr_19, wr_20, wr_21, wr_22, wr_23, wr_24, wr_25, wr_26, wr_27, wr_28, wr_29, wr_30, wr_31, wr_32, wr_33, wr_34, wr_35, wr_36, wr_37, wr_38, wr_39, wr_40, wr_41, wr_42, wr_43, wr_44, wr_45, wr_46, wr_47, wr_48, wr_49, wr_50, wr_51, wr_52, wr_53, wr_54, wr_55, wr_56, wr_57, wr_58, wr_59, wr_60, wr_61, wr_62, wr_63, wr_64, wr_65, wr_66, wr_67, wr_68, wr_69, wr_70, wr_71, wr_72, wr_73, wr_74, wr_75, wr_76, wr_77, wr_78, wr_79, wr_80, wr_81, wr_82, wr_83, wr_84, wr_85, wr_86, wr_87, ww_v1, ww_v2, ww_v3, ww_v4, ww_g0, ww_gS, ww_t0, ww_tS, ww_s0, ww_sS, ww_s2, ww_w1, ww_w2, ww_w3, ww_b, ww_tg, ww_p1, ww_p2, ww_q0, ww_qS, ww_k1, ww_k2, ww_k3, ww_w0, ww_wS, ww_i1, ww_i2, ww_f0, ww_f1, ww_f2, ww_f4, ww_fd, ww_cl, ww_mc, ww_tk, ww_ci, ww_ak, ww_gv, ww_g1, ww_kcs, w_f1, w_f2, w_a1, w_a2, w_u_at, dm_168, List.elem_nil, List.elem_cons, List.map_nil, List.map_cons, List.sum_nil, List.sum_cons, Option.toList_none, Option.toList_some, List.nil_append, List.cons_append, true_and, and_true, implies_true, false_implies, if_true, if_false, reduceIte, reduceCtorEq, Bool.false_eq_true, Bool.and_false, Bool.false_and, Bool.and_self, Bool.and_true, Bool.true_and, Nat.reduceAdd, Nat.reduceBEq, Nat.reduceEqDiff, Nat.reduceLT, Nat.reduceLeDiff, Int.reduceAdd, Int.reduceNeg, Int.reduceToNat, Int.reduceLE, Int.reduceLT, Int.reduceSub, Int.cast_ofNat_Int, Int.reduceNatCast', Int.reduceNatCast, Nat.zero_add, Int.zero_add, and_self, false_and, and_false, or_false, false_or, true_or, or_true, not_true_eq_false, not_false_eq_true, w_i0, w_i1, w_i2, w_g_f, ctL_c, ctL_n, w_isRs, w_bds]
  (try simp only [h_ok, h_cC, h_cF, h_w, h_nf, h_code, am_rg] at hp ⊢); all_goals ((repeat' (first | refine And.intro ?_ ?_ | intro _)) <;> first | assumption | trivial | omega | (refine congrArg (fun z : Int => some (Sum.inl z)) ?_; (repeat' split) <;> omega) | ((repeat' split) <;> first | rfl | omega))
theorem ok_168 : ww_cOk1 168 sp_168 := by
  intro as w fr pre r w1 e hp
  unfold sp_168 at e
  split at e
  · cases e
    exact lk_168 hp
  · cases e

def sp_169 : List am_V → W_ → Option (Nat × Prop × Option am_V × W_)
  | [.inl x0], w => some (1, am_rg x0, some (.inl (if 0 ≤ x0 ∧ x0 ≤ 2 then 1 else 0)), w)
  | _, _ => none
theorem at_169 (x0 : Int) (w : W_) : sp_169 [.inl x0] w = some (1, am_rg x0, some (.inl (if 0 ≤ x0 ∧ x0 ≤ 2 then 1 else 0)), w) := rfl
set_option maxRecDepth 100000 in
set_option maxHeartbeats 4000000 in
theorem lk_169 {x0 : Int} {w : W_} (hp : am_rg x0) : ww_Ct 169 1 [.inl x0] w fun r w' => r = some (.inl (if 0 ≤ x0 ∧ x0 ≤ 2 then 1 else 0)) ∧ w' = w := by
  refine of_169 (ww_go (ctL_cons ok_168 ctL_nil) 400 [] ?_)
  simp only [ww_S, ww_1, wr_0, wr_1, wr_2, wr_3, wr_4, wr_5, wr_6, wr_7, wr_8, wr_9, wr_10, wr_11, wr_12, wr_13, wr_14, wr_15, wr_16, wr_17, wr_18, wr_19, wr_20, wr_21, wr_22, wr_23, wr_24, wr_25, wr_26, wr_27, wr_28, wr_29, wr_30, wr_31, wr_32, wr_33, wr_34, wr_35, wr_36, wr_37, wr_38, wr_39, wr_40, wr_41, wr_42, wr_43, wr_44, wr_45, wr_46, wr_47, wr_48, wr_49, wr_50, wr_51, wr_52, wr_53, wr_54, wr_55, wr_56, wr_57, wr_58, wr_59, wr_60, wr_61, wr_62, wr_63, wr_64, wr_65, wr_66, wr_67, wr_68, wr_69, wr_70, wr_71, wr_72, wr_73, wr_74, wr_75, wr_76, wr_77, wr_78, wr_79, wr_80, wr_81, wr_82, wr_83, wr_84, wr_85, wr_86, wr_87, ww_v1, ww_v2, ww_v3, ww_v4, ww_g0, ww_gS, ww_t0, ww_tS, ww_s0, ww_sS, ww_s2, ww_w1, ww_w2, ww_w3, ww_b, ww_tg, ww_p1, ww_p2, ww_q0, ww_qS, ww_k1, ww_k2, ww_k3, ww_w0, ww_wS, ww_i1, ww_i2, ww_f0, ww_f1, ww_f2, ww_f4, ww_fd, ww_cl, ww_mc, ww_tk, ww_ci, ww_ak, ww_gv, ww_g1, ww_kcs, w_f1, w_f2, w_a1, w_a2, w_u_at, dm_169, List.elem_nil, List.elem_cons, List.map_nil, List.map_cons, List.sum_nil, List.sum_cons, Option.toList_none, Option.toList_some, List.nil_append, List.cons_append, true_and, and_true, implies_true, false_implies, if_true, if_false, reduceIte, reduceCtorEq, Bool.false_eq_true, Bool.and_false, Bool.false_and, Bool.and_self, Bool.and_true, Bool.true_and, Nat.reduceAdd, Nat.reduceBEq, Nat.reduceEqDiff, Nat.reduceLT, Nat.reduceLeDiff, Int.reduceAdd, Int.reduceNeg, Int.reduceToNat, Int.reduceLE, Int.reduceLT, Int.reduceSub, Int.cast_ofNat_Int, Int.reduceNatCast', Int.reduceNatCast, Nat.zero_add, Int.zero_add, and_self, false_and, and_false, or_false, false_or, true_or, or_true, not_true_eq_false, not_false_eq_true, at_168, w_i0, w_i1, w_i2, w_g_f, ctL_c, ctL_n, w_isRs, w_bds]
  (try simp only [h_ok, h_cC, h_cF, h_w, h_nf, h_code, am_rg] at hp ⊢); all_goals ((repeat' (first | refine And.intro ?_ ?_ | intro _)) <;> first | assumption | trivial | omega | (refine congrArg (fun z : Int => some (Sum.inl z)) ?_; (repeat' split) <;> omega) | ((repeat' split) <;> first | rfl | omega))
theorem ok_169 : ww_cOk1 169 sp_169 := by
  intro as w fr pre r w1 e hp
  unfold sp_169 at e
  split at e
  · cases e
    exact lk_169 hp
  · cases e

def sp_177 : List am_V → W_ → Option (Nat × Prop × Option am_V × W_)
  | [.inr (.inr (.inl 73)), .inl x0], w => some (0, (0 ≤ w.1 73 13 ∧ w.1 73 13 < 3) ∧ (0 ≤ x0 ∧ x0 < 60), some (.inl (w.2 74 (60 * w.1 73 13 + x0).toNat)), w)
  | _, _ => none
theorem at_177 (x0 : Int) (w : W_) : sp_177 [.inr (.inr (.inl 73)), .inl x0] w = some (0, (0 ≤ w.1 73 13 ∧ w.1 73 13 < 3) ∧ (0 ≤ x0 ∧ x0 < 60), some (.inl (w.2 74 (60 * w.1 73 13 + x0).toNat)), w) := rfl
set_option maxRecDepth 100000 in
set_option maxHeartbeats 4000000 in
theorem lk_177 {x0 : Int} {w : W_} (hp : (0 ≤ w.1 73 13 ∧ w.1 73 13 < 3) ∧ (0 ≤ x0 ∧ x0 < 60)) : ww_Ct 177 0 [.inr (.inr (.inl 73)), .inl x0] w fun r w' => r = some (.inl (w.2 74 (60 * w.1 73 13 + x0).toNat)) ∧ w' = w := by
  refine of_177 (ww_go ctL_nil 400 [] ?_)
  simp only [ww_S, ww_1, wr_0, wr_1, wr_2, wr_3, wr_4, wr_5, wr_6, wr_7, wr_8, wr_9, wr_10, wr_11, wr_12, wr_13, wr_14, wr_15, wr_16, wr_17, wr_18, wr_19, wr_20, wr_21, wr_22, wr_23, wr_24, wr_25, wr_26, wr_27, wr_28, wr_29, wr_30, wr_31, wr_32, wr_33, wr_34, wr_35, wr_36, wr_37, wr_38, wr_39, wr_40, wr_41, wr_42, wr_43, wr_44, wr_45, wr_46, wr_47, wr_48, wr_49, wr_50, wr_51, wr_52, wr_53, wr_54, wr_55, wr_56, wr_57, wr_58, wr_59, wr_60, wr_61, wr_62, wr_63, wr_64, wr_65, wr_66, wr_67, wr_68, wr_69, wr_70, wr_71, wr_72, wr_73, wr_74, wr_75, wr_76, wr_77, wr_78, wr_79, wr_80, wr_81, wr_82, wr_83, wr_84, wr_85, wr_86, wr_87, ww_v1, ww_v2, ww_v3, ww_v4, ww_g0, ww_gS, ww_t0, ww_tS, ww_s0, ww_sS, ww_s2, ww_w1, ww_w2, ww_w3, ww_b, ww_tg, ww_p1, ww_p2, ww_q0, ww_qS, ww_k1, ww_k2, ww_k3, ww_w0, ww_wS, ww_i1, ww_i2, ww_f0, ww_f1, ww_f2, ww_f4, ww_fd, ww_cl, ww_mc, ww_tk, ww_ci, ww_ak, ww_gv, ww_g1, ww_kcs, w_f1, w_f2, w_a1, w_a2, w_u_at, dm_177, List.elem_nil, List.elem_cons, List.map_nil, List.map_cons, List.sum_nil, List.sum_cons, Option.toList_none, Option.toList_some, List.nil_append, List.cons_append, true_and, and_true, implies_true, false_implies, if_true, if_false, reduceIte, reduceCtorEq, Bool.false_eq_true, Bool.and_false, Bool.false_and, Bool.and_self, Bool.and_true, Bool.true_and, Nat.reduceAdd, Nat.reduceBEq, Nat.reduceEqDiff, Nat.reduceLT, Nat.reduceLeDiff, Int.reduceAdd, Int.reduceNeg, Int.reduceToNat, Int.reduceLE, Int.reduceLT, Int.reduceSub, Int.cast_ofNat_Int, Int.reduceNatCast', Int.reduceNatCast, Nat.zero_add, Int.zero_add, and_self, false_and, and_false, or_false, false_or, true_or, or_true, not_true_eq_false, not_false_eq_true, w_i0, w_i1, w_i2, w_g_f, ctL_c, ctL_n, w_isRs, w_bds]
  (try simp only [h_ok, h_cC, h_cF, h_w, h_nf, h_code, am_rg] at hp ⊢); all_goals ((repeat' (first | refine And.intro ?_ ?_ | intro _)) <;> first | assumption | trivial | omega | (refine congrArg (fun z : Int => some (Sum.inl z)) ?_; (repeat' split) <;> omega) | ((repeat' split) <;> first | rfl | omega))
theorem ok_177 : ww_cOk1 177 sp_177 := by
  intro as w fr pre r w1 e hp
  unfold sp_177 at e
  split at e
  · cases e
    exact lk_177 hp
  · cases e

def sp_178 : List am_V → W_ → Option (Nat × Prop × Option am_V × W_)
  | [.inl x0], w => some (1, am_rg x0, some (.inl (if x0 = 14 then 3 else if (9 ≤ x0 ∧ x0 ≤ 13) ∨ x0 = 17 ∨ x0 = 30 then 2 else if (15 ≤ x0 ∧ x0 ≤ 16) ∨ (18 ≤ x0 ∧ x0 ≤ 22) ∨ x0 = 28 ∨ x0 = 31 then 1 else 0)), w)
  | _, _ => none
theorem at_178 (x0 : Int) (w : W_) : sp_178 [.inl x0] w = some (1, am_rg x0, some (.inl (if x0 = 14 then 3 else if (9 ≤ x0 ∧ x0 ≤ 13) ∨ x0 = 17 ∨ x0 = 30 then 2 else if (15 ≤ x0 ∧ x0 ≤ 16) ∨ (18 ≤ x0 ∧ x0 ≤ 22) ∨ x0 = 28 ∨ x0 = 31 then 1 else 0)), w) := rfl
set_option maxRecDepth 100000 in
set_option maxHeartbeats 4000000 in
theorem lk_178 {x0 : Int} {w : W_} (hp : am_rg x0) : ww_Ct 178 1 [.inl x0] w fun r w' => r = some (.inl (if x0 = 14 then 3 else if (9 ≤ x0 ∧ x0 ≤ 13) ∨ x0 = 17 ∨ x0 = 30 then 2 else if (15 ≤ x0 ∧ x0 ≤ 16) ∨ (18 ≤ x0 ∧ x0 ≤ 22) ∨ x0 = 28 ∨ x0 = 31 then 1 else 0)) ∧ w' = w := by
  refine of_178 (ww_go (ctL_cons ok_168 ctL_nil) 400 [] ?_)
  simp only [ww_S, ww_1, wr_0, wr_1, wr_2, wr_3, wr_4, wr_5, wr_6, wr_7, wr_8, wr_9, wr_10, wr_11, wr_12, wr_13, wr_14, wr_15, wr_16, wr_17, wr_18, wr_19, wr_20, wr_21, wr_22, wr_23, wr_24, wr_25, wr_26, wr_27, wr_28, wr_29, wr_30, wr_31, wr_32, wr_33, wr_34, wr_35, wr_36, wr_37, wr_38, wr_39, wr_40, wr_41, wr_42, wr_43, wr_44, wr_45, wr_46, wr_47, wr_48, wr_49, wr_50, wr_51, wr_52, wr_53, wr_54, wr_55, wr_56, wr_57, wr_58, wr_59, wr_60, wr_61, wr_62, wr_63, wr_64, wr_65, wr_66, wr_67, wr_68, wr_69, wr_70, wr_71, wr_72, wr_73, wr_74, wr_75, wr_76, wr_77, wr_78, wr_79, wr_80, wr_81, wr_82, wr_83, wr_84, wr_85, wr_86, wr_87, ww_v1, ww_v2, ww_v3, ww_v4, ww_g0, ww_gS, ww_t0, ww_tS, ww_s0, ww_sS, ww_s2, ww_w1, ww_w2, ww_w3, ww_b, ww_tg, ww_p1, ww_p2, ww_q0, ww_qS, ww_k1, ww_k2, ww_k3, ww_w0, ww_wS, ww_i1, ww_i2, ww_f0, ww_f1, ww_f2, ww_f4, ww_fd, ww_cl, ww_mc, ww_tk, ww_ci, ww_ak, ww_gv, ww_g1, ww_kcs, w_f1, w_f2, w_a1, w_a2, w_u_at, dm_178, List.elem_nil, List.elem_cons, List.map_nil, List.map_cons, List.sum_nil, List.sum_cons, Option.toList_none, Option.toList_some, List.nil_append, List.cons_append, true_and, and_true, implies_true, false_implies, if_true, if_false, reduceIte, reduceCtorEq, Bool.false_eq_true, Bool.and_false, Bool.false_and, Bool.and_self, Bool.and_true, Bool.true_and, Nat.reduceAdd, Nat.reduceBEq, Nat.reduceEqDiff, Nat.reduceLT, Nat.reduceLeDiff, Int.reduceAdd, Int.reduceNeg, Int.reduceToNat, Int.reduceLE, Int.reduceLT, Int.reduceSub, Int.cast_ofNat_Int, Int.reduceNatCast', Int.reduceNatCast, Nat.zero_add, Int.zero_add, and_self, false_and, and_false, or_false, false_or, true_or, or_true, not_true_eq_false, not_false_eq_true, at_168, w_i0, w_i1, w_i2, w_g_f, ctL_c, ctL_n, w_isRs, w_bds]
  (try simp only [h_ok, h_cC, h_cF, h_w, h_nf, h_code, am_rg] at hp ⊢); all_goals ((repeat' (first | refine And.intro ?_ ?_ | intro _)) <;> first | assumption | trivial | omega | (refine congrArg (fun z : Int => some (Sum.inl z)) ?_; (repeat' split) <;> omega) | ((repeat' split) <;> first | rfl | omega))
theorem ok_178 : ww_cOk1 178 sp_178 := by
  intro as w fr pre r w1 e hp
  unfold sp_178 at e
  split at e
  · cases e
    exact lk_178 hp
  · cases e

def sp_175 : List am_V → W_ → Option (Nat × Prop × Option am_V × W_)
  | [.inr (.inr (.inl 73)), .inl x0, .inl x1, .inl x2], w => some (0, (0 ≤ w.1 73 41 ∧ w.1 73 41 < 61), none, (if w.1 73 41 < 60 then w_f (w_f (w_a w 102 (w.1 73 41).toNat (100000 * x0 + 10000 * x1 + 100 * x2 + w.1 73 62)) 73 41 (w.1 73 41 + 1)) 73 40 (w.1 73 40 + 1) else w_f w 73 40 (w.1 73 40 + 1)))
  | _, _ => none
theorem at_175 (x0 x1 x2 : Int) (w : W_) : sp_175 [.inr (.inr (.inl 73)), .inl x0, .inl x1, .inl x2] w = some (0, (0 ≤ w.1 73 41 ∧ w.1 73 41 < 61), none, (if w.1 73 41 < 60 then w_f (w_f (w_a w 102 (w.1 73 41).toNat (100000 * x0 + 10000 * x1 + 100 * x2 + w.1 73 62)) 73 41 (w.1 73 41 + 1)) 73 40 (w.1 73 40 + 1) else w_f w 73 40 (w.1 73 40 + 1))) := rfl
set_option maxRecDepth 100000 in
set_option maxHeartbeats 4000000 in
theorem lk_175 {x0 x1 x2 : Int} {w : W_} (hp : (0 ≤ w.1 73 41 ∧ w.1 73 41 < 61)) : ww_Ct 175 0 [.inr (.inr (.inl 73)), .inl x0, .inl x1, .inl x2] w fun r w' => r = none ∧ w' = (if w.1 73 41 < 60 then w_f (w_f (w_a w 102 (w.1 73 41).toNat (100000 * x0 + 10000 * x1 + 100 * x2 + w.1 73 62)) 73 41 (w.1 73 41 + 1)) 73 40 (w.1 73 40 + 1) else w_f w 73 40 (w.1 73 40 + 1)) := by
  refine of_175 (ww_go ctL_nil 400 [] ?_)
  simp only [ww_S, ww_1, wr_0, wr_1, wr_2, wr_3, wr_4, wr_5, wr_6, wr_7, wr_8, wr_9, wr_10, wr_11, wr_12, wr_13, wr_14, wr_15, wr_16, wr_17, wr_18, wr_19, wr_20, wr_21, wr_22, wr_23, wr_24, wr_25, wr_26, wr_27, wr_28, wr_29, wr_30, wr_31, wr_32, wr_33, wr_34, wr_35, wr_36, wr_37, wr_38, wr_39, wr_40, wr_41, wr_42, wr_43, wr_44, wr_45, wr_46, wr_47, wr_48, wr_49, wr_50, wr_51, wr_52, wr_53, wr_54, wr_55, wr_56, wr_57, wr_58, wr_59, wr_60, wr_61, wr_62, wr_63, wr_64, wr_65, wr_66, wr_67, wr_68, wr_69, wr_70, wr_71, wr_72, wr_73, wr_74, wr_75, wr_76, wr_77, wr_78, wr_79, wr_80, wr_81, wr_82, wr_83, wr_84, wr_85, wr_86, wr_87, ww_v1, ww_v2, ww_v3, ww_v4, ww_g0, ww_gS, ww_t0, ww_tS, ww_s0, ww_sS, ww_s2, ww_w1, ww_w2, ww_w3, ww_b, ww_tg, ww_p1, ww_p2, ww_q0, ww_qS, ww_k1, ww_k2, ww_k3, ww_w0, ww_wS, ww_i1, ww_i2, ww_f0, ww_f1, ww_f2, ww_f4, ww_fd, ww_cl, ww_mc, ww_tk, ww_ci, ww_ak, ww_gv, ww_g1, ww_kcs, w_f1, w_f2, w_a1, w_a2, w_u_at, dm_175, List.elem_nil, List.elem_cons, List.map_nil, List.map_cons, List.sum_nil, List.sum_cons, Option.toList_none, Option.toList_some, List.nil_append, List.cons_append, true_and, and_true, implies_true, false_implies, if_true, if_false, reduceIte, reduceCtorEq, Bool.false_eq_true, Bool.and_false, Bool.false_and, Bool.and_self, Bool.and_true, Bool.true_and, Nat.reduceAdd, Nat.reduceBEq, Nat.reduceEqDiff, Nat.reduceLT, Nat.reduceLeDiff, Int.reduceAdd, Int.reduceNeg, Int.reduceToNat, Int.reduceLE, Int.reduceLT, Int.reduceSub, Int.cast_ofNat_Int, Int.reduceNatCast', Int.reduceNatCast, Nat.zero_add, Int.zero_add, and_self, false_and, and_false, or_false, false_or, true_or, or_true, not_true_eq_false, not_false_eq_true, w_i0, w_i1, w_i2, w_g_f, ctL_c, ctL_n, w_isRs, w_bds]
  (try simp only [h_ok, h_cC, h_cF, h_w, h_nf, h_code, am_rg] at hp ⊢); all_goals ((repeat' (first | refine And.intro ?_ ?_ | intro _)) <;> first | assumption | trivial | omega | (refine congrArg (fun z : Int => some (Sum.inl z)) ?_; (repeat' split) <;> omega) | ((repeat' split) <;> first | rfl | omega))
theorem ok_175 : ww_cOk1 175 sp_175 := by
  intro as w fr pre r w1 e hp
  unfold sp_175 at e
  split at e
  · cases e
    exact lk_175 hp
  · cases e

def sp_176 : List am_V → W_ → Option (Nat × Prop × Option am_V × W_)
  | [.inr (.inr (.inl 73)), .inl x0, .inl x1, .inl x2], w => some (0, (0 ≤ w.1 73 5 ∧ w.1 73 5 < 1024), some (.inl (w.1 73 5)), w_f (w_a (w_a (w_a (w_a (w_a (w_a w 77 (w.1 73 5).toNat x0) 78 (w.1 73 5).toNat x1) 79 (w.1 73 5).toNat (w.1 73 13)) 80 (w.1 73 5).toNat x2) 82 (w.1 73 5).toNat (-1)) 83 (w.1 73 5).toNat (-1)) 73 5 (w.1 73 5 + 1))
  | _, _ => none
theorem at_176 (x0 x1 x2 : Int) (w : W_) : sp_176 [.inr (.inr (.inl 73)), .inl x0, .inl x1, .inl x2] w = some (0, (0 ≤ w.1 73 5 ∧ w.1 73 5 < 1024), some (.inl (w.1 73 5)), w_f (w_a (w_a (w_a (w_a (w_a (w_a w 77 (w.1 73 5).toNat x0) 78 (w.1 73 5).toNat x1) 79 (w.1 73 5).toNat (w.1 73 13)) 80 (w.1 73 5).toNat x2) 82 (w.1 73 5).toNat (-1)) 83 (w.1 73 5).toNat (-1)) 73 5 (w.1 73 5 + 1)) := rfl
set_option maxRecDepth 100000 in
set_option maxHeartbeats 4000000 in
theorem lk_176 {x0 x1 x2 : Int} {w : W_} (hp : (0 ≤ w.1 73 5 ∧ w.1 73 5 < 1024)) : ww_Ct 176 0 [.inr (.inr (.inl 73)), .inl x0, .inl x1, .inl x2] w fun r w' => r = some (.inl (w.1 73 5)) ∧ w' = w_f (w_a (w_a (w_a (w_a (w_a (w_a w 77 (w.1 73 5).toNat x0) 78 (w.1 73 5).toNat x1) 79 (w.1 73 5).toNat (w.1 73 13)) 80 (w.1 73 5).toNat x2) 82 (w.1 73 5).toNat (-1)) 83 (w.1 73 5).toNat (-1)) 73 5 (w.1 73 5 + 1) := by
  refine of_176 (ww_go ctL_nil 400 [] ?_)
  simp only [ww_S, ww_1, wr_0, wr_1, wr_2, wr_3, wr_4, wr_5, wr_6, wr_7, wr_8, wr_9, wr_10, wr_11, wr_12, wr_13, wr_14, wr_15, wr_16, wr_17, wr_18, wr_19, wr_20, wr_21, wr_22, wr_23, wr_24, wr_25, wr_26, wr_27, wr_28, wr_29, wr_30, wr_31, wr_32, wr_33, wr_34, wr_35, wr_36, wr_37, wr_38, wr_39, wr_40, wr_41, wr_42, wr_43, wr_44, wr_45, wr_46, wr_47, wr_48, wr_49, wr_50, wr_51, wr_52, wr_53, wr_54, wr_55, wr_56, wr_57, wr_58, wr_59, wr_60, wr_61, wr_62, wr_63, wr_64, wr_65, wr_66, wr_67, wr_68, wr_69, wr_70, wr_71, wr_72, wr_73, wr_74, wr_75, wr_76, wr_77, wr_78, wr_79, wr_80, wr_81, wr_82, wr_83, wr_84, wr_85, wr_86, wr_87, ww_v1, ww_v2, ww_v3, ww_v4, ww_g0, ww_gS, ww_t0, ww_tS, ww_s0, ww_sS, ww_s2, ww_w1, ww_w2, ww_w3, ww_b, ww_tg, ww_p1, ww_p2, ww_q0, ww_qS, ww_k1, ww_k2, ww_k3, ww_w0, ww_wS, ww_i1, ww_i2, ww_f0, ww_f1, ww_f2, ww_f4, ww_fd, ww_cl, ww_mc, ww_tk, ww_ci, ww_ak, ww_gv, ww_g1, ww_kcs, w_f1, w_f2, w_a1, w_a2, w_u_at, dm_176, List.elem_nil, List.elem_cons, List.map_nil, List.map_cons, List.sum_nil, List.sum_cons, Option.toList_none, Option.toList_some, List.nil_append, List.cons_append, true_and, and_true, implies_true, false_implies, if_true, if_false, reduceIte, reduceCtorEq, Bool.false_eq_true, Bool.and_false, Bool.false_and, Bool.and_self, Bool.and_true, Bool.true_and, Nat.reduceAdd, Nat.reduceBEq, Nat.reduceEqDiff, Nat.reduceLT, Nat.reduceLeDiff, Int.reduceAdd, Int.reduceNeg, Int.reduceToNat, Int.reduceLE, Int.reduceLT, Int.reduceSub, Int.cast_ofNat_Int, Int.reduceNatCast', Int.reduceNatCast, Nat.zero_add, Int.zero_add, and_self, false_and, and_false, or_false, false_or, true_or, or_true, not_true_eq_false, not_false_eq_true, w_i0, w_i1, w_i2, w_g_f, ctL_c, ctL_n, w_isRs, w_bds]
  (try simp only [h_ok, h_cC, h_cF, h_w, h_nf, h_code, am_rg] at hp ⊢); all_goals ((repeat' (first | refine And.intro ?_ ?_ | intro _)) <;> first | assumption | trivial | omega | (refine congrArg (fun z : Int => some (Sum.inl z)) ?_; (repeat' split) <;> omega) | ((repeat' split) <;> first | rfl | omega))
theorem ok_176 : ww_cOk1 176 sp_176 := by
  intro as w fr pre r w1 e hp
  unfold sp_176 at e
  split at e
  · cases e
    exact lk_176 hp
  · cases e

def sp_188 : List am_V → W_ → Option (Nat × Prop × Option am_V × W_)
  | [.inr (.inr (.inl 73)), .inl x0, .inl x1], w => some (0, (0 ≤ x0 ∧ x0 < 8192) ∧ (1 ≤ x1 ∧ x1 < 4), some (.inl (if x0 = 0 then 0 else w.2 97 (3 * x0 + x1 - 1).toNat)), w)
  | _, _ => none
theorem at_188 (x0 x1 : Int) (w : W_) : sp_188 [.inr (.inr (.inl 73)), .inl x0, .inl x1] w = some (0, (0 ≤ x0 ∧ x0 < 8192) ∧ (1 ≤ x1 ∧ x1 < 4), some (.inl (if x0 = 0 then 0 else w.2 97 (3 * x0 + x1 - 1).toNat)), w) := rfl
set_option maxRecDepth 100000 in
set_option maxHeartbeats 4000000 in
theorem lk_188 {x0 x1 : Int} {w : W_} (hp : (0 ≤ x0 ∧ x0 < 8192) ∧ (1 ≤ x1 ∧ x1 < 4)) : ww_Ct 188 0 [.inr (.inr (.inl 73)), .inl x0, .inl x1] w fun r w' => r = some (.inl (if x0 = 0 then 0 else w.2 97 (3 * x0 + x1 - 1).toNat)) ∧ w' = w := by
  refine of_188 (ww_go ctL_nil 400 [] ?_)
  simp only [ww_S, ww_1, wr_0, wr_1, wr_2, wr_3, wr_4, wr_5, wr_6, wr_7, wr_8, wr_9, wr_10, wr_11, wr_12, wr_13, wr_14, wr_15, wr_16, wr_17, wr_18, wr_19, wr_20, wr_21, wr_22, wr_23, wr_24, wr_25, wr_26, wr_27, wr_28, wr_29, wr_30, wr_31, wr_32, wr_33, wr_34, wr_35, wr_36, wr_37, wr_38, wr_39, wr_40, wr_41, wr_42, wr_43, wr_44, wr_45, wr_46, wr_47, wr_48, wr_49, wr_50, wr_51, wr_52, wr_53, wr_54, wr_55, wr_56, wr_57, wr_58, wr_59, wr_60, wr_61, wr_62, wr_63, wr_64, wr_65, wr_66, wr_67, wr_68, wr_69, wr_70, wr_71, wr_72, wr_73, wr_74, wr_75, wr_76, wr_77, wr_78, wr_79, wr_80, wr_81, wr_82, wr_83, wr_84, wr_85, wr_86, wr_87, ww_v1, ww_v2, ww_v3, ww_v4, ww_g0, ww_gS, ww_t0, ww_tS, ww_s0, ww_sS, ww_s2, ww_w1, ww_w2, ww_w3, ww_b, ww_tg, ww_p1, ww_p2, ww_q0, ww_qS, ww_k1, ww_k2, ww_k3, ww_w0, ww_wS, ww_i1, ww_i2, ww_f0, ww_f1, ww_f2, ww_f4, ww_fd, ww_cl, ww_mc, ww_tk, ww_ci, ww_ak, ww_gv, ww_g1, ww_kcs, w_f1, w_f2, w_a1, w_a2, w_u_at, dm_188, List.elem_nil, List.elem_cons, List.map_nil, List.map_cons, List.sum_nil, List.sum_cons, Option.toList_none, Option.toList_some, List.nil_append, List.cons_append, true_and, and_true, implies_true, false_implies, if_true, if_false, reduceIte, reduceCtorEq, Bool.false_eq_true, Bool.and_false, Bool.false_and, Bool.and_self, Bool.and_true, Bool.true_and, Nat.reduceAdd, Nat.reduceBEq, Nat.reduceEqDiff, Nat.reduceLT, Nat.reduceLeDiff, Int.reduceAdd, Int.reduceNeg, Int.reduceToNat, Int.reduceLE, Int.reduceLT, Int.reduceSub, Int.cast_ofNat_Int, Int.reduceNatCast', Int.reduceNatCast, Nat.zero_add, Int.zero_add, and_self, false_and, and_false, or_false, false_or, true_or, or_true, not_true_eq_false, not_false_eq_true, w_i0, w_i1, w_i2, w_g_f, ctL_c, ctL_n, w_isRs, w_bds]
  (try simp only [h_ok, h_cC, h_cF, h_w, h_nf, h_code, am_rg] at hp ⊢); all_goals ((repeat' (first | refine And.intro ?_ ?_ | intro _)) <;> first | assumption | trivial | omega | (refine congrArg (fun z : Int => some (Sum.inl z)) ?_; (repeat' split) <;> omega) | ((repeat' split) <;> first | rfl | omega))
theorem ok_188 : ww_cOk1 188 sp_188 := by
  intro as w fr pre r w1 e hp
  unfold sp_188 at e
  split at e
  · cases e
    exact lk_188 hp
  · cases e

def sp_196 : List am_V → W_ → Option (Nat × Prop × Option am_V × W_)
  | [.inr (.inr (.inl 73)), .inl x0, .inl x1], w => some (1, (0 ≤ x1 ∧ x1 < 1024) ∧ (0 ≤ w.1 73 41 ∧ w.1 73 41 < 61), some (.inl 5), (if w.1 73 41 < 60 then w_f (w_f (w_a w 102 (w.1 73 41).toNat (100000 * x0 + 10000 * w.2 79 x1.toNat + 100 * w.2 80 x1.toNat + w.1 73 62)) 73 41 (w.1 73 41 + 1)) 73 40 (w.1 73 40 + 1) else w_f w 73 40 (w.1 73 40 + 1)))
  | _, _ => none
theorem at_196 (x0 x1 : Int) (w : W_) : sp_196 [.inr (.inr (.inl 73)), .inl x0, .inl x1] w = some (1, (0 ≤ x1 ∧ x1 < 1024) ∧ (0 ≤ w.1 73 41 ∧ w.1 73 41 < 61), some (.inl 5), (if w.1 73 41 < 60 then w_f (w_f (w_a w 102 (w.1 73 41).toNat (100000 * x0 + 10000 * w.2 79 x1.toNat + 100 * w.2 80 x1.toNat + w.1 73 62)) 73 41 (w.1 73 41 + 1)) 73 40 (w.1 73 40 + 1) else w_f w 73 40 (w.1 73 40 + 1))) := rfl
set_option maxRecDepth 100000 in
set_option maxHeartbeats 4000000 in
theorem lk_196 {x0 x1 : Int} {w : W_} (hp : (0 ≤ x1 ∧ x1 < 1024) ∧ (0 ≤ w.1 73 41 ∧ w.1 73 41 < 61)) : ww_Ct 196 1 [.inr (.inr (.inl 73)), .inl x0, .inl x1] w fun r w' => r = some (.inl 5) ∧ w' = (if w.1 73 41 < 60 then w_f (w_f (w_a w 102 (w.1 73 41).toNat (100000 * x0 + 10000 * w.2 79 x1.toNat + 100 * w.2 80 x1.toNat + w.1 73 62)) 73 41 (w.1 73 41 + 1)) 73 40 (w.1 73 40 + 1) else w_f w 73 40 (w.1 73 40 + 1)) := by
  refine of_196 (ww_go (ctL_cons ok_175 ctL_nil) 400 [] ?_)
  simp only [ww_S, ww_1, wr_0, wr_1, wr_2, wr_3, wr_4, wr_5, wr_6, wr_7, wr_8, wr_9, wr_10, wr_11, wr_12, wr_13, wr_14, wr_15, wr_16, wr_17, wr_18, wr_19, wr_20, wr_21, wr_22, wr_23, wr_24, wr_25, wr_26, wr_27, wr_28, wr_29, wr_30, wr_31, wr_32, wr_33, wr_34, wr_35, wr_36, wr_37, wr_38, wr_39, wr_40, wr_41, wr_42, wr_43, wr_44, wr_45, wr_46, wr_47, wr_48, wr_49, wr_50, wr_51, wr_52, wr_53, wr_54, wr_55, wr_56, wr_57, wr_58, wr_59, wr_60, wr_61, wr_62, wr_63, wr_64, wr_65, wr_66, wr_67, wr_68, wr_69, wr_70, wr_71, wr_72, wr_73, wr_74, wr_75, wr_76, wr_77, wr_78, wr_79, wr_80, wr_81, wr_82, wr_83, wr_84, wr_85, wr_86, wr_87, ww_v1, ww_v2, ww_v3, ww_v4, ww_g0, ww_gS, ww_t0, ww_tS, ww_s0, ww_sS, ww_s2, ww_w1, ww_w2, ww_w3, ww_b, ww_tg, ww_p1, ww_p2, ww_q0, ww_qS, ww_k1, ww_k2, ww_k3, ww_w0, ww_wS, ww_i1, ww_i2, ww_f0, ww_f1, ww_f2, ww_f4, ww_fd, ww_cl, ww_mc, ww_tk, ww_ci, ww_ak, ww_gv, ww_g1, ww_kcs, w_f1, w_f2, w_a1, w_a2, w_u_at, dm_196, List.elem_nil, List.elem_cons, List.map_nil, List.map_cons, List.sum_nil, List.sum_cons, Option.toList_none, Option.toList_some, List.nil_append, List.cons_append, true_and, and_true, implies_true, false_implies, if_true, if_false, reduceIte, reduceCtorEq, Bool.false_eq_true, Bool.and_false, Bool.false_and, Bool.and_self, Bool.and_true, Bool.true_and, Nat.reduceAdd, Nat.reduceBEq, Nat.reduceEqDiff, Nat.reduceLT, Nat.reduceLeDiff, Int.reduceAdd, Int.reduceNeg, Int.reduceToNat, Int.reduceLE, Int.reduceLT, Int.reduceSub, Int.cast_ofNat_Int, Int.reduceNatCast', Int.reduceNatCast, Nat.zero_add, Int.zero_add, and_self, false_and, and_false, or_false, false_or, true_or, or_true, not_true_eq_false, not_false_eq_true, at_175, w_i0, w_i1, w_i2, w_g_f, ctL_c, ctL_n, w_isRs, w_bds]
  (try simp only [h_ok, h_cC, h_cF, h_w, h_nf, h_code, am_rg] at hp ⊢); all_goals ((repeat' (first | refine And.intro ?_ ?_ | intro _)) <;> first | assumption | trivial | omega | (refine congrArg (fun z : Int => some (Sum.inl z)) ?_; (repeat' split) <;> omega) | ((repeat' split) <;> first | rfl | omega))
theorem ok_196 : ww_cOk1 196 sp_196 := by
  intro as w fr pre r w1 e hp
  unfold sp_196 at e
  split at e
  · cases e
    exact lk_196 hp
  · cases e

def sp_197 : List am_V → W_ → Option (Nat × Prop × Option am_V × W_)
  | [.inr (.inr (.inl 73)), .inl x0, .inl x1], w => some (0, (0 ≤ x0 ∧ x0 < 1024) ∧ (0 ≤ x1 ∧ x1 < 3), some (.inl (w.2 81 (3 * x0 + x1).toNat)), w)
  | _, _ => none
theorem at_197 (x0 x1 : Int) (w : W_) : sp_197 [.inr (.inr (.inl 73)), .inl x0, .inl x1] w = some (0, (0 ≤ x0 ∧ x0 < 1024) ∧ (0 ≤ x1 ∧ x1 < 3), some (.inl (w.2 81 (3 * x0 + x1).toNat)), w) := rfl
set_option maxRecDepth 100000 in
set_option maxHeartbeats 4000000 in
theorem lk_197 {x0 x1 : Int} {w : W_} (hp : (0 ≤ x0 ∧ x0 < 1024) ∧ (0 ≤ x1 ∧ x1 < 3)) : ww_Ct 197 0 [.inr (.inr (.inl 73)), .inl x0, .inl x1] w fun r w' => r = some (.inl (w.2 81 (3 * x0 + x1).toNat)) ∧ w' = w := by
  refine of_197 (ww_go ctL_nil 400 [] ?_)
  simp only [ww_S, ww_1, wr_0, wr_1, wr_2, wr_3, wr_4, wr_5, wr_6, wr_7, wr_8, wr_9, wr_10, wr_11, wr_12, wr_13, wr_14, wr_15, wr_16, wr_17, wr_18, wr_19, wr_20, wr_21, wr_22, wr_23, wr_24, wr_25, wr_26, wr_27, wr_28, wr_29, wr_30, wr_31, wr_32, wr_33, wr_34, wr_35, wr_36, wr_37, wr_38, wr_39, wr_40, wr_41, wr_42, wr_43, wr_44, wr_45, wr_46, wr_47, wr_48, wr_49, wr_50, wr_51, wr_52, wr_53, wr_54, wr_55, wr_56, wr_57, wr_58, wr_59, wr_60, wr_61, wr_62, wr_63, wr_64, wr_65, wr_66, wr_67, wr_68, wr_69, wr_70, wr_71, wr_72, wr_73, wr_74, wr_75, wr_76, wr_77, wr_78, wr_79, wr_80, wr_81, wr_82, wr_83, wr_84, wr_85, wr_86, wr_87, ww_v1, ww_v2, ww_v3, ww_v4, ww_g0, ww_gS, ww_t0, ww_tS, ww_s0, ww_sS, ww_s2, ww_w1, ww_w2, ww_w3, ww_b, ww_tg, ww_p1, ww_p2, ww_q0, ww_qS, ww_k1, ww_k2, ww_k3, ww_w0, ww_wS, ww_i1, ww_i2, ww_f0, ww_f1, ww_f2, ww_f4, ww_fd, ww_cl, ww_mc, ww_tk, ww_ci, ww_ak, ww_gv, ww_g1, ww_kcs, w_f1, w_f2, w_a1, w_a2, w_u_at, dm_197, List.elem_nil, List.elem_cons, List.map_nil, List.map_cons, List.sum_nil, List.sum_cons, Option.toList_none, Option.toList_some, List.nil_append, List.cons_append, true_and, and_true, implies_true, false_implies, if_true, if_false, reduceIte, reduceCtorEq, Bool.false_eq_true, Bool.and_false, Bool.false_and, Bool.and_self, Bool.and_true, Bool.true_and, Nat.reduceAdd, Nat.reduceBEq, Nat.reduceEqDiff, Nat.reduceLT, Nat.reduceLeDiff, Int.reduceAdd, Int.reduceNeg, Int.reduceToNat, Int.reduceLE, Int.reduceLT, Int.reduceSub, Int.cast_ofNat_Int, Int.reduceNatCast', Int.reduceNatCast, Nat.zero_add, Int.zero_add, and_self, false_and, and_false, or_false, false_or, true_or, or_true, not_true_eq_false, not_false_eq_true, w_i0, w_i1, w_i2, w_g_f, ctL_c, ctL_n, w_isRs, w_bds]
  (try simp only [h_ok, h_cC, h_cF, h_w, h_nf, h_code, am_rg] at hp ⊢); all_goals ((repeat' (first | refine And.intro ?_ ?_ | intro _)) <;> first | assumption | trivial | omega | (refine congrArg (fun z : Int => some (Sum.inl z)) ?_; (repeat' split) <;> omega) | ((repeat' split) <;> first | rfl | omega))
theorem ok_197 : ww_cOk1 197 sp_197 := by
  intro as w fr pre r w1 e hp
  unfold sp_197 at e
  split at e
  · cases e
    exact lk_197 hp
  · cases e

def sp_216 : List am_V → W_ → Option (Nat × Prop × Option am_V × W_)
  | [.inr (.inr (.inl 73)), .inl x0], w => some (0, (0 ≤ x0 ∧ x0 < 45), some (.inl (if x0 < 42 then w.2 104 x0.toNat else w.2 103 (x0 - 42).toNat)), w)
  | _, _ => none
theorem at_216 (x0 : Int) (w : W_) : sp_216 [.inr (.inr (.inl 73)), .inl x0] w = some (0, (0 ≤ x0 ∧ x0 < 45), some (.inl (if x0 < 42 then w.2 104 x0.toNat else w.2 103 (x0 - 42).toNat)), w) := rfl
set_option maxRecDepth 100000 in
set_option maxHeartbeats 4000000 in
theorem lk_216 {x0 : Int} {w : W_} (hp : (0 ≤ x0 ∧ x0 < 45)) : ww_Ct 216 0 [.inr (.inr (.inl 73)), .inl x0] w fun r w' => r = some (.inl (if x0 < 42 then w.2 104 x0.toNat else w.2 103 (x0 - 42).toNat)) ∧ w' = w := by
  refine of_216 (ww_go ctL_nil 400 [] ?_)
  simp only [ww_S, ww_1, wr_0, wr_1, wr_2, wr_3, wr_4, wr_5, wr_6, wr_7, wr_8, wr_9, wr_10, wr_11, wr_12, wr_13, wr_14, wr_15, wr_16, wr_17, wr_18, wr_19, wr_20, wr_21, wr_22, wr_23, wr_24, wr_25, wr_26, wr_27, wr_28, wr_29, wr_30, wr_31, wr_32, wr_33, wr_34, wr_35, wr_36, wr_37, wr_38, wr_39, wr_40, wr_41, wr_42, wr_43, wr_44, wr_45, wr_46, wr_47, wr_48, wr_49, wr_50, wr_51, wr_52, wr_53, wr_54, wr_55, wr_56, wr_57, wr_58, wr_59, wr_60, wr_61, wr_62, wr_63, wr_64, wr_65, wr_66, wr_67, wr_68, wr_69, wr_70, wr_71, wr_72, wr_73, wr_74, wr_75, wr_76, wr_77, wr_78, wr_79, wr_80, wr_81, wr_82, wr_83, wr_84, wr_85, wr_86, wr_87, ww_v1, ww_v2, ww_v3, ww_v4, ww_g0, ww_gS, ww_t0, ww_tS, ww_s0, ww_sS, ww_s2, ww_w1, ww_w2, ww_w3, ww_b, ww_tg, ww_p1, ww_p2, ww_q0, ww_qS, ww_k1, ww_k2, ww_k3, ww_w0, ww_wS, ww_i1, ww_i2, ww_f0, ww_f1, ww_f2, ww_f4, ww_fd, ww_cl, ww_mc, ww_tk, ww_ci, ww_ak, ww_gv, ww_g1, ww_kcs, w_f1, w_f2, w_a1, w_a2, w_u_at, dm_216, List.elem_nil, List.elem_cons, List.map_nil, List.map_cons, List.sum_nil, List.sum_cons, Option.toList_none, Option.toList_some, List.nil_append, List.cons_append, true_and, and_true, implies_true, false_implies, if_true, if_false, reduceIte, reduceCtorEq, Bool.false_eq_true, Bool.and_false, Bool.false_and, Bool.and_self, Bool.and_true, Bool.true_and, Nat.reduceAdd, Nat.reduceBEq, Nat.reduceEqDiff, Nat.reduceLT, Nat.reduceLeDiff, Int.reduceAdd, Int.reduceNeg, Int.reduceToNat, Int.reduceLE, Int.reduceLT, Int.reduceSub, Int.cast_ofNat_Int, Int.reduceNatCast', Int.reduceNatCast, Nat.zero_add, Int.zero_add, and_self, false_and, and_false, or_false, false_or, true_or, or_true, not_true_eq_false, not_false_eq_true, w_i0, w_i1, w_i2, w_g_f, ctL_c, ctL_n, w_isRs, w_bds]
  (try simp only [h_ok, h_cC, h_cF, h_w, h_nf, h_code, am_rg] at hp ⊢); all_goals ((repeat' (first | refine And.intro ?_ ?_ | intro _)) <;> first | assumption | trivial | omega | (refine congrArg (fun z : Int => some (Sum.inl z)) ?_; (repeat' split) <;> omega) | ((repeat' split) <;> first | rfl | omega))
theorem ok_216 : ww_cOk1 216 sp_216 := by
  intro as w fr pre r w1 e hp
  unfold sp_216 at e
  split at e
  · cases e
    exact lk_216 hp
  · cases e

def sp_220 : List am_V → W_ → Option (Nat × Prop × Option am_V × W_)
  | [.inr (.inr (.inl 73)), .inl x0, .inl x1, .inl x2, .inl x3], w => some (0, (0 ≤ w.1 73 52 ∧ w.1 73 52 < 16384), none, w_f (w_a (w_a (w_a (w_a w 107 (w.1 73 52).toNat x0) 108 (w.1 73 52).toNat x1) 109 (w.1 73 52).toNat x2) 110 (w.1 73 52).toNat x3) 73 52 (w.1 73 52 + 1))
  | _, _ => none
theorem at_220 (x0 x1 x2 x3 : Int) (w : W_) : sp_220 [.inr (.inr (.inl 73)), .inl x0, .inl x1, .inl x2, .inl x3] w = some (0, (0 ≤ w.1 73 52 ∧ w.1 73 52 < 16384), none, w_f (w_a (w_a (w_a (w_a w 107 (w.1 73 52).toNat x0) 108 (w.1 73 52).toNat x1) 109 (w.1 73 52).toNat x2) 110 (w.1 73 52).toNat x3) 73 52 (w.1 73 52 + 1)) := rfl
set_option maxRecDepth 100000 in
set_option maxHeartbeats 4000000 in
theorem lk_220 {x0 x1 x2 x3 : Int} {w : W_} (hp : (0 ≤ w.1 73 52 ∧ w.1 73 52 < 16384)) : ww_Ct 220 0 [.inr (.inr (.inl 73)), .inl x0, .inl x1, .inl x2, .inl x3] w fun r w' => r = none ∧ w' = w_f (w_a (w_a (w_a (w_a w 107 (w.1 73 52).toNat x0) 108 (w.1 73 52).toNat x1) 109 (w.1 73 52).toNat x2) 110 (w.1 73 52).toNat x3) 73 52 (w.1 73 52 + 1) := by
  refine of_220 (ww_go ctL_nil 400 [] ?_)
  simp only [ww_S, ww_1, wr_0, wr_1, wr_2, wr_3, wr_4, wr_5, wr_6, wr_7, wr_8, wr_9, wr_10, wr_11, wr_12, wr_13, wr_14, wr_15, wr_16, wr_17, wr_18, wr_19, wr_20, wr_21, wr_22, wr_23, wr_24, wr_25, wr_26, wr_27, wr_28, wr_29, wr_30, wr_31, wr_32, wr_33, wr_34, wr_35, wr_36, wr_37, wr_38, wr_39, wr_40, wr_41, wr_42, wr_43, wr_44, wr_45, wr_46, wr_47, wr_48, wr_49, wr_50, wr_51, wr_52, wr_53, wr_54, wr_55, wr_56, wr_57, wr_58, wr_59, wr_60, wr_61, wr_62, wr_63, wr_64, wr_65, wr_66, wr_67, wr_68, wr_69, wr_70, wr_71, wr_72, wr_73, wr_74, wr_75, wr_76, wr_77, wr_78, wr_79, wr_80, wr_81, wr_82, wr_83, wr_84, wr_85, wr_86, wr_87, ww_v1, ww_v2, ww_v3, ww_v4, ww_g0, ww_gS, ww_t0, ww_tS, ww_s0, ww_sS, ww_s2, ww_w1, ww_w2, ww_w3, ww_b, ww_tg, ww_p1, ww_p2, ww_q0, ww_qS, ww_k1, ww_k2, ww_k3, ww_w0, ww_wS, ww_i1, ww_i2, ww_f0, ww_f1, ww_f2, ww_f4, ww_fd, ww_cl, ww_mc, ww_tk, ww_ci, ww_ak, ww_gv, ww_g1, ww_kcs, w_f1, w_f2, w_a1, w_a2, w_u_at, dm_220, List.elem_nil, List.elem_cons, List.map_nil, List.map_cons, List.sum_nil, List.sum_cons, Option.toList_none, Option.toList_some, List.nil_append, List.cons_append, true_and, and_true, implies_true, false_implies, if_true, if_false, reduceIte, reduceCtorEq, Bool.false_eq_true, Bool.and_false, Bool.false_and, Bool.and_self, Bool.and_true, Bool.true_and, Nat.reduceAdd, Nat.reduceBEq, Nat.reduceEqDiff, Nat.reduceLT, Nat.reduceLeDiff, Int.reduceAdd, Int.reduceNeg, Int.reduceToNat, Int.reduceLE, Int.reduceLT, Int.reduceSub, Int.cast_ofNat_Int, Int.reduceNatCast', Int.reduceNatCast, Nat.zero_add, Int.zero_add, and_self, false_and, and_false, or_false, false_or, true_or, or_true, not_true_eq_false, not_false_eq_true, w_i0, w_i1, w_i2, w_g_f, ctL_c, ctL_n, w_isRs, w_bds]
  (try simp only [h_ok, h_cC, h_cF, h_w, h_nf, h_code, am_rg] at hp ⊢); all_goals ((repeat' (first | refine And.intro ?_ ?_ | intro _)) <;> first | assumption | trivial | omega | (refine congrArg (fun z : Int => some (Sum.inl z)) ?_; (repeat' split) <;> omega) | ((repeat' split) <;> first | rfl | omega))
theorem ok_220 : ww_cOk1 220 sp_220 := by
  intro as w fr pre r w1 e hp
  unfold sp_220 at e
  split at e
  · cases e
    exact lk_220 hp
  · cases e

def sp_221 : List am_V → W_ → Option (Nat × Prop × Option am_V × W_)
  | [.inr (.inr (.inl 73))], w => some (0, (0 ≤ w.1 73 66 ∧ w.1 73 66 < 100) ∧ (1 ≤ w.1 73 4 ∧ w.1 73 4 < 100), none, (if w.1 73 66 + 1 = w.1 73 4 then w_f (w_f (w_f (w_f w 73 66 (w.1 73 66 + 1)) 73 65 (w.1 73 65 + 1)) 73 66 0) 73 67 (w.1 73 58) else w_f (w_f (w_f (w_f w 73 66 (w.1 73 66 + 1)) 73 65 (w.1 73 65 + 0)) 73 66 (w.1 73 66 + 1)) 73 67 (w.1 73 58)))
  | _, _ => none
theorem at_221 (w : W_) : sp_221 [.inr (.inr (.inl 73))] w = some (0, (0 ≤ w.1 73 66 ∧ w.1 73 66 < 100) ∧ (1 ≤ w.1 73 4 ∧ w.1 73 4 < 100), none, (if w.1 73 66 + 1 = w.1 73 4 then w_f (w_f (w_f (w_f w 73 66 (w.1 73 66 + 1)) 73 65 (w.1 73 65 + 1)) 73 66 0) 73 67 (w.1 73 58) else w_f (w_f (w_f (w_f w 73 66 (w.1 73 66 + 1)) 73 65 (w.1 73 65 + 0)) 73 66 (w.1 73 66 + 1)) 73 67 (w.1 73 58))) := rfl
set_option maxRecDepth 100000 in
set_option maxHeartbeats 4000000 in
theorem lk_221 {w : W_} (hp : (0 ≤ w.1 73 66 ∧ w.1 73 66 < 100) ∧ (1 ≤ w.1 73 4 ∧ w.1 73 4 < 100)) : ww_Ct 221 0 [.inr (.inr (.inl 73))] w fun r w' => r = none ∧ w' = (if w.1 73 66 + 1 = w.1 73 4 then w_f (w_f (w_f (w_f w 73 66 (w.1 73 66 + 1)) 73 65 (w.1 73 65 + 1)) 73 66 0) 73 67 (w.1 73 58) else w_f (w_f (w_f (w_f w 73 66 (w.1 73 66 + 1)) 73 65 (w.1 73 65 + 0)) 73 66 (w.1 73 66 + 1)) 73 67 (w.1 73 58)) := by
  refine of_221 (ww_go ctL_nil 400 [] ?_)
  simp only [ww_S, ww_1, wr_0, wr_1, wr_2, wr_3, wr_4, wr_5, wr_6, wr_7, wr_8, wr_9, wr_10, wr_11, wr_12, wr_13, wr_14, wr_15, wr_16, wr_17, wr_18, wr_19, wr_20, wr_21, wr_22, wr_23, wr_24, wr_25, wr_26, wr_27, wr_28, wr_29, wr_30, wr_31, wr_32, wr_33, wr_34, wr_35, wr_36, wr_37, wr_38, wr_39, wr_40, wr_41, wr_42, wr_43, wr_44, wr_45, wr_46, wr_47, wr_48, wr_49, wr_50, wr_51, wr_52, wr_53, wr_54, wr_55, wr_56, wr_57, wr_58, wr_59, wr_60, wr_61, wr_62, wr_63, wr_64, wr_65, wr_66, wr_67, wr_68, wr_69, wr_70, wr_71, wr_72, wr_73, wr_74, wr_75, wr_76, wr_77, wr_78, wr_79, wr_80, wr_81, wr_82, wr_83, wr_84, wr_85, wr_86, wr_87, ww_v1, ww_v2, ww_v3, ww_v4, ww_g0, ww_gS, ww_t0, ww_tS, ww_s0, ww_sS, ww_s2, ww_w1, ww_w2, ww_w3, ww_b, ww_tg, ww_p1, ww_p2, ww_q0, ww_qS, ww_k1, ww_k2, ww_k3, ww_w0, ww_wS, ww_i1, ww_i2, ww_f0, ww_f1, ww_f2, ww_f4, ww_fd, ww_cl, ww_mc, ww_tk, ww_ci, ww_ak, ww_gv, ww_g1, ww_kcs, w_f1, w_f2, w_a1, w_a2, w_u_at, dm_221, List.elem_nil, List.elem_cons, List.map_nil, List.map_cons, List.sum_nil, List.sum_cons, Option.toList_none, Option.toList_some, List.nil_append, List.cons_append, true_and, and_true, implies_true, false_implies, if_true, if_false, reduceIte, reduceCtorEq, Bool.false_eq_true, Bool.and_false, Bool.false_and, Bool.and_self, Bool.and_true, Bool.true_and, Nat.reduceAdd, Nat.reduceBEq, Nat.reduceEqDiff, Nat.reduceLT, Nat.reduceLeDiff, Int.reduceAdd, Int.reduceNeg, Int.reduceToNat, Int.reduceLE, Int.reduceLT, Int.reduceSub, Int.cast_ofNat_Int, Int.reduceNatCast', Int.reduceNatCast, Nat.zero_add, Int.zero_add, and_self, false_and, and_false, or_false, false_or, true_or, or_true, not_true_eq_false, not_false_eq_true, w_i0, w_i1, w_i2, w_g_f, ctL_c, ctL_n, w_isRs, w_bds]
  (try simp only [h_ok, h_cC, h_cF, h_w, h_nf, h_code, am_rg] at hp ⊢); all_goals ((repeat' (first | refine And.intro ?_ ?_ | intro _)) <;> first | assumption | trivial | omega | (refine congrArg (fun z : Int => some (Sum.inl z)) ?_; (repeat' split) <;> omega) | ((repeat' split) <;> first | rfl | omega))
theorem ok_221 : ww_cOk1 221 sp_221 := by
  intro as w fr pre r w1 e hp
  unfold sp_221 at e
  split at e
  · cases e
    exact lk_221 hp
  · cases e

def sp_224 : List am_V → W_ → Option (Nat × Prop × Option am_V × W_)
  | [.inr (.inr (.inl 73)), .inl x0], w => some (0, (0 ≤ x0 ∧ x0 < 8192) ∧ (0 ≤ w.2 95 x0.toNat ∧ w.2 95 x0.toNat < 1024), some (.inl (100 * w.2 79 (w.2 95 x0.toNat).toNat + w.2 80 (w.2 95 x0.toNat).toNat)), w)
  | _, _ => none
theorem at_224 (x0 : Int) (w : W_) : sp_224 [.inr (.inr (.inl 73)), .inl x0] w = some (0, (0 ≤ x0 ∧ x0 < 8192) ∧ (0 ≤ w.2 95 x0.toNat ∧ w.2 95 x0.toNat < 1024), some (.inl (100 * w.2 79 (w.2 95 x0.toNat).toNat + w.2 80 (w.2 95 x0.toNat).toNat)), w) := rfl
set_option maxRecDepth 100000 in
set_option maxHeartbeats 4000000 in
theorem lk_224 {x0 : Int} {w : W_} (hp : (0 ≤ x0 ∧ x0 < 8192) ∧ (0 ≤ w.2 95 x0.toNat ∧ w.2 95 x0.toNat < 1024)) : ww_Ct 224 0 [.inr (.inr (.inl 73)), .inl x0] w fun r w' => r = some (.inl (100 * w.2 79 (w.2 95 x0.toNat).toNat + w.2 80 (w.2 95 x0.toNat).toNat)) ∧ w' = w := by
  refine of_224 (ww_go ctL_nil 400 [] ?_)
  simp only [ww_S, ww_1, wr_0, wr_1, wr_2, wr_3, wr_4, wr_5, wr_6, wr_7, wr_8, wr_9, wr_10, wr_11, wr_12, wr_13, wr_14, wr_15, wr_16, wr_17, wr_18, wr_19, wr_20, wr_21, wr_22, wr_23, wr_24, wr_25, wr_26, wr_27, wr_28, wr_29, wr_30, wr_31, wr_32, wr_33, wr_34, wr_35, wr_36, wr_37, wr_38, wr_39, wr_40, wr_41, wr_42, wr_43, wr_44, wr_45, wr_46, wr_47, wr_48, wr_49, wr_50, wr_51, wr_52, wr_53, wr_54, wr_55, wr_56, wr_57, wr_58, wr_59, wr_60, wr_61, wr_62, wr_63, wr_64, wr_65, wr_66, wr_67, wr_68, wr_69, wr_70, wr_71, wr_72, wr_73, wr_74, wr_75, wr_76, wr_77, wr_78, wr_79, wr_80, wr_81, wr_82, wr_83, wr_84, wr_85, wr_86, wr_87, ww_v1, ww_v2, ww_v3, ww_v4, ww_g0, ww_gS, ww_t0, ww_tS, ww_s0, ww_sS, ww_s2, ww_w1, ww_w2, ww_w3, ww_b, ww_tg, ww_p1, ww_p2, ww_q0, ww_qS, ww_k1, ww_k2, ww_k3, ww_w0, ww_wS, ww_i1, ww_i2, ww_f0, ww_f1, ww_f2, ww_f4, ww_fd, ww_cl, ww_mc, ww_tk, ww_ci, ww_ak, ww_gv, ww_g1, ww_kcs, w_f1, w_f2, w_a1, w_a2, w_u_at, dm_224, List.elem_nil, List.elem_cons, List.map_nil, List.map_cons, List.sum_nil, List.sum_cons, Option.toList_none, Option.toList_some, List.nil_append, List.cons_append, true_and, and_true, implies_true, false_implies, if_true, if_false, reduceIte, reduceCtorEq, Bool.false_eq_true, Bool.and_false, Bool.false_and, Bool.and_self, Bool.and_true, Bool.true_and, Nat.reduceAdd, Nat.reduceBEq, Nat.reduceEqDiff, Nat.reduceLT, Nat.reduceLeDiff, Int.reduceAdd, Int.reduceNeg, Int.reduceToNat, Int.reduceLE, Int.reduceLT, Int.reduceSub, Int.cast_ofNat_Int, Int.reduceNatCast', Int.reduceNatCast, Nat.zero_add, Int.zero_add, and_self, false_and, and_false, or_false, false_or, true_or, or_true, not_true_eq_false, not_false_eq_true, w_i0, w_i1, w_i2, w_g_f, ctL_c, ctL_n, w_isRs, w_bds]
  (try simp only [h_ok, h_cC, h_cF, h_w, h_nf, h_code, am_rg] at hp ⊢); all_goals ((repeat' (first | refine And.intro ?_ ?_ | intro _)) <;> first | assumption | trivial | omega | (refine congrArg (fun z : Int => some (Sum.inl z)) ?_; (repeat' split) <;> omega) | ((repeat' split) <;> first | rfl | omega))
theorem ok_224 : ww_cOk1 224 sp_224 := by
  intro as w fr pre r w1 e hp
  unfold sp_224 at e
  split at e
  · cases e
    exact lk_224 hp
  · cases e

def sp_240 : List am_V → W_ → Option (Nat × Prop × Option am_V × W_)
  | [.inr (.inr (.inl 73))], w => some (0, True, some (.inl (w.1 73 80)), w_f w 73 93 0)
  | _, _ => none
theorem at_240 (w : W_) : sp_240 [.inr (.inr (.inl 73))] w = some (0, True, some (.inl (w.1 73 80)), w_f w 73 93 0) := rfl
set_option maxRecDepth 100000 in
set_option maxHeartbeats 4000000 in
theorem lk_240 {w : W_} (hp : True) : ww_Ct 240 0 [.inr (.inr (.inl 73))] w fun r w' => r = some (.inl (w.1 73 80)) ∧ w' = w_f w 73 93 0 := by
  refine of_240 (ww_go ctL_nil 400 [] ?_)
  simp only [ww_S, ww_1, wr_0, wr_1, wr_2, wr_3, wr_4, wr_5, wr_6, wr_7, wr_8, wr_9, wr_10, wr_11, wr_12, wr_13, wr_14, wr_15, wr_16, wr_17, wr_18, wr_19, wr_20, wr_21, wr_22, wr_23, wr_24, wr_25, wr_26, wr_27, wr_28, wr_29, wr_30, wr_31, wr_32, wr_33, wr_34, wr_35, wr_36, wr_37, wr_38, wr_39, wr_40, wr_41, wr_42, wr_43, wr_44, wr_45, wr_46, wr_47, wr_48, wr_49, wr_50, wr_51, wr_52, wr_53, wr_54, wr_55, wr_56, wr_57, wr_58, wr_59, wr_60, wr_61, wr_62, wr_63, wr_64, wr_65, wr_66, wr_67, wr_68, wr_69, wr_70, wr_71, wr_72, wr_73, wr_74, wr_75, wr_76, wr_77, wr_78, wr_79, wr_80, wr_81, wr_82, wr_83, wr_84, wr_85, wr_86, wr_87, ww_v1, ww_v2, ww_v3, ww_v4, ww_g0, ww_gS, ww_t0, ww_tS, ww_s0, ww_sS, ww_s2, ww_w1, ww_w2, ww_w3, ww_b, ww_tg, ww_p1, ww_p2, ww_q0, ww_qS, ww_k1, ww_k2, ww_k3, ww_w0, ww_wS, ww_i1, ww_i2, ww_f0, ww_f1, ww_f2, ww_f4, ww_fd, ww_cl, ww_mc, ww_tk, ww_ci, ww_ak, ww_gv, ww_g1, ww_kcs, w_f1, w_f2, w_a1, w_a2, w_u_at, dm_240, List.elem_nil, List.elem_cons, List.map_nil, List.map_cons, List.sum_nil, List.sum_cons, Option.toList_none, Option.toList_some, List.nil_append, List.cons_append, true_and, and_true, implies_true, false_implies, if_true, if_false, reduceIte, reduceCtorEq, Bool.false_eq_true, Bool.and_false, Bool.false_and, Bool.and_self, Bool.and_true, Bool.true_and, Nat.reduceAdd, Nat.reduceBEq, Nat.reduceEqDiff, Nat.reduceLT, Nat.reduceLeDiff, Int.reduceAdd, Int.reduceNeg, Int.reduceToNat, Int.reduceLE, Int.reduceLT, Int.reduceSub, Int.cast_ofNat_Int, Int.reduceNatCast', Int.reduceNatCast, Nat.zero_add, Int.zero_add, and_self, false_and, and_false, or_false, false_or, true_or, or_true, not_true_eq_false, not_false_eq_true, w_i0, w_i1, w_i2, w_g_f, ctL_c, ctL_n, w_isRs, w_bds]
  (try simp only [h_ok, h_cC, h_cF, h_w, h_nf, h_code, am_rg] at hp ⊢); all_goals ((repeat' (first | refine And.intro ?_ ?_ | intro _)) <;> first | assumption | trivial | omega | (refine congrArg (fun z : Int => some (Sum.inl z)) ?_; (repeat' split) <;> omega) | ((repeat' split) <;> first | rfl | omega))
theorem ok_240 : ww_cOk1 240 sp_240 := by
  intro as w fr pre r w1 e hp
  unfold sp_240 at e
  split at e
  · cases e
    exact lk_240 hp
  · cases e

def sp_241 : List am_V → W_ → Option (Nat × Prop × Option am_V × W_)
  | [.inr (.inr (.inl 73))], w => some (0, True, some (.inl (w.1 73 81)), w_f w 73 93 0)
  | _, _ => none
theorem at_241 (w : W_) : sp_241 [.inr (.inr (.inl 73))] w = some (0, True, some (.inl (w.1 73 81)), w_f w 73 93 0) := rfl
set_option maxRecDepth 100000 in
set_option maxHeartbeats 4000000 in
theorem lk_241 {w : W_} (hp : True) : ww_Ct 241 0 [.inr (.inr (.inl 73))] w fun r w' => r = some (.inl (w.1 73 81)) ∧ w' = w_f w 73 93 0 := by
  refine of_241 (ww_go ctL_nil 400 [] ?_)
  simp only [ww_S, ww_1, wr_0, wr_1, wr_2, wr_3, wr_4, wr_5, wr_6, wr_7, wr_8, wr_9, wr_10, wr_11, wr_12, wr_13, wr_14, wr_15, wr_16, wr_17, wr_18, wr_19, wr_20, wr_21, wr_22, wr_23, wr_24, wr_25, wr_26, wr_27, wr_28, wr_29, wr_30, wr_31, wr_32, wr_33, wr_34, wr_35, wr_36, wr_37, wr_38, wr_39, wr_40, wr_41, wr_42, wr_43, wr_44, wr_45, wr_46, wr_47, wr_48, wr_49, wr_50, wr_51, wr_52, wr_53, wr_54, wr_55, wr_56, wr_57, wr_58, wr_59, wr_60, wr_61, wr_62, wr_63, wr_64, wr_65, wr_66, wr_67, wr_68, wr_69, wr_70, wr_71, wr_72, wr_73, wr_74, wr_75, wr_76, wr_77, wr_78, wr_79, wr_80, wr_81, wr_82, wr_83, wr_84, wr_85, wr_86, wr_87, ww_v1, ww_v2, ww_v3, ww_v4, ww_g0, ww_gS, ww_t0, ww_tS, ww_s0, ww_sS, ww_s2, ww_w1, ww_w2, ww_w3, ww_b, ww_tg, ww_p1, ww_p2, ww_q0, ww_qS, ww_k1, ww_k2, ww_k3, ww_w0, ww_wS, ww_i1, ww_i2, ww_f0, ww_f1, ww_f2, ww_f4, ww_fd, ww_cl, ww_mc, ww_tk, ww_ci, ww_ak, ww_gv, ww_g1, ww_kcs, w_f1, w_f2, w_a1, w_a2, w_u_at, dm_241, List.elem_nil, List.elem_cons, List.map_nil, List.map_cons, List.sum_nil, List.sum_cons, Option.toList_none, Option.toList_some, List.nil_append, List.cons_append, true_and, and_true, implies_true, false_implies, if_true, if_false, reduceIte, reduceCtorEq, Bool.false_eq_true, Bool.and_false, Bool.false_and, Bool.and_self, Bool.and_true, Bool.true_and, Nat.reduceAdd, Nat.reduceBEq, Nat.reduceEqDiff, Nat.reduceLT, Nat.reduceLeDiff, Int.reduceAdd, Int.reduceNeg, Int.reduceToNat, Int.reduceLE, Int.reduceLT, Int.reduceSub, Int.cast_ofNat_Int, Int.reduceNatCast', Int.reduceNatCast, Nat.zero_add, Int.zero_add, and_self, false_and, and_false, or_false, false_or, true_or, or_true, not_true_eq_false, not_false_eq_true, w_i0, w_i1, w_i2, w_g_f, ctL_c, ctL_n, w_isRs, w_bds]
  (try simp only [h_ok, h_cC, h_cF, h_w, h_nf, h_code, am_rg] at hp ⊢); all_goals ((repeat' (first | refine And.intro ?_ ?_ | intro _)) <;> first | assumption | trivial | omega | (refine congrArg (fun z : Int => some (Sum.inl z)) ?_; (repeat' split) <;> omega) | ((repeat' split) <;> first | rfl | omega))
theorem ok_241 : ww_cOk1 241 sp_241 := by
  intro as w fr pre r w1 e hp
  unfold sp_241 at e
  split at e
  · cases e
    exact lk_241 hp
  · cases e

def sp_242 : List am_V → W_ → Option (Nat × Prop × Option am_V × W_)
  | [.inr (.inr (.inl 73))], w => some (0, True, some (.inl (w.1 73 70)), w_f w 73 93 0)
  | _, _ => none
theorem at_242 (w : W_) : sp_242 [.inr (.inr (.inl 73))] w = some (0, True, some (.inl (w.1 73 70)), w_f w 73 93 0) := rfl
set_option maxRecDepth 100000 in
set_option maxHeartbeats 4000000 in
theorem lk_242 {w : W_} (hp : True) : ww_Ct 242 0 [.inr (.inr (.inl 73))] w fun r w' => r = some (.inl (w.1 73 70)) ∧ w' = w_f w 73 93 0 := by
  refine of_242 (ww_go ctL_nil 400 [] ?_)
  simp only [ww_S, ww_1, wr_0, wr_1, wr_2, wr_3, wr_4, wr_5, wr_6, wr_7, wr_8, wr_9, wr_10, wr_11, wr_12, wr_13, wr_14, wr_15, wr_16, wr_17, wr_18, wr_19, wr_20, wr_21, wr_22, wr_23, wr_24, wr_25, wr_26, wr_27, wr_28, wr_29, wr_30, wr_31, wr_32, wr_33, wr_34, wr_35, wr_36, wr_37, wr_38, wr_39, wr_40, wr_41, wr_42, wr_43, wr_44, wr_45, wr_46, wr_47, wr_48, wr_49, wr_50, wr_51, wr_52, wr_53, wr_54, wr_55, wr_56, wr_57, wr_58, wr_59, wr_60, wr_61, wr_62, wr_63, wr_64, wr_65, wr_66, wr_67, wr_68, wr_69, wr_70, wr_71, wr_72, wr_73, wr_74, wr_75, wr_76, wr_77, wr_78, wr_79, wr_80, wr_81, wr_82, wr_83, wr_84, wr_85, wr_86, wr_87, ww_v1, ww_v2, ww_v3, ww_v4, ww_g0, ww_gS, ww_t0, ww_tS, ww_s0, ww_sS, ww_s2, ww_w1, ww_w2, ww_w3, ww_b, ww_tg, ww_p1, ww_p2, ww_q0, ww_qS, ww_k1, ww_k2, ww_k3, ww_w0, ww_wS, ww_i1, ww_i2, ww_f0, ww_f1, ww_f2, ww_f4, ww_fd, ww_cl, ww_mc, ww_tk, ww_ci, ww_ak, ww_gv, ww_g1, ww_kcs, w_f1, w_f2, w_a1, w_a2, w_u_at, dm_242, List.elem_nil, List.elem_cons, List.map_nil, List.map_cons, List.sum_nil, List.sum_cons, Option.toList_none, Option.toList_some, List.nil_append, List.cons_append, true_and, and_true, implies_true, false_implies, if_true, if_false, reduceIte, reduceCtorEq, Bool.false_eq_true, Bool.and_false, Bool.false_and, Bool.and_self, Bool.and_true, Bool.true_and, Nat.reduceAdd, Nat.reduceBEq, Nat.reduceEqDiff, Nat.reduceLT, Nat.reduceLeDiff, Int.reduceAdd, Int.reduceNeg, Int.reduceToNat, Int.reduceLE, Int.reduceLT, Int.reduceSub, Int.cast_ofNat_Int, Int.reduceNatCast', Int.reduceNatCast, Nat.zero_add, Int.zero_add, and_self, false_and, and_false, or_false, false_or, true_or, or_true, not_true_eq_false, not_false_eq_true, w_i0, w_i1, w_i2, w_g_f, ctL_c, ctL_n, w_isRs, w_bds]
  (try simp only [h_ok, h_cC, h_cF, h_w, h_nf, h_code, am_rg] at hp ⊢); all_goals ((repeat' (first | refine And.intro ?_ ?_ | intro _)) <;> first | assumption | trivial | omega | (refine congrArg (fun z : Int => some (Sum.inl z)) ?_; (repeat' split) <;> omega) | ((repeat' split) <;> first | rfl | omega))
theorem ok_242 : ww_cOk1 242 sp_242 := by
  intro as w fr pre r w1 e hp
  unfold sp_242 at e
  split at e
  · cases e
    exact lk_242 hp
  · cases e

def sp_243 : List am_V → W_ → Option (Nat × Prop × Option am_V × W_)
  | [.inr (.inr (.inl 73))], w => some (0, True, some (.inl (w.1 73 87)), w_f w 73 93 0)
  | _, _ => none
theorem at_243 (w : W_) : sp_243 [.inr (.inr (.inl 73))] w = some (0, True, some (.inl (w.1 73 87)), w_f w 73 93 0) := rfl
set_option maxRecDepth 100000 in
set_option maxHeartbeats 4000000 in
theorem lk_243 {w : W_} (hp : True) : ww_Ct 243 0 [.inr (.inr (.inl 73))] w fun r w' => r = some (.inl (w.1 73 87)) ∧ w' = w_f w 73 93 0 := by
  refine of_243 (ww_go ctL_nil 400 [] ?_)
  simp only [ww_S, ww_1, wr_0, wr_1, wr_2, wr_3, wr_4, wr_5, wr_6, wr_7, wr_8, wr_9, wr_10, wr_11, wr_12, wr_13, wr_14, wr_15, wr_16, wr_17, wr_18, wr_19, wr_20, wr_21, wr_22, wr_23, wr_24, wr_25, wr_26, wr_27, wr_28, wr_29, wr_30, wr_31, wr_32, wr_33, wr_34, wr_35, wr_36, wr_37, wr_38, wr_39, wr_40, wr_41, wr_42, wr_43, wr_44, wr_45, wr_46, wr_47, wr_48, wr_49, wr_50, wr_51, wr_52, wr_53, wr_54, wr_55, wr_56, wr_57, wr_58, wr_59, wr_60, wr_61, wr_62, wr_63, wr_64, wr_65, wr_66, wr_67, wr_68, wr_69, wr_70, wr_71, wr_72, wr_73, wr_74, wr_75, wr_76, wr_77, wr_78, wr_79, wr_80, wr_81, wr_82, wr_83, wr_84, wr_85, wr_86, wr_87, ww_v1, ww_v2, ww_v3, ww_v4, ww_g0, ww_gS, ww_t0, ww_tS, ww_s0, ww_sS, ww_s2, ww_w1, ww_w2, ww_w3, ww_b, ww_tg, ww_p1, ww_p2, ww_q0, ww_qS, ww_k1, ww_k2, ww_k3, ww_w0, ww_wS, ww_i1, ww_i2, ww_f0, ww_f1, ww_f2, ww_f4, ww_fd, ww_cl, ww_mc, ww_tk, ww_ci, ww_ak, ww_gv, ww_g1, ww_kcs, w_f1, w_f2, w_a1, w_a2, w_u_at, dm_243, List.elem_nil, List.elem_cons, List.map_nil, List.map_cons, List.sum_nil, List.sum_cons, Option.toList_none, Option.toList_some, List.nil_append, List.cons_append, true_and, and_true, implies_true, false_implies, if_true, if_false, reduceIte, reduceCtorEq, Bool.false_eq_true, Bool.and_false, Bool.false_and, Bool.and_self, Bool.and_true, Bool.true_and, Nat.reduceAdd, Nat.reduceBEq, Nat.reduceEqDiff, Nat.reduceLT, Nat.reduceLeDiff, Int.reduceAdd, Int.reduceNeg, Int.reduceToNat, Int.reduceLE, Int.reduceLT, Int.reduceSub, Int.cast_ofNat_Int, Int.reduceNatCast', Int.reduceNatCast, Nat.zero_add, Int.zero_add, and_self, false_and, and_false, or_false, false_or, true_or, or_true, not_true_eq_false, not_false_eq_true, w_i0, w_i1, w_i2, w_g_f, ctL_c, ctL_n, w_isRs, w_bds]
  (try simp only [h_ok, h_cC, h_cF, h_w, h_nf, h_code, am_rg] at hp ⊢); all_goals ((repeat' (first | refine And.intro ?_ ?_ | intro _)) <;> first | assumption | trivial | omega | (refine congrArg (fun z : Int => some (Sum.inl z)) ?_; (repeat' split) <;> omega) | ((repeat' split) <;> first | rfl | omega))
theorem ok_243 : ww_cOk1 243 sp_243 := by
  intro as w fr pre r w1 e hp
  unfold sp_243 at e
  split at e
  · cases e
    exact lk_243 hp
  · cases e

def sp_245 : List am_V → W_ → Option (Nat × Prop × Option am_V × W_)
  | [.inr (.inr (.inl 73))], w => some (0, True, some (.inl (w.1 73 89)), w_f w 73 93 0)
  | _, _ => none
theorem at_245 (w : W_) : sp_245 [.inr (.inr (.inl 73))] w = some (0, True, some (.inl (w.1 73 89)), w_f w 73 93 0) := rfl
set_option maxRecDepth 100000 in
set_option maxHeartbeats 4000000 in
theorem lk_245 {w : W_} (hp : True) : ww_Ct 245 0 [.inr (.inr (.inl 73))] w fun r w' => r = some (.inl (w.1 73 89)) ∧ w' = w_f w 73 93 0 := by
  refine of_245 (ww_go ctL_nil 400 [] ?_)
  simp only [ww_S, ww_1, wr_0, wr_1, wr_2, wr_3, wr_4, wr_5, wr_6, wr_7, wr_8, wr_9, wr_10, wr_11, wr_12, wr_13, wr_14, wr_15, wr_16, wr_17, wr_18, wr_19, wr_20, wr_21, wr_22, wr_23, wr_24, wr_25, wr_26, wr_27, wr_28, wr_29, wr_30, wr_31, wr_32, wr_33, wr_34, wr_35, wr_36, wr_37, wr_38, wr_39, wr_40, wr_41, wr_42, wr_43, wr_44, wr_45, wr_46, wr_47, wr_48, wr_49, wr_50, wr_51, wr_52, wr_53, wr_54, wr_55, wr_56, wr_57, wr_58, wr_59, wr_60, wr_61, wr_62, wr_63, wr_64, wr_65, wr_66, wr_67, wr_68, wr_69, wr_70, wr_71, wr_72, wr_73, wr_74, wr_75, wr_76, wr_77, wr_78, wr_79, wr_80, wr_81, wr_82, wr_83, wr_84, wr_85, wr_86, wr_87, ww_v1, ww_v2, ww_v3, ww_v4, ww_g0, ww_gS, ww_t0, ww_tS, ww_s0, ww_sS, ww_s2, ww_w1, ww_w2, ww_w3, ww_b, ww_tg, ww_p1, ww_p2, ww_q0, ww_qS, ww_k1, ww_k2, ww_k3, ww_w0, ww_wS, ww_i1, ww_i2, ww_f0, ww_f1, ww_f2, ww_f4, ww_fd, ww_cl, ww_mc, ww_tk, ww_ci, ww_ak, ww_gv, ww_g1, ww_kcs, w_f1, w_f2, w_a1, w_a2, w_u_at, dm_245, List.elem_nil, List.elem_cons, List.map_nil, List.map_cons, List.sum_nil, List.sum_cons, Option.toList_none, Option.toList_some, List.nil_append, List.cons_append, true_and, and_true, implies_true, false_implies, if_true, if_false, reduceIte, reduceCtorEq, Bool.false_eq_true, Bool.and_false, Bool.false_and, Bool.and_self, Bool.and_true, Bool.true_and, Nat.reduceAdd, Nat.reduceBEq, Nat.reduceEqDiff, Nat.reduceLT, Nat.reduceLeDiff, Int.reduceAdd, Int.reduceNeg, Int.reduceToNat, Int.reduceLE, Int.reduceLT, Int.reduceSub, Int.cast_ofNat_Int, Int.reduceNatCast', Int.reduceNatCast, Nat.zero_add, Int.zero_add, and_self, false_and, and_false, or_false, false_or, true_or, or_true, not_true_eq_false, not_false_eq_true, w_i0, w_i1, w_i2, w_g_f, ctL_c, ctL_n, w_isRs, w_bds]
  (try simp only [h_ok, h_cC, h_cF, h_w, h_nf, h_code, am_rg] at hp ⊢); all_goals ((repeat' (first | refine And.intro ?_ ?_ | intro _)) <;> first | assumption | trivial | omega | (refine congrArg (fun z : Int => some (Sum.inl z)) ?_; (repeat' split) <;> omega) | ((repeat' split) <;> first | rfl | omega))
theorem ok_245 : ww_cOk1 245 sp_245 := by
  intro as w fr pre r w1 e hp
  unfold sp_245 at e
  split at e
  · cases e
    exact lk_245 hp
  · cases e

def sp_239 : List am_V → W_ → Option (Nat × Prop × Option am_V × W_)
  | [.inr (.inr (.inl 73))], w => some (0, (w.1 73 85 = 0 ∨ w.1 73 85 = 1) ∧ (w.1 73 86 = 0 ∨ w.1 73 86 = 1), some (.inl (if w.1 73 85 = 1 ∧ w.1 73 86 = 1 then 1 else 0)), w_f w 73 93 0)
  | _, _ => none
theorem at_239 (w : W_) : sp_239 [.inr (.inr (.inl 73))] w = some (0, (w.1 73 85 = 0 ∨ w.1 73 85 = 1) ∧ (w.1 73 86 = 0 ∨ w.1 73 86 = 1), some (.inl (if w.1 73 85 = 1 ∧ w.1 73 86 = 1 then 1 else 0)), w_f w 73 93 0) := rfl
set_option maxRecDepth 100000 in
set_option maxHeartbeats 4000000 in
theorem lk_239 {w : W_} (hp : (w.1 73 85 = 0 ∨ w.1 73 85 = 1) ∧ (w.1 73 86 = 0 ∨ w.1 73 86 = 1)) : ww_Ct 239 0 [.inr (.inr (.inl 73))] w fun r w' => r = some (.inl (if w.1 73 85 = 1 ∧ w.1 73 86 = 1 then 1 else 0)) ∧ w' = w_f w 73 93 0 := by
  refine of_239 (ww_go ctL_nil 400 [] ?_)
  simp only [ww_S, ww_1, wr_0, wr_1, wr_2, wr_3, wr_4, wr_5, wr_6, wr_7, wr_8, wr_9, wr_10, wr_11, wr_12, wr_13, wr_14, wr_15, wr_16, wr_17, wr_18, wr_19, wr_20, wr_21, wr_22, wr_23, wr_24, wr_25, wr_26, wr_27, wr_28, wr_29, wr_30, wr_31, wr_32, wr_33, wr_34, wr_35, wr_36, wr_37, wr_38, wr_39, wr_40, wr_41, wr_42, wr_43, wr_44, wr_45, wr_46, wr_47, wr_48, wr_49, wr_50, wr_51, wr_52, wr_53, wr_54, wr_55, wr_56, wr_57, wr_58, wr_59, wr_60, wr_61, wr_62, wr_63, wr_64, wr_65, wr_66, wr_67, wr_68, wr_69, wr_70, wr_71, wr_72, wr_73, wr_74, wr_75, wr_76, wr_77, wr_78, wr_79, wr_80, wr_81, wr_82, wr_83, wr_84, wr_85, wr_86, wr_87, ww_v1, ww_v2, ww_v3, ww_v4, ww_g0, ww_gS, ww_t0, ww_tS, ww_s0, ww_sS, ww_s2, ww_w1, ww_w2, ww_w3, ww_b, ww_tg, ww_p1, ww_p2, ww_q0, ww_qS, ww_k1, ww_k2, ww_k3, ww_w0, ww_wS, ww_i1, ww_i2, ww_f0, ww_f1, ww_f2, ww_f4, ww_fd, ww_cl, ww_mc, ww_tk, ww_ci, ww_ak, ww_gv, ww_g1, ww_kcs, w_f1, w_f2, w_a1, w_a2, w_u_at, dm_239, List.elem_nil, List.elem_cons, List.map_nil, List.map_cons, List.sum_nil, List.sum_cons, Option.toList_none, Option.toList_some, List.nil_append, List.cons_append, true_and, and_true, implies_true, false_implies, if_true, if_false, reduceIte, reduceCtorEq, Bool.false_eq_true, Bool.and_false, Bool.false_and, Bool.and_self, Bool.and_true, Bool.true_and, Nat.reduceAdd, Nat.reduceBEq, Nat.reduceEqDiff, Nat.reduceLT, Nat.reduceLeDiff, Int.reduceAdd, Int.reduceNeg, Int.reduceToNat, Int.reduceLE, Int.reduceLT, Int.reduceSub, Int.cast_ofNat_Int, Int.reduceNatCast', Int.reduceNatCast, Nat.zero_add, Int.zero_add, and_self, false_and, and_false, or_false, false_or, true_or, or_true, not_true_eq_false, not_false_eq_true, w_i0, w_i1, w_i2, w_g_f, ctL_c, ctL_n, w_isRs, w_bds]
  (try simp only [h_ok, h_cC, h_cF, h_w, h_nf, h_code, am_rg] at hp ⊢); all_goals ((repeat' (first | refine And.intro ?_ ?_ | intro _)) <;> first | assumption | trivial | omega | (refine congrArg (fun z : Int => some (Sum.inl z)) ?_; (repeat' split) <;> omega) | ((repeat' split) <;> first | rfl | omega))
theorem ok_239 : ww_cOk1 239 sp_239 := by
  intro as w fr pre r w1 e hp
  unfold sp_239 at e
  split at e
  · cases e
    exact lk_239 hp
  · cases e

