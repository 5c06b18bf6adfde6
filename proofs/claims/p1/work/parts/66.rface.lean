/-! ===== the reference's own methods: what only asks, what throws ===== -/
def sp_173 : List am_V → W_ → Option (Nat × Prop × Option am_V × W_)
  | [.inr (.inr (.inl 73)), .inl x0, .inl x1], w => some (3, (am_rg x0 ∧ am_rg x1) ∧ (0 ≤ x0 ∧ x0 < 3 → 0 ≤ w.2 76 x0.toNat ∧ w.2 76 x0.toNat ≤ 60), some (.inl (if (0 ≤ x0 ∧ x0 ≤ 2) ∧ 0 ≤ x1 then (if x1 < w.2 76 x0.toNat then 100 * w.2 74 (60 * x0 + x1).toNat + w.2 75 (60 * x0 + x1).toNat else -1) else 0)), w_f w 73 93 (if (0 ≤ x0 ∧ x0 ≤ 2) ∧ 0 ≤ x1 then 0 else 1))
  | _, _ => none
theorem at_173 (x0 x1 : Int) (w : W_) : sp_173 [.inr (.inr (.inl 73)), .inl x0, .inl x1] w = some (3, (am_rg x0 ∧ am_rg x1) ∧ (0 ≤ x0 ∧ x0 < 3 → 0 ≤ w.2 76 x0.toNat ∧ w.2 76 x0.toNat ≤ 60), some (.inl (if (0 ≤ x0 ∧ x0 ≤ 2) ∧ 0 ≤ x1 then (if x1 < w.2 76 x0.toNat then 100 * w.2 74 (60 * x0 + x1).toNat + w.2 75 (60 * x0 + x1).toNat else -1) else 0)), w_f w 73 93 (if (0 ≤ x0 ∧ x0 ≤ 2) ∧ 0 ≤ x1 then 0 else 1)) := rfl
set_option maxRecDepth 100000 in
set_option maxHeartbeats 4000000 in
theorem lk_173 {x0 x1 : Int} {w : W_} (hp : (am_rg x0 ∧ am_rg x1) ∧ (0 ≤ x0 ∧ x0 < 3 → 0 ≤ w.2 76 x0.toNat ∧ w.2 76 x0.toNat ≤ 60)) : ww_Ct 173 3 [.inr (.inr (.inl 73)), .inl x0, .inl x1] w fun r w' => r = some (.inl (if (0 ≤ x0 ∧ x0 ≤ 2) ∧ 0 ≤ x1 then (if x1 < w.2 76 x0.toNat then 100 * w.2 74 (60 * x0 + x1).toNat + w.2 75 (60 * x0 + x1).toNat else -1) else 0)) ∧ w' = w_f w 73 93 (if (0 ≤ x0 ∧ x0 ≤ 2) ∧ 0 ≤ x1 then 0 else 1) := by
  refine of_173 (ww_go (ctL_cons ok_167 (ctL_cons ok_169 ctL_nil)) 400 [] ?_)
  simp only [ww_S, ww_1, wr_0, wr_1, wr_2, wr_3, wr_4, wr_5, wr_6, wr_7, wr_8, wr_9, wr_10, wr_11, wr_12, wr_13, wr_14, wr_15, wr_16, wr_17, wr_18, wr_19, wr_20, wr_21, wr_22, wr_23, wr_24, wr_25, wr_26, wr_27, wr_28, wr_29, wr_30, wr_31, wr_32, wr_33, wr_34, wr_35, wr_36, wr_37, wr_38, wr_39, wr_40, wr_41, wr_42, wr_43, wr_44, wr_45, wr_46, wr_47, wr_48, wr_49, wr_50, wr_51, wr_52, wr_53, wr_54, wr_55, wr_56, wr_57, wr_58, wr_59, wr_60, wr_61, wr_62, wr_63, wr_64, wr_65, wr_66, wr_67, wr_68, wr_69, wr_70, wr_71, wr_72, wr_73, wr_74, wr_75, wr_76, wr_77, wr_78, wr_79, wr_80, wr_81, wr_82, wr_83, wr_84, wr_85, wr_86, wr_87, ww_v1, ww_v2, ww_v3, ww_v4, ww_g0, ww_gS, ww_t0, ww_tS, ww_s0, ww_sS, ww_s2, ww_w1, ww_w2, ww_w3, ww_b, ww_tg, ww_p1, ww_p2, ww_q0, ww_qS, ww_k1, ww_k2, ww_k3, ww_w0, ww_wS, ww_i1, ww_i2, ww_f0, ww_f1, ww_f2, ww_f4, ww_fd, ww_cl, ww_mc, ww_tk, ww_ci, ww_ak, ww_gv, ww_g1, ww_kcs, w_f1, w_f2, w_a1, w_a2, w_u_at, dm_173, List.elem_nil, List.elem_cons, List.map_nil, List.map_cons, List.sum_nil, List.sum_cons, Option.toList_none, Option.toList_some, List.nil_append, List.cons_append, true_and, and_true, implies_true, false_implies, if_true, if_false, reduceIte, reduceCtorEq, Bool.false_eq_true, Bool.and_false, Bool.false_and, Bool.and_self, Bool.and_true, Bool.true_and, Nat.reduceAdd, Nat.reduceBEq, Nat.reduceEqDiff, Nat.reduceLT, Nat.reduceLeDiff, Int.reduceAdd, Int.reduceNeg, Int.reduceToNat, Int.reduceLE, Int.reduceLT, Int.reduceSub, Int.cast_ofNat_Int, Int.reduceNatCast', Int.reduceNatCast, Nat.zero_add, Int.zero_add, and_self, false_and, and_false, or_false, false_or, true_or, or_true, not_true_eq_false, not_false_eq_true, at_167, at_169, w_i0, w_i1, w_i2, w_g_f, ctL_c, ctL_n, w_isRs, w_bds]
  (try simp only [am_rg] at hp); all_goals ((repeat' (first | refine And.intro ?_ ?_ | intro _)) <;> first | assumption | omega | (refine congrArg (fun z : Int => some (Sum.inl z)) ?_; (try unfold r_ans at *); (repeat' split) <;> first | rfl | omega) | (refine congrArg (w_f w 73 93) ?_; (try unfold r_ans at *); (repeat' split) <;> first | rfl | omega) | ((repeat' split) <;> first | rfl | omega))
theorem ok_173 : ww_cOk1 173 sp_173 := by
  intro as w fr pre r w1 e hp
  unfold sp_173 at e
  split at e
  · cases e
    exact lk_173 hp
  · cases e

def sp_174 : List am_V → W_ → Option (Nat × Prop × Option am_V × W_)
  | [.inr (.inr (.inl 73)), .inl x0, .inl x1], w => some (2, am_rg x0 ∧ am_rg x1, some (.inl (if (3 ≤ x0 ∧ x0 ≤ 30) ∧ 1 ≤ x1 ∧ x1 ≤ 10 then w.1 73 3 else 0)), (if (3 ≤ x0 ∧ x0 ≤ 30) ∧ 1 ≤ x1 ∧ x1 ≤ 10 then w_f (w_f (w_f w 73 93 0) 73 3 x0) 73 4 x1 else w_f w 73 93 1))
  | _, _ => none
theorem at_174 (x0 x1 : Int) (w : W_) : sp_174 [.inr (.inr (.inl 73)), .inl x0, .inl x1] w = some (2, am_rg x0 ∧ am_rg x1, some (.inl (if (3 ≤ x0 ∧ x0 ≤ 30) ∧ 1 ≤ x1 ∧ x1 ≤ 10 then w.1 73 3 else 0)), (if (3 ≤ x0 ∧ x0 ≤ 30) ∧ 1 ≤ x1 ∧ x1 ≤ 10 then w_f (w_f (w_f w 73 93 0) 73 3 x0) 73 4 x1 else w_f w 73 93 1)) := rfl
set_option maxRecDepth 100000 in
set_option maxHeartbeats 4000000 in
theorem lk_174 {x0 x1 : Int} {w : W_} (hp : am_rg x0 ∧ am_rg x1) : ww_Ct 174 2 [.inr (.inr (.inl 73)), .inl x0, .inl x1] w fun r w' => r = some (.inl (if (3 ≤ x0 ∧ x0 ≤ 30) ∧ 1 ≤ x1 ∧ x1 ≤ 10 then w.1 73 3 else 0)) ∧ w' = (if (3 ≤ x0 ∧ x0 ≤ 30) ∧ 1 ≤ x1 ∧ x1 ≤ 10 then w_f (w_f (w_f w 73 93 0) 73 3 x0) 73 4 x1 else w_f w 73 93 1) := by
  refine of_174 (ww_go (ctL_cons ok_167 (ctL_cons ok_168 ctL_nil)) 400 [] ?_)
  simp only [ww_S, ww_1, wr_0, wr_1, wr_2, wr_3, wr_4, wr_5, wr_6, wr_7, wr_8, wr_9, wr_10, wr_11, wr_12, wr_13, wr_14, wr_15, wr_16, wr_17, wr_18, wr_19, wr_20, wr_21, wr_22, wr_23, wr_24, wr_25, wr_26, wr_27, wr_28, wr_29, wr_30, wr_31, wr_32, wr_33, wr_34, wr_35, wr_36, wr_37, wr_38, wr_39, wr_40, wr_41, wr_42, wr_43, wr_44, wr_45, wr_46, wr_47, wr_48, wr_49, wr_50, wr_51, wr_52, wr_53, wr_54, wr_55, wr_56, wr_57, wr_58, wr_59, wr_60, wr_61, wr_62, wr_63, wr_64, wr_65, wr_66, wr_67, wr_68, wr_69, wr_70, wr_71, wr_72, wr_73, wr_74, wr_75, wr_76, wr_77, wr_78, wr_79, wr_80, wr_81, wr_82, wr_83, wr_84, wr_85, wr_86, wr_87, ww_v1, ww_v2, ww_v3, ww_v4, ww_g0, ww_gS, ww_t0, ww_tS, ww_s0, ww_sS, ww_s2, ww_w1, ww_w2, ww_w3, ww_b, ww_tg, ww_p1, ww_p2, ww_q0, ww_qS, ww_k1, ww_k2, ww_k3, ww_w0, ww_wS, ww_i1, ww_i2, ww_f0, ww_f1, ww_f2, ww_f4, ww_fd, ww_cl, ww_mc, ww_tk, ww_ci, ww_ak, ww_gv, ww_g1, ww_kcs, w_f1, w_f2, w_a1, w_a2, w_u_at, dm_174, List.elem_nil, List.elem_cons, List.map_nil, List.map_cons, List.sum_nil, List.sum_cons, Option.toList_none, Option.toList_some, List.nil_append, List.cons_append, true_and, and_true, implies_true, false_implies, if_true, if_false, reduceIte, reduceCtorEq, Bool.false_eq_true, Bool.and_false, Bool.false_and, Bool.and_self, Bool.and_true, Bool.true_and, Nat.reduceAdd, Nat.reduceBEq, Nat.reduceEqDiff, Nat.reduceLT, Nat.reduceLeDiff, Int.reduceAdd, Int.reduceNeg, Int.reduceToNat, Int.reduceLE, Int.reduceLT, Int.reduceSub, Int.cast_ofNat_Int, Int.reduceNatCast', Int.reduceNatCast, Nat.zero_add, Int.zero_add, and_self, false_and, and_false, or_false, false_or, true_or, or_true, not_true_eq_false, not_false_eq_true, at_167, at_168, w_i0, w_i1, w_i2, w_g_f, ctL_c, ctL_n, w_isRs, w_bds]
  (try simp only [am_rg] at hp); all_goals ((repeat' (first | refine And.intro ?_ ?_ | intro _)) <;> first | assumption | omega | (refine congrArg (fun z : Int => some (Sum.inl z)) ?_; (try unfold r_ans at *); (repeat' split) <;> first | rfl | omega) | (refine congrArg (w_f w 73 93) ?_; (try unfold r_ans at *); (repeat' split) <;> first | rfl | omega) | ((repeat' split) <;> first | rfl | omega))
theorem ok_174 : ww_cOk1 174 sp_174 := by
  intro as w fr pre r w1 e hp
  unfold sp_174 at e
  split at e
  · cases e
    exact lk_174 hp
  · cases e

def sp_244 : List am_V → W_ → Option (Nat × Prop × Option am_V × W_)
  | [.inr (.inr (.inl 73)), .inl x0, .inl x1], w => some (2, (am_rg x0 ∧ am_rg x1) ∧ 0 ≤ w.1 73 87 ∧ w.1 73 87 ≤ 200, some (.inl (if (0 ≤ x0 ∧ x0 < w.1 73 87) ∧ 0 ≤ x1 ∧ x1 ≤ 5 then w.2 123 (6 * x0 + x1).toNat else 0)), w_f w 73 93 (if 0 ≤ x0 ∧ x0 < w.1 73 87 then (if 0 ≤ x1 ∧ x1 ≤ 5 then 0 else 2) else 1))
  | _, _ => none
theorem at_244 (x0 x1 : Int) (w : W_) : sp_244 [.inr (.inr (.inl 73)), .inl x0, .inl x1] w = some (2, (am_rg x0 ∧ am_rg x1) ∧ 0 ≤ w.1 73 87 ∧ w.1 73 87 ≤ 200, some (.inl (if (0 ≤ x0 ∧ x0 < w.1 73 87) ∧ 0 ≤ x1 ∧ x1 ≤ 5 then w.2 123 (6 * x0 + x1).toNat else 0)), w_f w 73 93 (if 0 ≤ x0 ∧ x0 < w.1 73 87 then (if 0 ≤ x1 ∧ x1 ≤ 5 then 0 else 2) else 1)) := rfl
set_option maxRecDepth 100000 in
set_option maxHeartbeats 4000000 in
theorem lk_244 {x0 x1 : Int} {w : W_} (hp : (am_rg x0 ∧ am_rg x1) ∧ 0 ≤ w.1 73 87 ∧ w.1 73 87 ≤ 200) : ww_Ct 244 2 [.inr (.inr (.inl 73)), .inl x0, .inl x1] w fun r w' => r = some (.inl (if (0 ≤ x0 ∧ x0 < w.1 73 87) ∧ 0 ≤ x1 ∧ x1 ≤ 5 then w.2 123 (6 * x0 + x1).toNat else 0)) ∧ w' = w_f w 73 93 (if 0 ≤ x0 ∧ x0 < w.1 73 87 then (if 0 ≤ x1 ∧ x1 ≤ 5 then 0 else 2) else 1) := by
  refine of_244 (ww_go (ctL_cons ok_167 (ctL_cons ok_168 ctL_nil)) 400 [] ?_)
  simp only [ww_S, ww_1, wr_0, wr_1, wr_2, wr_3, wr_4, wr_5, wr_6, wr_7, wr_8, wr_9, wr_10, wr_11, wr_12, wr_13, wr_14, wr_15, wr_16, wr_17, wr_18, wr_19, wr_20, wr_21, wr_22, wr_23, wr_24, wr_25, wr_26, wr_27, wr_28, wr_29, wr_30, wr_31, wr_32, wr_33, wr_34, wr_35, wr_36, wr_37, wr_38, wr_39, wr_40, wr_41, wr_42, wr_43, wr_44, wr_45, wr_46, wr_47, wr_48, wr_49, wr_50, wr_51, wr_52, wr_53, wr_54, wr_55, wr_56, wr_57, wr_58, wr_59, wr_60, wr_61, wr_62, wr_63, wr_64, wr_65, wr_66, wr_67, wr_68, wr_69, wr_70, wr_71, wr_72, wr_73, wr_74, wr_75, wr_76, wr_77, wr_78, wr_79, wr_80, wr_81, wr_82, wr_83, wr_84, wr_85, wr_86, wr_87, ww_v1, ww_v2, ww_v3, ww_v4, ww_g0, ww_gS, ww_t0, ww_tS, ww_s0, ww_sS, ww_s2, ww_w1, ww_w2, ww_w3, ww_b, ww_tg, ww_p1, ww_p2, ww_q0, ww_qS, ww_k1, ww_k2, ww_k3, ww_w0, ww_wS, ww_i1, ww_i2, ww_f0, ww_f1, ww_f2, ww_f4, ww_fd, ww_cl, ww_mc, ww_tk, ww_ci, ww_ak, ww_gv, ww_g1, ww_kcs, w_f1, w_f2, w_a1, w_a2, w_u_at, dm_244, List.elem_nil, List.elem_cons, List.map_nil, List.map_cons, List.sum_nil, List.sum_cons, Option.toList_none, Option.toList_some, List.nil_append, List.cons_append, true_and, and_true, implies_true, false_implies, if_true, if_false, reduceIte, reduceCtorEq, Bool.false_eq_true, Bool.and_false, Bool.false_and, Bool.and_self, Bool.and_true, Bool.true_and, Nat.reduceAdd, Nat.reduceBEq, Nat.reduceEqDiff, Nat.reduceLT, Nat.reduceLeDiff, Int.reduceAdd, Int.reduceNeg, Int.reduceToNat, Int.reduceLE, Int.reduceLT, Int.reduceSub, Int.cast_ofNat_Int, Int.reduceNatCast', Int.reduceNatCast, Nat.zero_add, Int.zero_add, and_self, false_and, and_false, or_false, false_or, true_or, or_true, not_true_eq_false, not_false_eq_true, at_167, at_168, w_i0, w_i1, w_i2, w_g_f, ctL_c, ctL_n, w_isRs, w_bds]
  (try simp only [am_rg] at hp); all_goals ((repeat' (first | refine And.intro ?_ ?_ | intro _)) <;> first | assumption | omega | (refine congrArg (fun z : Int => some (Sum.inl z)) ?_; (try unfold r_ans at *); (repeat' split) <;> first | rfl | omega) | (refine congrArg (w_f w 73 93) ?_; (try unfold r_ans at *); (repeat' split) <;> first | rfl | omega) | ((repeat' split) <;> first | rfl | omega))
theorem ok_244 : ww_cOk1 244 sp_244 := by
  intro as w fr pre r w1 e hp
  unfold sp_244 at e
  split at e
  · cases e
    exact lk_244 hp
  · cases e

def sp_246 : List am_V → W_ → Option (Nat × Prop × Option am_V × W_)
  | [.inr (.inr (.inl 73)), .inl x0], w => some (2, am_rg x0 ∧ 0 ≤ w.1 73 89 ∧ w.1 73 89 ≤ 60, some (.inl (if 0 ≤ x0 ∧ x0 < w.1 73 89 then w.2 124 x0.toNat else 0)), w_f w 73 93 (if 0 ≤ x0 ∧ x0 < w.1 73 89 then 0 else 1))
  | _, _ => none
theorem at_246 (x0 : Int) (w : W_) : sp_246 [.inr (.inr (.inl 73)), .inl x0] w = some (2, am_rg x0 ∧ 0 ≤ w.1 73 89 ∧ w.1 73 89 ≤ 60, some (.inl (if 0 ≤ x0 ∧ x0 < w.1 73 89 then w.2 124 x0.toNat else 0)), w_f w 73 93 (if 0 ≤ x0 ∧ x0 < w.1 73 89 then 0 else 1)) := rfl
set_option maxRecDepth 100000 in
set_option maxHeartbeats 4000000 in
theorem lk_246 {x0 : Int} {w : W_} (hp : am_rg x0 ∧ 0 ≤ w.1 73 89 ∧ w.1 73 89 ≤ 60) : ww_Ct 246 2 [.inr (.inr (.inl 73)), .inl x0] w fun r w' => r = some (.inl (if 0 ≤ x0 ∧ x0 < w.1 73 89 then w.2 124 x0.toNat else 0)) ∧ w' = w_f w 73 93 (if 0 ≤ x0 ∧ x0 < w.1 73 89 then 0 else 1) := by
  refine of_246 (ww_go (ctL_cons ok_167 (ctL_cons ok_168 ctL_nil)) 400 [] ?_)
  simp only [ww_S, ww_1, wr_0, wr_1, wr_2, wr_3, wr_4, wr_5, wr_6, wr_7, wr_8, wr_9, wr_10, wr_11, wr_12, wr_13, wr_14, wr_15, wr_16, wr_17, wr_18, wr_19, wr_20, wr_21, wr_22, wr_23, wr_24, wr_25, wr_26, wr_27, wr_28, wr_29, wr_30, wr_31, wr_32, wr_33, wr_34, wr_35, wr_36, wr_37, wr_38, wr_39, wr_40, wr_41, wr_42, wr_43, wr_44, wr_45, wr_46, wr_47, wr_48, wr_49, wr_50, wr_51, wr_52, wr_53, wr_54, wr_55, wr_56, wr_57, wr_58, wr_59, wr_60, wr_61, wr_62, wr_63, wr_64, wr_65, wr_66, wr_67, wr_68, wr_69, wr_70, wr_71, wr_72, wr_73, wr_74, wr_75, wr_76, wr_77, wr_78, wr_79, wr_80, wr_81, wr_82, wr_83, wr_84, wr_85, wr_86, wr_87, ww_v1, ww_v2, ww_v3, ww_v4, ww_g0, ww_gS, ww_t0, ww_tS, ww_s0, ww_sS, ww_s2, ww_w1, ww_w2, ww_w3, ww_b, ww_tg, ww_p1, ww_p2, ww_q0, ww_qS, ww_k1, ww_k2, ww_k3, ww_w0, ww_wS, ww_i1, ww_i2, ww_f0, ww_f1, ww_f2, ww_f4, ww_fd, ww_cl, ww_mc, ww_tk, ww_ci, ww_ak, ww_gv, ww_g1, ww_kcs, w_f1, w_f2, w_a1, w_a2, w_u_at, dm_246, List.elem_nil, List.elem_cons, List.map_nil, List.map_cons, List.sum_nil, List.sum_cons, Option.toList_none, Option.toList_some, List.nil_append, List.cons_append, true_and, and_true, implies_true, false_implies, if_true, if_false, reduceIte, reduceCtorEq, Bool.false_eq_true, Bool.and_false, Bool.false_and, Bool.and_self, Bool.and_true, Bool.true_and, Nat.reduceAdd, Nat.reduceBEq, Nat.reduceEqDiff, Nat.reduceLT, Nat.reduceLeDiff, Int.reduceAdd, Int.reduceNeg, Int.reduceToNat, Int.reduceLE, Int.reduceLT, Int.reduceSub, Int.cast_ofNat_Int, Int.reduceNatCast', Int.reduceNatCast, Nat.zero_add, Int.zero_add, and_self, false_and, and_false, or_false, false_or, true_or, or_true, not_true_eq_false, not_false_eq_true, at_167, at_168, w_i0, w_i1, w_i2, w_g_f, ctL_c, ctL_n, w_isRs, w_bds]
  (try simp only [am_rg] at hp); all_goals ((repeat' (first | refine And.intro ?_ ?_ | intro _)) <;> first | assumption | omega | (refine congrArg (fun z : Int => some (Sum.inl z)) ?_; (try unfold r_ans at *); (repeat' split) <;> first | rfl | omega) | (refine congrArg (w_f w 73 93) ?_; (try unfold r_ans at *); (repeat' split) <;> first | rfl | omega) | ((repeat' split) <;> first | rfl | omega))
theorem ok_246 : ww_cOk1 246 sp_246 := by
  intro as w fr pre r w1 e hp
  unfold sp_246 at e
  split at e
  · cases e
    exact lk_246 hp
  · cases e

def sp_248 : List am_V → W_ → Option (Nat × Prop × Option am_V × W_)
  | [.inr (.inr (.inl 73)), .inl x0], w => some (2, am_rg x0, some (.inl (if 0 ≤ x0 ∧ x0 ≤ 9 then w.2 126 x0.toNat else 0)), w_f w 73 93 (if 0 ≤ x0 ∧ x0 ≤ 9 then 0 else 1))
  | _, _ => none
theorem at_248 (x0 : Int) (w : W_) : sp_248 [.inr (.inr (.inl 73)), .inl x0] w = some (2, am_rg x0, some (.inl (if 0 ≤ x0 ∧ x0 ≤ 9 then w.2 126 x0.toNat else 0)), w_f w 73 93 (if 0 ≤ x0 ∧ x0 ≤ 9 then 0 else 1)) := rfl
set_option maxRecDepth 100000 in
set_option maxHeartbeats 4000000 in
theorem lk_248 {x0 : Int} {w : W_} (hp : am_rg x0) : ww_Ct 248 2 [.inr (.inr (.inl 73)), .inl x0] w fun r w' => r = some (.inl (if 0 ≤ x0 ∧ x0 ≤ 9 then w.2 126 x0.toNat else 0)) ∧ w' = w_f w 73 93 (if 0 ≤ x0 ∧ x0 ≤ 9 then 0 else 1) := by
  refine of_248 (ww_go (ctL_cons ok_167 (ctL_cons ok_168 ctL_nil)) 400 [] ?_)
  simp only [ww_S, ww_1, wr_0, wr_1, wr_2, wr_3, wr_4, wr_5, wr_6, wr_7, wr_8, wr_9, wr_10, wr_11, wr_12, wr_13, wr_14, wr_15, wr_16, wr_17, wr_18, wr_19, wr_20, wr_21, wr_22, wr_23, wr_24, wr_25, wr_26, wr_27, wr_28, wr_29, wr_30, wr_31, wr_32, wr_33, wr_34, wr_35, wr_36, wr_37, wr_38, wr_39, wr_40, wr_41, wr_42, wr_43, wr_44, wr_45, wr_46, wr_47, wr_48, wr_49, wr_50, wr_51, wr_52, wr_53, wr_54, wr_55, wr_56, wr_57, wr_58, wr_59, wr_60, wr_61, wr_62, wr_63, wr_64, wr_65, wr_66, wr_67, wr_68, wr_69, wr_70, wr_71, wr_72, wr_73, wr_74, wr_75, wr_76, wr_77, wr_78, wr_79, wr_80, wr_81, wr_82, wr_83, wr_84, wr_85, wr_86, wr_87, ww_v1, ww_v2, ww_v3, ww_v4, ww_g0, ww_gS, ww_t0, ww_tS, ww_s0, ww_sS, ww_s2, ww_w1, ww_w2, ww_w3, ww_b, ww_tg, ww_p1, ww_p2, ww_q0, ww_qS, ww_k1, ww_k2, ww_k3, ww_w0, ww_wS, ww_i1, ww_i2, ww_f0, ww_f1, ww_f2, ww_f4, ww_fd, ww_cl, ww_mc, ww_tk, ww_ci, ww_ak, ww_gv, ww_g1, ww_kcs, w_f1, w_f2, w_a1, w_a2, w_u_at, dm_248, List.elem_nil, List.elem_cons, List.map_nil, List.map_cons, List.sum_nil, List.sum_cons, Option.toList_none, Option.toList_some, List.nil_append, List.cons_append, true_and, and_true, implies_true, false_implies, if_true, if_false, reduceIte, reduceCtorEq, Bool.false_eq_true, Bool.and_false, Bool.false_and, Bool.and_self, Bool.and_true, Bool.true_and, Nat.reduceAdd, Nat.reduceBEq, Nat.reduceEqDiff, Nat.reduceLT, Nat.reduceLeDiff, Int.reduceAdd, Int.reduceNeg, Int.reduceToNat, Int.reduceLE, Int.reduceLT, Int.reduceSub, Int.cast_ofNat_Int, Int.reduceNatCast', Int.reduceNatCast, Nat.zero_add, Int.zero_add, and_self, false_and, and_false, or_false, false_or, true_or, or_true, not_true_eq_false, not_false_eq_true, at_167, at_168, w_i0, w_i1, w_i2, w_g_f, ctL_c, ctL_n, w_isRs, w_bds]
  (try simp only [am_rg] at hp); all_goals ((repeat' (first | refine And.intro ?_ ?_ | intro _)) <;> first | assumption | omega | (refine congrArg (fun z : Int => some (Sum.inl z)) ?_; (try unfold r_ans at *); (repeat' split) <;> first | rfl | omega) | (refine congrArg (w_f w 73 93) ?_; (try unfold r_ans at *); (repeat' split) <;> first | rfl | omega) | ((repeat' split) <;> first | rfl | omega))
theorem ok_248 : ww_cOk1 248 sp_248 := by
  intro as w fr pre r w1 e hp
  unfold sp_248 at e
  split at e
  · cases e
    exact lk_248 hp
  · cases e

abbrev r_ans (x0 x1 x2 : Int) : Prop := (24 ≤ x0 ∧ x0 ≤ 27) ∧ (x0 < 26 → 0 ≤ x1 ∧ x1 ≤ 9) ∧ (x0 = 24 → 0 ≤ x2 ∧ x2 ≤ 2)
def sp_247 : List am_V → W_ → Option (Nat × Prop × Option am_V × W_)
  | [.inr (.inr (.inl 73)), .inl x0, .inl x1, .inl x2], w => some (2, am_rg x0 ∧ am_rg x1 ∧ am_rg x2, some (.inl (if r_ans x0 x1 x2 then w.2 125 (if x0 = 24 then 3 * x1 + x2 else if x0 = 25 then 30 + x1 else if x0 = 26 then 40 else 41).toNat else 0)), w_f w 73 93 (if r_ans x0 x1 x2 then 0 else 1))
  | _, _ => none
theorem at_247 (x0 x1 x2 : Int) (w : W_) : sp_247 [.inr (.inr (.inl 73)), .inl x0, .inl x1, .inl x2] w = some (2, am_rg x0 ∧ am_rg x1 ∧ am_rg x2, some (.inl (if r_ans x0 x1 x2 then w.2 125 (if x0 = 24 then 3 * x1 + x2 else if x0 = 25 then 30 + x1 else if x0 = 26 then 40 else 41).toNat else 0)), w_f w 73 93 (if r_ans x0 x1 x2 then 0 else 1)) := rfl
set_option maxRecDepth 100000 in
set_option maxHeartbeats 4000000 in
theorem lk_247 {x0 x1 x2 : Int} {w : W_} (hp : am_rg x0 ∧ am_rg x1 ∧ am_rg x2) : ww_Ct 247 2 [.inr (.inr (.inl 73)), .inl x0, .inl x1, .inl x2] w fun r w' => r = some (.inl (if r_ans x0 x1 x2 then w.2 125 (if x0 = 24 then 3 * x1 + x2 else if x0 = 25 then 30 + x1 else if x0 = 26 then 40 else 41).toNat else 0)) ∧ w' = w_f w 73 93 (if r_ans x0 x1 x2 then 0 else 1) := by
  refine of_247 (ww_go (ctL_cons ok_167 (ctL_cons ok_168 ctL_nil)) 400 [] ?_)
  simp only [ww_S, ww_1, wr_0, wr_1, wr_2, wr_3, wr_4, wr_5, wr_6, wr_7, wr_8, wr_9, wr_10, wr_11, wr_12, wr_13, wr_14, wr_15, wr_16, wr_17, wr_18, wr_19, wr_20, wr_21, wr_22, wr_23, wr_24, wr_25, wr_26, wr_27, wr_28, wr_29, wr_30, wr_31, wr_32, wr_33, wr_34, wr_35, wr_36, wr_37, wr_38, wr_39, wr_40, wr_41, wr_42, wr_43, wr_44, wr_45, wr_46, wr_47, wr_48, wr_49, wr_50, wr_51, wr_52, wr_53, wr_54, wr_55, wr_56, wr_57, wr_58, wr_59, wr_60, wr_61, wr_62, wr_63, wr_64, wr_65, wr_66, wr_67, wr_68, wr_69, wr_70, wr_71, wr_72, wr_73, wr_74, wr_75, wr_76, wr_77, wr_78, wr_79, wr_80, wr_81, wr_82, wr_83, wr_84, wr_85, wr_86, wr_87, ww_v1, ww_v2, ww_v3, ww_v4, ww_g0, ww_gS, ww_t0, ww_tS, ww_s0, ww_sS, ww_s2, ww_w1, ww_w2, ww_w3, ww_b, ww_tg, ww_p1, ww_p2, ww_q0, ww_qS, ww_k1, ww_k2, ww_k3, ww_w0, ww_wS, ww_i1, ww_i2, ww_f0, ww_f1, ww_f2, ww_f4, ww_fd, ww_cl, ww_mc, ww_tk, ww_ci, ww_ak, ww_gv, ww_g1, ww_kcs, w_f1, w_f2, w_a1, w_a2, w_u_at, dm_247, List.elem_nil, List.elem_cons, List.map_nil, List.map_cons, List.sum_nil, List.sum_cons, Option.toList_none, Option.toList_some, List.nil_append, List.cons_append, true_and, and_true, implies_true, false_implies, if_true, if_false, reduceIte, reduceCtorEq, Bool.false_eq_true, Bool.and_false, Bool.false_and, Bool.and_self, Bool.and_true, Bool.true_and, Nat.reduceAdd, Nat.reduceBEq, Nat.reduceEqDiff, Nat.reduceLT, Nat.reduceLeDiff, Int.reduceAdd, Int.reduceNeg, Int.reduceToNat, Int.reduceLE, Int.reduceLT, Int.reduceSub, Int.cast_ofNat_Int, Int.reduceNatCast', Int.reduceNatCast, Nat.zero_add, Int.zero_add, and_self, false_and, and_false, or_false, false_or, true_or, or_true, not_true_eq_false, not_false_eq_true, at_167, at_168, w_i0, w_i1, w_i2, w_g_f, ctL_c, ctL_n, w_isRs, w_bds]
  (try simp only [am_rg] at hp); all_goals ((repeat' (first | refine And.intro ?_ ?_ | intro _)) <;> first | assumption | omega | (refine congrArg (fun z : Int => some (Sum.inl z)) ?_; (try unfold r_ans at *); (repeat' split) <;> first | rfl | omega) | (refine congrArg (w_f w 73 93) ?_; (try unfold r_ans at *); (repeat' split) <;> first | rfl | omega) | ((repeat' split) <;> first | rfl | omega))
theorem ok_247 : ww_cOk1 247 sp_247 := by
  intro as w fr pre r w1 e hp
  unfold sp_247 at e
  split at e
  · cases e
    exact lk_247 hp
  · cases e

