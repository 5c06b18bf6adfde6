/-! ===== more contracts as functions ===== -/
def sp_71 : w_SP
  | [.inr (.inr (.inl a)), .inr (.inr (.inl b)), .inl x], w => some (3, w_isR a = true ∧ w_isR b = true ∧ a ≠ b ∧ 0 ≤ x ∧ x ≤ w_bd a, none, w_cpy w a b x)
  | _, _ => none
theorem at_71 (a b : Nat) (x : Int) (w : W_) : sp_71 [.inr (.inr (.inl a)), .inr (.inr (.inl b)), .inl x] w = some (3, w_isR a = true ∧ w_isR b = true ∧ a ≠ b ∧ 0 ≤ x ∧ x ≤ w_bd a, none, w_cpy w a b x) := rfl
theorem ok_71 : ww_cOk1 71 sp_71 := by
  intro as w fr pre r w1 e hp
  unfold sp_71 at e
  split at e
  · cases e
    exact lk_71 hp.1 hp.2.1 hp.2.2.1 hp.2.2.2.1 hp.2.2.2.2
  · cases e
def sp_52 : w_SP
  | [.inr (.inr (.inl 10)), .inl x, .inr (.inr (.inl 48))], w => some (3, 0 ≤ x ∧ x < 60, none, w_tnum w x 10)
  | _, _ => none
theorem at_52 (x : Int) (w : W_) : sp_52 [.inr (.inr (.inl 10)), .inl x, .inr (.inr (.inl 48))] w = some (3, 0 ≤ x ∧ x < 60, none, w_tnum w x 10) := rfl
theorem ok_52 : ww_cOk1 52 sp_52 := by
  intro as w fr pre r w1 e hp
  unfold sp_52 at e
  split at e
  · cases e
    exact lk_52 hp.1 hp.2
  · cases e
def sp_194 : List am_V → W_ → Option (Nat × Prop × Option am_V × W_)
  | [.inr (.inr (.inl 73)), .inl x0], w => some (1, am_rg x0 ∧ (x0 % 8 = 4 → 0 ≤ x0 / 8 ∧ x0 / 8 < 2048), some (.inl (if x0 % 8 = 3 then 1 else if x0 % 8 = 4 then w.2 91 (x0 / 8).toNat else 0)), w)
  | _, _ => none
theorem at_194 (x0 : Int) (w : W_) : sp_194 [.inr (.inr (.inl 73)), .inl x0] w = some (1, am_rg x0 ∧ (x0 % 8 = 4 → 0 ≤ x0 / 8 ∧ x0 / 8 < 2048), some (.inl (if x0 % 8 = 3 then 1 else if x0 % 8 = 4 then w.2 91 (x0 / 8).toNat else 0)), w) := rfl
set_option maxRecDepth 100000 in
set_option maxHeartbeats 4000000 in
theorem lk_194 {x0 : Int} {w : W_} (hp : am_rg x0 ∧ (x0 % 8 = 4 → 0 ≤ x0 / 8 ∧ x0 / 8 < 2048)) : ww_Ct 194 1 [.inr (.inr (.inl 73)), .inl x0] w fun r w' => r = some (.inl (if x0 % 8 = 3 then 1 else if x0 % 8 = 4 then w.2 91 (x0 / 8).toNat else 0)) ∧ w' = w := by
  refine of_194 (ww_go (ctL_cons ok_182 (ctL_cons ok_183 ctL_nil)) 400 [] ?_)
  simp only [ww_S, ww_1, wr_0, wr_1, wr_2, wr_3, wr_4, wr_5, wr_6, wr_7, wr_8, wr_9, wr_10, wr_11, wr_12, wr_13, wr_14, wr_15, wr_16, wr_17, wr_18, wr_19, wr_20, wr_21, wr_22, wr_23, wr_24, wr_25, wr_26, wr_27, wr_28, wr_29, wr_30, wr_31, wr_32, wr_33, wr_34, wr_35, wr_36, wr_37, wr_38, wr_39, wr_40, wr_41, wr_42, wr_43, wr_44, wr_45, wr_46, wr_47, wr_48, wr_49, wr_50, wr_51, wr_52, wr_53, wr_54, wr_55, wr_56, wr_57, wr_58, wr_59, wr_60, wr_61, wr_62, wr_63, wr_64, wr_65, wr_66, wr_67, wr_68, wr_69, wr_70, wr_71, wr_72, wr_73, wr_74, wr_75, wr_76, wr_77, wr_78, wr_79, wr_80, wr_81, wr_82, wr_83, wr_84, wr_85, wr_86, wr_87, ww_v1, ww_v2, ww_v3, ww_v4, ww_g0, ww_gS, ww_t0, ww_tS, ww_s0, ww_sS, ww_s2, ww_w1, ww_w2, ww_w3, ww_b, ww_tg, ww_p1, ww_p2, ww_q0, ww_qS, ww_k1, ww_k2, ww_k3, ww_w0, ww_wS, ww_i1, ww_i2, ww_f0, ww_f1, ww_f2, ww_f4, ww_fd, ww_cl, ww_mc, ww_tk, ww_ci, ww_ak, ww_gv, ww_g1, ww_kcs, w_f1, w_f2, w_a1, w_a2, w_u_at, dm_194, List.elem_nil, List.elem_cons, List.map_nil, List.map_cons, List.sum_nil, List.sum_cons, Option.toList_none, Option.toList_some, List.nil_append, List.cons_append, true_and, and_true, implies_true, false_implies, if_true, if_false, reduceIte, reduceCtorEq, Bool.false_eq_true, Bool.and_false, Bool.false_and, Bool.and_self, Bool.and_true, Bool.true_and, Nat.reduceAdd, Nat.reduceBEq, Nat.reduceEqDiff, Nat.reduceLT, Nat.reduceLeDiff, Int.reduceAdd, Int.reduceNeg, Int.reduceToNat, Int.reduceLE, Int.reduceLT, Int.reduceSub, Int.cast_ofNat_Int, Int.reduceNatCast', Int.reduceNatCast, Nat.zero_add, Int.zero_add, and_self, false_and, and_false, or_false, false_or, true_or, or_true, not_true_eq_false, not_false_eq_true, at_182, at_183, w_i0, w_i1, w_i2, w_g_f, ctL_c, ctL_n, w_isRs, w_bds]
  (try simp only [h_ok, h_cC, h_cF, h_w, h_nf, h_code, am_rg] at hp ⊢); all_goals ((repeat' (first | refine And.intro ?_ ?_ | intro _)) <;> first | assumption | trivial | omega | (refine congrArg (fun z : Int => some (Sum.inl z)) ?_; (repeat' split) <;> omega) | ((repeat' split) <;> first | rfl | omega))
theorem ok_194 : ww_cOk1 194 sp_194 := by
  intro as w fr pre r w1 e hp
  unfold sp_194 at e
  split at e
  · cases e
    exact lk_194 hp
  · cases e

def sp_112 : List am_V → W_ → Option (Nat × Prop × Option am_V × W_)
  | [.inr (.inr (.inl 50)), .inl x0], w => some (4, 0 ≤ w.1 33 1 ∧ w.1 33 1 < 24000, none, w_f (w_a (w_a (w_fill (w_fill (w_f (w_f (w_f (w_f (w_f (w_f (w_f (w_f w 50 7 0) 50 8 0) 50 9 1) 50 10 0) 50 11 0) 50 12 0) 50 13 0) 50 14 0) 18 42 45 0) 34 (w.1 33 1 * 13).toNat (w.1 33 1 * 13 + 13).toNat 0) 34 (w.1 33 1 * 13 + 0).toNat 7) 34 (w.1 33 1 * 13 + 1).toNat x0) 33 1 (w.1 33 1 + 1))
  | _, _ => none
theorem at_112 (x0 : Int) (w : W_) : sp_112 [.inr (.inr (.inl 50)), .inl x0] w = some (4, 0 ≤ w.1 33 1 ∧ w.1 33 1 < 24000, none, w_f (w_a (w_a (w_fill (w_fill (w_f (w_f (w_f (w_f (w_f (w_f (w_f (w_f w 50 7 0) 50 8 0) 50 9 1) 50 10 0) 50 11 0) 50 12 0) 50 13 0) 50 14 0) 18 42 45 0) 34 (w.1 33 1 * 13).toNat (w.1 33 1 * 13 + 13).toNat 0) 34 (w.1 33 1 * 13 + 0).toNat 7) 34 (w.1 33 1 * 13 + 1).toNat x0) 33 1 (w.1 33 1 + 1)) := rfl
set_option maxRecDepth 100000 in
set_option maxHeartbeats 4000000 in
theorem lk_112 {x0 : Int} {w : W_} (hp : 0 ≤ w.1 33 1 ∧ w.1 33 1 < 24000) : ww_Ct 112 4 [.inr (.inr (.inl 50)), .inl x0] w fun r w' => r = none ∧ w' = w_f (w_a (w_a (w_fill (w_fill (w_f (w_f (w_f (w_f (w_f (w_f (w_f (w_f w 50 7 0) 50 8 0) 50 9 1) 50 10 0) 50 11 0) 50 12 0) 50 13 0) 50 14 0) 18 42 45 0) 34 (w.1 33 1 * 13).toNat (w.1 33 1 * 13 + 13).toNat 0) 34 (w.1 33 1 * 13 + 0).toNat 7) 34 (w.1 33 1 * 13 + 1).toNat x0) 33 1 (w.1 33 1 + 1) := by
  refine of_112 (ww_go (ctL_cons ok_70 (ctL_cons ok_11 ctL_nil)) 400 [] ?_)
  simp only [ww_S, ww_1, wr_0, wr_1, wr_2, wr_3, wr_4, wr_5, wr_6, wr_7, wr_8, wr_9, wr_10, wr_11, wr_12, wr_13, wr_14, wr_15, wr_16, wr_17, wr_18, wr_19, wr_20, wr_21, wr_22, wr_23, wr_24, wr_25, wr_26, wr_27, wr_28, wr_29, wr_30, wr_31, wr_32, wr_33, wr_34, wr_35, wr_36, wr_37, wr_38, wr_39, wr_40, wr_41, wr_42, wr_43, wr_44, wr_45, wr_46, wr_47, wr_48, wr_49, wr_50, wr_51, wr_52, wr_53, wr_54, wr_55, wr_56, wr_57, wr_58, wr_59, wr_60, wr_61, wr_62, wr_63, wr_64, wr_65, wr_66, wr_67, wr_68, wr_69, wr_70, wr_71, wr_72, wr_73, wr_74, wr_75, wr_76, wr_77, wr_78, wr_79, wr_80, wr_81, wr_82, wr_83, wr_84, wr_85, wr_86, wr_87, ww_v1, ww_v2, ww_v3, ww_v4, ww_g0, ww_gS, ww_t0, ww_tS, ww_s0, ww_sS, ww_s2, ww_w1, ww_w2, ww_w3, ww_b, ww_tg, ww_p1, ww_p2, ww_q0, ww_qS, ww_k1, ww_k2, ww_k3, ww_w0, ww_wS, ww_i1, ww_i2, ww_f0, ww_f1, ww_f2, ww_f4, ww_fd, ww_cl, ww_mc, ww_tk, ww_ci, ww_ak, ww_gv, ww_g1, ww_kcs, w_f1, w_f2, w_a1, w_a2, w_u_at, dm_112, List.elem_nil, List.elem_cons, List.map_nil, List.map_cons, List.sum_nil, List.sum_cons, Option.toList_none, Option.toList_some, List.nil_append, List.cons_append, true_and, and_true, implies_true, false_implies, if_true, if_false, reduceIte, reduceCtorEq, Bool.false_eq_true, Bool.and_false, Bool.false_and, Bool.and_self, Bool.and_true, Bool.true_and, Nat.reduceAdd, Nat.reduceBEq, Nat.reduceEqDiff, Nat.reduceLT, Nat.reduceLeDiff, Int.reduceAdd, Int.reduceNeg, Int.reduceToNat, Int.reduceLE, Int.reduceLT, Int.reduceSub, Int.cast_ofNat_Int, Int.reduceNatCast', Int.reduceNatCast, Nat.zero_add, Int.zero_add, and_self, false_and, and_false, or_false, false_or, true_or, or_true, not_true_eq_false, not_false_eq_true, at_70, at_11, w_fill1, w_i0, w_i1, w_i2, w_g_f, ctL_c, ctL_n, w_isRs, w_bds]
  (try simp only [h_ok, h_cC, h_cF, h_w, h_nf, h_code, am_rg] at hp ⊢); all_goals ((repeat' (first | refine And.intro ?_ ?_ | intro _)) <;> first | assumption | trivial | omega | (refine congrArg (fun z : Int => some (Sum.inl z)) ?_; (repeat' split) <;> omega) | ((repeat' split) <;> first | rfl | omega))
theorem ok_112 : ww_cOk1 112 sp_112 := by
  intro as w fr pre r w1 e hp
  unfold sp_112 at e
  split at e
  · cases e
    exact lk_112 hp
  · cases e

