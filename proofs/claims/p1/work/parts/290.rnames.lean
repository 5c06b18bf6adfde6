/-! ===== the reference: rows of names ===== -/
theorem w_l0 (x y : Int) : am_rg (if y < x then (1 : Int) else if x = y then 0 else -1) = True := by
  refine eq_true ?_
  unfold am_rg
  (repeat' split) <;> omega
theorem w_l1 (x y : Int) : (0 ≤ (if y < x then (1 : Int) else if x = y then 0 else -1)) = (y ≤ x) := by
  refine propext ?_
  (repeat' split) <;> omega
theorem w_l2 (x y : Int) : ((if y < x then (1 : Int) else if x = y then 0 else -1) ≤ 0) = (x ≤ y) := by
  refine propext ?_
  (repeat' split) <;> omega
theorem w_l3 (x y : Int) : ((if y < x then (1 : Int) else if x = y then 0 else -1) < 0) = (x < y) := by
  refine propext ?_
  (repeat' split) <;> omega
theorem w_l4 (x y : Int) : (0 < (if y < x then (1 : Int) else if x = y then 0 else -1)) = (y < x) := by
  refine propext ?_
  (repeat' split) <;> omega
theorem w_l5 (x y : Int) : ((if y < x then (1 : Int) else if x = y then 0 else -1) = 0) = (x = y) := by
  refine propext ?_
  (repeat' split) <;> omega
def sp_184 : List am_V → W_ → Option (Nat × Prop × Option am_V × W_)
  | [.inr (.inl x0)], w => some (0, am_rl x0, some (.inl (b9 x0)), w)
  | _, _ => none
theorem at_184 (x0 : Int) (w : W_) : sp_184 [.inr (.inl x0)] w = some (0, am_rl x0, some (.inl (b9 x0)), w) := rfl
set_option maxRecDepth 100000 in
set_option maxHeartbeats 4000000 in
theorem lk_184 {x0 : Int} {w : W_} (hp : am_rl x0) : ww_Ct 184 0 [.inr (.inl x0)] w fun r w' => r = some (.inl (b9 x0)) ∧ w' = w := by
  refine of_184 (ww_go ctL_nil 400 [] ?_)
  simp only [ww_S, ww_1, wr_0, wr_1, wr_2, wr_3, wr_4, wr_5, wr_6, wr_7, wr_8, wr_9, wr_10, wr_11, wr_12, wr_13, wr_14, wr_15, wr_16, wr_17, wr_18, wr_19, wr_20, wr_21, wr_22, wr_23, wr_24, wr_25, wr_26, wr_27, wr_28, wr_29, wr_30, wr_31, wr_32, wr_33, wr_34, wr_35, wr_36, wr_37, wr_38, wr_39, wr_40, wr_41, wr_42, wr_43, wr_44, wr_45, wr_46, wr_47, wr_48, wr_49, wr_50, wr_51, wr_52, wr_53, wr_54, wr_55, wr_56, wr_57, wr_58, wr_59, wr_60, wr_61, wr_62, wr_63, wr_64, wr_65, wr_66, wr_67, wr_68, wr_69, wr_70, wr_71, wr_72, wr_73, wr_74, wr_75, wr_76, wr_77, wr_78, wr_79, wr_80, wr_81, wr_82, wr_83, wr_84, wr_85, wr_86, wr_87, ww_v1, ww_v2, ww_v3, ww_v4, ww_g0, ww_gS, ww_t0, ww_tS, ww_s0, ww_sS, ww_s2, ww_w1, ww_w2, ww_w3, ww_b, ww_tg, ww_p1, ww_p2, ww_q0, ww_qS, ww_k1, ww_k2, ww_k3, ww_w0, ww_wS, ww_i1, ww_i2, ww_f0, ww_f1, ww_f2, ww_f4, ww_fd, ww_cl, ww_mc, ww_tk, ww_ci, ww_ak, ww_gv, ww_g1, ww_kcs, w_f1, w_f2, w_a1, w_a2, w_u_at, dm_184, List.elem_nil, List.elem_cons, List.map_nil, List.map_cons, List.sum_nil, List.sum_cons, Option.toList_none, Option.toList_some, List.nil_append, List.cons_append, true_and, and_true, implies_true, false_implies, if_true, if_false, reduceIte, reduceCtorEq, Bool.false_eq_true, Bool.and_false, Bool.false_and, Bool.and_self, Bool.and_true, Bool.true_and, Nat.reduceAdd, Nat.reduceBEq, Nat.reduceEqDiff, Nat.reduceLT, Nat.reduceLeDiff, Int.reduceAdd, Int.reduceNeg, Int.reduceToNat, Int.reduceLE, Int.reduceLT, Int.reduceSub, Int.cast_ofNat_Int, Int.reduceNatCast', Int.reduceNatCast, Nat.zero_add, Int.zero_add, and_self, false_and, and_false, or_false, false_or, true_or, or_true, not_true_eq_false, not_false_eq_true, w_l0, w_l1, w_l2, w_l3, w_l4, w_l5, w_i0, w_i1, w_i2, w_g_f, ctL_c, ctL_n, w_isRs, w_bds]
  (try unfold am_rl at *); (try unfold b9); all_goals ((repeat' (first | refine And.intro ?_ ?_ | intro _)) <;> first | assumption | omega | (refine congrArg (fun z : Int => some (Sum.inl z)) ?_; (repeat' split) <;> omega))
theorem ok_184 : ww_cOk1 184 sp_184 := by
  intro as w fr pre r w1 e hp
  unfold sp_184 at e
  split at e
  · cases e
    exact lk_184 hp
  · cases e

theorem w_fill_S {w : W_} {a i j : Nat} {x : Int} (h : i ≤ j) : w_a (w_fill w a i j x) a j x = w_fill w a i (j + 1) x := by
  refine Prod.ext rfl ?_
  funext b k
  show (if b = a ∧ k = j then x else if b = a ∧ i ≤ k ∧ k < j then x else w.2 b k) = if b = a ∧ i ≤ k ∧ k < j + 1 then x else w.2 b k
  by_cases c : b = a ∧ i ≤ k ∧ k < j + 1
  · rw [if_pos c]
    by_cases c2 : b = a ∧ k = j
    · rw [if_pos c2]
    · rw [if_neg c2, if_pos (by omega)]
  · rw [if_neg c, if_neg (by omega), if_neg (by omega)]
/-- a new row of names, none told -/
def r_new (w : W_) : W_ := w_f (w_fill w 84 (10 * w.1 73 15).toNat (10 * w.1 73 15 + 10).toNat 6) 73 15 (w.1 73 15 + 1)
def sp_185 : List am_V → W_ → Option (Nat × Prop × Option am_V × W_)
  | [.inr (.inr (.inl 73))], w => some (0, 0 ≤ w.1 73 15 ∧ w.1 73 15 < 2048, some (.inl (w.1 73 15)), r_new w)
  | _, _ => none
theorem at_185 (w : W_) : sp_185 [.inr (.inr (.inl 73))] w = some (0, 0 ≤ w.1 73 15 ∧ w.1 73 15 < 2048, some (.inl (w.1 73 15)), r_new w) := rfl
set_option maxRecDepth 100000 in
set_option maxHeartbeats 4000000 in
theorem lk_185 {w : W_} (hp : 0 ≤ w.1 73 15 ∧ w.1 73 15 < 2048) : ww_Ct 185 0 [.inr (.inr (.inl 73))] w fun r w' => r = some (.inl (w.1 73 15)) ∧ w' = r_new w := by
  obtain ⟨h0, h1⟩ := hp
  refine of_185 (ww_go ctL_nil 100 [2] ?_)
  simp only [ww_S, ww_1, wr_0, wr_1, wr_2, wr_3, wr_4, wr_5, wr_6, wr_7, wr_8, wr_9, wr_10, wr_11, wr_12, wr_13, wr_14, wr_15, wr_16, wr_17, wr_18, wr_19, wr_20, wr_21, wr_22, wr_23, wr_24, wr_25, wr_26, wr_27, wr_28, wr_29, wr_30, wr_31, wr_32, wr_33, wr_34, wr_35, wr_36, wr_37, wr_38, wr_39, wr_40, wr_41, wr_42, wr_43, wr_44, wr_45, wr_46, wr_47, wr_48, wr_49, wr_50, wr_51, wr_52, wr_53, wr_54, wr_55, wr_56, wr_57, wr_58, wr_59, wr_60, wr_61, wr_62, wr_63, wr_64, wr_65, wr_66, wr_67, wr_68, wr_69, wr_70, wr_71, wr_72, wr_73, wr_74, wr_75, wr_76, wr_77, wr_78, wr_79, wr_80, wr_81, wr_82, wr_83, wr_84, wr_85, wr_86, wr_87, ww_v1, ww_v2, ww_v3, ww_v4, ww_g0, ww_gS, ww_t0, ww_tS, ww_s0, ww_sS, ww_s2, ww_w1, ww_w2, ww_w3, ww_b, ww_tg, ww_p1, ww_p2, ww_q0, ww_qS, ww_k1, ww_k2, ww_k3, ww_w0, ww_wS, ww_i1, ww_i2, ww_f0, ww_f1, ww_f2, ww_f4, ww_fd, ww_cl, ww_mc, ww_tk, ww_ci, ww_ak, ww_gv, ww_g1, ww_kcs, w_f1, w_f2, w_a1, w_a2, w_u_at, dm_185, List.elem_nil, List.elem_cons, List.map_nil, List.map_cons, List.sum_nil, List.sum_cons, Option.toList_none, Option.toList_some, List.nil_append, List.cons_append, true_and, and_true, implies_true, false_implies, if_true, if_false, reduceIte, reduceCtorEq, Bool.false_eq_true, Bool.and_false, Bool.false_and, Bool.and_self, Bool.and_true, Bool.true_and, Nat.reduceAdd, Nat.reduceBEq, Nat.reduceEqDiff, Nat.reduceLT, Nat.reduceLeDiff, Int.reduceAdd, Int.reduceNeg, Int.reduceToNat, Int.reduceLE, Int.reduceLT, Int.reduceSub, Int.cast_ofNat_Int, Int.reduceNatCast', Int.reduceNatCast, Nat.zero_add, Int.zero_add, and_self, false_and, and_false, or_false, false_or, true_or, or_true, not_true_eq_false, not_false_eq_true]
  refine ww_loop (P := fun n ls w' => ∃ i : Int, 0 ≤ i ∧ i ≤ 10 ∧ n = (10 - i).toNat ∧ ls = [.inr (.inr (.inl 73)), .inl i] ∧ w' = w_fill w 84 (10 * w.1 73 15).toNat (10 * w.1 73 15 + i).toNat 6) ?_ 10 _ _ ⟨0, by omega, by omega, by omega, rfl, by rw [w_fill_0 (by omega)]⟩
  rintro n ls w' ⟨i, i0, i1, hn, rfl, rfl⟩ ih
  refine ww_go1 ctL_nil 100 [2] ?_
  simp only [ww_S, ww_1, wr_0, wr_1, wr_2, wr_3, wr_4, wr_5, wr_6, wr_7, wr_8, wr_9, wr_10, wr_11, wr_12, wr_13, wr_14, wr_15, wr_16, wr_17, wr_18, wr_19, wr_20, wr_21, wr_22, wr_23, wr_24, wr_25, wr_26, wr_27, wr_28, wr_29, wr_30, wr_31, wr_32, wr_33, wr_34, wr_35, wr_36, wr_37, wr_38, wr_39, wr_40, wr_41, wr_42, wr_43, wr_44, wr_45, wr_46, wr_47, wr_48, wr_49, wr_50, wr_51, wr_52, wr_53, wr_54, wr_55, wr_56, wr_57, wr_58, wr_59, wr_60, wr_61, wr_62, wr_63, wr_64, wr_65, wr_66, wr_67, wr_68, wr_69, wr_70, wr_71, wr_72, wr_73, wr_74, wr_75, wr_76, wr_77, wr_78, wr_79, wr_80, wr_81, wr_82, wr_83, wr_84, wr_85, wr_86, wr_87, ww_v1, ww_v2, ww_v3, ww_v4, ww_g0, ww_gS, ww_t0, ww_tS, ww_s0, ww_sS, ww_s2, ww_w1, ww_w2, ww_w3, ww_b, ww_tg, ww_p1, ww_p2, ww_q0, ww_qS, ww_k1, ww_k2, ww_k3, ww_w0, ww_wS, ww_i1, ww_i2, ww_f0, ww_f1, ww_f2, ww_f4, ww_fd, ww_cl, ww_mc, ww_tk, ww_ci, ww_ak, ww_gv, ww_g1, ww_kcs, w_f1, w_f2, w_a1, w_a2, w_u_at, dm_185, List.elem_nil, List.elem_cons, List.map_nil, List.map_cons, List.sum_nil, List.sum_cons, Option.toList_none, Option.toList_some, List.nil_append, List.cons_append, true_and, and_true, implies_true, false_implies, if_true, if_false, reduceIte, reduceCtorEq, Bool.false_eq_true, Bool.and_false, Bool.false_and, Bool.and_self, Bool.and_true, Bool.true_and, Nat.reduceAdd, Nat.reduceBEq, Nat.reduceEqDiff, Nat.reduceLT, Nat.reduceLeDiff, Int.reduceAdd, Int.reduceNeg, Int.reduceToNat, Int.reduceLE, Int.reduceLT, Int.reduceSub, Int.cast_ofNat_Int, Int.reduceNatCast', Int.reduceNatCast, Nat.zero_add, Int.zero_add, and_self, false_and, and_false, or_false, false_or, true_or, or_true, not_true_eq_false, not_false_eq_true, w_fill1]
  refine ⟨⟨by omega, by omega⟩, ⟨by omega, by omega⟩, fun q => ?_, fun q => ⟨by omega, by omega, ?_⟩⟩
  · have e : i = 10 := by omega
    subst e
    refine ⟨?_, rfl⟩
    congr 2
    omega
  · refine ih (10 - (i + 1)).toNat _ _ (by omega) ⟨i + 1, by omega, by omega, rfl, rfl, ?_⟩
    have e : (10 * w.1 73 15 + (i + 1)).toNat = (10 * w.1 73 15 + i).toNat + 1 := by omega
    rw [e, w_fill_S (by omega)]
theorem ok_185 : ww_cOk1 185 sp_185 := by
  intro as w fr pre r w1 e hp
  unfold sp_185 at e
  split at e
  · cases e
    exact lk_185 hp
  · cases e

/-- a row of names as another one is -/
def r_copy (w : W_) (x : Int) : W_ := w_f (w.1, fun b k => if b = 84 ∧ 10 * w.1 73 15 ≤ (k : Int) ∧ (k : Int) < 10 * w.1 73 15 + 10 then w.2 84 ((k : Int) - 10 * w.1 73 15 + 10 * x).toNat else w.2 b k) 73 15 (w.1 73 15 + 1)
/-- the first i of them are there -/
def r_cpi (w : W_) (x i : Int) : W_ := w_f (w.1, fun b k => if b = 84 ∧ 10 * w.1 73 15 ≤ (k : Int) ∧ (k : Int) < 10 * w.1 73 15 + i then w.2 84 ((k : Int) - 10 * w.1 73 15 + 10 * x).toNat else if b = 84 ∧ 10 * w.1 73 15 + i ≤ (k : Int) ∧ (k : Int) < 10 * w.1 73 15 + 10 then 6 else w.2 b k) 73 15 (w.1 73 15 + 1)
def sp_186 : List am_V → W_ → Option (Nat × Prop × Option am_V × W_)
  | [.inr (.inr (.inl 73)), .inl x0], w => some (1, (0 ≤ w.1 73 15 ∧ w.1 73 15 < 2048) ∧ 0 ≤ x0 ∧ x0 < w.1 73 15, some (.inl (w.1 73 15)), r_copy w x0)
  | _, _ => none
theorem at_186 (x0 : Int) (w : W_) : sp_186 [.inr (.inr (.inl 73)), .inl x0] w = some (1, (0 ≤ w.1 73 15 ∧ w.1 73 15 < 2048) ∧ 0 ≤ x0 ∧ x0 < w.1 73 15, some (.inl (w.1 73 15)), r_copy w x0) := rfl
set_option maxRecDepth 100000 in
set_option maxHeartbeats 4000000 in
theorem lk_186 {x0 : Int} {w : W_} (hp : (0 ≤ w.1 73 15 ∧ w.1 73 15 < 2048) ∧ 0 ≤ x0 ∧ x0 < w.1 73 15) : ww_Ct 186 1 [.inr (.inr (.inl 73)), .inl x0] w fun r w' => r = some (.inl (w.1 73 15)) ∧ w' = r_copy w x0 := by
  obtain ⟨⟨h0, h1⟩, h2, h3⟩ := hp
  refine of_186 (ww_go (ctL_cons ok_185 ctL_nil) 100 [7] ?_)
  simp only [ww_S, ww_1, wr_0, wr_1, wr_2, wr_3, wr_4, wr_5, wr_6, wr_7, wr_8, wr_9, wr_10, wr_11, wr_12, wr_13, wr_14, wr_15, wr_16, wr_17, wr_18, wr_19, wr_20, wr_21, wr_22, wr_23, wr_24, wr_25, wr_26, wr_27, wr_28, wr_29, wr_30, wr_31, wr_32, wr_33, wr_34, wr_35, wr_36, wr_37, wr_38, wr_39, wr_40, wr_41, wr_42, wr_43, wr_44, wr_45, wr_46, wr_47, wr_48, wr_49, wr_50, wr_51, wr_52, wr_53, wr_54, wr_55, wr_56, wr_57, wr_58, wr_59, wr_60, wr_61, wr_62, wr_63, wr_64, wr_65, wr_66, wr_67, wr_68, wr_69, wr_70, wr_71, wr_72, wr_73, wr_74, wr_75, wr_76, wr_77, wr_78, wr_79, wr_80, wr_81, wr_82, wr_83, wr_84, wr_85, wr_86, wr_87, ww_v1, ww_v2, ww_v3, ww_v4, ww_g0, ww_gS, ww_t0, ww_tS, ww_s0, ww_sS, ww_s2, ww_w1, ww_w2, ww_w3, ww_b, ww_tg, ww_p1, ww_p2, ww_q0, ww_qS, ww_k1, ww_k2, ww_k3, ww_w0, ww_wS, ww_i1, ww_i2, ww_f0, ww_f1, ww_f2, ww_f4, ww_fd, ww_cl, ww_mc, ww_tk, ww_ci, ww_ak, ww_gv, ww_g1, ww_kcs, w_f1, w_f2, w_a1, w_a2, w_u_at, dm_186, List.elem_nil, List.elem_cons, List.map_nil, List.map_cons, List.sum_nil, List.sum_cons, Option.toList_none, Option.toList_some, List.nil_append, List.cons_append, true_and, and_true, implies_true, false_implies, if_true, if_false, reduceIte, reduceCtorEq, Bool.false_eq_true, Bool.and_false, Bool.false_and, Bool.and_self, Bool.and_true, Bool.true_and, Nat.reduceAdd, Nat.reduceBEq, Nat.reduceEqDiff, Nat.reduceLT, Nat.reduceLeDiff, Int.reduceAdd, Int.reduceNeg, Int.reduceToNat, Int.reduceLE, Int.reduceLT, Int.reduceSub, Int.cast_ofNat_Int, Int.reduceNatCast', Int.reduceNatCast, Nat.zero_add, Int.zero_add, and_self, false_and, and_false, or_false, false_or, true_or, or_true, not_true_eq_false, not_false_eq_true, at_185, ctL_c, ctL_n]
  refine ⟨⟨h0, h1⟩, ?_⟩
  refine ww_loop (P := fun n ls w' => ∃ i : Int, 0 ≤ i ∧ i ≤ 10 ∧ n = (10 - i).toNat ∧ ls = [.inr (.inr (.inl 73)), .inl x0, .inl (w.1 73 15), .inl i] ∧ w' = r_cpi w x0 i) ?_ 10 _ _ ⟨0, by omega, by omega, by omega, rfl, ?_⟩
  · rintro n ls w' ⟨i, i0, i1, hn, rfl, rfl⟩ ih
    refine ww_go1 (ctL_cons ok_185 ctL_nil) 100 [7] ?_
    have hr : i < 10 → (r_cpi w x0 i).2 84 (10 * x0 + i).toNat = w.2 84 (10 * x0 + i).toNat := by
      intro c
      show (if 84 = 84 ∧ 10 * w.1 73 15 ≤ (((10 * x0 + i).toNat : Nat) : Int) ∧ (((10 * x0 + i).toNat : Nat) : Int) < 10 * w.1 73 15 + i then w.2 84 ((((10 * x0 + i).toNat : Nat) : Int) - 10 * w.1 73 15 + 10 * x0).toNat else if 84 = 84 ∧ 10 * w.1 73 15 + i ≤ (((10 * x0 + i).toNat : Nat) : Int) ∧ (((10 * x0 + i).toNat : Nat) : Int) < 10 * w.1 73 15 + 10 then 6 else w.2 84 (10 * x0 + i).toNat) = _
      rw [if_neg (by omega), if_neg (by omega)]
    simp only [ww_S, ww_1, wr_0, wr_1, wr_2, wr_3, wr_4, wr_5, wr_6, wr_7, wr_8, wr_9, wr_10, wr_11, wr_12, wr_13, wr_14, wr_15, wr_16, wr_17, wr_18, wr_19, wr_20, wr_21, wr_22, wr_23, wr_24, wr_25, wr_26, wr_27, wr_28, wr_29, wr_30, wr_31, wr_32, wr_33, wr_34, wr_35, wr_36, wr_37, wr_38, wr_39, wr_40, wr_41, wr_42, wr_43, wr_44, wr_45, wr_46, wr_47, wr_48, wr_49, wr_50, wr_51, wr_52, wr_53, wr_54, wr_55, wr_56, wr_57, wr_58, wr_59, wr_60, wr_61, wr_62, wr_63, wr_64, wr_65, wr_66, wr_67, wr_68, wr_69, wr_70, wr_71, wr_72, wr_73, wr_74, wr_75, wr_76, wr_77, wr_78, wr_79, wr_80, wr_81, wr_82, wr_83, wr_84, wr_85, wr_86, wr_87, ww_v1, ww_v2, ww_v3, ww_v4, ww_g0, ww_gS, ww_t0, ww_tS, ww_s0, ww_sS, ww_s2, ww_w1, ww_w2, ww_w3, ww_b, ww_tg, ww_p1, ww_p2, ww_q0, ww_qS, ww_k1, ww_k2, ww_k3, ww_w0, ww_wS, ww_i1, ww_i2, ww_f0, ww_f1, ww_f2, ww_f4, ww_fd, ww_cl, ww_mc, ww_tk, ww_ci, ww_ak, ww_gv, ww_g1, ww_kcs, w_f1, w_f2, w_a1, w_a2, w_u_at, dm_186, List.elem_nil, List.elem_cons, List.map_nil, List.map_cons, List.sum_nil, List.sum_cons, Option.toList_none, Option.toList_some, List.nil_append, List.cons_append, true_and, and_true, implies_true, false_implies, if_true, if_false, reduceIte, reduceCtorEq, Bool.false_eq_true, Bool.and_false, Bool.false_and, Bool.and_self, Bool.and_true, Bool.true_and, Nat.reduceAdd, Nat.reduceBEq, Nat.reduceEqDiff, Nat.reduceLT, Nat.reduceLeDiff, Int.reduceAdd, Int.reduceNeg, Int.reduceToNat, Int.reduceLE, Int.reduceLT, Int.reduceSub, Int.cast_ofNat_Int, Int.reduceNatCast', Int.reduceNatCast, Nat.zero_add, Int.zero_add, and_self, false_and, and_false, or_false, false_or, true_or, or_true, not_true_eq_false, not_false_eq_true, at_185, ctL_c, ctL_n]
    refine ⟨⟨by omega, by omega⟩, ⟨by omega, by omega⟩, fun q => ?_, fun q => ⟨by omega, by omega, by omega, by omega, ?_⟩⟩
    · have e : i = 10 := by omega
      subst e
      unfold r_cpi r_copy
      refine Prod.ext rfl ?_
      funext b k
      show (if b = 84 ∧ 10 * w.1 73 15 ≤ (k : Int) ∧ (k : Int) < 10 * w.1 73 15 + 10 then w.2 84 ((k : Int) - 10 * w.1 73 15 + 10 * x0).toNat else if b = 84 ∧ 10 * w.1 73 15 + 10 ≤ (k : Int) ∧ (k : Int) < 10 * w.1 73 15 + 10 then 6 else w.2 b k) = if b = 84 ∧ 10 * w.1 73 15 ≤ (k : Int) ∧ (k : Int) < 10 * w.1 73 15 + 10 then w.2 84 ((k : Int) - 10 * w.1 73 15 + 10 * x0).toNat else w.2 b k
      by_cases c : b = 84 ∧ 10 * w.1 73 15 ≤ (k : Int) ∧ (k : Int) < 10 * w.1 73 15 + 10
      · rw [if_pos c, if_pos c]
      · rw [if_neg c, if_neg c, if_neg (by omega)]
    · refine ih (10 - (i + 1)).toNat _ _ (by omega) ⟨i + 1, by omega, by omega, rfl, rfl, ?_⟩
      rw [hr (by omega)]
      refine Prod.ext rfl ?_
      funext b k
      show (if b = 84 ∧ k = (10 * w.1 73 15 + i).toNat then w.2 84 (10 * x0 + i).toNat else if b = 84 ∧ 10 * w.1 73 15 ≤ (k : Int) ∧ (k : Int) < 10 * w.1 73 15 + i then w.2 84 ((k : Int) - 10 * w.1 73 15 + 10 * x0).toNat else if b = 84 ∧ 10 * w.1 73 15 + i ≤ (k : Int) ∧ (k : Int) < 10 * w.1 73 15 + 10 then 6 else w.2 b k) = if b = 84 ∧ 10 * w.1 73 15 ≤ (k : Int) ∧ (k : Int) < 10 * w.1 73 15 + (i + 1) then w.2 84 ((k : Int) - 10 * w.1 73 15 + 10 * x0).toNat else if b = 84 ∧ 10 * w.1 73 15 + (i + 1) ≤ (k : Int) ∧ (k : Int) < 10 * w.1 73 15 + 10 then 6 else w.2 b k
      by_cases c1 : b = 84 ∧ k = (10 * w.1 73 15 + i).toNat
      · have e : ((k : Int) - 10 * w.1 73 15 + 10 * x0).toNat = (10 * x0 + i).toNat := by omega
        rw [if_pos c1, if_pos (by omega), e]
      · rw [if_neg c1]
        by_cases c2 : b = 84 ∧ 10 * w.1 73 15 ≤ (k : Int) ∧ (k : Int) < 10 * w.1 73 15 + i
        · rw [if_pos c2, if_pos (by omega)]
        · by_cases c3 : b = 84 ∧ 10 * w.1 73 15 + i ≤ (k : Int) ∧ (k : Int) < 10 * w.1 73 15 + 10
          · rw [if_neg c2, if_pos c3, if_neg (by omega), if_pos (by omega)]
          · rw [if_neg c2, if_neg c3, if_neg (by omega), if_neg (by omega)]
  · refine Prod.ext rfl ?_
    funext b k
    show (if b = 84 ∧ (10 * w.1 73 15).toNat ≤ k ∧ k < (10 * w.1 73 15 + 10).toNat then 6 else w.2 b k) = if b = 84 ∧ 10 * w.1 73 15 ≤ (k : Int) ∧ (k : Int) < 10 * w.1 73 15 + 0 then w.2 84 ((k : Int) - 10 * w.1 73 15 + 10 * x0).toNat else if b = 84 ∧ 10 * w.1 73 15 + 0 ≤ (k : Int) ∧ (k : Int) < 10 * w.1 73 15 + 10 then 6 else w.2 b k
    rw [if_neg (c := b = 84 ∧ 10 * w.1 73 15 ≤ (k : Int) ∧ (k : Int) < 10 * w.1 73 15 + 0) (by omega)]
    by_cases c : b = 84 ∧ (10 * w.1 73 15).toNat ≤ k ∧ k < (10 * w.1 73 15 + 10).toNat
    · rw [if_pos c, if_pos (by omega)]
    · rw [if_neg c, if_neg (by omega)]
theorem ok_186 : ww_cOk1 186 sp_186 := by
  intro as w fr pre r w1 e hp
  unfold sp_186 at e
  split at e
  · cases e
    exact lk_186 hp
  · cases e

