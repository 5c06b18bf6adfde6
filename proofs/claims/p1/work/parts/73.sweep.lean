/-! ===== the heap is swept: mark, moved, move ===== -/
def sp_36 : List am_V → W_ → Option (Nat × Prop × Option am_V × W_)
  | [.inr (.inr (.inl 13)), .inl x0, .inl x1], w => some (3, am_rg x0 ∧ (0 ≤ x1 ∧ x1 ≤ 262144) ∧ x0 < 30000 + 262144, none, (if 30000 + x1 ≤ x0 then w_a w 14 (x0 - 30000).toNat 1 else w))
  | _, _ => none
theorem at_36 (x0 x1 : Int) (w : W_) : sp_36 [.inr (.inr (.inl 13)), .inl x0, .inl x1] w = some (3, am_rg x0 ∧ (0 ≤ x1 ∧ x1 ≤ 262144) ∧ x0 < 30000 + 262144, none, (if 30000 + x1 ≤ x0 then w_a w 14 (x0 - 30000).toNat 1 else w)) := rfl
set_option maxRecDepth 100000 in
set_option maxHeartbeats 4000000 in
theorem lk_36 {x0 x1 : Int} {w : W_} (hp : am_rg x0 ∧ (0 ≤ x1 ∧ x1 ≤ 262144) ∧ x0 < 30000 + 262144) : ww_Ct 36 3 [.inr (.inr (.inl 13)), .inl x0, .inl x1] w fun r w' => r = none ∧ w' = (if 30000 + x1 ≤ x0 then w_a w 14 (x0 - 30000).toNat 1 else w) := by
  refine of_36 (ww_go (ctL_cons ok_69 ctL_nil) 400 [] ?_)
  simp only [ww_S, ww_1, wr_0, wr_1, wr_2, wr_3, wr_4, wr_5, wr_6, wr_7, wr_8, wr_9, wr_10, wr_11, wr_12, wr_13, wr_14, wr_15, wr_16, wr_17, wr_18, wr_19, wr_20, wr_21, wr_22, wr_23, wr_24, wr_25, wr_26, wr_27, wr_28, wr_29, wr_30, wr_31, wr_32, wr_33, wr_34, wr_35, wr_36, wr_37, wr_38, wr_39, wr_40, wr_41, wr_42, wr_43, wr_44, wr_45, wr_46, wr_47, wr_48, wr_49, wr_50, wr_51, wr_52, wr_53, wr_54, wr_55, wr_56, wr_57, wr_58, wr_59, wr_60, wr_61, wr_62, wr_63, wr_64, wr_65, wr_66, wr_67, wr_68, wr_69, wr_70, wr_71, wr_72, wr_73, wr_74, wr_75, wr_76, wr_77, wr_78, wr_79, wr_80, wr_81, wr_82, wr_83, wr_84, wr_85, wr_86, wr_87, ww_v1, ww_v2, ww_v3, ww_v4, ww_g0, ww_gS, ww_t0, ww_tS, ww_s0, ww_sS, ww_s2, ww_w1, ww_w2, ww_w3, ww_b, ww_tg, ww_p1, ww_p2, ww_q0, ww_qS, ww_k1, ww_k2, ww_k3, ww_w0, ww_wS, ww_i1, ww_i2, ww_f0, ww_f1, ww_f2, ww_f4, ww_fd, ww_cl, ww_mc, ww_tk, ww_ci, ww_ak, ww_gv, ww_g1, ww_kcs, w_f1, w_f2, w_a1, w_a2, w_u_at, dm_36, List.elem_nil, List.elem_cons, List.map_nil, List.map_cons, List.sum_nil, List.sum_cons, Option.toList_none, Option.toList_some, List.nil_append, List.cons_append, true_and, and_true, implies_true, false_implies, if_true, if_false, reduceIte, reduceCtorEq, Bool.false_eq_true, Bool.and_false, Bool.false_and, Bool.and_self, Bool.and_true, Bool.true_and, Nat.reduceAdd, Nat.reduceBEq, Nat.reduceEqDiff, Nat.reduceLT, Nat.reduceLeDiff, Int.reduceAdd, Int.reduceNeg, Int.reduceToNat, Int.reduceLE, Int.reduceLT, Int.reduceSub, Int.cast_ofNat_Int, Int.reduceNatCast', Int.reduceNatCast, Nat.zero_add, Int.zero_add, and_self, false_and, and_false, or_false, false_or, true_or, or_true, not_true_eq_false, not_false_eq_true, at_69, w_i0, w_i1, w_i2, w_g_f, ctL_c, ctL_n, w_isRs, w_bds]
  (try simp only [h_ok, h_cC, h_cF, h_w, h_nf, h_code, am_rg] at hp ⊢); all_goals ((repeat' (first | refine And.intro ?_ ?_ | intro _)) <;> first | assumption | trivial | omega | (refine congrArg (fun z : Int => some (Sum.inl z)) ?_; (repeat' split) <;> omega) | ((repeat' split) <;> first | rfl | omega))
theorem ok_36 : ww_cOk1 36 sp_36 := by
  intro as w fr pre r w1 e hp
  unfold sp_36 at e
  split at e
  · cases e
    exact lk_36 hp
  · cases e

/-- where a value is behind the sweep -/
def h_mvd (w : W_) (first x : Int) : Int := if x < 30000 + first then x else 30000 + w.2 14 (x - 30000).toNat - 1
def sp_38 : List am_V → W_ → Option (Nat × Prop × Option am_V × W_)
  | [.inr (.inr (.inl 13)), .inl x0, .inl x1], w => some (1, am_rg x0 ∧ (0 ≤ x1 ∧ x1 ≤ 262144), some (.inl (h_mvd w x1 x0)), w)
  | _, _ => none
theorem at_38 (x0 x1 : Int) (w : W_) : sp_38 [.inr (.inr (.inl 13)), .inl x0, .inl x1] w = some (1, am_rg x0 ∧ (0 ≤ x1 ∧ x1 ≤ 262144), some (.inl (h_mvd w x1 x0)), w) := rfl
set_option maxRecDepth 100000 in
set_option maxHeartbeats 4000000 in
theorem lk_38 {x0 x1 : Int} {w : W_} (hp : am_rg x0 ∧ (0 ≤ x1 ∧ x1 ≤ 262144)) : ww_Ct 38 1 [.inr (.inr (.inl 13)), .inl x0, .inl x1] w fun r w' => r = some (.inl (h_mvd w x1 x0)) ∧ w' = w := by
  refine of_38 (ww_go (ctL_cons ok_68 ctL_nil) 400 [] ?_)
  simp only [ww_S, ww_1, wr_0, wr_1, wr_2, wr_3, wr_4, wr_5, wr_6, wr_7, wr_8, wr_9, wr_10, wr_11, wr_12, wr_13, wr_14, wr_15, wr_16, wr_17, wr_18, wr_19, wr_20, wr_21, wr_22, wr_23, wr_24, wr_25, wr_26, wr_27, wr_28, wr_29, wr_30, wr_31, wr_32, wr_33, wr_34, wr_35, wr_36, wr_37, wr_38, wr_39, wr_40, wr_41, wr_42, wr_43, wr_44, wr_45, wr_46, wr_47, wr_48, wr_49, wr_50, wr_51, wr_52, wr_53, wr_54, wr_55, wr_56, wr_57, wr_58, wr_59, wr_60, wr_61, wr_62, wr_63, wr_64, wr_65, wr_66, wr_67, wr_68, wr_69, wr_70, wr_71, wr_72, wr_73, wr_74, wr_75, wr_76, wr_77, wr_78, wr_79, wr_80, wr_81, wr_82, wr_83, wr_84, wr_85, wr_86, wr_87, ww_v1, ww_v2, ww_v3, ww_v4, ww_g0, ww_gS, ww_t0, ww_tS, ww_s0, ww_sS, ww_s2, ww_w1, ww_w2, ww_w3, ww_b, ww_tg, ww_p1, ww_p2, ww_q0, ww_qS, ww_k1, ww_k2, ww_k3, ww_w0, ww_wS, ww_i1, ww_i2, ww_f0, ww_f1, ww_f2, ww_f4, ww_fd, ww_cl, ww_mc, ww_tk, ww_ci, ww_ak, ww_gv, ww_g1, ww_kcs, w_f1, w_f2, w_a1, w_a2, w_u_at, dm_38, List.elem_nil, List.elem_cons, List.map_nil, List.map_cons, List.sum_nil, List.sum_cons, Option.toList_none, Option.toList_some, List.nil_append, List.cons_append, true_and, and_true, implies_true, false_implies, if_true, if_false, reduceIte, reduceCtorEq, Bool.false_eq_true, Bool.and_false, Bool.false_and, Bool.and_self, Bool.and_true, Bool.true_and, Nat.reduceAdd, Nat.reduceBEq, Nat.reduceEqDiff, Nat.reduceLT, Nat.reduceLeDiff, Int.reduceAdd, Int.reduceNeg, Int.reduceToNat, Int.reduceLE, Int.reduceLT, Int.reduceSub, Int.cast_ofNat_Int, Int.reduceNatCast', Int.reduceNatCast, Nat.zero_add, Int.zero_add, and_self, false_and, and_false, or_false, false_or, true_or, or_true, not_true_eq_false, not_false_eq_true, at_68, w_i0, w_i1, w_i2, w_g_f, ctL_c, ctL_n, w_isRs, w_bds]
  obtain ⟨⟨ha, hb⟩, hc, hd⟩ := hp
  unfold h_mvd
  (repeat' (first | refine And.intro ?_ ?_ | intro _)) <;> first | omega | (rw [if_pos (by omega)]) | (rw [if_neg (by omega), w_g_pos (by omega)])
theorem ok_38 : ww_cOk1 38 sp_38 := by
  intro as w fr pre r w1 e hp
  unfold sp_38 at e
  split at e
  · cases e
    exact lk_38 hp
  · cases e

/-- a node goes to another place; n of its fields are there -/
def w_mv (w : W_) (fr to first n : Int) : W_ := (w.1, fun b k => if b = 13 ∧ 8 * to ≤ (k : Int) ∧ (k : Int) < 8 * to + n then
  (if (k : Int) - 8 * to = 1 ∨ (k : Int) - 8 * to = 2 then h_mvd w first (w.2 13 ((k : Int) - 8 * to + 8 * fr).toNat) else w.2 13 ((k : Int) - 8 * to + 8 * fr).toNat) else w.2 b k)
set_option maxRecDepth 100000 in
set_option maxHeartbeats 4000000 in
theorem lk_37 {fr to first : Int} {w : W_} (t0 : 0 ≤ to) (t1 : to ≤ fr) (f1 : fr < w.1 13 2) (c1 : w.1 13 2 ≤ 262144) (s0 : 0 ≤ first) (s1 : first ≤ 262144) (hr : am_rg (w.2 13 (8 * fr + 1).toNat) ∧ am_rg (w.2 13 (8 * fr + 2).toNat)) : ww_Ct 37 3 [.inr (.inr (.inl 13)), .inl fr, .inl to, .inl first] w fun r w' => r = none ∧ w' = w_mv w fr to first 8 := by
  refine of_37 (ww_go (ctL_cons ok_18 (ctL_cons ok_19 (ctL_cons ok_38 ctL_nil))) 100 [3] ?_)
  simp only [ww_S, ww_1, wr_0, wr_1, wr_2, wr_3, wr_4, wr_5, wr_6, wr_7, wr_8, wr_9, wr_10, wr_11, wr_12, wr_13, wr_14, wr_15, wr_16, wr_17, wr_18, wr_19, wr_20, wr_21, wr_22, wr_23, wr_24, wr_25, wr_26, wr_27, wr_28, wr_29, wr_30, wr_31, wr_32, wr_33, wr_34, wr_35, wr_36, wr_37, wr_38, wr_39, wr_40, wr_41, wr_42, wr_43, wr_44, wr_45, wr_46, wr_47, wr_48, wr_49, wr_50, wr_51, wr_52, wr_53, wr_54, wr_55, wr_56, wr_57, wr_58, wr_59, wr_60, wr_61, wr_62, wr_63, wr_64, wr_65, wr_66, wr_67, wr_68, wr_69, wr_70, wr_71, wr_72, wr_73, wr_74, wr_75, wr_76, wr_77, wr_78, wr_79, wr_80, wr_81, wr_82, wr_83, wr_84, wr_85, wr_86, wr_87, ww_v1, ww_v2, ww_v3, ww_v4, ww_g0, ww_gS, ww_t0, ww_tS, ww_s0, ww_sS, ww_s2, ww_w1, ww_w2, ww_w3, ww_b, ww_tg, ww_p1, ww_p2, ww_q0, ww_qS, ww_k1, ww_k2, ww_k3, ww_w0, ww_wS, ww_i1, ww_i2, ww_f0, ww_f1, ww_f2, ww_f4, ww_fd, ww_cl, ww_mc, ww_tk, ww_ci, ww_ak, ww_gv, ww_g1, ww_kcs, w_f1, w_f2, w_a1, w_a2, w_u_at, dm_37, List.elem_nil, List.elem_cons, List.map_nil, List.map_cons, List.sum_nil, List.sum_cons, Option.toList_none, Option.toList_some, List.nil_append, List.cons_append, true_and, and_true, implies_true, false_implies, if_true, if_false, reduceIte, reduceCtorEq, Bool.false_eq_true, Bool.and_false, Bool.false_and, Bool.and_self, Bool.and_true, Bool.true_and, Nat.reduceAdd, Nat.reduceBEq, Nat.reduceEqDiff, Nat.reduceLT, Nat.reduceLeDiff, Int.reduceAdd, Int.reduceNeg, Int.reduceToNat, Int.reduceLE, Int.reduceLT, Int.reduceSub, Int.cast_ofNat_Int, Int.reduceNatCast', Int.reduceNatCast, Nat.zero_add, Int.zero_add, and_self, false_and, and_false, or_false, false_or, true_or, or_true, not_true_eq_false, not_false_eq_true, at_18, at_19, at_38, ctL_c, ctL_n]
  refine ww_loop (P := fun n ls w' => ∃ (i : Int) (v : am_V), 0 ≤ i ∧ i ≤ 8 ∧ n = (8 - i).toNat ∧ am_two v = false ∧ ls = [.inr (.inr (.inl 13)), .inl fr, .inl to, .inl first, .inl i, v] ∧ w' = w_mv w fr to first i) ?_ 8 _ _ ⟨0, am_X, by omega, by omega, by omega, rfl, rfl, ?_⟩
  · rintro n ls w' ⟨i, v, i0, i1, hn, hv, rfl, rfl⟩ ih
    have h14 : (w_mv w fr to first i).2 14 = w.2 14 := by
      funext k
      show (if (14 : Nat) = 13 ∧ 8 * to ≤ (k : Int) ∧ (k : Int) < 8 * to + i then (if (k : Int) - 8 * to = 1 ∨ (k : Int) - 8 * to = 2 then h_mvd w first (w.2 13 ((k : Int) - 8 * to + 8 * fr).toNat) else w.2 13 ((k : Int) - 8 * to + 8 * fr).toNat) else w.2 14 k) = w.2 14 k
      exact if_neg (fun q => absurd q.1 (by decide))
    have hrd : i < 8 → w_h (w_mv w fr to first i) (30000 + fr) i.toNat = w.2 13 (8 * fr + i).toNat := by
      intro c
      unfold w_h w_mv
      dsimp only
      have e : ((30000 + fr - 30000) * 8 + (i.toNat : Int)).toNat = (8 * fr + i).toNat := by omega
      rw [if_neg (by omega), e, if_neg (by omega)]
    have hmv : ∀ x, h_mvd (w_mv w fr to first i) first x = h_mvd w first x := by
      intro x
      unfold h_mvd
      rw [h14]
    have hst : i < 8 → ∀ y, y = (if i = 1 ∨ i = 2 then h_mvd w first (w.2 13 (8 * fr + i).toNat) else w.2 13 (8 * fr + i).toNat) → w_a (w_mv w fr to first i) 13 ((30000 + to - 30000) * 8 + i).toNat y = w_mv w fr to first (i + 1) := by
      rintro c y rfl
      refine Prod.ext rfl ?_
      funext b k
      show (if b = 13 ∧ k = ((30000 + to - 30000) * 8 + i).toNat then (if i = 1 ∨ i = 2 then h_mvd w first (w.2 13 (8 * fr + i).toNat) else w.2 13 (8 * fr + i).toNat) else if b = 13 ∧ 8 * to ≤ (k : Int) ∧ (k : Int) < 8 * to + i then (if (k : Int) - 8 * to = 1 ∨ (k : Int) - 8 * to = 2 then h_mvd w first (w.2 13 ((k : Int) - 8 * to + 8 * fr).toNat) else w.2 13 ((k : Int) - 8 * to + 8 * fr).toNat) else w.2 b k) = if b = 13 ∧ 8 * to ≤ (k : Int) ∧ (k : Int) < 8 * to + (i + 1) then (if (k : Int) - 8 * to = 1 ∨ (k : Int) - 8 * to = 2 then h_mvd w first (w.2 13 ((k : Int) - 8 * to + 8 * fr).toNat) else w.2 13 ((k : Int) - 8 * to + 8 * fr).toNat) else w.2 b k
      by_cases c1 : b = 13 ∧ k = ((30000 + to - 30000) * 8 + i).toNat
      · have e1 : (k : Int) - 8 * to = i := by omega
        have e2 : ((k : Int) - 8 * to + 8 * fr).toNat = (8 * fr + i).toNat := by omega
        rw [if_pos c1, if_pos (c := b = 13 ∧ 8 * to ≤ (k : Int) ∧ (k : Int) < 8 * to + (i + 1)) ⟨c1.1, by omega, by omega⟩, e2, e1]
      · rw [if_neg c1]
        by_cases c2 : b = 13 ∧ 8 * to ≤ (k : Int) ∧ (k : Int) < 8 * to + i
        · rw [if_pos c2, if_pos (c := b = 13 ∧ 8 * to ≤ (k : Int) ∧ (k : Int) < 8 * to + (i + 1)) ⟨c2.1, c2.2.1, by omega⟩]
        · rw [if_neg c2, if_neg (fun q => c2 ⟨q.1, q.2.1, by
            apply Int.lt_of_not_ge
            intro z
            exact c1 ⟨q.1, by omega⟩⟩)]
    refine ww_go1 (ctL_cons ok_18 (ctL_cons ok_19 (ctL_cons ok_38 ctL_nil))) 100 [3] ?_
    have hc : (w_mv w fr to first i).1 13 2 = w.1 13 2 := rfl
    simp only [ww_S, ww_1, wr_0, wr_1, wr_2, wr_3, wr_4, wr_5, wr_6, wr_7, wr_8, wr_9, wr_10, wr_11, wr_12, wr_13, wr_14, wr_15, wr_16, wr_17, wr_18, wr_19, wr_20, wr_21, wr_22, wr_23, wr_24, wr_25, wr_26, wr_27, wr_28, wr_29, wr_30, wr_31, wr_32, wr_33, wr_34, wr_35, wr_36, wr_37, wr_38, wr_39, wr_40, wr_41, wr_42, wr_43, wr_44, wr_45, wr_46, wr_47, wr_48, wr_49, wr_50, wr_51, wr_52, wr_53, wr_54, wr_55, wr_56, wr_57, wr_58, wr_59, wr_60, wr_61, wr_62, wr_63, wr_64, wr_65, wr_66, wr_67, wr_68, wr_69, wr_70, wr_71, wr_72, wr_73, wr_74, wr_75, wr_76, wr_77, wr_78, wr_79, wr_80, wr_81, wr_82, wr_83, wr_84, wr_85, wr_86, wr_87, ww_v1, ww_v2, ww_v3, ww_v4, ww_g0, ww_gS, ww_t0, ww_tS, ww_s0, ww_sS, ww_s2, ww_w1, ww_w2, ww_w3, ww_b, ww_tg, ww_p1, ww_p2, ww_q0, ww_qS, ww_k1, ww_k2, ww_k3, ww_w0, ww_wS, ww_i1, ww_i2, ww_f0, ww_f1, ww_f2, ww_f4, ww_fd, ww_cl, ww_mc, ww_tk, ww_ci, ww_ak, ww_gv, ww_g1, ww_kcs, w_f1, w_f2, w_a1, w_a2, w_u_at, dm_37, List.elem_nil, List.elem_cons, List.map_nil, List.map_cons, List.sum_nil, List.sum_cons, Option.toList_none, Option.toList_some, List.nil_append, List.cons_append, true_and, and_true, implies_true, false_implies, if_true, if_false, reduceIte, reduceCtorEq, Bool.false_eq_true, Bool.and_false, Bool.false_and, Bool.and_self, Bool.and_true, Bool.true_and, Nat.reduceAdd, Nat.reduceBEq, Nat.reduceEqDiff, Nat.reduceLT, Nat.reduceLeDiff, Int.reduceAdd, Int.reduceNeg, Int.reduceToNat, Int.reduceLE, Int.reduceLT, Int.reduceSub, Int.cast_ofNat_Int, Int.reduceNatCast', Int.reduceNatCast, Nat.zero_add, Int.zero_add, and_self, false_and, and_false, or_false, false_or, true_or, or_true, not_true_eq_false, not_false_eq_true, at_18, at_19, at_38, ctL_c, ctL_n, hv, hc]
    refine ⟨⟨by omega, by omega⟩, ⟨by omega, by omega⟩, fun q => ?_, fun q => ?_⟩
    · have e : i = 8 := by omega
      rw [e]
    · have hi : i < 8 := by omega
      have hr' := hrd hi
      refine ⟨⟨⟨by omega, by omega⟩, by omega, by omega⟩, ⟨by omega, by omega⟩, ⟨by decide, by decide⟩, fun e => ?_, fun e => ⟨⟨by omega, by omega⟩, ⟨by decide, by decide⟩, fun e2 => ?_, fun e2 => ?_⟩⟩
      · have hv1 : am_rg (w_h (w_mv w fr to first i) (30000 + fr) i.toNat) := by
          rw [hr', e]
          exact hr.1
        refine ⟨⟨hv1, s0, s1⟩, ⟨⟨by omega, by omega⟩, by omega, by omega⟩, ?_⟩
        rw [hmv, hr', hst hi _ (by rw [if_pos (Or.inl e)])]
        exact ih _ _ _ (by omega) ⟨i + 1, _, by omega, by omega, rfl, rfl, rfl, rfl⟩
      · refine ⟨⟨⟨by omega, by omega⟩, by omega, by omega⟩, ?_⟩
        rw [hr', hst hi _ (by rw [if_neg (by omega)])]
        exact ih _ _ _ (by omega) ⟨i + 1, _, by omega, by omega, rfl, rfl, rfl, rfl⟩
      · have e3 : i = 2 := Classical.byContradiction e2
        have hv1 : am_rg (w_h (w_mv w fr to first i) (30000 + fr) i.toNat) := by
          rw [hr', e3]
          exact hr.2
        refine ⟨⟨hv1, s0, s1⟩, ⟨⟨by omega, by omega⟩, by omega, by omega⟩, ?_⟩
        rw [hmv, hr', hst hi _ (by rw [if_pos (Or.inr e3)])]
        exact ih _ _ _ (by omega) ⟨i + 1, _, by omega, by omega, rfl, rfl, rfl, rfl⟩
  · refine Prod.ext rfl ?_
    funext b k
    show w.2 b k = if b = 13 ∧ 8 * to ≤ (k : Int) ∧ (k : Int) < 8 * to + 0 then _ else w.2 b k
    rw [if_neg (by omega)]
