/-! ===== the runner and the setter: small methods ===== -/
theorem w_kn_f {w : W_} {a j : Nat} {x : Int} (h : w_kn w) (ha : a ≠ 17 ∧ a ≠ 24 ∧ a ≠ 55 ∧ a ≠ 64) : w_kn (w_f w a j x) := by
  have e : (w_f w a j x).1 17 7 = w.1 17 7 := by rw [w_f1, w_u_at, if_neg (fun q => ha.1 q.1.symm)]
  have eo : w_o (w_f w a j x) = w_o w := by unfold w_o; rw [e]
  have ho := h.2
  have e5 : (w_f w a j x).1 (w_o w) 5 = w.1 (w_o w) 5 := by
    rw [w_f1, w_u_at, if_neg]
    rintro ⟨q, -⟩
    unfold w_o at q
    omega
  unfold w_kn
  rw [eo, e5, e]
  exact h
theorem w_kn_a {w : W_} {a i : Nat} {x : Int} (h : w_kn w) : w_kn (w_a w a i x) := h
def sp_99 : List am_V → W_ → Option (Nat × Prop × Option am_V × W_)
  | [.inr (.inr (.inl 41))], w => some (2, (0 ≤ w.1 33 1 ∧ w.1 33 1 < 24000) ∧ am_rg (w.1 41 15) ∧ am_rg (w_g w 34 ((w.1 33 1 - 1) * 13 + 9)), some (.inl (w.1 41 15 - w.1 41 14)), w_f (w_f (w_f w 41 15 (if w.1 41 15 < w_g w 34 ((w.1 33 1 - 1) * 13 + 9) then w_g w 34 ((w.1 33 1 - 1) * 13 + 9) else w.1 41 15)) 41 14 (w.1 41 14 - 1)) 41 12 (w.1 41 12 - 1))
  | _, _ => none
theorem at_99 (w : W_) : sp_99 [.inr (.inr (.inl 41))] w = some (2, (0 ≤ w.1 33 1 ∧ w.1 33 1 < 24000) ∧ am_rg (w.1 41 15) ∧ am_rg (w_g w 34 ((w.1 33 1 - 1) * 13 + 9)), some (.inl (w.1 41 15 - w.1 41 14)), w_f (w_f (w_f w 41 15 (if w.1 41 15 < w_g w 34 ((w.1 33 1 - 1) * 13 + 9) then w_g w 34 ((w.1 33 1 - 1) * 13 + 9) else w.1 41 15)) 41 14 (w.1 41 14 - 1)) 41 12 (w.1 41 12 - 1)) := rfl
set_option maxRecDepth 100000 in
set_option maxHeartbeats 4000000 in
theorem lk_99 {w : W_} (hp : (0 ≤ w.1 33 1 ∧ w.1 33 1 < 24000) ∧ am_rg (w.1 41 15) ∧ am_rg (w_g w 34 ((w.1 33 1 - 1) * 13 + 9))) : ww_Ct 99 2 [.inr (.inr (.inl 41))] w fun r w' => r = some (.inl (w.1 41 15 - w.1 41 14)) ∧ w' = w_f (w_f (w_f w 41 15 (if w.1 41 15 < w_g w 34 ((w.1 33 1 - 1) * 13 + 9) then w_g w 34 ((w.1 33 1 - 1) * 13 + 9) else w.1 41 15)) 41 14 (w.1 41 14 - 1)) 41 12 (w.1 41 12 - 1) := by
  refine of_99 (ww_go (ctL_cons ok_13 ctL_nil) 400 [] ?_)
  simp only [ww_S, ww_1, wr_0, wr_1, wr_2, wr_3, wr_4, wr_5, wr_6, wr_7, wr_8, wr_9, wr_10, wr_11, wr_12, wr_13, wr_14, wr_15, wr_16, wr_17, wr_18, wr_19, wr_20, wr_21, wr_22, wr_23, wr_24, wr_25, wr_26, wr_27, wr_28, wr_29, wr_30, wr_31, wr_32, wr_33, wr_34, wr_35, wr_36, wr_37, wr_38, wr_39, wr_40, wr_41, wr_42, wr_43, wr_44, wr_45, wr_46, wr_47, wr_48, wr_49, wr_50, wr_51, wr_52, wr_53, wr_54, wr_55, wr_56, wr_57, wr_58, wr_59, wr_60, wr_61, wr_62, wr_63, wr_64, wr_65, wr_66, wr_67, wr_68, wr_69, wr_70, wr_71, wr_72, wr_73, wr_74, wr_75, wr_76, wr_77, wr_78, wr_79, wr_80, wr_81, wr_82, wr_83, wr_84, wr_85, wr_86, wr_87, ww_v1, ww_v2, ww_v3, ww_v4, ww_g0, ww_gS, ww_t0, ww_tS, ww_s0, ww_sS, ww_s2, ww_w1, ww_w2, ww_w3, ww_b, ww_tg, ww_p1, ww_p2, ww_q0, ww_qS, ww_k1, ww_k2, ww_k3, ww_w0, ww_wS, ww_i1, ww_i2, ww_f0, ww_f1, ww_f2, ww_f4, ww_fd, ww_cl, ww_mc, ww_tk, ww_ci, ww_ak, ww_gv, ww_g1, ww_kcs, w_f1, w_f2, w_a1, w_a2, w_u_at, dm_99, List.elem_nil, List.elem_cons, List.map_nil, List.map_cons, List.sum_nil, List.sum_cons, Option.toList_none, Option.toList_some, List.nil_append, List.cons_append, true_and, and_true, implies_true, false_implies, if_true, if_false, reduceIte, reduceCtorEq, Bool.false_eq_true, Bool.and_false, Bool.false_and, Bool.and_self, Bool.and_true, Bool.true_and, Nat.reduceAdd, Nat.reduceBEq, Nat.reduceEqDiff, Nat.reduceLT, Nat.reduceLeDiff, Int.reduceAdd, Int.reduceNeg, Int.reduceToNat, Int.reduceLE, Int.reduceLT, Int.reduceSub, Int.cast_ofNat_Int, Int.reduceNatCast', Int.reduceNatCast, Nat.zero_add, Int.zero_add, and_self, false_and, and_false, or_false, false_or, true_or, or_true, not_true_eq_false, not_false_eq_true, at_13, w_i0, w_i1, w_i2, w_g_f, ctL_c, ctL_n, w_isRs, w_bds]
  (try simp only [h_ok, h_cC, h_cF, h_w, h_nf, h_code, am_rg] at hp ⊢); all_goals ((repeat' (first | refine And.intro ?_ ?_ | intro _)) <;> first | assumption | trivial | omega | (refine congrArg (fun z : Int => some (Sum.inl z)) ?_; (repeat' split) <;> omega) | ((repeat' split) <;> first | rfl | omega))
theorem ok_99 : ww_cOk1 99 sp_99 := by
  intro as w fr pre r w1 e hp
  unfold sp_99 at e
  split at e
  · cases e
    exact lk_99 hp
  · cases e

def sp_91 : List am_V → W_ → Option (Nat × Prop × Option am_V × W_)
  | [.inr (.inr (.inl 41)), .inl x0], w => some (4, (0 ≤ w.1 41 13 ∧ w.1 41 13 < 24000) ∧ am_rg (w_g w 34 (w.1 41 13 * 13 + 5)) ∧ (0 ≤ w.1 13 2 ∧ w.1 13 2 < 262144), none, w_f (w_a (if w_g w 34 (w.1 41 13 * 13 + 5) = 20003 then w else w_mk w 8 (w_g w 34 (w.1 41 13 * 13 + 5)) x0 0 0) 34 (w.1 41 13 * 13 + 5).toNat (if w_g w 34 (w.1 41 13 * 13 + 5) = 20003 then x0 else 30000 + w.1 13 2)) 41 11 20003)
  | _, _ => none
theorem at_91 (x0 : Int) (w : W_) : sp_91 [.inr (.inr (.inl 41)), .inl x0] w = some (4, (0 ≤ w.1 41 13 ∧ w.1 41 13 < 24000) ∧ am_rg (w_g w 34 (w.1 41 13 * 13 + 5)) ∧ (0 ≤ w.1 13 2 ∧ w.1 13 2 < 262144), none, w_f (w_a (if w_g w 34 (w.1 41 13 * 13 + 5) = 20003 then w else w_mk w 8 (w_g w 34 (w.1 41 13 * 13 + 5)) x0 0 0) 34 (w.1 41 13 * 13 + 5).toNat (if w_g w 34 (w.1 41 13 * 13 + 5) = 20003 then x0 else 30000 + w.1 13 2)) 41 11 20003) := rfl
set_option maxRecDepth 100000 in
set_option maxHeartbeats 4000000 in
theorem lk_91 {x0 : Int} {w : W_} (hp : (0 ≤ w.1 41 13 ∧ w.1 41 13 < 24000) ∧ am_rg (w_g w 34 (w.1 41 13 * 13 + 5)) ∧ (0 ≤ w.1 13 2 ∧ w.1 13 2 < 262144)) : ww_Ct 91 4 [.inr (.inr (.inl 41)), .inl x0] w fun r w' => r = none ∧ w' = w_f (w_a (if w_g w 34 (w.1 41 13 * 13 + 5) = 20003 then w else w_mk w 8 (w_g w 34 (w.1 41 13 * 13 + 5)) x0 0 0) 34 (w.1 41 13 * 13 + 5).toNat (if w_g w 34 (w.1 41 13 * 13 + 5) = 20003 then x0 else 30000 + w.1 13 2)) 41 11 20003 := by
  obtain ⟨⟨h0, h1⟩, h2, h3⟩ := hp
  refine of_91 (ww_go (ctL_cons ok_15 (ctL_cons ok_16 (ctL_cons ok_28 ctL_nil))) 200 [] ?_)
  simp only [ww_S, ww_1, wr_0, wr_1, wr_2, wr_3, wr_4, wr_5, wr_6, wr_7, wr_8, wr_9, wr_10, wr_11, wr_12, wr_13, wr_14, wr_15, wr_16, wr_17, wr_18, wr_19, wr_20, wr_21, wr_22, wr_23, wr_24, wr_25, wr_26, wr_27, wr_28, wr_29, wr_30, wr_31, wr_32, wr_33, wr_34, wr_35, wr_36, wr_37, wr_38, wr_39, wr_40, wr_41, wr_42, wr_43, wr_44, wr_45, wr_46, wr_47, wr_48, wr_49, wr_50, wr_51, wr_52, wr_53, wr_54, wr_55, wr_56, wr_57, wr_58, wr_59, wr_60, wr_61, wr_62, wr_63, wr_64, wr_65, wr_66, wr_67, wr_68, wr_69, wr_70, wr_71, wr_72, wr_73, wr_74, wr_75, wr_76, wr_77, wr_78, wr_79, wr_80, wr_81, wr_82, wr_83, wr_84, wr_85, wr_86, wr_87, ww_v1, ww_v2, ww_v3, ww_v4, ww_g0, ww_gS, ww_t0, ww_tS, ww_s0, ww_sS, ww_s2, ww_w1, ww_w2, ww_w3, ww_b, ww_tg, ww_p1, ww_p2, ww_q0, ww_qS, ww_k1, ww_k2, ww_k3, ww_w0, ww_wS, ww_i1, ww_i2, ww_f0, ww_f1, ww_f2, ww_f4, ww_fd, ww_cl, ww_mc, ww_tk, ww_ci, ww_ak, ww_gv, ww_g1, ww_kcs, w_f1, w_f2, w_a1, w_a2, w_u_at, dm_91, List.elem_nil, List.elem_cons, List.map_nil, List.map_cons, List.sum_nil, List.sum_cons, Option.toList_none, Option.toList_some, List.nil_append, List.cons_append, true_and, and_true, implies_true, false_implies, if_true, if_false, reduceIte, reduceCtorEq, Bool.false_eq_true, Bool.and_false, Bool.false_and, Bool.and_self, Bool.and_true, Bool.true_and, Nat.reduceAdd, Nat.reduceBEq, Nat.reduceEqDiff, Nat.reduceLT, Nat.reduceLeDiff, Int.reduceAdd, Int.reduceNeg, Int.reduceToNat, Int.reduceLE, Int.reduceLT, Int.reduceSub, Int.cast_ofNat_Int, Int.reduceNatCast', Int.reduceNatCast, Nat.zero_add, Int.zero_add, and_self, false_and, and_false, or_false, false_or, true_or, or_true, not_true_eq_false, not_false_eq_true, at_15, at_16, at_28, ctL_c, ctL_n]
  exact ⟨⟨by omega, h1⟩, ⟨h2, h3⟩, h0, h1⟩
theorem ok_91 : ww_cOk1 91 sp_91 := by
  intro as w fr pre r w1 e hp
  unfold sp_91 at e
  split at e
  · cases e
    exact lk_91 hp
  · cases e

def sp_83 : List am_V → W_ → Option (Nat × Prop × Option am_V × W_)
  | [.inr (.inr (.inl 41)), .inl x0, .inl x1], w => some (5, w_kn w ∧ (0 ≤ x0 ∧ x0 < 100000) ∧ am_rg x1 ∧ am_rg (w_g w 18 x1) ∧ (0 ≤ w.1 17 3 ∧ w.1 17 3 < 20000), none, (if w_g w 18 x1 = 20005 then w_f (w_nt (w_f w 41 11 (w_g w 18 x1)) (100000 * 7 + w_spot x0)) 41 11 20004 else w_f (w_a (w_f w 41 11 (w_g w 18 x1)) 22 (w.1 17 3).toNat x1) 17 3 (w.1 17 3 + 1)))
  | _, _ => none
theorem at_83 (x0 x1 : Int) (w : W_) : sp_83 [.inr (.inr (.inl 41)), .inl x0, .inl x1] w = some (5, w_kn w ∧ (0 ≤ x0 ∧ x0 < 100000) ∧ am_rg x1 ∧ am_rg (w_g w 18 x1) ∧ (0 ≤ w.1 17 3 ∧ w.1 17 3 < 20000), none, (if w_g w 18 x1 = 20005 then w_f (w_nt (w_f w 41 11 (w_g w 18 x1)) (100000 * 7 + w_spot x0)) 41 11 20004 else w_f (w_a (w_f w 41 11 (w_g w 18 x1)) 22 (w.1 17 3).toNat x1) 17 3 (w.1 17 3 + 1))) := rfl
set_option maxRecDepth 100000 in
set_option maxHeartbeats 4000000 in
theorem lk_83 {x0 x1 : Int} {w : W_} (hp : w_kn w ∧ (0 ≤ x0 ∧ x0 < 100000) ∧ am_rg x1 ∧ am_rg (w_g w 18 x1) ∧ (0 ≤ w.1 17 3 ∧ w.1 17 3 < 20000)) : ww_Ct 83 5 [.inr (.inr (.inl 41)), .inl x0, .inl x1] w fun r w' => r = none ∧ w' = (if w_g w 18 x1 = 20005 then w_f (w_nt (w_f w 41 11 (w_g w 18 x1)) (100000 * 7 + w_spot x0)) 41 11 20004 else w_f (w_a (w_f w 41 11 (w_g w 18 x1)) 22 (w.1 17 3).toNat x1) 17 3 (w.1 17 3 + 1)) := by
  obtain ⟨h, ⟨h0, h1⟩, h2, h3, h4⟩ := hp
  have hk := w_kn_f (a := 41) (j := 11) (x := w_g w 18 x1) h (by decide)
  refine of_83 (ww_go (ctL_cons ok_66 (ctL_cons ok_68 (ctL_cons ok_76 ctL_nil))) 200 [] ?_)
  simp only [ww_S, ww_1, wr_0, wr_1, wr_2, wr_3, wr_4, wr_5, wr_6, wr_7, wr_8, wr_9, wr_10, wr_11, wr_12, wr_13, wr_14, wr_15, wr_16, wr_17, wr_18, wr_19, wr_20, wr_21, wr_22, wr_23, wr_24, wr_25, wr_26, wr_27, wr_28, wr_29, wr_30, wr_31, wr_32, wr_33, wr_34, wr_35, wr_36, wr_37, wr_38, wr_39, wr_40, wr_41, wr_42, wr_43, wr_44, wr_45, wr_46, wr_47, wr_48, wr_49, wr_50, wr_51, wr_52, wr_53, wr_54, wr_55, wr_56, wr_57, wr_58, wr_59, wr_60, wr_61, wr_62, wr_63, wr_64, wr_65, wr_66, wr_67, wr_68, wr_69, wr_70, wr_71, wr_72, wr_73, wr_74, wr_75, wr_76, wr_77, wr_78, wr_79, wr_80, wr_81, wr_82, wr_83, wr_84, wr_85, wr_86, wr_87, ww_v1, ww_v2, ww_v3, ww_v4, ww_g0, ww_gS, ww_t0, ww_tS, ww_s0, ww_sS, ww_s2, ww_w1, ww_w2, ww_w3, ww_b, ww_tg, ww_p1, ww_p2, ww_q0, ww_qS, ww_k1, ww_k2, ww_k3, ww_w0, ww_wS, ww_i1, ww_i2, ww_f0, ww_f1, ww_f2, ww_f4, ww_fd, ww_cl, ww_mc, ww_tk, ww_ci, ww_ak, ww_gv, ww_g1, ww_kcs, w_f1, w_f2, w_a1, w_a2, w_u_at, dm_83, List.elem_nil, List.elem_cons, List.map_nil, List.map_cons, List.sum_nil, List.sum_cons, Option.toList_none, Option.toList_some, List.nil_append, List.cons_append, true_and, and_true, implies_true, false_implies, if_true, if_false, reduceIte, reduceCtorEq, Bool.false_eq_true, Bool.and_false, Bool.false_and, Bool.and_self, Bool.and_true, Bool.true_and, Nat.reduceAdd, Nat.reduceBEq, Nat.reduceEqDiff, Nat.reduceLT, Nat.reduceLeDiff, Int.reduceAdd, Int.reduceNeg, Int.reduceToNat, Int.reduceLE, Int.reduceLT, Int.reduceSub, Int.cast_ofNat_Int, Int.reduceNatCast', Int.reduceNatCast, Nat.zero_add, Int.zero_add, and_self, false_and, and_false, or_false, false_or, true_or, or_true, not_true_eq_false, not_false_eq_true, at_66, at_68, at_76, ctL_c, ctL_n, w_isRs, w_g_f]
  refine ⟨h2, h3, ⟨by decide, by decide⟩, fun q => ⟨h4, by rw [if_neg q]⟩, fun q => ⟨⟨hk, h0, h1⟩, ?_⟩⟩
  rw [if_pos (Classical.byContradiction q)]
theorem ok_83 : ww_cOk1 83 sp_83 := by
  intro as w fr pre r w1 e hp
  unfold sp_83 at e
  split at e
  · cases e
    exact lk_83 hp
  · cases e

