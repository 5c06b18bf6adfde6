/-! ===== the reference's contents are made ===== -/
abbrev zr190 (fr : Nat) (P : Option am_V → W_ → Prop) (pc : Nat) (x0 x1 now sum i : Int) (v6 v7 : am_V) (w : W_) : Prop := ww_Z 12 8 fr 1 cX12_groupWidth none P pc [.inr (.inr (.inl 73)), .inl x0, .inl x1, .inl now, .inl sum, .inl i, v6, v7] [] w
section
variable {w : W_} {fr : Nat} {P : Option am_V → W_ → Prop} {x0 x1 now sum i j k a : Int} {v6 v7 : am_V}
set_option maxRecDepth 100000 in
set_option maxHeartbeats 2000000 in
theorem lk_190a (hv : am_two v6 = false ∧ am_two v7 = false) (hi : 0 ≤ i ∧ i < 8192) (hk : w.2 92 i.toNat = k) (hr : i ≠ 0 → am_rg k) (L0 : i = 0 → P (some (.inl sum)) w) (L1 : i ≠ 0 → k = 50 → zr190 fr P 39 x0 x1 now sum i (.inl (w.2 93 i.toNat)) v7 w) (L2 : i ≠ 0 → k ≠ 50 → zr190 fr P 39 x0 x1 now sum i (.inl i) v7 w) : zr190 fr P 8 x0 x1 now sum i v6 v7 w := by
  unfold am_rg at hr
  obtain ⟨g6, g7⟩ := hv
  by_cases c : i = 0
  · have l0 := L0 c
    subst c
    refine ww_go1 ctL_nil 60 [39] ?_
    simp only [ww_S, ww_1, wr_0, wr_1, wr_2, wr_3, wr_4, wr_5, wr_6, wr_7, wr_8, wr_9, wr_10, wr_11, wr_12, wr_13, wr_14, wr_15, wr_16, wr_17, wr_18, wr_19, wr_20, wr_21, wr_22, wr_23, wr_24, wr_25, wr_26, wr_27, wr_28, wr_29, wr_30, wr_31, wr_32, wr_33, wr_34, wr_35, wr_36, wr_37, wr_38, wr_39, wr_40, wr_41, wr_42, wr_43, wr_44, wr_45, wr_46, wr_47, wr_48, wr_49, wr_50, wr_51, wr_52, wr_53, wr_54, wr_55, wr_56, wr_57, wr_58, wr_59, wr_60, wr_61, wr_62, wr_63, wr_64, wr_65, wr_66, wr_67, wr_68, wr_69, wr_70, wr_71, wr_72, wr_73, wr_74, wr_75, wr_76, wr_77, wr_78, wr_79, wr_80, wr_81, wr_82, wr_83, wr_84, wr_85, wr_86, wr_87, ww_v1, ww_v2, ww_v3, ww_v4, ww_g0, ww_gS, ww_t0, ww_tS, ww_s0, ww_sS, ww_s2, ww_w1, ww_w2, ww_w3, ww_b, ww_tg, ww_p1, ww_p2, ww_q0, ww_qS, ww_k1, ww_k2, ww_k3, ww_w0, ww_wS, ww_i1, ww_i2, ww_f0, ww_f1, ww_f2, ww_f4, ww_fd, ww_cl, ww_mc, ww_tk, ww_ci, ww_ak, ww_gv, ww_g1, ww_kcs, w_f1, w_f2, w_a1, w_a2, w_u_at, dm_190, List.elem_nil, List.elem_cons, List.map_nil, List.map_cons, List.sum_nil, List.sum_cons, Option.toList_none, Option.toList_some, List.nil_append, List.cons_append, true_and, and_true, implies_true, false_implies, if_true, if_false, reduceIte, reduceCtorEq, Bool.false_eq_true, Bool.and_false, Bool.false_and, Bool.and_self, Bool.and_true, Bool.true_and, Nat.reduceAdd, Nat.reduceBEq, Nat.reduceEqDiff, Nat.reduceLT, Nat.reduceLeDiff, Int.reduceAdd, Int.reduceNeg, Int.reduceToNat, Int.reduceLE, Int.reduceLT, Int.reduceSub, Int.cast_ofNat_Int, Int.reduceNatCast', Int.reduceNatCast, Nat.zero_add, Int.zero_add, and_self, false_and, and_false, or_false, false_or, true_or, or_true, not_true_eq_false, not_false_eq_true, ctL_n, g6, g7, hk]
    (repeat' (first | (with_reducible assumption) | (with_reducible exact trivial) | refine And.intro ?_ ?_ | intro _)) <;> first | omega | decide | skip
  · have hr := hr c
    by_cases d : k = 50
    · have l1 := L1 c d
      refine ww_go1 ctL_nil 60 [39] ?_
      simp only [ww_S, ww_1, wr_0, wr_1, wr_2, wr_3, wr_4, wr_5, wr_6, wr_7, wr_8, wr_9, wr_10, wr_11, wr_12, wr_13, wr_14, wr_15, wr_16, wr_17, wr_18, wr_19, wr_20, wr_21, wr_22, wr_23, wr_24, wr_25, wr_26, wr_27, wr_28, wr_29, wr_30, wr_31, wr_32, wr_33, wr_34, wr_35, wr_36, wr_37, wr_38, wr_39, wr_40, wr_41, wr_42, wr_43, wr_44, wr_45, wr_46, wr_47, wr_48, wr_49, wr_50, wr_51, wr_52, wr_53, wr_54, wr_55, wr_56, wr_57, wr_58, wr_59, wr_60, wr_61, wr_62, wr_63, wr_64, wr_65, wr_66, wr_67, wr_68, wr_69, wr_70, wr_71, wr_72, wr_73, wr_74, wr_75, wr_76, wr_77, wr_78, wr_79, wr_80, wr_81, wr_82, wr_83, wr_84, wr_85, wr_86, wr_87, ww_v1, ww_v2, ww_v3, ww_v4, ww_g0, ww_gS, ww_t0, ww_tS, ww_s0, ww_sS, ww_s2, ww_w1, ww_w2, ww_w3, ww_b, ww_tg, ww_p1, ww_p2, ww_q0, ww_qS, ww_k1, ww_k2, ww_k3, ww_w0, ww_wS, ww_i1, ww_i2, ww_f0, ww_f1, ww_f2, ww_f4, ww_fd, ww_cl, ww_mc, ww_tk, ww_ci, ww_ak, ww_gv, ww_g1, ww_kcs, w_f1, w_f2, w_a1, w_a2, w_u_at, dm_190, List.elem_nil, List.elem_cons, List.map_nil, List.map_cons, List.sum_nil, List.sum_cons, Option.toList_none, Option.toList_some, List.nil_append, List.cons_append, true_and, and_true, implies_true, false_implies, if_true, if_false, reduceIte, reduceCtorEq, Bool.false_eq_true, Bool.and_false, Bool.false_and, Bool.and_self, Bool.and_true, Bool.true_and, Nat.reduceAdd, Nat.reduceBEq, Nat.reduceEqDiff, Nat.reduceLT, Nat.reduceLeDiff, Int.reduceAdd, Int.reduceNeg, Int.reduceToNat, Int.reduceLE, Int.reduceLT, Int.reduceSub, Int.cast_ofNat_Int, Int.reduceNatCast', Int.reduceNatCast, Nat.zero_add, Int.zero_add, and_self, false_and, and_false, or_false, false_or, true_or, or_true, not_true_eq_false, not_false_eq_true, ctL_n, g6, g7, hk]
      (repeat' (first | (with_reducible assumption) | (with_reducible exact trivial) | refine And.intro ?_ ?_ | intro _)) <;> first | omega | decide | skip
    · have l2 := L2 c d
      refine ww_go1 ctL_nil 60 [39] ?_
      simp only [ww_S, ww_1, wr_0, wr_1, wr_2, wr_3, wr_4, wr_5, wr_6, wr_7, wr_8, wr_9, wr_10, wr_11, wr_12, wr_13, wr_14, wr_15, wr_16, wr_17, wr_18, wr_19, wr_20, wr_21, wr_22, wr_23, wr_24, wr_25, wr_26, wr_27, wr_28, wr_29, wr_30, wr_31, wr_32, wr_33, wr_34, wr_35, wr_36, wr_37, wr_38, wr_39, wr_40, wr_41, wr_42, wr_43, wr_44, wr_45, wr_46, wr_47, wr_48, wr_49, wr_50, wr_51, wr_52, wr_53, wr_54, wr_55, wr_56, wr_57, wr_58, wr_59, wr_60, wr_61, wr_62, wr_63, wr_64, wr_65, wr_66, wr_67, wr_68, wr_69, wr_70, wr_71, wr_72, wr_73, wr_74, wr_75, wr_76, wr_77, wr_78, wr_79, wr_80, wr_81, wr_82, wr_83, wr_84, wr_85, wr_86, wr_87, ww_v1, ww_v2, ww_v3, ww_v4, ww_g0, ww_gS, ww_t0, ww_tS, ww_s0, ww_sS, ww_s2, ww_w1, ww_w2, ww_w3, ww_b, ww_tg, ww_p1, ww_p2, ww_q0, ww_qS, ww_k1, ww_k2, ww_k3, ww_w0, ww_wS, ww_i1, ww_i2, ww_f0, ww_f1, ww_f2, ww_f4, ww_fd, ww_cl, ww_mc, ww_tk, ww_ci, ww_ak, ww_gv, ww_g1, ww_kcs, w_f1, w_f2, w_a1, w_a2, w_u_at, dm_190, List.elem_nil, List.elem_cons, List.map_nil, List.map_cons, List.sum_nil, List.sum_cons, Option.toList_none, Option.toList_some, List.nil_append, List.cons_append, true_and, and_true, implies_true, false_implies, if_true, if_false, reduceIte, reduceCtorEq, Bool.false_eq_true, Bool.and_false, Bool.false_and, Bool.and_self, Bool.and_true, Bool.true_and, Nat.reduceAdd, Nat.reduceBEq, Nat.reduceEqDiff, Nat.reduceLT, Nat.reduceLeDiff, Int.reduceAdd, Int.reduceNeg, Int.reduceToNat, Int.reduceLE, Int.reduceLT, Int.reduceSub, Int.cast_ofNat_Int, Int.reduceNatCast', Int.reduceNatCast, Nat.zero_add, Int.zero_add, and_self, false_and, and_false, or_false, false_or, true_or, or_true, not_true_eq_false, not_false_eq_true, ctL_n, g6, g7, hk]
      (repeat' (first | (with_reducible assumption) | (with_reducible exact trivial) | refine And.intro ?_ ?_ | intro _)) <;> first | omega | decide | skip
set_option maxRecDepth 100000 in
set_option maxHeartbeats 2000000 in
theorem lk_190b (hv : am_two v7 = false) (hi : 0 ≤ j ∧ j < 8192) (hk : w.2 92 j.toNat = k) (ha : w.2 93 j.toNat = a) (hr : am_rg k) (hra : k = 18 → am_rg a) (L1 : k = 18 ∧ a = 0 → zr190 fr P 85 x0 x1 (w.2 94 j.toNat) sum i (.inl j) (.inl 1) w) (L2 : ¬ (k = 18 ∧ a = 0) → zr190 fr P 85 x0 x1 now sum i (.inl j) (.inl 0) w) : zr190 fr P 39 x0 x1 now sum i (.inl j) v7 w := by
  unfold am_rg at hr hra
  by_cases c : k = 18 ∧ a = 0
  · have l1 := L1 c
    obtain ⟨c1, c2⟩ := c
    refine ww_go1 ctL_nil 60 [85] ?_
    simp only [ww_S, ww_1, wr_0, wr_1, wr_2, wr_3, wr_4, wr_5, wr_6, wr_7, wr_8, wr_9, wr_10, wr_11, wr_12, wr_13, wr_14, wr_15, wr_16, wr_17, wr_18, wr_19, wr_20, wr_21, wr_22, wr_23, wr_24, wr_25, wr_26, wr_27, wr_28, wr_29, wr_30, wr_31, wr_32, wr_33, wr_34, wr_35, wr_36, wr_37, wr_38, wr_39, wr_40, wr_41, wr_42, wr_43, wr_44, wr_45, wr_46, wr_47, wr_48, wr_49, wr_50, wr_51, wr_52, wr_53, wr_54, wr_55, wr_56, wr_57, wr_58, wr_59, wr_60, wr_61, wr_62, wr_63, wr_64, wr_65, wr_66, wr_67, wr_68, wr_69, wr_70, wr_71, wr_72, wr_73, wr_74, wr_75, wr_76, wr_77, wr_78, wr_79, wr_80, wr_81, wr_82, wr_83, wr_84, wr_85, wr_86, wr_87, ww_v1, ww_v2, ww_v3, ww_v4, ww_g0, ww_gS, ww_t0, ww_tS, ww_s0, ww_sS, ww_s2, ww_w1, ww_w2, ww_w3, ww_b, ww_tg, ww_p1, ww_p2, ww_q0, ww_qS, ww_k1, ww_k2, ww_k3, ww_w0, ww_wS, ww_i1, ww_i2, ww_f0, ww_f1, ww_f2, ww_f4, ww_fd, ww_cl, ww_mc, ww_tk, ww_ci, ww_ak, ww_gv, ww_g1, ww_kcs, w_f1, w_f2, w_a1, w_a2, w_u_at, dm_190, List.elem_nil, List.elem_cons, List.map_nil, List.map_cons, List.sum_nil, List.sum_cons, Option.toList_none, Option.toList_some, List.nil_append, List.cons_append, true_and, and_true, implies_true, false_implies, if_true, if_false, reduceIte, reduceCtorEq, Bool.false_eq_true, Bool.and_false, Bool.false_and, Bool.and_self, Bool.and_true, Bool.true_and, Nat.reduceAdd, Nat.reduceBEq, Nat.reduceEqDiff, Nat.reduceLT, Nat.reduceLeDiff, Int.reduceAdd, Int.reduceNeg, Int.reduceToNat, Int.reduceLE, Int.reduceLT, Int.reduceSub, Int.cast_ofNat_Int, Int.reduceNatCast', Int.reduceNatCast, Nat.zero_add, Int.zero_add, and_self, false_and, and_false, or_false, false_or, true_or, or_true, not_true_eq_false, not_false_eq_true, ctL_n, hv, hk, ha]
    (repeat' (first | (with_reducible assumption) | (with_reducible exact trivial) | refine And.intro ?_ ?_ | intro _)) <;> first | omega | decide | skip
  · have l2 := L2 c
    refine ww_go1 ctL_nil 60 [85] ?_
    simp only [ww_S, ww_1, wr_0, wr_1, wr_2, wr_3, wr_4, wr_5, wr_6, wr_7, wr_8, wr_9, wr_10, wr_11, wr_12, wr_13, wr_14, wr_15, wr_16, wr_17, wr_18, wr_19, wr_20, wr_21, wr_22, wr_23, wr_24, wr_25, wr_26, wr_27, wr_28, wr_29, wr_30, wr_31, wr_32, wr_33, wr_34, wr_35, wr_36, wr_37, wr_38, wr_39, wr_40, wr_41, wr_42, wr_43, wr_44, wr_45, wr_46, wr_47, wr_48, wr_49, wr_50, wr_51, wr_52, wr_53, wr_54, wr_55, wr_56, wr_57, wr_58, wr_59, wr_60, wr_61, wr_62, wr_63, wr_64, wr_65, wr_66, wr_67, wr_68, wr_69, wr_70, wr_71, wr_72, wr_73, wr_74, wr_75, wr_76, wr_77, wr_78, wr_79, wr_80, wr_81, wr_82, wr_83, wr_84, wr_85, wr_86, wr_87, ww_v1, ww_v2, ww_v3, ww_v4, ww_g0, ww_gS, ww_t0, ww_tS, ww_s0, ww_sS, ww_s2, ww_w1, ww_w2, ww_w3, ww_b, ww_tg, ww_p1, ww_p2, ww_q0, ww_qS, ww_k1, ww_k2, ww_k3, ww_w0, ww_wS, ww_i1, ww_i2, ww_f0, ww_f1, ww_f2, ww_f4, ww_fd, ww_cl, ww_mc, ww_tk, ww_ci, ww_ak, ww_gv, ww_g1, ww_kcs, w_f1, w_f2, w_a1, w_a2, w_u_at, dm_190, List.elem_nil, List.elem_cons, List.map_nil, List.map_cons, List.sum_nil, List.sum_cons, Option.toList_none, Option.toList_some, List.nil_append, List.cons_append, true_and, and_true, implies_true, false_implies, if_true, if_false, reduceIte, reduceCtorEq, Bool.false_eq_true, Bool.and_false, Bool.false_and, Bool.and_self, Bool.and_true, Bool.true_and, Nat.reduceAdd, Nat.reduceBEq, Nat.reduceEqDiff, Nat.reduceLT, Nat.reduceLeDiff, Int.reduceAdd, Int.reduceNeg, Int.reduceToNat, Int.reduceLE, Int.reduceLT, Int.reduceSub, Int.cast_ofNat_Int, Int.reduceNatCast', Int.reduceNatCast, Nat.zero_add, Int.zero_add, and_self, false_and, and_false, or_false, false_or, true_or, or_true, not_true_eq_false, not_false_eq_true, ctL_n, hv, hk, ha]
    (repeat' (first | (with_reducible assumption) | (with_reducible exact trivial) | refine And.intro ?_ ?_ | intro _)) <;> first | omega | decide | skip
set_option maxRecDepth 100000 in
set_option maxHeartbeats 2000000 in
theorem lk_190c (h1 : 1 ≤ fr) {v7 : am_V} (hv : am_two v7 = false) (hi : 0 ≤ i ∧ i < 8192) (hj : 0 < j ∧ j < 8192) (hn : 1 ≤ now ∧ now < 4) (hs : 0 ≤ sum ∧ sum ≤ 9999) {x : Int} (hw : w.2 97 (3 * j + now - 1).toNat = x) (hx : 0 ≤ x ∧ x ≤ 9999) (hk : w.2 92 i.toNat = k) (hr : am_rg k) (L1 : k = 50 → zr190 fr P 8 x0 x1 now (b9 (sum + x)) (w.2 94 i.toNat) (.inl j) v7 w) (L2 : k ≠ 50 → zr190 fr P 8 x0 x1 now (b9 (sum + x)) 0 (.inl j) v7 w) : zr190 fr P 85 x0 x1 now sum i (.inl j) v7 w := by
  unfold am_rg at hr
  have j0 : j ≠ 0 := by omega
  by_cases d : k = 50
  · have l1 := L1 d
    refine ww_go1 (ctL_cons ok_188 (ctL_cons ok_184 ctL_nil)) 60 [8] ?_
    simp only [ww_S, ww_1, wr_0, wr_1, wr_2, wr_3, wr_4, wr_5, wr_6, wr_7, wr_8, wr_9, wr_10, wr_11, wr_12, wr_13, wr_14, wr_15, wr_16, wr_17, wr_18, wr_19, wr_20, wr_21, wr_22, wr_23, wr_24, wr_25, wr_26, wr_27, wr_28, wr_29, wr_30, wr_31, wr_32, wr_33, wr_34, wr_35, wr_36, wr_37, wr_38, wr_39, wr_40, wr_41, wr_42, wr_43, wr_44, wr_45, wr_46, wr_47, wr_48, wr_49, wr_50, wr_51, wr_52, wr_53, wr_54, wr_55, wr_56, wr_57, wr_58, wr_59, wr_60, wr_61, wr_62, wr_63, wr_64, wr_65, wr_66, wr_67, wr_68, wr_69, wr_70, wr_71, wr_72, wr_73, wr_74, wr_75, wr_76, wr_77, wr_78, wr_79, wr_80, wr_81, wr_82, wr_83, wr_84, wr_85, wr_86, wr_87, ww_v1, ww_v2, ww_v3, ww_v4, ww_g0, ww_gS, ww_t0, ww_tS, ww_s0, ww_sS, ww_s2, ww_w1, ww_w2, ww_w3, ww_b, ww_tg, ww_p1, ww_p2, ww_q0, ww_qS, ww_k1, ww_k2, ww_k3, ww_w0, ww_wS, ww_i1, ww_i2, ww_f0, ww_f1, ww_f2, ww_f4, ww_fd, ww_cl, ww_mc, ww_tk, ww_ci, ww_ak, ww_gv, ww_g1, ww_kcs, w_f1, w_f2, w_a1, w_a2, w_u_at, dm_190, List.elem_nil, List.elem_cons, List.map_nil, List.map_cons, List.sum_nil, List.sum_cons, Option.toList_none, Option.toList_some, List.nil_append, List.cons_append, true_and, and_true, implies_true, false_implies, if_true, if_false, reduceIte, reduceCtorEq, Bool.false_eq_true, Bool.and_false, Bool.false_and, Bool.and_self, Bool.and_true, Bool.true_and, Nat.reduceAdd, Nat.reduceBEq, Nat.reduceEqDiff, Nat.reduceLT, Nat.reduceLeDiff, Int.reduceAdd, Int.reduceNeg, Int.reduceToNat, Int.reduceLE, Int.reduceLT, Int.reduceSub, Int.cast_ofNat_Int, Int.reduceNatCast', Int.reduceNatCast, Nat.zero_add, Int.zero_add, and_self, false_and, and_false, or_false, false_or, true_or, or_true, not_true_eq_false, not_false_eq_true, at_188, at_184, ctL_c, ctL_n, hv, hk, hw, if_neg j0]
    (repeat' (first | (with_reducible assumption) | (with_reducible exact trivial) | refine And.intro ?_ ?_ | intro _)) <;> first | omega | (unfold am_rl; omega) | (unfold am_rg; omega) | decide | skip
  · have l2 := L2 d
    refine ww_go1 (ctL_cons ok_188 (ctL_cons ok_184 ctL_nil)) 60 [8] ?_
    simp only [ww_S, ww_1, wr_0, wr_1, wr_2, wr_3, wr_4, wr_5, wr_6, wr_7, wr_8, wr_9, wr_10, wr_11, wr_12, wr_13, wr_14, wr_15, wr_16, wr_17, wr_18, wr_19, wr_20, wr_21, wr_22, wr_23, wr_24, wr_25, wr_26, wr_27, wr_28, wr_29, wr_30, wr_31, wr_32, wr_33, wr_34, wr_35, wr_36, wr_37, wr_38, wr_39, wr_40, wr_41, wr_42, wr_43, wr_44, wr_45, wr_46, wr_47, wr_48, wr_49, wr_50, wr_51, wr_52, wr_53, wr_54, wr_55, wr_56, wr_57, wr_58, wr_59, wr_60, wr_61, wr_62, wr_63, wr_64, wr_65, wr_66, wr_67, wr_68, wr_69, wr_70, wr_71, wr_72, wr_73, wr_74, wr_75, wr_76, wr_77, wr_78, wr_79, wr_80, wr_81, wr_82, wr_83, wr_84, wr_85, wr_86, wr_87, ww_v1, ww_v2, ww_v3, ww_v4, ww_g0, ww_gS, ww_t0, ww_tS, ww_s0, ww_sS, ww_s2, ww_w1, ww_w2, ww_w3, ww_b, ww_tg, ww_p1, ww_p2, ww_q0, ww_qS, ww_k1, ww_k2, ww_k3, ww_w0, ww_wS, ww_i1, ww_i2, ww_f0, ww_f1, ww_f2, ww_f4, ww_fd, ww_cl, ww_mc, ww_tk, ww_ci, ww_ak, ww_gv, ww_g1, ww_kcs, w_f1, w_f2, w_a1, w_a2, w_u_at, dm_190, List.elem_nil, List.elem_cons, List.map_nil, List.map_cons, List.sum_nil, List.sum_cons, Option.toList_none, Option.toList_some, List.nil_append, List.cons_append, true_and, and_true, implies_true, false_implies, if_true, if_false, reduceIte, reduceCtorEq, Bool.false_eq_true, Bool.and_false, Bool.false_and, Bool.and_self, Bool.and_true, Bool.true_and, Nat.reduceAdd, Nat.reduceBEq, Nat.reduceEqDiff, Nat.reduceLT, Nat.reduceLeDiff, Int.reduceAdd, Int.reduceNeg, Int.reduceToNat, Int.reduceLE, Int.reduceLT, Int.reduceSub, Int.cast_ofNat_Int, Int.reduceNatCast', Int.reduceNatCast, Nat.zero_add, Int.zero_add, and_self, false_and, and_false, or_false, false_or, true_or, or_true, not_true_eq_false, not_false_eq_true, at_188, at_184, ctL_c, ctL_n, hv, hk, hw, if_neg j0]
    (repeat' (first | (with_reducible assumption) | (with_reducible exact trivial) | refine And.intro ?_ ?_ | intro _)) <;> first | omega | (unfold am_rl; omega) | (unfold am_rg; omega) | decide | skip
set_option maxRecDepth 100000 in
set_option maxHeartbeats 2000000 in
theorem lk_190d (L : zr190 fr P 8 x0 x1 x1 0 x0 am_X am_X w) : ww_Ct 190 fr [.inr (.inr (.inl 73)), .inl x0, .inl x1] w P := by
  refine of_190 (ww_go ctL_nil 40 [8] ?_)
  simp only [ww_S, ww_1, wr_0, wr_1, wr_2, wr_3, wr_4, wr_5, wr_6, wr_7, wr_8, wr_9, wr_10, wr_11, wr_12, wr_13, wr_14, wr_15, wr_16, wr_17, wr_18, wr_19, wr_20, wr_21, wr_22, wr_23, wr_24, wr_25, wr_26, wr_27, wr_28, wr_29, wr_30, wr_31, wr_32, wr_33, wr_34, wr_35, wr_36, wr_37, wr_38, wr_39, wr_40, wr_41, wr_42, wr_43, wr_44, wr_45, wr_46, wr_47, wr_48, wr_49, wr_50, wr_51, wr_52, wr_53, wr_54, wr_55, wr_56, wr_57, wr_58, wr_59, wr_60, wr_61, wr_62, wr_63, wr_64, wr_65, wr_66, wr_67, wr_68, wr_69, wr_70, wr_71, wr_72, wr_73, wr_74, wr_75, wr_76, wr_77, wr_78, wr_79, wr_80, wr_81, wr_82, wr_83, wr_84, wr_85, wr_86, wr_87, ww_v1, ww_v2, ww_v3, ww_v4, ww_g0, ww_gS, ww_t0, ww_tS, ww_s0, ww_sS, ww_s2, ww_w1, ww_w2, ww_w3, ww_b, ww_tg, ww_p1, ww_p2, ww_q0, ww_qS, ww_k1, ww_k2, ww_k3, ww_w0, ww_wS, ww_i1, ww_i2, ww_f0, ww_f1, ww_f2, ww_f4, ww_fd, ww_cl, ww_mc, ww_tk, ww_ci, ww_ak, ww_gv, ww_g1, ww_kcs, w_f1, w_f2, w_a1, w_a2, w_u_at, dm_190, List.elem_nil, List.elem_cons, List.map_nil, List.map_cons, List.sum_nil, List.sum_cons, Option.toList_none, Option.toList_some, List.nil_append, List.cons_append, true_and, and_true, implies_true, false_implies, if_true, if_false, reduceIte, reduceCtorEq, Bool.false_eq_true, Bool.and_false, Bool.false_and, Bool.and_self, Bool.and_true, Bool.true_and, Nat.reduceAdd, Nat.reduceBEq, Nat.reduceEqDiff, Nat.reduceLT, Nat.reduceLeDiff, Int.reduceAdd, Int.reduceNeg, Int.reduceToNat, Int.reduceLE, Int.reduceLT, Int.reduceSub, Int.cast_ofNat_Int, Int.reduceNatCast', Int.reduceNatCast, Nat.zero_add, Int.zero_add, and_self, false_and, and_false, or_false, false_or, true_or, or_true, not_true_eq_false, not_false_eq_true, ctL_n]
  (repeat' (first | (with_reducible assumption) | (with_reducible exact trivial) | refine And.intro ?_ ?_ | intro _)) <;> first | omega | decide | skip
end
/-! what a leaf or a content without marks adds to a group's width -/
theorem b9_m9 {x : Nat} : b9 (x : Int) = (m9 x : Nat) := by
  unfold b9 m9
  (repeat' split) <;> omega
theorem rLF_18 {w : W_} {Γ : rG_} {t : T_} {c : Nat} (h : rLF w Γ t c) : (w.2 92 c = 18 → ∃ p x u, t = .tag 10 (.tag p (.nest x u)) ∧ w.2 93 c = (p : Int) ∧ w.2 94 c = x ∧ (p = 0 → 1 ≤ x) ∧ x ≤ 3 ∧ p < 2) ∧ (w.2 92 c ≠ 18 → ∀ s, (v_wq t s).2 = s) ∧ (0 ≤ w.2 92 c ∧ w.2 92 c < 60) := by
  unfold rLF at h
  split at h
  · exact ⟨fun q => by omega, fun _ s => rfl, by omega⟩
  · refine ⟨fun q => by omega, fun _ s => wq_leaf ⟨2, _, rfl, by omega⟩ rfl s, by omega⟩
  · refine ⟨fun q => by omega, fun _ s => wq_leaf ⟨3, _, rfl, by omega⟩ rfl s, by omega⟩
  · refine ⟨fun q => by omega, fun _ s => wq_leaf ⟨4, _, rfl, by omega⟩ rfl s, by omega⟩
  · refine ⟨fun q => by omega, fun _ s => wq_leaf ⟨5, _, rfl, by omega⟩ rfl s, by omega⟩
  · refine ⟨fun q => by omega, fun _ s => wq_leaf ⟨6, _, rfl, by omega⟩ rfl s, by omega⟩
  · refine ⟨fun q => by omega, fun _ s => wq_leaf ⟨7, _, rfl, by omega⟩ rfl s, by omega⟩
  · refine ⟨fun q => by omega, fun _ s => wq_leaf ⟨9, _, rfl, by omega⟩ rfl s, by omega⟩
  · obtain ⟨h1, h2, h3, h4, h5, h6, h7⟩ := h
    exact ⟨fun _ => ⟨_, _, _, rfl, h2, h3, h5, h7, h4⟩, fun q => absurd h1 q, by omega⟩
  · exact ⟨fun q => by omega, fun _ s => rfl, by omega⟩
  · exact h.elim
theorem rCT_kind {w : W_} {Γ : rG_} {c : Nat} (h : rCT w Γ c) : (0 ≤ w.2 92 c ∧ w.2 92 c < 60) ∧ (w.2 92 c = 18 → am_rg (w.2 93 c)) := by
  rcases h.2.2 with ⟨h1, h2, _⟩ | ⟨h1, t, h2, h3⟩
  · exact ⟨by omega, fun q => by omega⟩
  · have z := rLF_18 h3
    refine ⟨z.2.2, fun q => ?_⟩
    obtain ⟨p, x, u, _, e, _, _, _, hp⟩ := z.1 q
    rw [e]
    unfold am_rg
    omega
theorem rGW {w : W_} {Γ : rG_} {c n : Nat} (h : rCT w Γ c) (hn : 1 ≤ n ∧ n ≤ 3) (hm : (∀ t ∈ Γ.1 c, rNK t = true) ∨ w.2 92 c ≠ 50) : ∃ n' : Nat, (1 ≤ n' ∧ n' ≤ 3) ∧ (rWL (Γ.1 c) n).2 = n' ∧ (if w.2 92 c = 18 ∧ w.2 93 c = 0 then w.2 94 c else (n : Int)) = n' ∧ w.2 97 (3 * (c : Int) + (n' : Int) - 1).toNat = ((rWL (Γ.1 c) n).1 : Nat) := by
  obtain ⟨⟨h1, h2, h3, -⟩, h4, h5⟩ := h
  have W : ∀ s : Nat, 1 ≤ s → s ≤ 3 → w.2 97 (3 * (c : Int) + (s : Int) - 1).toNat = ((rWL (Γ.1 c) s).1 : Nat) := fun s s1 s2 => by
    have z := h4 hm (s - 1) (by omega)
    rw [show (3 * (c : Int) + (s : Int) - 1).toNat = 3 * c + (s - 1) by omega, z, show s - 1 + 1 = s by omega]
  have NKcase : (∀ t ∈ Γ.1 c, rNK t = true) → ¬ (w.2 92 c = 18 ∧ w.2 93 c = 0) → ∃ n' : Nat, (1 ≤ n' ∧ n' ≤ 3) ∧ (rWL (Γ.1 c) n).2 = n' ∧ (if w.2 92 c = 18 ∧ w.2 93 c = 0 then w.2 94 c else (n : Int)) = n' ∧ w.2 97 (3 * (c : Int) + (n' : Int) - 1).toNat = ((rWL (Γ.1 c) n).1 : Nat) := fun q z =>
    ⟨n, hn, rWL_nk _ _ h3 q, if_neg z, W n hn.1 hn.2⟩
  rcases h5 with ⟨g1, g2, g3, g4, g5⟩ | ⟨g1, t, g2, g3⟩
  · refine NKcase ?_ (fun z => by omega)
    rcases hm with q | q
    · exact q
    · exact absurd g1 q
  · have z := rLF_18 g3
    by_cases d : w.2 92 c = 18
    · obtain ⟨p, x, u, e1, e2, e3, e4, e5, e6⟩ := z.1 d
      rw [g2, e1] at W ⊢
      by_cases d2 : w.2 93 c = 0
      · have p0 : p = 0 := by omega
        subst p0
        have x1 := e4 rfl
        refine ⟨x.toNat, ⟨by omega, by omega⟩, rfl, ?_, ?_⟩
        · rw [if_pos ⟨d, d2⟩, e3]; omega
        · rw [W x.toNat (by omega) (by omega)]
          rfl
      · refine ⟨n, hn, ?_, by rw [if_neg (fun q => d2 q.2)], W n hn.1 hn.2⟩
        rcases p with _ | p
        · exact absurd e2 d2
        · rfl
    · refine ⟨n, hn, ?_, by rw [if_neg (fun q => d q.1)], W n hn.1 hn.2⟩
      rw [g2]
      exact z.2.1 d n
/-- a group's width -/
theorem lk_190 {w : W_} {Γ : rG_} {fr c n : Nat} (H : rHH w Γ) (hf : 1 ≤ fr) (hc : (c : Int) < w.1 73 26) (h26 : w.1 73 26 ≤ 8192) (hn : 1 ≤ n ∧ n ≤ 3) : ww_Ct 190 fr [.inr (.inr (.inl 73)), .inl (c : Int), .inl (n : Int)] w fun r w' => r = some (.inl ((rWL (Γ.1 c) n).1 : Nat)) ∧ w' = w := by
  refine lk_190d ?_
  have M : ∀ (a : Nat) (now sum : Nat) (v6 v7 : am_V), (am_two v6 = false ∧ am_two v7 = false) → (a : Int) < w.1 73 26 → (1 ≤ now ∧ now ≤ 3) → sum ≤ 9999 → m9 (sum + (rWL (Γ.1 a) now).1) = (rWL (Γ.1 c) n).1 → zr190 fr (fun r w' => r = some (.inl ((rWL (Γ.1 c) n).1 : Nat)) ∧ w' = w) 8 c n now sum a v6 v7 w := by
    intro a
    induction a using Nat.strongRecOn with
    | ind a ih =>
      intro now sum v6 v7 hv ha hnow hsum hm
      by_cases a0 : a = 0
      · subst a0
        refine lk_190a (k := w.2 92 (((0 : Nat) : Int)).toNat) hv (by omega) rfl (fun q => absurd rfl q) (fun _ => ⟨?_, rfl⟩) (fun q => absurd rfl q) (fun q => absurd rfl q)
        · rw [H.2.1] at hm
          have : (rWL [] now).1 = 0 := rfl
          rw [this, Nat.add_zero, m9_id hsum] at hm
          rw [hm]
      · have T := H.2.2.1 a (by omega) ha
        have K := rCT_kind T
        have ea : ((a : Int)).toNat = a := by omega
        -- one turn with j
        have step : ∀ j a' : Nat, (0 < j ∧ j ≤ a) → ((∀ t ∈ Γ.1 j, rNK t = true) ∨ w.2 92 j ≠ 50) → Γ.1 a = Γ.1 j ++ Γ.1 a' → a' < a → (w.2 92 a = 50 → w.2 94 a = (a' : Int)) → (w.2 92 a ≠ 50 → a' = 0) → zr190 fr (fun r w' => r = some (.inl ((rWL (Γ.1 c) n).1 : Nat)) ∧ w' = w) 39 c n now sum a (.inl (j : Int)) v7 w := by
          intro j a' hj hjm hG ha' e50 en50
          have Tj := H.2.2.1 j hj.1 (by omega)
          have Kj := rCT_kind Tj
          have ej : ((j : Int)).toNat = j := by omega
          obtain ⟨n', hn', r2, rif, r97⟩ := rGW Tj hnow hjm
          have wle := rWL_le (Γ.1 j) now
          have hm' : m9 (m9 (sum + (rWL (Γ.1 j) now).1) + (rWL (Γ.1 a') n').1) = (rWL (Γ.1 c) n).1 := by
            rw [hG, rWL_app, r2] at hm
            rw [← hm, m9_as]
          have C85 : ∀ v7' : am_V, am_two v7' = false → zr190 fr (fun r w' => r = some (.inl ((rWL (Γ.1 c) n).1 : Nat)) ∧ w' = w) 85 c n n' sum a (.inl (j : Int)) v7' w := by
            intro v7' hv7
            have eb : b9 ((sum : Int) + ((rWL (Γ.1 j) now).1 : Nat)) = ((m9 (sum + (rWL (Γ.1 j) now).1) : Nat) : Int) := by
              rw [← b9_m9]; congr 1
            refine lk_190c (k := w.2 92 a) hf hv7 (by omega) (by omega) (by omega) (by omega) r97 (by omega) (by rw [ea]) (by unfold am_rg; omega) (fun q => ?_) (fun q => ?_)
            · rw [ea, e50 q, eb]
              exact ih a' ha' n' _ _ _ ⟨rfl, hv7⟩ (by omega) hn' (m9_le _) hm'
            · have z := en50 q
              rw [eb]
              have := ih a' ha' n' _ (.inl (j : Int)) v7' ⟨rfl, hv7⟩ (by omega) hn' (m9_le _) hm'
              rw [z] at this
              exact this
          refine lk_190b (k := w.2 92 j) (a := w.2 93 j) hv.2 (by omega) (by rw [ej]) (by rw [ej]) (by unfold am_rg; omega) Kj.2 (fun q => ?_) (fun q => ?_)
          · rw [if_pos q] at rif
            rw [ej, rif]
            exact C85 _ rfl
          · rw [if_neg q] at rif
            rw [rif]
            exact C85 _ rfl
        refine lk_190a (k := w.2 92 a) hv (by omega) (by rw [ea]) (fun _ => by unfold am_rg; omega) (fun q => absurd q (by omega)) (fun _ q => ?_) (fun _ q => ?_)
        · rw [ea]
          rcases T.2.2 with ⟨g1, g2, g3, g4, g5⟩ | ⟨g1, _⟩
          · have e93 : w.2 93 a = (((w.2 93 a).toNat : Nat) : Int) := by omega
            rw [e93]
            exact step (w.2 93 a).toNat (w.2 94 a).toNat (by omega) g5 g4 (by omega) (fun _ => by omega) (fun z => absurd g1 z)
          · exact absurd q g1
        · refine step a 0 (by omega) (Or.inr q) ?_ (by omega) (fun z => absurd z q) (fun _ => rfl)
          rw [H.2.1, List.append_nil]
  have z := M c n 0 am_X am_X ⟨rfl, rfl⟩ hc hn (by omega) (by rw [Nat.zero_add, m9_id (rWL_le _ _)])
  exact z
/-! widthOf -/
abbrev zr189 (fr : Nat) (P : Option am_V → W_ → Prop) (pc : Nat) (x0 x1 x2 x3 : Int) (w : W_) : Prop := ww_Z 12 5 fr 1 cX12_widthOf none P pc [.inr (.inr (.inl 73)), .inl x0, .inl x1, .inl x2, .inl x3] [] w
section
variable {w : W_} {fr : Nat} {P : Option am_V → W_ → Prop} {x0 x1 x2 x3 : Int}
set_option maxRecDepth 100000 in
set_option maxHeartbeats 2000000 in
/-- the width of a group that is made -/
theorem lk_189g {R : Int} (h1 : 1 ≤ fr) (hc : ww_Ct 190 (fr - 1) [.inr (.inr (.inl 73)), .inl x1, .inl x3] w fun r w' => r = some (.inl R) ∧ w' = w) : ww_Ct 189 fr [.inr (.inr (.inl 73)), .inl 51, .inl x1, .inl x2, .inl x3] w fun r w' => r = some (.inl R) ∧ w' = w := by
  refine of_189 (ww_go (ctL_cons ok_188 (ctL_cons ok_184 ctL_nil)) 60 [] ?_)
  simp only [ww_S, ww_1, wr_0, wr_1, wr_2, wr_3, wr_4, wr_5, wr_6, wr_7, wr_8, wr_9, wr_10, wr_11, wr_12, wr_13, wr_14, wr_15, wr_16, wr_17, wr_18, wr_19, wr_20, wr_21, wr_22, wr_23, wr_24, wr_25, wr_26, wr_27, wr_28, wr_29, wr_30, wr_31, wr_32, wr_33, wr_34, wr_35, wr_36, wr_37, wr_38, wr_39, wr_40, wr_41, wr_42, wr_43, wr_44, wr_45, wr_46, wr_47, wr_48, wr_49, wr_50, wr_51, wr_52, wr_53, wr_54, wr_55, wr_56, wr_57, wr_58, wr_59, wr_60, wr_61, wr_62, wr_63, wr_64, wr_65, wr_66, wr_67, wr_68, wr_69, wr_70, wr_71, wr_72, wr_73, wr_74, wr_75, wr_76, wr_77, wr_78, wr_79, wr_80, wr_81, wr_82, wr_83, wr_84, wr_85, wr_86, wr_87, ww_v1, ww_v2, ww_v3, ww_v4, ww_g0, ww_gS, ww_t0, ww_tS, ww_s0, ww_sS, ww_s2, ww_w1, ww_w2, ww_w3, ww_b, ww_tg, ww_p1, ww_p2, ww_q0, ww_qS, ww_k1, ww_k2, ww_k3, ww_w0, ww_wS, ww_i1, ww_i2, ww_f0, ww_f1, ww_f2, ww_f4, ww_fd, ww_cl, ww_mc, ww_tk, ww_ci, ww_ak, ww_gv, ww_g1, ww_kcs, w_f1, w_f2, w_a1, w_a2, w_u_at, dm_189, List.elem_nil, List.elem_cons, List.map_nil, List.map_cons, List.sum_nil, List.sum_cons, Option.toList_none, Option.toList_some, List.nil_append, List.cons_append, true_and, and_true, implies_true, false_implies, if_true, if_false, reduceIte, reduceCtorEq, Bool.false_eq_true, Bool.and_false, Bool.false_and, Bool.and_self, Bool.and_true, Bool.true_and, Nat.reduceAdd, Nat.reduceBEq, Nat.reduceEqDiff, Nat.reduceLT, Nat.reduceLeDiff, Int.reduceAdd, Int.reduceNeg, Int.reduceToNat, Int.reduceLE, Int.reduceLT, Int.reduceSub, Int.cast_ofNat_Int, Int.reduceNatCast', Int.reduceNatCast, Nat.zero_add, Int.zero_add, and_self, false_and, and_false, or_false, false_or, true_or, or_true, not_true_eq_false, not_false_eq_true, at_188, at_184, ctL_c, ctL_n]
  (repeat' (first | (with_reducible assumption) | (with_reducible exact trivial) | refine And.intro ?_ ?_ | intro _)) <;> first | omega | decide | skip
  refine ww_Cn_of hc (by omega) ?_
  rintro _ w1 ⟨rfl, hw⟩
  rw [hw]
  refine ww_go1 ctL_nil 40 [] ?_
  simp only [ww_S, ww_1, wr_0, wr_1, wr_2, wr_3, wr_4, wr_5, wr_6, wr_7, wr_8, wr_9, wr_10, wr_11, wr_12, wr_13, wr_14, wr_15, wr_16, wr_17, wr_18, wr_19, wr_20, wr_21, wr_22, wr_23, wr_24, wr_25, wr_26, wr_27, wr_28, wr_29, wr_30, wr_31, wr_32, wr_33, wr_34, wr_35, wr_36, wr_37, wr_38, wr_39, wr_40, wr_41, wr_42, wr_43, wr_44, wr_45, wr_46, wr_47, wr_48, wr_49, wr_50, wr_51, wr_52, wr_53, wr_54, wr_55, wr_56, wr_57, wr_58, wr_59, wr_60, wr_61, wr_62, wr_63, wr_64, wr_65, wr_66, wr_67, wr_68, wr_69, wr_70, wr_71, wr_72, wr_73, wr_74, wr_75, wr_76, wr_77, wr_78, wr_79, wr_80, wr_81, wr_82, wr_83, wr_84, wr_85, wr_86, wr_87, ww_v1, ww_v2, ww_v3, ww_v4, ww_g0, ww_gS, ww_t0, ww_tS, ww_s0, ww_sS, ww_s2, ww_w1, ww_w2, ww_w3, ww_b, ww_tg, ww_p1, ww_p2, ww_q0, ww_qS, ww_k1, ww_k2, ww_k3, ww_w0, ww_wS, ww_i1, ww_i2, ww_f0, ww_f1, ww_f2, ww_f4, ww_fd, ww_cl, ww_mc, ww_tk, ww_ci, ww_ak, ww_gv, ww_g1, ww_kcs, w_f1, w_f2, w_a1, w_a2, w_u_at, dm_189, List.elem_nil, List.elem_cons, List.map_nil, List.map_cons, List.sum_nil, List.sum_cons, Option.toList_none, Option.toList_some, List.nil_append, List.cons_append, true_and, and_true, implies_true, false_implies, if_true, if_false, reduceIte, reduceCtorEq, Bool.false_eq_true, Bool.and_false, Bool.false_and, Bool.and_self, Bool.and_true, Bool.true_and, Nat.reduceAdd, Nat.reduceBEq, Nat.reduceEqDiff, Nat.reduceLT, Nat.reduceLeDiff, Int.reduceAdd, Int.reduceNeg, Int.reduceToNat, Int.reduceLE, Int.reduceLT, Int.reduceSub, Int.cast_ofNat_Int, Int.reduceNatCast', Int.reduceNatCast, Nat.zero_add, Int.zero_add, and_self, false_and, and_false, or_false, false_or, true_or, or_true, not_true_eq_false, not_false_eq_true, ctL_n, Option.toList, List.nil_append, List.cons_append]
end
section
variable {w : W_} {fr : Nat} {x1 x2 x3 y z : Int}
set_option maxRecDepth 100000 in
set_option maxHeartbeats 2000000 in
theorem lk_189_0 (h1 : 1 ≤ fr) : ww_Ct 189 fr [.inr (.inr (.inl 73)), .inl 0, .inl x1, .inl x2, .inl x3] w fun r w' => r = some (.inl x3) ∧ w' = w := by
  refine of_189 (ww_go (ctL_cons ok_188 (ctL_cons ok_184 ctL_nil)) 60 [] ?_)
  simp only [ww_S, ww_1, wr_0, wr_1, wr_2, wr_3, wr_4, wr_5, wr_6, wr_7, wr_8, wr_9, wr_10, wr_11, wr_12, wr_13, wr_14, wr_15, wr_16, wr_17, wr_18, wr_19, wr_20, wr_21, wr_22, wr_23, wr_24, wr_25, wr_26, wr_27, wr_28, wr_29, wr_30, wr_31, wr_32, wr_33, wr_34, wr_35, wr_36, wr_37, wr_38, wr_39, wr_40, wr_41, wr_42, wr_43, wr_44, wr_45, wr_46, wr_47, wr_48, wr_49, wr_50, wr_51, wr_52, wr_53, wr_54, wr_55, wr_56, wr_57, wr_58, wr_59, wr_60, wr_61, wr_62, wr_63, wr_64, wr_65, wr_66, wr_67, wr_68, wr_69, wr_70, wr_71, wr_72, wr_73, wr_74, wr_75, wr_76, wr_77, wr_78, wr_79, wr_80, wr_81, wr_82, wr_83, wr_84, wr_85, wr_86, wr_87, ww_v1, ww_v2, ww_v3, ww_v4, ww_g0, ww_gS, ww_t0, ww_tS, ww_s0, ww_sS, ww_s2, ww_w1, ww_w2, ww_w3, ww_b, ww_tg, ww_p1, ww_p2, ww_q0, ww_qS, ww_k1, ww_k2, ww_k3, ww_w0, ww_wS, ww_i1, ww_i2, ww_f0, ww_f1, ww_f2, ww_f4, ww_fd, ww_cl, ww_mc, ww_tk, ww_ci, ww_ak, ww_gv, ww_g1, ww_kcs, w_f1, w_f2, w_a1, w_a2, w_u_at, dm_189, List.elem_nil, List.elem_cons, List.map_nil, List.map_cons, List.sum_nil, List.sum_cons, Option.toList_none, Option.toList_some, List.nil_append, List.cons_append, true_and, and_true, implies_true, false_implies, if_true, if_false, reduceIte, reduceCtorEq, Bool.false_eq_true, Bool.and_false, Bool.false_and, Bool.and_self, Bool.and_true, Bool.true_and, Nat.reduceAdd, Nat.reduceBEq, Nat.reduceEqDiff, Nat.reduceLT, Nat.reduceLeDiff, Int.reduceAdd, Int.reduceNeg, Int.reduceToNat, Int.reduceLE, Int.reduceLT, Int.reduceSub, Int.cast_ofNat_Int, Int.reduceNatCast', Int.reduceNatCast, Nat.zero_add, Int.zero_add, and_self, false_and, and_false, or_false, false_or, true_or, or_true, not_true_eq_false, not_false_eq_true, at_188, at_184, ctL_c, ctL_n]
  (repeat' (first | (with_reducible assumption) | (with_reducible exact trivial) | refine And.intro ?_ ?_ | intro _)) <;> first | omega | decide | rfl | skip
set_option maxRecDepth 100000 in
set_option maxHeartbeats 2000000 in
theorem lk_189_4 (h1 : 1 ≤ fr) (h2 : 0 ≤ x2 ∧ x2 < 8192) (hy : (if x2 = 0 then 0 else w.2 97 (3 * x2 + 1 - 1).toNat) = y) (y0 : 0 ≤ y ∧ y ≤ 9999) (hx : 0 ≤ x1 ∧ x1 ≤ 9999) : ww_Ct 189 fr [.inr (.inr (.inl 73)), .inl 4, .inl x1, .inl x2, .inl x3] w fun r w' => r = some (.inl (b9 (x1 + y))) ∧ w' = w := by
  refine of_189 (ww_go (ctL_cons ok_188 (ctL_cons ok_184 ctL_nil)) 60 [] ?_)
  simp only [ww_S, ww_1, wr_0, wr_1, wr_2, wr_3, wr_4, wr_5, wr_6, wr_7, wr_8, wr_9, wr_10, wr_11, wr_12, wr_13, wr_14, wr_15, wr_16, wr_17, wr_18, wr_19, wr_20, wr_21, wr_22, wr_23, wr_24, wr_25, wr_26, wr_27, wr_28, wr_29, wr_30, wr_31, wr_32, wr_33, wr_34, wr_35, wr_36, wr_37, wr_38, wr_39, wr_40, wr_41, wr_42, wr_43, wr_44, wr_45, wr_46, wr_47, wr_48, wr_49, wr_50, wr_51, wr_52, wr_53, wr_54, wr_55, wr_56, wr_57, wr_58, wr_59, wr_60, wr_61, wr_62, wr_63, wr_64, wr_65, wr_66, wr_67, wr_68, wr_69, wr_70, wr_71, wr_72, wr_73, wr_74, wr_75, wr_76, wr_77, wr_78, wr_79, wr_80, wr_81, wr_82, wr_83, wr_84, wr_85, wr_86, wr_87, ww_v1, ww_v2, ww_v3, ww_v4, ww_g0, ww_gS, ww_t0, ww_tS, ww_s0, ww_sS, ww_s2, ww_w1, ww_w2, ww_w3, ww_b, ww_tg, ww_p1, ww_p2, ww_q0, ww_qS, ww_k1, ww_k2, ww_k3, ww_w0, ww_wS, ww_i1, ww_i2, ww_f0, ww_f1, ww_f2, ww_f4, ww_fd, ww_cl, ww_mc, ww_tk, ww_ci, ww_ak, ww_gv, ww_g1, ww_kcs, w_f1, w_f2, w_a1, w_a2, w_u_at, dm_189, List.elem_nil, List.elem_cons, List.map_nil, List.map_cons, List.sum_nil, List.sum_cons, Option.toList_none, Option.toList_some, List.nil_append, List.cons_append, true_and, and_true, implies_true, false_implies, if_true, if_false, reduceIte, reduceCtorEq, Bool.false_eq_true, Bool.and_false, Bool.false_and, Bool.and_self, Bool.and_true, Bool.true_and, Nat.reduceAdd, Nat.reduceBEq, Nat.reduceEqDiff, Nat.reduceLT, Nat.reduceLeDiff, Int.reduceAdd, Int.reduceNeg, Int.reduceToNat, Int.reduceLE, Int.reduceLT, Int.reduceSub, Int.cast_ofNat_Int, Int.reduceNatCast', Int.reduceNatCast, Nat.zero_add, Int.zero_add, and_self, false_and, and_false, or_false, false_or, true_or, or_true, not_true_eq_false, not_false_eq_true, at_188, at_184, ctL_c, ctL_n, hy]
  (repeat' (first | (with_reducible assumption) | (with_reducible exact trivial) | refine And.intro ?_ ?_ | intro _)) <;> first | omega | (unfold am_rl; omega) | (unfold am_rg; omega) | decide | rfl | skip
set_option maxRecDepth 100000 in
set_option maxHeartbeats 2000000 in
theorem lk_189_20 (h1 : 1 ≤ fr) (h2 : 0 ≤ x1 ∧ x1 < 8192) (h3 : 1 ≤ x3 ∧ x3 < 4) (hy : (if x1 = 0 then 0 else w.2 97 (3 * x1 + x3 - 1).toNat) = y) : ww_Ct 189 fr [.inr (.inr (.inl 73)), .inl 20, .inl x1, .inl x2, .inl x3] w fun r w' => r = some (.inl y) ∧ w' = w := by
  refine of_189 (ww_go (ctL_cons ok_188 (ctL_cons ok_184 ctL_nil)) 60 [] ?_)
  simp only [ww_S, ww_1, wr_0, wr_1, wr_2, wr_3, wr_4, wr_5, wr_6, wr_7, wr_8, wr_9, wr_10, wr_11, wr_12, wr_13, wr_14, wr_15, wr_16, wr_17, wr_18, wr_19, wr_20, wr_21, wr_22, wr_23, wr_24, wr_25, wr_26, wr_27, wr_28, wr_29, wr_30, wr_31, wr_32, wr_33, wr_34, wr_35, wr_36, wr_37, wr_38, wr_39, wr_40, wr_41, wr_42, wr_43, wr_44, wr_45, wr_46, wr_47, wr_48, wr_49, wr_50, wr_51, wr_52, wr_53, wr_54, wr_55, wr_56, wr_57, wr_58, wr_59, wr_60, wr_61, wr_62, wr_63, wr_64, wr_65, wr_66, wr_67, wr_68, wr_69, wr_70, wr_71, wr_72, wr_73, wr_74, wr_75, wr_76, wr_77, wr_78, wr_79, wr_80, wr_81, wr_82, wr_83, wr_84, wr_85, wr_86, wr_87, ww_v1, ww_v2, ww_v3, ww_v4, ww_g0, ww_gS, ww_t0, ww_tS, ww_s0, ww_sS, ww_s2, ww_w1, ww_w2, ww_w3, ww_b, ww_tg, ww_p1, ww_p2, ww_q0, ww_qS, ww_k1, ww_k2, ww_k3, ww_w0, ww_wS, ww_i1, ww_i2, ww_f0, ww_f1, ww_f2, ww_f4, ww_fd, ww_cl, ww_mc, ww_tk, ww_ci, ww_ak, ww_gv, ww_g1, ww_kcs, w_f1, w_f2, w_a1, w_a2, w_u_at, dm_189, List.elem_nil, List.elem_cons, List.map_nil, List.map_cons, List.sum_nil, List.sum_cons, Option.toList_none, Option.toList_some, List.nil_append, List.cons_append, true_and, and_true, implies_true, false_implies, if_true, if_false, reduceIte, reduceCtorEq, Bool.false_eq_true, Bool.and_false, Bool.false_and, Bool.and_self, Bool.and_true, Bool.true_and, Nat.reduceAdd, Nat.reduceBEq, Nat.reduceEqDiff, Nat.reduceLT, Nat.reduceLeDiff, Int.reduceAdd, Int.reduceNeg, Int.reduceToNat, Int.reduceLE, Int.reduceLT, Int.reduceSub, Int.cast_ofNat_Int, Int.reduceNatCast', Int.reduceNatCast, Nat.zero_add, Int.zero_add, and_self, false_and, and_false, or_false, false_or, true_or, or_true, not_true_eq_false, not_false_eq_true, at_188, at_184, ctL_c, ctL_n, hy]
  (repeat' (first | (with_reducible assumption) | (with_reducible exact trivial) | refine And.intro ?_ ?_ | intro _)) <;> first | omega | (unfold am_rl; omega) | (unfold am_rg; omega) | decide | rfl | skip
set_option maxRecDepth 100000 in
set_option maxHeartbeats 2000000 in
theorem lk_189_50 (h1 : 1 ≤ fr) (h2 : 0 ≤ x1 ∧ x1 < 8192) (h2' : 0 ≤ x2 ∧ x2 < 8192) (h3 : 1 ≤ x3 ∧ x3 < 4) (hy : (if x1 = 0 then 0 else w.2 97 (3 * x1 + x3 - 1).toNat) = y) (y0 : 0 ≤ y ∧ y ≤ 9999) (hz : (if x2 = 0 then 0 else w.2 97 (3 * x2 + x3 - 1).toNat) = z) (z0 : 0 ≤ z ∧ z ≤ 9999) : ww_Ct 189 fr [.inr (.inr (.inl 73)), .inl 50, .inl x1, .inl x2, .inl x3] w fun r w' => r = some (.inl (b9 (y + z))) ∧ w' = w := by
  refine of_189 (ww_go (ctL_cons ok_188 (ctL_cons ok_184 ctL_nil)) 60 [] ?_)
  simp only [ww_S, ww_1, wr_0, wr_1, wr_2, wr_3, wr_4, wr_5, wr_6, wr_7, wr_8, wr_9, wr_10, wr_11, wr_12, wr_13, wr_14, wr_15, wr_16, wr_17, wr_18, wr_19, wr_20, wr_21, wr_22, wr_23, wr_24, wr_25, wr_26, wr_27, wr_28, wr_29, wr_30, wr_31, wr_32, wr_33, wr_34, wr_35, wr_36, wr_37, wr_38, wr_39, wr_40, wr_41, wr_42, wr_43, wr_44, wr_45, wr_46, wr_47, wr_48, wr_49, wr_50, wr_51, wr_52, wr_53, wr_54, wr_55, wr_56, wr_57, wr_58, wr_59, wr_60, wr_61, wr_62, wr_63, wr_64, wr_65, wr_66, wr_67, wr_68, wr_69, wr_70, wr_71, wr_72, wr_73, wr_74, wr_75, wr_76, wr_77, wr_78, wr_79, wr_80, wr_81, wr_82, wr_83, wr_84, wr_85, wr_86, wr_87, ww_v1, ww_v2, ww_v3, ww_v4, ww_g0, ww_gS, ww_t0, ww_tS, ww_s0, ww_sS, ww_s2, ww_w1, ww_w2, ww_w3, ww_b, ww_tg, ww_p1, ww_p2, ww_q0, ww_qS, ww_k1, ww_k2, ww_k3, ww_w0, ww_wS, ww_i1, ww_i2, ww_f0, ww_f1, ww_f2, ww_f4, ww_fd, ww_cl, ww_mc, ww_tk, ww_ci, ww_ak, ww_gv, ww_g1, ww_kcs, w_f1, w_f2, w_a1, w_a2, w_u_at, dm_189, List.elem_nil, List.elem_cons, List.map_nil, List.map_cons, List.sum_nil, List.sum_cons, Option.toList_none, Option.toList_some, List.nil_append, List.cons_append, true_and, and_true, implies_true, false_implies, if_true, if_false, reduceIte, reduceCtorEq, Bool.false_eq_true, Bool.and_false, Bool.false_and, Bool.and_self, Bool.and_true, Bool.true_and, Nat.reduceAdd, Nat.reduceBEq, Nat.reduceEqDiff, Nat.reduceLT, Nat.reduceLeDiff, Int.reduceAdd, Int.reduceNeg, Int.reduceToNat, Int.reduceLE, Int.reduceLT, Int.reduceSub, Int.cast_ofNat_Int, Int.reduceNatCast', Int.reduceNatCast, Nat.zero_add, Int.zero_add, and_self, false_and, and_false, or_false, false_or, true_or, or_true, not_true_eq_false, not_false_eq_true, at_188, at_184, ctL_c, ctL_n, hy, hz]
  (repeat' (first | (with_reducible assumption) | (with_reducible exact trivial) | refine And.intro ?_ ?_ | intro _)) <;> first | omega | (unfold am_rl; omega) | (unfold am_rg; omega) | decide | rfl | skip
set_option maxRecDepth 100000 in
set_option maxHeartbeats 2000000 in
theorem lk_189_x {k : Int} (h1 : 1 ≤ fr) (hk : 0 < k ∧ k < 50) (h4 : k ≠ 4 ∧ k ≠ 20) : ww_Ct 189 fr [.inr (.inr (.inl 73)), .inl k, .inl x1, .inl x2, .inl x3] w fun r w' => r = some (.inl 0) ∧ w' = w := by
  refine of_189 (ww_go (ctL_cons ok_188 (ctL_cons ok_184 ctL_nil)) 60 [] ?_)
  simp only [ww_S, ww_1, wr_0, wr_1, wr_2, wr_3, wr_4, wr_5, wr_6, wr_7, wr_8, wr_9, wr_10, wr_11, wr_12, wr_13, wr_14, wr_15, wr_16, wr_17, wr_18, wr_19, wr_20, wr_21, wr_22, wr_23, wr_24, wr_25, wr_26, wr_27, wr_28, wr_29, wr_30, wr_31, wr_32, wr_33, wr_34, wr_35, wr_36, wr_37, wr_38, wr_39, wr_40, wr_41, wr_42, wr_43, wr_44, wr_45, wr_46, wr_47, wr_48, wr_49, wr_50, wr_51, wr_52, wr_53, wr_54, wr_55, wr_56, wr_57, wr_58, wr_59, wr_60, wr_61, wr_62, wr_63, wr_64, wr_65, wr_66, wr_67, wr_68, wr_69, wr_70, wr_71, wr_72, wr_73, wr_74, wr_75, wr_76, wr_77, wr_78, wr_79, wr_80, wr_81, wr_82, wr_83, wr_84, wr_85, wr_86, wr_87, ww_v1, ww_v2, ww_v3, ww_v4, ww_g0, ww_gS, ww_t0, ww_tS, ww_s0, ww_sS, ww_s2, ww_w1, ww_w2, ww_w3, ww_b, ww_tg, ww_p1, ww_p2, ww_q0, ww_qS, ww_k1, ww_k2, ww_k3, ww_w0, ww_wS, ww_i1, ww_i2, ww_f0, ww_f1, ww_f2, ww_f4, ww_fd, ww_cl, ww_mc, ww_tk, ww_ci, ww_ak, ww_gv, ww_g1, ww_kcs, w_f1, w_f2, w_a1, w_a2, w_u_at, dm_189, List.elem_nil, List.elem_cons, List.map_nil, List.map_cons, List.sum_nil, List.sum_cons, Option.toList_none, Option.toList_some, List.nil_append, List.cons_append, true_and, and_true, implies_true, false_implies, if_true, if_false, reduceIte, reduceCtorEq, Bool.false_eq_true, Bool.and_false, Bool.false_and, Bool.and_self, Bool.and_true, Bool.true_and, Nat.reduceAdd, Nat.reduceBEq, Nat.reduceEqDiff, Nat.reduceLT, Nat.reduceLeDiff, Int.reduceAdd, Int.reduceNeg, Int.reduceToNat, Int.reduceLE, Int.reduceLT, Int.reduceSub, Int.cast_ofNat_Int, Int.reduceNatCast', Int.reduceNatCast, Nat.zero_add, Int.zero_add, and_self, false_and, and_false, or_false, false_or, true_or, or_true, not_true_eq_false, not_false_eq_true, at_188, at_184, ctL_c, ctL_n]
  (repeat' (first | (with_reducible assumption) | (with_reducible exact trivial) | refine And.intro ?_ ?_ | intro _)) <;> first | omega | (unfold am_rl; omega) | (unfold am_rg; omega) | decide | rfl | skip
end
/-! content -/
abbrev zr187 (fr : Nat) (P : Option am_V → W_ → Prop) (pc : Nat) (k a b c h i : Int) (w : W_) : Prop := ww_Z 12 7 fr 1 cX12_content none P pc [.inr (.inr (.inl 73)), .inl k, .inl a, .inl b, .inl c, .inl h, .inl i] [] w
/-- a content without its widths -/
abbrev r_m5 (w : W_) (k a b c h : Int) : W_ := w_a (w_a (w_a (w_a (w_a w 92 (w.1 73 26).toNat k) 93 (w.1 73 26).toNat a) 94 (w.1 73 26).toNat b) 95 (w.1 73 26).toNat c) 96 (w.1 73 26).toNat h
abbrev r_mk (w : W_) (k a b c h y1 y2 y3 : Int) : W_ := w_f (w_a (w_a (w_a (r_m5 w k a b c h) 97 (3 * w.1 73 26 + 1 - 1).toNat y1) 97 (3 * w.1 73 26 + 2 - 1).toNat y2) 97 (3 * w.1 73 26 + 3 - 1).toNat y3) 73 26 (w.1 73 26 + 1)
section
variable {w : W_} {fr : Nat} {P : Option am_V → W_ → Prop} {k a b c h i n x : Int}
set_option maxRecDepth 100000 in
set_option maxHeartbeats 2000000 in
theorem lk_187a (hn : 0 ≤ w.1 73 26 ∧ w.1 73 26 < 8192) (hh : h = 0 ∨ h = 1) (L : zr187 fr P 55 k a b c h 1 (r_m5 w k a b c h)) : ww_Ct 187 fr [.inr (.inr (.inl 73)), .inl k, .inl a, .inl b, .inl c, .inl h] w P := by
  refine of_187 (ww_go ctL_nil 60 [55] ?_)
  simp only [ww_S, ww_1, wr_0, wr_1, wr_2, wr_3, wr_4, wr_5, wr_6, wr_7, wr_8, wr_9, wr_10, wr_11, wr_12, wr_13, wr_14, wr_15, wr_16, wr_17, wr_18, wr_19, wr_20, wr_21, wr_22, wr_23, wr_24, wr_25, wr_26, wr_27, wr_28, wr_29, wr_30, wr_31, wr_32, wr_33, wr_34, wr_35, wr_36, wr_37, wr_38, wr_39, wr_40, wr_41, wr_42, wr_43, wr_44, wr_45, wr_46, wr_47, wr_48, wr_49, wr_50, wr_51, wr_52, wr_53, wr_54, wr_55, wr_56, wr_57, wr_58, wr_59, wr_60, wr_61, wr_62, wr_63, wr_64, wr_65, wr_66, wr_67, wr_68, wr_69, wr_70, wr_71, wr_72, wr_73, wr_74, wr_75, wr_76, wr_77, wr_78, wr_79, wr_80, wr_81, wr_82, wr_83, wr_84, wr_85, wr_86, wr_87, ww_v1, ww_v2, ww_v3, ww_v4, ww_g0, ww_gS, ww_t0, ww_tS, ww_s0, ww_sS, ww_s2, ww_w1, ww_w2, ww_w3, ww_b, ww_tg, ww_p1, ww_p2, ww_q0, ww_qS, ww_k1, ww_k2, ww_k3, ww_w0, ww_wS, ww_i1, ww_i2, ww_f0, ww_f1, ww_f2, ww_f4, ww_fd, ww_cl, ww_mc, ww_tk, ww_ci, ww_ak, ww_gv, ww_g1, ww_kcs, w_f1, w_f2, w_a1, w_a2, w_u_at, dm_187, List.elem_nil, List.elem_cons, List.map_nil, List.map_cons, List.sum_nil, List.sum_cons, Option.toList_none, Option.toList_some, List.nil_append, List.cons_append, true_and, and_true, implies_true, false_implies, if_true, if_false, reduceIte, reduceCtorEq, Bool.false_eq_true, Bool.and_false, Bool.false_and, Bool.and_self, Bool.and_true, Bool.true_and, Nat.reduceAdd, Nat.reduceBEq, Nat.reduceEqDiff, Nat.reduceLT, Nat.reduceLeDiff, Int.reduceAdd, Int.reduceNeg, Int.reduceToNat, Int.reduceLE, Int.reduceLT, Int.reduceSub, Int.cast_ofNat_Int, Int.reduceNatCast', Int.reduceNatCast, Nat.zero_add, Int.zero_add, and_self, false_and, and_false, or_false, false_or, true_or, or_true, not_true_eq_false, not_false_eq_true, ctL_n]
  (repeat' (first | (with_reducible assumption) | (with_reducible exact trivial) | refine And.intro ?_ ?_ | intro _)) <;> first | omega | decide | skip
set_option maxRecDepth 100000 in
set_option maxHeartbeats 2000000 in
theorem lk_187b (hf : 1 ≤ fr) (hn : w.1 73 26 = n) (n0 : 0 ≤ n ∧ n < 8192) (hi : 1 ≤ i ∧ i ≤ 3) (hc : ww_Ct 189 (fr - 1) [.inr (.inr (.inl 73)), .inl k, .inl a, .inl b, .inl i] w fun r w' => r = some (.inl x) ∧ w' = w) (L : zr187 fr P 55 k a b c h (i + 1) (w_a w 97 (3 * n + i - 1).toNat x)) : zr187 fr P 55 k a b c h i w := by
  refine ww_go1 ctL_nil 60 [55] ?_
  simp only [ww_S, ww_1, wr_0, wr_1, wr_2, wr_3, wr_4, wr_5, wr_6, wr_7, wr_8, wr_9, wr_10, wr_11, wr_12, wr_13, wr_14, wr_15, wr_16, wr_17, wr_18, wr_19, wr_20, wr_21, wr_22, wr_23, wr_24, wr_25, wr_26, wr_27, wr_28, wr_29, wr_30, wr_31, wr_32, wr_33, wr_34, wr_35, wr_36, wr_37, wr_38, wr_39, wr_40, wr_41, wr_42, wr_43, wr_44, wr_45, wr_46, wr_47, wr_48, wr_49, wr_50, wr_51, wr_52, wr_53, wr_54, wr_55, wr_56, wr_57, wr_58, wr_59, wr_60, wr_61, wr_62, wr_63, wr_64, wr_65, wr_66, wr_67, wr_68, wr_69, wr_70, wr_71, wr_72, wr_73, wr_74, wr_75, wr_76, wr_77, wr_78, wr_79, wr_80, wr_81, wr_82, wr_83, wr_84, wr_85, wr_86, wr_87, ww_v1, ww_v2, ww_v3, ww_v4, ww_g0, ww_gS, ww_t0, ww_tS, ww_s0, ww_sS, ww_s2, ww_w1, ww_w2, ww_w3, ww_b, ww_tg, ww_p1, ww_p2, ww_q0, ww_qS, ww_k1, ww_k2, ww_k3, ww_w0, ww_wS, ww_i1, ww_i2, ww_f0, ww_f1, ww_f2, ww_f4, ww_fd, ww_cl, ww_mc, ww_tk, ww_ci, ww_ak, ww_gv, ww_g1, ww_kcs, w_f1, w_f2, w_a1, w_a2, w_u_at, dm_187, List.elem_nil, List.elem_cons, List.map_nil, List.map_cons, List.sum_nil, List.sum_cons, Option.toList_none, Option.toList_some, List.nil_append, List.cons_append, true_and, and_true, implies_true, false_implies, if_true, if_false, reduceIte, reduceCtorEq, Bool.false_eq_true, Bool.and_false, Bool.false_and, Bool.and_self, Bool.and_true, Bool.true_and, Nat.reduceAdd, Nat.reduceBEq, Nat.reduceEqDiff, Nat.reduceLT, Nat.reduceLeDiff, Int.reduceAdd, Int.reduceNeg, Int.reduceToNat, Int.reduceLE, Int.reduceLT, Int.reduceSub, Int.cast_ofNat_Int, Int.reduceNatCast', Int.reduceNatCast, Nat.zero_add, Int.zero_add, and_self, false_and, and_false, or_false, false_or, true_or, or_true, not_true_eq_false, not_false_eq_true, ctL_n, hn]
  refine ⟨⟨by omega, by omega⟩, ⟨by omega, by omega⟩, fun q => absurd q (by omega), fun _ => ?_⟩
  refine ww_Cn_of hc (by omega) ?_
  rintro _ w1 ⟨rfl, hw⟩
  rw [hw]
  refine ww_go1 ctL_nil 40 [55] ?_
  simp only [ww_S, ww_1, wr_0, wr_1, wr_2, wr_3, wr_4, wr_5, wr_6, wr_7, wr_8, wr_9, wr_10, wr_11, wr_12, wr_13, wr_14, wr_15, wr_16, wr_17, wr_18, wr_19, wr_20, wr_21, wr_22, wr_23, wr_24, wr_25, wr_26, wr_27, wr_28, wr_29, wr_30, wr_31, wr_32, wr_33, wr_34, wr_35, wr_36, wr_37, wr_38, wr_39, wr_40, wr_41, wr_42, wr_43, wr_44, wr_45, wr_46, wr_47, wr_48, wr_49, wr_50, wr_51, wr_52, wr_53, wr_54, wr_55, wr_56, wr_57, wr_58, wr_59, wr_60, wr_61, wr_62, wr_63, wr_64, wr_65, wr_66, wr_67, wr_68, wr_69, wr_70, wr_71, wr_72, wr_73, wr_74, wr_75, wr_76, wr_77, wr_78, wr_79, wr_80, wr_81, wr_82, wr_83, wr_84, wr_85, wr_86, wr_87, ww_v1, ww_v2, ww_v3, ww_v4, ww_g0, ww_gS, ww_t0, ww_tS, ww_s0, ww_sS, ww_s2, ww_w1, ww_w2, ww_w3, ww_b, ww_tg, ww_p1, ww_p2, ww_q0, ww_qS, ww_k1, ww_k2, ww_k3, ww_w0, ww_wS, ww_i1, ww_i2, ww_f0, ww_f1, ww_f2, ww_f4, ww_fd, ww_cl, ww_mc, ww_tk, ww_ci, ww_ak, ww_gv, ww_g1, ww_kcs, w_f1, w_f2, w_a1, w_a2, w_u_at, dm_187, List.elem_nil, List.elem_cons, List.map_nil, List.map_cons, List.sum_nil, List.sum_cons, Option.toList_none, Option.toList_some, List.nil_append, List.cons_append, true_and, and_true, implies_true, false_implies, if_true, if_false, reduceIte, reduceCtorEq, Bool.false_eq_true, Bool.and_false, Bool.false_and, Bool.and_self, Bool.and_true, Bool.true_and, Nat.reduceAdd, Nat.reduceBEq, Nat.reduceEqDiff, Nat.reduceLT, Nat.reduceLeDiff, Int.reduceAdd, Int.reduceNeg, Int.reduceToNat, Int.reduceLE, Int.reduceLT, Int.reduceSub, Int.cast_ofNat_Int, Int.reduceNatCast', Int.reduceNatCast, Nat.zero_add, Int.zero_add, and_self, false_and, and_false, or_false, false_or, true_or, or_true, not_true_eq_false, not_false_eq_true, ctL_n, hn, Option.toList, List.nil_append, List.cons_append]
  (repeat' (first | (with_reducible assumption) | (with_reducible exact trivial) | refine And.intro ?_ ?_ | intro _)) <;> first | omega | decide | skip
set_option maxRecDepth 100000 in
set_option maxHeartbeats 2000000 in
theorem lk_187c (hn : w.1 73 26 = n) (n0 : 0 ≤ n ∧ n < 8192) (L : P (some (.inl n)) (w_f w 73 26 (n + 1))) : zr187 fr P 55 k a b c h (1 + 1 + 1 + 1) w := by
  have e : n + 1 - 1 = n := by omega
  refine ww_go1 ctL_nil 60 [] ?_
  simp only [ww_S, ww_1, wr_0, wr_1, wr_2, wr_3, wr_4, wr_5, wr_6, wr_7, wr_8, wr_9, wr_10, wr_11, wr_12, wr_13, wr_14, wr_15, wr_16, wr_17, wr_18, wr_19, wr_20, wr_21, wr_22, wr_23, wr_24, wr_25, wr_26, wr_27, wr_28, wr_29, wr_30, wr_31, wr_32, wr_33, wr_34, wr_35, wr_36, wr_37, wr_38, wr_39, wr_40, wr_41, wr_42, wr_43, wr_44, wr_45, wr_46, wr_47, wr_48, wr_49, wr_50, wr_51, wr_52, wr_53, wr_54, wr_55, wr_56, wr_57, wr_58, wr_59, wr_60, wr_61, wr_62, wr_63, wr_64, wr_65, wr_66, wr_67, wr_68, wr_69, wr_70, wr_71, wr_72, wr_73, wr_74, wr_75, wr_76, wr_77, wr_78, wr_79, wr_80, wr_81, wr_82, wr_83, wr_84, wr_85, wr_86, wr_87, ww_v1, ww_v2, ww_v3, ww_v4, ww_g0, ww_gS, ww_t0, ww_tS, ww_s0, ww_sS, ww_s2, ww_w1, ww_w2, ww_w3, ww_b, ww_tg, ww_p1, ww_p2, ww_q0, ww_qS, ww_k1, ww_k2, ww_k3, ww_w0, ww_wS, ww_i1, ww_i2, ww_f0, ww_f1, ww_f2, ww_f4, ww_fd, ww_cl, ww_mc, ww_tk, ww_ci, ww_ak, ww_gv, ww_g1, ww_kcs, w_f1, w_f2, w_a1, w_a2, w_u_at, dm_187, List.elem_nil, List.elem_cons, List.map_nil, List.map_cons, List.sum_nil, List.sum_cons, Option.toList_none, Option.toList_some, List.nil_append, List.cons_append, true_and, and_true, implies_true, false_implies, if_true, if_false, reduceIte, reduceCtorEq, Bool.false_eq_true, Bool.and_false, Bool.false_and, Bool.and_self, Bool.and_true, Bool.true_and, Nat.reduceAdd, Nat.reduceBEq, Nat.reduceEqDiff, Nat.reduceLT, Nat.reduceLeDiff, Int.reduceAdd, Int.reduceNeg, Int.reduceToNat, Int.reduceLE, Int.reduceLT, Int.reduceSub, Int.cast_ofNat_Int, Int.reduceNatCast', Int.reduceNatCast, Nat.zero_add, Int.zero_add, and_self, false_and, and_false, or_false, false_or, true_or, or_true, not_true_eq_false, not_false_eq_true, ctL_n, hn]
  (repeat' (first | (with_reducible assumption) | (with_reducible exact trivial) | refine And.intro ?_ ?_ | intro _)) <;> first | omega | (rw [e]; exact L) | decide | skip
end
/-- a content is made, its widths given -/
theorem lk_187 {w : W_} {fr : Nat} {k a b c h y1 y2 y3 : Int} (hf : 3 ≤ fr) (hn : 0 ≤ w.1 73 26 ∧ w.1 73 26 < 8192) (hh : h = 0 ∨ h = 1) (W : ∀ v : W_, v.1 = w.1 → (∀ j : Nat, (j : Int) < w.1 73 26 → (v.2 92 j = w.2 92 j ∧ v.2 93 j = w.2 93 j ∧ v.2 94 j = w.2 94 j ∧ v.2 95 j = w.2 95 j ∧ v.2 96 j = w.2 96 j) ∧ ∀ s : Nat, s < 3 → v.2 97 (3 * j + s) = w.2 97 (3 * j + s)) → (∀ b, b < 92 ∨ 97 < b → v.2 b = w.2 b) → ww_Ct 189 (fr - 1) [.inr (.inr (.inl 73)), .inl k, .inl a, .inl b, .inl 1] v (fun r w' => r = some (.inl y1) ∧ w' = v) ∧ ww_Ct 189 (fr - 1) [.inr (.inr (.inl 73)), .inl k, .inl a, .inl b, .inl 2] v (fun r w' => r = some (.inl y2) ∧ w' = v) ∧ ww_Ct 189 (fr - 1) [.inr (.inr (.inl 73)), .inl k, .inl a, .inl b, .inl 3] v (fun r w' => r = some (.inl y3) ∧ w' = v)) : ww_Ct 187 fr [.inr (.inr (.inl 73)), .inl k, .inl a, .inl b, .inl c, .inl h] w fun r w' => r = some (.inl (w.1 73 26)) ∧ w' = r_mk w k a b c h y1 y2 y3 := by
  have A5 : ∀ j : Nat, (j : Int) < w.1 73 26 → ((r_m5 w k a b c h).2 92 j = w.2 92 j ∧ (r_m5 w k a b c h).2 93 j = w.2 93 j ∧ (r_m5 w k a b c h).2 94 j = w.2 94 j ∧ (r_m5 w k a b c h).2 95 j = w.2 95 j ∧ (r_m5 w k a b c h).2 96 j = w.2 96 j) ∧ ∀ s : Nat, s < 3 → (r_m5 w k a b c h).2 97 (3 * j + s) = w.2 97 (3 * j + s) := fun j hj => by
    refine ⟨⟨?_, ?_, ?_, ?_, ?_⟩, fun s _ => rfl⟩
    · show (if 92 = 92 ∧ j = (w.1 73 26).toNat then _ else w.2 92 j) = _
      rw [if_neg (by omega)]
    · show (if 93 = 93 ∧ j = (w.1 73 26).toNat then _ else w.2 93 j) = _
      rw [if_neg (by omega)]
    · show (if 94 = 94 ∧ j = (w.1 73 26).toNat then _ else w.2 94 j) = _
      rw [if_neg (by omega)]
    · show (if 95 = 95 ∧ j = (w.1 73 26).toNat then _ else w.2 95 j) = _
      rw [if_neg (by omega)]
    · show (if 96 = 96 ∧ j = (w.1 73 26).toNat then _ else w.2 96 j) = _
      rw [if_neg (by omega)]
  have B5 : ∀ b', b' < 92 ∨ 97 < b' → (r_m5 w k a b c h).2 b' = w.2 b' := fun b' q => by
    unfold r_m5
    rw [w_a_2ne _ _ _ (by omega), w_a_2ne _ _ _ (by omega), w_a_2ne _ _ _ (by omega), w_a_2ne _ _ _ (by omega), w_a_2ne _ _ _ (by omega)]
  have A6 : ∀ (v : W_) (i x : Int), 3 * w.1 73 26 ≤ i → (∀ j : Nat, (j : Int) < w.1 73 26 → (v.2 92 j = w.2 92 j ∧ v.2 93 j = w.2 93 j ∧ v.2 94 j = w.2 94 j ∧ v.2 95 j = w.2 95 j ∧ v.2 96 j = w.2 96 j) ∧ ∀ s : Nat, s < 3 → v.2 97 (3 * j + s) = w.2 97 (3 * j + s)) → ∀ j : Nat, (j : Int) < w.1 73 26 → ((w_a v 97 i.toNat x).2 92 j = w.2 92 j ∧ (w_a v 97 i.toNat x).2 93 j = w.2 93 j ∧ (w_a v 97 i.toNat x).2 94 j = w.2 94 j ∧ (w_a v 97 i.toNat x).2 95 j = w.2 95 j ∧ (w_a v 97 i.toNat x).2 96 j = w.2 96 j) ∧ ∀ s : Nat, s < 3 → (w_a v 97 i.toNat x).2 97 (3 * j + s) = w.2 97 (3 * j + s) := fun v i x hi hv j hj => by
    have z := hv j hj
    refine ⟨z.1, fun s hs => ?_⟩
    show (if 97 = 97 ∧ 3 * j + s = i.toNat then _ else v.2 97 (3 * j + s)) = _
    rw [if_neg (by omega)]
    exact z.2 s hs
  have B6 : ∀ (v : W_) (i : Nat) (x : Int), (∀ b', b' < 92 ∨ 97 < b' → v.2 b' = w.2 b') → ∀ b', b' < 92 ∨ 97 < b' → (w_a v 97 i x).2 b' = w.2 b' := fun v i x hv b' q => by
    rw [w_a_2ne _ _ _ (by omega)]; exact hv b' q
  have W1 := (W (r_m5 w k a b c h) rfl A5 B5).1
  have W2 := (W (w_a (r_m5 w k a b c h) 97 (3 * w.1 73 26 + 1 - 1).toNat y1) rfl (A6 _ _ _ (by omega) A5) (B6 _ _ _ B5)).2.1
  have W3 := (W (w_a (w_a (r_m5 w k a b c h) 97 (3 * w.1 73 26 + 1 - 1).toNat y1) 97 (3 * w.1 73 26 + 2 - 1).toNat y2) rfl (A6 _ _ _ (by omega) (A6 _ _ _ (by omega) A5)) (B6 _ _ _ (B6 _ _ _ B5))).2.2
  refine lk_187a hn hh ?_
  refine lk_187b (n := w.1 73 26) (by omega) rfl hn (by omega) W1 ?_
  refine lk_187b (n := w.1 73 26) (by omega) rfl hn (by omega) W2 ?_
  refine lk_187b (n := w.1 73 26) (by omega) rfl hn (by omega) W3 ?_
  exact lk_187c (n := w.1 73 26) rfl hn ⟨rfl, rfl⟩
