/-! ===== the class: headings too deep; a round begins ===== -/
set_option maxRecDepth 100000 in
set_option maxHeartbeats 2000000 in
theorem lk_123b {w : W_} (h0 : f_t w 2 = 0) (h1 : 1 ≤ w.1 33 1 ∧ w.1 33 1 < 24000) (hk : w_kn w) (h2 : am_rg (w.1 50 8 + 1) ∧ 12 ≤ w.1 50 8) (h3 : -100000 ≤ f_t w 1 ∧ f_t w 1 < 10000000) (h5 : 0 ≤ w_h w (f_t w 1) 3 ∧ w_h w (f_t w 1) 3 < 100000) (h4 : am_rg (w.1 50 13) ∧ am_rg (w.1 50 10) ∧ am_rg (w.1 50 12 + 1) ∧ am_rg (w.1 50 16)) : ww_Ct 123 4 [.inr (.inr (.inl 50))] w fun r w' => r = none ∧ w' = w_nt (w_f (w_hd w) 50 8 (w.1 50 8 + 1)) (100000 * 5 + w_spot (w_h w (f_t w 1) 3)) := by
  obtain ⟨g1, g2, g3, g4⟩ := h4
  have hk0 : w_kn (w_fs w 2 1) := w_kn_a hk
  have ekn : ∀ W : W_, w_kn W → w_kn (w_sl W) := fun W h => by
    unfold w_sl
    split
    · exact w_kn_f (w_kn_f (w_kn_f (w_kn_f h (by decide)) (by decide)) (by decide)) (by decide)
    · exact w_kn_f (w_kn_f h (by decide)) (by decide)
  have z0 := z_123b (w := w_fs w 2 1) (v := f_t w 1) hk0 h2 h3 (by rw [w_h_fs]; exact h5)
  have e1 : w_h (w_sl (w_fs w 2 1)) (f_t w 1) 3 = w_h w (f_t w 1) 3 := by
    unfold w_h
    rw [w_sl_2, w_fs2 _ _ _ (by decide)]
  have z1 := z_123b (w := w_sl (w_fs w 2 1)) (v := f_t w 1) (ekn _ hk0) (by rw [w_sl_ne _ (by decide), w_fs1]; exact h2) h3 (by rw [e1]; exact h5)
  rw [e1, w_sl_ne _ (by decide), w_fs1] at z1
  rw [w_h_fs, w_fs1] at z0
  unfold w_hd
  refine of_123 (ww_go (ctL_cons ok_13 (ctL_cons ok_14 (ctL_cons ok_121 ctL_nil))) 200 [44] ?_)
  simp only [ww_S, ww_1, wr_0, wr_1, wr_2, wr_3, wr_4, wr_5, wr_6, wr_7, wr_8, wr_9, wr_10, wr_11, wr_12, wr_13, wr_14, wr_15, wr_16, wr_17, wr_18, wr_19, wr_20, wr_21, wr_22, wr_23, wr_24, wr_25, wr_26, wr_27, wr_28, wr_29, wr_30, wr_31, wr_32, wr_33, wr_34, wr_35, wr_36, wr_37, wr_38, wr_39, wr_40, wr_41, wr_42, wr_43, wr_44, wr_45, wr_46, wr_47, wr_48, wr_49, wr_50, wr_51, wr_52, wr_53, wr_54, wr_55, wr_56, wr_57, wr_58, wr_59, wr_60, wr_61, wr_62, wr_63, wr_64, wr_65, wr_66, wr_67, wr_68, wr_69, wr_70, wr_71, wr_72, wr_73, wr_74, wr_75, wr_76, wr_77, wr_78, wr_79, wr_80, wr_81, wr_82, wr_83, wr_84, wr_85, wr_86, wr_87, ww_v1, ww_v2, ww_v3, ww_v4, ww_g0, ww_gS, ww_t0, ww_tS, ww_s0, ww_sS, ww_s2, ww_w1, ww_w2, ww_w3, ww_b, ww_tg, ww_p1, ww_p2, ww_q0, ww_qS, ww_k1, ww_k2, ww_k3, ww_w0, ww_wS, ww_i1, ww_i2, ww_f0, ww_f1, ww_f2, ww_f4, ww_fd, ww_cl, ww_mc, ww_tk, ww_ci, ww_ak, ww_gv, ww_g1, ww_kcs, w_f1, w_f2, w_a1, w_a2, w_u_at, dm_123, List.elem_nil, List.elem_cons, List.map_nil, List.map_cons, List.sum_nil, List.sum_cons, Option.toList_none, Option.toList_some, List.nil_append, List.cons_append, true_and, and_true, implies_true, false_implies, if_true, if_false, reduceIte, reduceCtorEq, Bool.false_eq_true, Bool.and_false, Bool.false_and, Bool.and_self, Bool.and_true, Bool.true_and, Nat.reduceAdd, Nat.reduceBEq, Nat.reduceEqDiff, Nat.reduceLT, Nat.reduceLeDiff, Int.reduceAdd, Int.reduceNeg, Int.reduceToNat, Int.reduceLE, Int.reduceLT, Int.reduceSub, Int.cast_ofNat_Int, Int.reduceNatCast', Int.reduceNatCast, Nat.zero_add, Int.zero_add, and_self, false_and, and_false, or_false, false_or, true_or, or_true, not_true_eq_false, not_false_eq_true, at_13, at_14s, at_121s, ctL_c, ctL_n, w_fs1, h0]
  by_cases c : w.1 50 10 < w.1 50 13
  · rw [if_pos c]
    (repeat' (first | (with_reducible assumption) | (with_reducible exact trivial) | (with_reducible exact z1) | refine And.intro ?_ ?_ | intro _)) <;> first | omega | (unfold am_rg at *; omega) | (with_reducible rfl) | (exfalso; omega) | decide | skip
  · rw [if_neg c]
    (repeat' (first | (with_reducible assumption) | (with_reducible exact trivial) | (with_reducible exact z0) | refine And.intro ?_ ?_ | intro _)) <;> first | omega | (unfold am_rg at *; omega) | (with_reducible rfl) | (exfalso; omega) | decide | skip
theorem w_cpy1 (w : W_) (a b : Nat) (n : Int) : (w_cpy w a b n).1 = w.1 := rfl
set_option maxRecDepth 100000 in
set_option maxHeartbeats 2000000 in
theorem lk_64 {w : W_} {o : Nat} (ho : w.1 17 7 = o) (hO : o = 24 ∨ o = 55 ∨ o = 64) : ww_Ct 64 4 [.inr (.inr (.inl 17))] w fun r w' => r = none ∧ w' = w_f (w_f (w_fill (w_fill (w_cpy (w_f (w_f (w_f (w_f w 17 3 0) 17 4 0) 17 5 0) 17 6 0) 18 20 42) 18 42 45 20005) 20 0 42 0) o 5 0) o 4 0 := by
  refine of_64 (ww_go (ctL_cons ok_70 (ctL_cons ok_71 ctL_nil)) 200 [] ?_)
  rcases hO with rfl | rfl | rfl
  all_goals (
    simp only [ww_S, ww_1, wr_0, wr_1, wr_2, wr_3, wr_4, wr_5, wr_6, wr_7, wr_8, wr_9, wr_10, wr_11, wr_12, wr_13, wr_14, wr_15, wr_16, wr_17, wr_18, wr_19, wr_20, wr_21, wr_22, wr_23, wr_24, wr_25, wr_26, wr_27, wr_28, wr_29, wr_30, wr_31, wr_32, wr_33, wr_34, wr_35, wr_36, wr_37, wr_38, wr_39, wr_40, wr_41, wr_42, wr_43, wr_44, wr_45, wr_46, wr_47, wr_48, wr_49, wr_50, wr_51, wr_52, wr_53, wr_54, wr_55, wr_56, wr_57, wr_58, wr_59, wr_60, wr_61, wr_62, wr_63, wr_64, wr_65, wr_66, wr_67, wr_68, wr_69, wr_70, wr_71, wr_72, wr_73, wr_74, wr_75, wr_76, wr_77, wr_78, wr_79, wr_80, wr_81, wr_82, wr_83, wr_84, wr_85, wr_86, wr_87, ww_v1, ww_v2, ww_v3, ww_v4, ww_g0, ww_gS, ww_t0, ww_tS, ww_s0, ww_sS, ww_s2, ww_w1, ww_w2, ww_w3, ww_b, ww_tg, ww_p1, ww_p2, ww_q0, ww_qS, ww_k1, ww_k2, ww_k3, ww_w0, ww_wS, ww_i1, ww_i2, ww_f0, ww_f1, ww_f2, ww_f4, ww_fd, ww_cl, ww_mc, ww_tk, ww_ci, ww_ak, ww_gv, ww_g1, ww_kcs, w_f1, w_f2, w_a1, w_a2, w_u_at, dm_64, List.elem_nil, List.elem_cons, List.map_nil, List.map_cons, List.sum_nil, List.sum_cons, Option.toList_none, Option.toList_some, List.nil_append, List.cons_append, true_and, and_true, implies_true, false_implies, if_true, if_false, reduceIte, reduceCtorEq, Bool.false_eq_true, Bool.and_false, Bool.false_and, Bool.and_self, Bool.and_true, Bool.true_and, Nat.reduceAdd, Nat.reduceBEq, Nat.reduceEqDiff, Nat.reduceLT, Nat.reduceLeDiff, Int.reduceAdd, Int.reduceNeg, Int.reduceToNat, Int.reduceLE, Int.reduceLT, Int.reduceSub, Int.cast_ofNat_Int, Int.reduceNatCast', Int.reduceNatCast, Nat.zero_add, Int.zero_add, and_self, false_and, and_false, or_false, false_or, true_or, or_true, not_true_eq_false, not_false_eq_true, at_70, at_71, ctL_c, ctL_n, w_isRs, w_bds, w_fill1, w_cpy1, ho]
    (repeat' (first | (with_reducible assumption) | (with_reducible exact trivial) | refine And.intro ?_ ?_ | intro _)) <;> first | omega | (unfold am_rg at *; omega) | (with_reducible rfl) | (exfalso; omega) | decide | skip)
