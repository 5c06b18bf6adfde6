/-! ===== put and cut, of the class ===== -/
def h_fg (w : W_) (file : Int) (w' : W_) : Prop := ∃ w1, k_I w file (w.1 10 1).toNat w1 ∧ (if (k_n w file (w.1 10 1).toNat : Int) < w.1 10 1 then h_sw w1 0 w' else w' = w1)
theorem h_fg.keep {w w' : W_} {file : Int} (h : h_fg w file w') {b : Nat} (h1 : b ≠ 11) (h2 : b ≠ 13) (h3 : b ≠ 14) : w'.2 b = w.2 b := by
  obtain ⟨w1, hI, h⟩ := h
  by_cases c : (k_n w file (w.1 10 1).toNat : Int) < w.1 10 1
  · rw [if_pos c] at h
    obtain ⟨free, m, g1, g2, g3⟩ := h
    rw [g2 b h1 h2 h3, hI.2.1 b h1]
  · rw [if_neg c] at h
    rw [h, hI.2.1 b h1]
theorem h_pre_congr {w w1 : W_} {first : Int} (e1 : w1.1 = w.1) (e2 : w1.2 11 = w.2 11) (e3 : w1.2 13 = w.2 13) (h : h_pre w first) : h_pre w1 first := by
  have eg : ∀ k, w_g w1 11 k = w_g w 11 k := fun k => by
    unfold w_g
    rw [e2]
  have eh : ∀ v f, w_h w1 v f = w_h w v f := fun v f => by
    unfold w_h
    rw [e3]
  obtain ⟨h1, h2, h3, h4⟩ := h
  refine ⟨by rw [e1]; exact h1, by rw [e1]; exact h2, fun r r0 r1 => ?_, fun i i0 i1 => ?_⟩
  · rw [eg, e1]
    exact h3 r r0 (by rw [← e1]; exact r1)
  · rw [eh, eh]
    exact h4 i i0 (by rw [← e1]; exact i1)
theorem w_ins_ne (w : W_) (f p : Nat) (k n : Int) {b : Nat} (h3 : b ≠ 3) (h5 : b ≠ 5) (h7 : b ≠ 7) : (w_ins w f p k n).2 b = w.2 b := by
  funext i
  show (if b = 7 ∧ i = f then _ else if b = 5 ∧ i = 60 * f + p then n else if b = 3 ∧ i = 60 * f + p then k else if (b = 3 ∨ b = 5) ∧ 60 * f + p < i ∧ i ≤ 60 * f + (w.2 7 f).toNat then w.2 b (i - 1) else w.2 b i) = _
  rw [if_neg (fun q => h7 q.1), if_neg (fun q => h5 q.1), if_neg (fun q => h3 q.1), if_neg (by omega)]
theorem w_rem_ne (w : W_) (f p : Nat) {b : Nat} (h3 : b ≠ 3) (h5 : b ≠ 5) (h7 : b ≠ 7) : (w_rem w f p).2 b = w.2 b := by
  funext i
  show (if b = 7 ∧ i = f then _ else if (b = 3 ∨ b = 5) ∧ 60 * f + p ≤ i ∧ i < 60 * f + (w.2 7 f).toNat - 1 then w.2 b (i + 1) else w.2 b i) = _
  rw [if_neg (fun q => h7 q.1), if_neg (by omega)]
set_option maxRecDepth 100000 in
set_option maxHeartbeats 4000000 in
theorem lk_144 {f p k n : Int} {w : W_} (f0 : 0 ≤ f) (f1 : f < 3) (p0 : 0 ≤ p) (p1 : p ≤ w.2 7 f.toNat) (s1 : w.2 7 f.toNat < 60) (k0 : 0 ≤ k) (k1 : k ≤ 31) (n0 : 0 ≤ n) (n1 : n ≤ 99)
    (hp : h_pre w 0) (hr : ∀ r : Nat, (r : Int) < w.1 10 1 → 0 ≤ w.2 11 (61 * r) ∧ w.2 11 (61 * r) < 180) :
    ww_Ct 144 6 [.inr (.inr (.inl 1)), .inl f, .inl p, .inl k, .inl n] w fun r w' => r = some (.inl (w.2 7 f.toNat + 1)) ∧ h_fg (w_ins w f.toNat p.toNat k n) f w' := by
  have hsz : w_g w 7 f = w.2 7 f.toNat := w_g_pos f0
  refine of_144 (ww_go (ctL_cons ok_1 (ctL_cons ok_160 ctL_nil)) 100 [23, 53, 74] ?_)
  simp only [ww_S, ww_1, wr_0, wr_1, wr_2, wr_3, wr_4, wr_5, wr_6, wr_7, wr_8, wr_9, wr_10, wr_11, wr_12, wr_13, wr_14, wr_15, wr_16, wr_17, wr_18, wr_19, wr_20, wr_21, wr_22, wr_23, wr_24, wr_25, wr_26, wr_27, wr_28, wr_29, wr_30, wr_31, wr_32, wr_33, wr_34, wr_35, wr_36, wr_37, wr_38, wr_39, wr_40, wr_41, wr_42, wr_43, wr_44, wr_45, wr_46, wr_47, wr_48, wr_49, wr_50, wr_51, wr_52, wr_53, wr_54, wr_55, wr_56, wr_57, wr_58, wr_59, wr_60, wr_61, wr_62, wr_63, wr_64, wr_65, wr_66, wr_67, wr_68, wr_69, wr_70, wr_71, wr_72, wr_73, wr_74, wr_75, wr_76, wr_77, wr_78, wr_79, wr_80, wr_81, wr_82, wr_83, wr_84, wr_85, wr_86, wr_87, ww_v1, ww_v2, ww_v3, ww_v4, ww_g0, ww_gS, ww_t0, ww_tS, ww_s0, ww_sS, ww_s2, ww_w1, ww_w2, ww_w3, ww_b, ww_tg, ww_p1, ww_p2, ww_q0, ww_qS, ww_k1, ww_k2, ww_k3, ww_w0, ww_wS, ww_i1, ww_i2, ww_f0, ww_f1, ww_f2, ww_f4, ww_fd, ww_cl, ww_mc, ww_tk, ww_ci, ww_ak, ww_gv, ww_g1, ww_kcs, w_f1, w_f2, w_a1, w_a2, w_u_at, dm_144, List.elem_nil, List.elem_cons, List.map_nil, List.map_cons, List.sum_nil, List.sum_cons, Option.toList_none, Option.toList_some, List.nil_append, List.cons_append, true_and, and_true, implies_true, false_implies, if_true, if_false, reduceIte, reduceCtorEq, Bool.false_eq_true, Bool.and_false, Bool.false_and, Bool.and_self, Bool.and_true, Bool.true_and, Nat.reduceAdd, Nat.reduceBEq, Nat.reduceEqDiff, Nat.reduceLT, Nat.reduceLeDiff, Int.reduceAdd, Int.reduceNeg, Int.reduceToNat, Int.reduceLE, Int.reduceLT, Int.reduceSub, Int.cast_ofNat_Int, Int.reduceNatCast', Int.reduceNatCast, Nat.zero_add, Int.zero_add, and_self, false_and, and_false, or_false, false_or, true_or, or_true, not_true_eq_false, not_false_eq_true, at_1, at_160, ctL_c, ctL_n]
  rw [hsz, if_pos ⟨f0, f1⟩]
  (repeat' (first | refine And.intro ?_ ?_ | intro _)) <;> first | omega | skip
  refine ww_Cn_of (lk_5 f0 f1 p0 p1 s1) (by omega) ?_
  rintro r w1 ⟨rfl, rfl⟩
  refine ww_go1 (ctL_cons ok_1 (ctL_cons ok_160 ctL_nil)) 100 [] ?_
  simp only [ww_S, ww_1, wr_0, wr_1, wr_2, wr_3, wr_4, wr_5, wr_6, wr_7, wr_8, wr_9, wr_10, wr_11, wr_12, wr_13, wr_14, wr_15, wr_16, wr_17, wr_18, wr_19, wr_20, wr_21, wr_22, wr_23, wr_24, wr_25, wr_26, wr_27, wr_28, wr_29, wr_30, wr_31, wr_32, wr_33, wr_34, wr_35, wr_36, wr_37, wr_38, wr_39, wr_40, wr_41, wr_42, wr_43, wr_44, wr_45, wr_46, wr_47, wr_48, wr_49, wr_50, wr_51, wr_52, wr_53, wr_54, wr_55, wr_56, wr_57, wr_58, wr_59, wr_60, wr_61, wr_62, wr_63, wr_64, wr_65, wr_66, wr_67, wr_68, wr_69, wr_70, wr_71, wr_72, wr_73, wr_74, wr_75, wr_76, wr_77, wr_78, wr_79, wr_80, wr_81, wr_82, wr_83, wr_84, wr_85, wr_86, wr_87, ww_v1, ww_v2, ww_v3, ww_v4, ww_g0, ww_gS, ww_t0, ww_tS, ww_s0, ww_sS, ww_s2, ww_w1, ww_w2, ww_w3, ww_b, ww_tg, ww_p1, ww_p2, ww_q0, ww_qS, ww_k1, ww_k2, ww_k3, ww_w0, ww_wS, ww_i1, ww_i2, ww_f0, ww_f1, ww_f2, ww_f4, ww_fd, ww_cl, ww_mc, ww_tk, ww_ci, ww_ak, ww_gv, ww_g1, ww_kcs, w_f1, w_f2, w_a1, w_a2, w_u_at, dm_144, List.elem_nil, List.elem_cons, List.map_nil, List.map_cons, List.sum_nil, List.sum_cons, Option.toList_none, Option.toList_some, List.nil_append, List.cons_append, true_and, and_true, implies_true, false_implies, if_true, if_false, reduceIte, reduceCtorEq, Bool.false_eq_true, Bool.and_false, Bool.false_and, Bool.and_self, Bool.and_true, Bool.true_and, Nat.reduceAdd, Nat.reduceBEq, Nat.reduceEqDiff, Nat.reduceLT, Nat.reduceLeDiff, Int.reduceAdd, Int.reduceNeg, Int.reduceToNat, Int.reduceLE, Int.reduceLT, Int.reduceSub, Int.cast_ofNat_Int, Int.reduceNatCast', Int.reduceNatCast, Nat.zero_add, Int.zero_add, and_self, false_and, and_false, or_false, false_or, true_or, or_true, not_true_eq_false, not_false_eq_true, at_1, at_160, ctL_c, ctL_n, Option.toList, List.nil_append]
  have e11 := w_ins_ne w f.toNat p.toNat k n (b := 11) (by decide) (by decide) (by decide)
  refine ww_Cn_of (lk_58 f0 f1 (h_pre_congr (w1 := w_ins w f.toNat p.toNat k n) rfl e11 (w_ins_ne w f.toNat p.toNat k n (by decide) (by decide) (by decide)) hp) (by rw [e11]; exact hr)) (by omega) ?_
  rintro r w2 ⟨rfl, h⟩
  have h : h_fg (w_ins w f.toNat p.toNat k n) f w2 := h
  have e7 : w_g w2 7 f = w.2 7 f.toNat + 1 := by
    rw [w_g_pos f0, h.keep (by decide) (by decide) (by decide)]
    exact if_pos ⟨rfl, rfl⟩
  refine ww_go1 (ctL_cons ok_1 (ctL_cons ok_160 ctL_nil)) 100 [] ?_
  simp only [ww_S, ww_1, wr_0, wr_1, wr_2, wr_3, wr_4, wr_5, wr_6, wr_7, wr_8, wr_9, wr_10, wr_11, wr_12, wr_13, wr_14, wr_15, wr_16, wr_17, wr_18, wr_19, wr_20, wr_21, wr_22, wr_23, wr_24, wr_25, wr_26, wr_27, wr_28, wr_29, wr_30, wr_31, wr_32, wr_33, wr_34, wr_35, wr_36, wr_37, wr_38, wr_39, wr_40, wr_41, wr_42, wr_43, wr_44, wr_45, wr_46, wr_47, wr_48, wr_49, wr_50, wr_51, wr_52, wr_53, wr_54, wr_55, wr_56, wr_57, wr_58, wr_59, wr_60, wr_61, wr_62, wr_63, wr_64, wr_65, wr_66, wr_67, wr_68, wr_69, wr_70, wr_71, wr_72, wr_73, wr_74, wr_75, wr_76, wr_77, wr_78, wr_79, wr_80, wr_81, wr_82, wr_83, wr_84, wr_85, wr_86, wr_87, ww_v1, ww_v2, ww_v3, ww_v4, ww_g0, ww_gS, ww_t0, ww_tS, ww_s0, ww_sS, ww_s2, ww_w1, ww_w2, ww_w3, ww_b, ww_tg, ww_p1, ww_p2, ww_q0, ww_qS, ww_k1, ww_k2, ww_k3, ww_w0, ww_wS, ww_i1, ww_i2, ww_f0, ww_f1, ww_f2, ww_f4, ww_fd, ww_cl, ww_mc, ww_tk, ww_ci, ww_ak, ww_gv, ww_g1, ww_kcs, w_f1, w_f2, w_a1, w_a2, w_u_at, dm_144, List.elem_nil, List.elem_cons, List.map_nil, List.map_cons, List.sum_nil, List.sum_cons, Option.toList_none, Option.toList_some, List.nil_append, List.cons_append, true_and, and_true, implies_true, false_implies, if_true, if_false, reduceIte, reduceCtorEq, Bool.false_eq_true, Bool.and_false, Bool.false_and, Bool.and_self, Bool.and_true, Bool.true_and, Nat.reduceAdd, Nat.reduceBEq, Nat.reduceEqDiff, Nat.reduceLT, Nat.reduceLeDiff, Int.reduceAdd, Int.reduceNeg, Int.reduceToNat, Int.reduceLE, Int.reduceLT, Int.reduceSub, Int.cast_ofNat_Int, Int.reduceNatCast', Int.reduceNatCast, Nat.zero_add, Int.zero_add, and_self, false_and, and_false, or_false, false_or, true_or, or_true, not_true_eq_false, not_false_eq_true, at_1, at_160, ctL_c, ctL_n, Option.toList, List.nil_append, e7]
  exact ⟨⟨by omega, by omega⟩, h⟩
set_option maxRecDepth 100000 in
set_option maxHeartbeats 4000000 in
theorem lk_145 {f p : Int} {w : W_} (f0 : 0 ≤ f) (f1 : f < 3) (p0 : 0 ≤ p) (p1 : p < w.2 7 f.toNat) (s1 : w.2 7 f.toNat ≤ 60)
    (hp : h_pre w 0) (hr : ∀ r : Nat, (r : Int) < w.1 10 1 → 0 ≤ w.2 11 (61 * r) ∧ w.2 11 (61 * r) < 180) :
    ww_Ct 145 6 [.inr (.inr (.inl 1)), .inl f, .inl p] w fun r w' => r = some (.inl (100 * w_g w 3 (f * 60 + p) + w_g w 5 (f * 60 + p))) ∧ h_fg (w_rem w f.toNat p.toNat) f w' := by
  have hsz : w_g w 7 f = w.2 7 f.toNat := w_g_pos f0
  refine of_145 (ww_go (ctL_cons ok_1 (ctL_cons ok_4 (ctL_cons ok_160 ctL_nil))) 100 [23] ?_)
  simp only [ww_S, ww_1, wr_0, wr_1, wr_2, wr_3, wr_4, wr_5, wr_6, wr_7, wr_8, wr_9, wr_10, wr_11, wr_12, wr_13, wr_14, wr_15, wr_16, wr_17, wr_18, wr_19, wr_20, wr_21, wr_22, wr_23, wr_24, wr_25, wr_26, wr_27, wr_28, wr_29, wr_30, wr_31, wr_32, wr_33, wr_34, wr_35, wr_36, wr_37, wr_38, wr_39, wr_40, wr_41, wr_42, wr_43, wr_44, wr_45, wr_46, wr_47, wr_48, wr_49, wr_50, wr_51, wr_52, wr_53, wr_54, wr_55, wr_56, wr_57, wr_58, wr_59, wr_60, wr_61, wr_62, wr_63, wr_64, wr_65, wr_66, wr_67, wr_68, wr_69, wr_70, wr_71, wr_72, wr_73, wr_74, wr_75, wr_76, wr_77, wr_78, wr_79, wr_80, wr_81, wr_82, wr_83, wr_84, wr_85, wr_86, wr_87, ww_v1, ww_v2, ww_v3, ww_v4, ww_g0, ww_gS, ww_t0, ww_tS, ww_s0, ww_sS, ww_s2, ww_w1, ww_w2, ww_w3, ww_b, ww_tg, ww_p1, ww_p2, ww_q0, ww_qS, ww_k1, ww_k2, ww_k3, ww_w0, ww_wS, ww_i1, ww_i2, ww_f0, ww_f1, ww_f2, ww_f4, ww_fd, ww_cl, ww_mc, ww_tk, ww_ci, ww_ak, ww_gv, ww_g1, ww_kcs, w_f1, w_f2, w_a1, w_a2, w_u_at, dm_145, List.elem_nil, List.elem_cons, List.map_nil, List.map_cons, List.sum_nil, List.sum_cons, Option.toList_none, Option.toList_some, List.nil_append, List.cons_append, true_and, and_true, implies_true, false_implies, if_true, if_false, reduceIte, reduceCtorEq, Bool.false_eq_true, Bool.and_false, Bool.false_and, Bool.and_self, Bool.and_true, Bool.true_and, Nat.reduceAdd, Nat.reduceBEq, Nat.reduceEqDiff, Nat.reduceLT, Nat.reduceLeDiff, Int.reduceAdd, Int.reduceNeg, Int.reduceToNat, Int.reduceLE, Int.reduceLT, Int.reduceSub, Int.cast_ofNat_Int, Int.reduceNatCast', Int.reduceNatCast, Nat.zero_add, Int.zero_add, and_self, false_and, and_false, or_false, false_or, true_or, or_true, not_true_eq_false, not_false_eq_true, at_1, at_4, at_160, ctL_c, ctL_n]
  rw [hsz, if_pos ⟨f0, f1⟩]
  (repeat' (first | refine And.intro ?_ ?_ | intro _)) <;> first | omega | skip
  refine ww_Cn_of (lk_6 f0 f1 p0 p1 s1) (by omega) ?_
  rintro r w1 ⟨rfl, rfl⟩
  refine ww_go1 (ctL_cons ok_1 (ctL_cons ok_160 ctL_nil)) 100 [] ?_
  simp only [ww_S, ww_1, wr_0, wr_1, wr_2, wr_3, wr_4, wr_5, wr_6, wr_7, wr_8, wr_9, wr_10, wr_11, wr_12, wr_13, wr_14, wr_15, wr_16, wr_17, wr_18, wr_19, wr_20, wr_21, wr_22, wr_23, wr_24, wr_25, wr_26, wr_27, wr_28, wr_29, wr_30, wr_31, wr_32, wr_33, wr_34, wr_35, wr_36, wr_37, wr_38, wr_39, wr_40, wr_41, wr_42, wr_43, wr_44, wr_45, wr_46, wr_47, wr_48, wr_49, wr_50, wr_51, wr_52, wr_53, wr_54, wr_55, wr_56, wr_57, wr_58, wr_59, wr_60, wr_61, wr_62, wr_63, wr_64, wr_65, wr_66, wr_67, wr_68, wr_69, wr_70, wr_71, wr_72, wr_73, wr_74, wr_75, wr_76, wr_77, wr_78, wr_79, wr_80, wr_81, wr_82, wr_83, wr_84, wr_85, wr_86, wr_87, ww_v1, ww_v2, ww_v3, ww_v4, ww_g0, ww_gS, ww_t0, ww_tS, ww_s0, ww_sS, ww_s2, ww_w1, ww_w2, ww_w3, ww_b, ww_tg, ww_p1, ww_p2, ww_q0, ww_qS, ww_k1, ww_k2, ww_k3, ww_w0, ww_wS, ww_i1, ww_i2, ww_f0, ww_f1, ww_f2, ww_f4, ww_fd, ww_cl, ww_mc, ww_tk, ww_ci, ww_ak, ww_gv, ww_g1, ww_kcs, w_f1, w_f2, w_a1, w_a2, w_u_at, dm_145, List.elem_nil, List.elem_cons, List.map_nil, List.map_cons, List.sum_nil, List.sum_cons, Option.toList_none, Option.toList_some, List.nil_append, List.cons_append, true_and, and_true, implies_true, false_implies, if_true, if_false, reduceIte, reduceCtorEq, Bool.false_eq_true, Bool.and_false, Bool.false_and, Bool.and_self, Bool.and_true, Bool.true_and, Nat.reduceAdd, Nat.reduceBEq, Nat.reduceEqDiff, Nat.reduceLT, Nat.reduceLeDiff, Int.reduceAdd, Int.reduceNeg, Int.reduceToNat, Int.reduceLE, Int.reduceLT, Int.reduceSub, Int.cast_ofNat_Int, Int.reduceNatCast', Int.reduceNatCast, Nat.zero_add, Int.zero_add, and_self, false_and, and_false, or_false, false_or, true_or, or_true, not_true_eq_false, not_false_eq_true, at_1, at_160, ctL_c, ctL_n, Option.toList, List.nil_append]
  have e11 := w_rem_ne w f.toNat p.toNat (b := 11) (by decide) (by decide) (by decide)
  refine ww_Cn_of (lk_58 f0 f1 (h_pre_congr (w1 := w_rem w f.toNat p.toNat) rfl e11 (w_rem_ne w f.toNat p.toNat (by decide) (by decide) (by decide)) hp) (by rw [e11]; exact hr)) (by omega) ?_
  rintro r w2 ⟨rfl, h⟩
  have h : h_fg (w_rem w f.toNat p.toNat) f w2 := h
  refine ww_go1 (ctL_cons ok_1 (ctL_cons ok_160 ctL_nil)) 100 [] ?_
  simp only [ww_S, ww_1, wr_0, wr_1, wr_2, wr_3, wr_4, wr_5, wr_6, wr_7, wr_8, wr_9, wr_10, wr_11, wr_12, wr_13, wr_14, wr_15, wr_16, wr_17, wr_18, wr_19, wr_20, wr_21, wr_22, wr_23, wr_24, wr_25, wr_26, wr_27, wr_28, wr_29, wr_30, wr_31, wr_32, wr_33, wr_34, wr_35, wr_36, wr_37, wr_38, wr_39, wr_40, wr_41, wr_42, wr_43, wr_44, wr_45, wr_46, wr_47, wr_48, wr_49, wr_50, wr_51, wr_52, wr_53, wr_54, wr_55, wr_56, wr_57, wr_58, wr_59, wr_60, wr_61, wr_62, wr_63, wr_64, wr_65, wr_66, wr_67, wr_68, wr_69, wr_70, wr_71, wr_72, wr_73, wr_74, wr_75, wr_76, wr_77, wr_78, wr_79, wr_80, wr_81, wr_82, wr_83, wr_84, wr_85, wr_86, wr_87, ww_v1, ww_v2, ww_v3, ww_v4, ww_g0, ww_gS, ww_t0, ww_tS, ww_s0, ww_sS, ww_s2, ww_w1, ww_w2, ww_w3, ww_b, ww_tg, ww_p1, ww_p2, ww_q0, ww_qS, ww_k1, ww_k2, ww_k3, ww_w0, ww_wS, ww_i1, ww_i2, ww_f0, ww_f1, ww_f2, ww_f4, ww_fd, ww_cl, ww_mc, ww_tk, ww_ci, ww_ak, ww_gv, ww_g1, ww_kcs, w_f1, w_f2, w_a1, w_a2, w_u_at, dm_145, List.elem_nil, List.elem_cons, List.map_nil, List.map_cons, List.sum_nil, List.sum_cons, Option.toList_none, Option.toList_some, List.nil_append, List.cons_append, true_and, and_true, implies_true, false_implies, if_true, if_false, reduceIte, reduceCtorEq, Bool.false_eq_true, Bool.and_false, Bool.false_and, Bool.and_self, Bool.and_true, Bool.true_and, Nat.reduceAdd, Nat.reduceBEq, Nat.reduceEqDiff, Nat.reduceLT, Nat.reduceLeDiff, Int.reduceAdd, Int.reduceNeg, Int.reduceToNat, Int.reduceLE, Int.reduceLT, Int.reduceSub, Int.cast_ofNat_Int, Int.reduceNatCast', Int.reduceNatCast, Nat.zero_add, Int.zero_add, and_self, false_and, and_false, or_false, false_or, true_or, or_true, not_true_eq_false, not_false_eq_true, at_1, at_160, ctL_c, ctL_n, Option.toList, List.nil_append]
  exact h
