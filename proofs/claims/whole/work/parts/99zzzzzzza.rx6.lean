/-! ===== the reference lays; SHOWs used up ===== -/
set_option maxRecDepth 100000 in
set_option maxHeartbeats 2000000 in
theorem z_222f {fr : Nat} (h0 : 2 ≤ fr) {x0 x1 : Int} {w : W_} (h1 : 0 ≤ w.1 73 68 ∧ w.1 73 68 < 200) (v3 : am_V) (h3 : am_two v3 = false) : ww_Z 12 4 fr 0 cX12_lays none (fun r w' => r = none ∧ w' = r_ly w x0 x1) 28 [.inr (.inr (.inl 73)), .inl x0, .inl x1, v3] [] w := by
  unfold r_ly
  refine ww_go1 ctL_nil 200 [] ?_
  simp only [ww_S, ww_1, wr_0, wr_1, wr_2, wr_3, wr_4, wr_5, wr_6, wr_7, wr_8, wr_9, wr_10, wr_11, wr_12, wr_13, wr_14, wr_15, wr_16, wr_17, wr_18, wr_19, wr_20, wr_21, wr_22, wr_23, wr_24, wr_25, wr_26, wr_27, wr_28, wr_29, wr_30, wr_31, wr_32, wr_33, wr_34, wr_35, wr_36, wr_37, wr_38, wr_39, wr_40, wr_41, wr_42, wr_43, wr_44, wr_45, wr_46, wr_47, wr_48, wr_49, wr_50, wr_51, wr_52, wr_53, wr_54, wr_55, wr_56, wr_57, wr_58, wr_59, wr_60, wr_61, wr_62, wr_63, wr_64, wr_65, wr_66, wr_67, wr_68, wr_69, wr_70, wr_71, wr_72, wr_73, wr_74, wr_75, wr_76, wr_77, wr_78, wr_79, wr_80, wr_81, wr_82, wr_83, wr_84, wr_85, wr_86, wr_87, ww_v1, ww_v2, ww_v3, ww_v4, ww_g0, ww_gS, ww_t0, ww_tS, ww_s0, ww_sS, ww_s2, ww_w1, ww_w2, ww_w3, ww_b, ww_tg, ww_p1, ww_p2, ww_q0, ww_qS, ww_k1, ww_k2, ww_k3, ww_w0, ww_wS, ww_i1, ww_i2, ww_f0, ww_f1, ww_f2, ww_f4, ww_fd, ww_cl, ww_mc, ww_tk, ww_ci, ww_ak, ww_gv, ww_g1, ww_kcs, w_f1, w_f2, w_a1, w_a2, w_u_at, dm_222, List.elem_nil, List.elem_cons, List.map_nil, List.map_cons, List.sum_nil, List.sum_cons, Option.toList_none, Option.toList_some, List.nil_append, List.cons_append, true_and, and_true, implies_true, false_implies, if_true, if_false, reduceIte, reduceCtorEq, Bool.false_eq_true, Bool.and_false, Bool.false_and, Bool.and_self, Bool.and_true, Bool.true_and, Nat.reduceAdd, Nat.reduceBEq, Nat.reduceEqDiff, Nat.reduceLT, Nat.reduceLeDiff, Int.reduceAdd, Int.reduceNeg, Int.reduceToNat, Int.reduceLE, Int.reduceLT, Int.reduceSub, Int.cast_ofNat_Int, Int.reduceNatCast', Int.reduceNatCast, Nat.zero_add, Int.zero_add, and_self, false_and, and_false, or_false, false_or, true_or, or_true, not_true_eq_false, not_false_eq_true, ctL_n, h3]
  (repeat' (first | (with_reducible assumption) | (with_reducible exact trivial) | refine And.intro ?_ ?_ | intro _)) <;> first | omega | (unfold am_rg at *; omega) | (with_reducible rfl) | (exfalso; omega) | decide | skip
set_option maxRecDepth 100000 in
set_option maxHeartbeats 2000000 in
theorem lk_222f {fr : Nat} (h0 : 2 ≤ fr) {x0 x1 : Int} {w : W_} (h1 : 0 ≤ w.1 73 68 ∧ w.1 73 68 < 200) (h2 : am_rg (w.1 73 67 + x1) ∧ am_rg (w.1 73 3) ∧ am_rg (w.1 73 67) ∧ am_rg (w.1 73 58)) (h3 : (0 ≤ w.1 73 66 ∧ w.1 73 66 < 100) ∧ (1 ≤ w.1 73 4 ∧ w.1 73 4 < 100)) : ww_Ct 222 fr [.inr (.inr (.inl 73)), .inl x0, .inl x1] w fun r w' => r = none ∧ w' = r_ly (if w.1 73 3 < w.1 73 67 + x1 ∧ w.1 73 58 < w.1 73 67 then r_nl w else w) x0 x1 := by
  obtain ⟨g1, g2, g3, g4⟩ := h2
  have z0 := z_222f h0 (x0 := x0) (x1 := x1) (w := w) h1 am_X rfl
  have z1 := z_222f h0 (x0 := x0) (x1 := x1) (w := r_nl w) (by rw [r_nl_ne w (by decide)]; exact h1) am_X rfl
  refine of_222 (ww_go (ctL_cons ok_221 ctL_nil) 200 [28] ?_)
  simp only [ww_S, ww_1, wr_0, wr_1, wr_2, wr_3, wr_4, wr_5, wr_6, wr_7, wr_8, wr_9, wr_10, wr_11, wr_12, wr_13, wr_14, wr_15, wr_16, wr_17, wr_18, wr_19, wr_20, wr_21, wr_22, wr_23, wr_24, wr_25, wr_26, wr_27, wr_28, wr_29, wr_30, wr_31, wr_32, wr_33, wr_34, wr_35, wr_36, wr_37, wr_38, wr_39, wr_40, wr_41, wr_42, wr_43, wr_44, wr_45, wr_46, wr_47, wr_48, wr_49, wr_50, wr_51, wr_52, wr_53, wr_54, wr_55, wr_56, wr_57, wr_58, wr_59, wr_60, wr_61, wr_62, wr_63, wr_64, wr_65, wr_66, wr_67, wr_68, wr_69, wr_70, wr_71, wr_72, wr_73, wr_74, wr_75, wr_76, wr_77, wr_78, wr_79, wr_80, wr_81, wr_82, wr_83, wr_84, wr_85, wr_86, wr_87, ww_v1, ww_v2, ww_v3, ww_v4, ww_g0, ww_gS, ww_t0, ww_tS, ww_s0, ww_sS, ww_s2, ww_w1, ww_w2, ww_w3, ww_b, ww_tg, ww_p1, ww_p2, ww_q0, ww_qS, ww_k1, ww_k2, ww_k3, ww_w0, ww_wS, ww_i1, ww_i2, ww_f0, ww_f1, ww_f2, ww_f4, ww_fd, ww_cl, ww_mc, ww_tk, ww_ci, ww_ak, ww_gv, ww_g1, ww_kcs, w_f1, w_f2, w_a1, w_a2, w_u_at, dm_222, List.elem_nil, List.elem_cons, List.map_nil, List.map_cons, List.sum_nil, List.sum_cons, Option.toList_none, Option.toList_some, List.nil_append, List.cons_append, true_and, and_true, implies_true, false_implies, if_true, if_false, reduceIte, reduceCtorEq, Bool.false_eq_true, Bool.and_false, Bool.false_and, Bool.and_self, Bool.and_true, Bool.true_and, Nat.reduceAdd, Nat.reduceBEq, Nat.reduceEqDiff, Nat.reduceLT, Nat.reduceLeDiff, Int.reduceAdd, Int.reduceNeg, Int.reduceToNat, Int.reduceLE, Int.reduceLT, Int.reduceSub, Int.cast_ofNat_Int, Int.reduceNatCast', Int.reduceNatCast, Nat.zero_add, Int.zero_add, and_self, false_and, and_false, or_false, false_or, true_or, or_true, not_true_eq_false, not_false_eq_true, at_221s, ctL_c, ctL_n]
  by_cases c1 : w.1 73 3 < w.1 73 67 + x1
  · by_cases c2 : w.1 73 58 < w.1 73 67
    · rw [if_pos ⟨c1, c2⟩]
      (repeat' (first | (with_reducible assumption) | (with_reducible exact trivial) | (with_reducible exact z1) | refine And.intro ?_ ?_ | intro _)) <;> first | omega | (unfold am_rg at *; omega) | (with_reducible rfl) | (exfalso; omega) | decide | skip
    · rw [if_neg (fun q => c2 q.2)]
      (repeat' (first | (with_reducible assumption) | (with_reducible exact trivial) | (with_reducible exact z0) | refine And.intro ?_ ?_ | intro _)) <;> first | omega | (unfold am_rg at *; omega) | (with_reducible rfl) | (exfalso; omega) | decide | skip
  · rw [if_neg (fun q => c1 q.1)]
    (repeat' (first | (with_reducible assumption) | (with_reducible exact trivial) | (with_reducible exact z0) | refine And.intro ?_ ?_ | intro _)) <;> first | omega | (unfold am_rg at *; omega) | (with_reducible rfl) | (exfalso; omega) | decide | skip
set_option maxRecDepth 100000 in
set_option maxHeartbeats 2000000 in
theorem lk_223f {fr : Nat} (h2 : 1 ≤ fr) {x : Int} {w : W_} (hx : am_rg x) (h0 : 0 ≤ w.1 73 62) (h1 : w.1 73 62 ≤ 16) (hr : ∀ k : Nat, (k : Int) < w.1 73 62 → am_rg (w.2 112 k)) : ww_Ct 223 fr [.inr (.inr (.inl 73)), .inl x] w fun r w' => (r = some (.inl 1) ∧ (∃ k : Nat, (k : Int) < w.1 73 62 ∧ w.2 112 k = x) ∨ r = some (.inl 0) ∧ ¬ ∃ k : Nat, (k : Int) < w.1 73 62 ∧ w.2 112 k = x) ∧ w' = w := by
  refine of_223 (ww_go ctL_nil 100 [4] ?_)
  simp only [ww_S, ww_1, wr_0, wr_1, wr_2, wr_3, wr_4, wr_5, wr_6, wr_7, wr_8, wr_9, wr_10, wr_11, wr_12, wr_13, wr_14, wr_15, wr_16, wr_17, wr_18, wr_19, wr_20, wr_21, wr_22, wr_23, wr_24, wr_25, wr_26, wr_27, wr_28, wr_29, wr_30, wr_31, wr_32, wr_33, wr_34, wr_35, wr_36, wr_37, wr_38, wr_39, wr_40, wr_41, wr_42, wr_43, wr_44, wr_45, wr_46, wr_47, wr_48, wr_49, wr_50, wr_51, wr_52, wr_53, wr_54, wr_55, wr_56, wr_57, wr_58, wr_59, wr_60, wr_61, wr_62, wr_63, wr_64, wr_65, wr_66, wr_67, wr_68, wr_69, wr_70, wr_71, wr_72, wr_73, wr_74, wr_75, wr_76, wr_77, wr_78, wr_79, wr_80, wr_81, wr_82, wr_83, wr_84, wr_85, wr_86, wr_87, ww_v1, ww_v2, ww_v3, ww_v4, ww_g0, ww_gS, ww_t0, ww_tS, ww_s0, ww_sS, ww_s2, ww_w1, ww_w2, ww_w3, ww_b, ww_tg, ww_p1, ww_p2, ww_q0, ww_qS, ww_k1, ww_k2, ww_k3, ww_w0, ww_wS, ww_i1, ww_i2, ww_f0, ww_f1, ww_f2, ww_f4, ww_fd, ww_cl, ww_mc, ww_tk, ww_ci, ww_ak, ww_gv, ww_g1, ww_kcs, w_f1, w_f2, w_a1, w_a2, w_u_at, dm_223, List.elem_nil, List.elem_cons, List.map_nil, List.map_cons, List.sum_nil, List.sum_cons, Option.toList_none, Option.toList_some, List.nil_append, List.cons_append, true_and, and_true, implies_true, false_implies, if_true, if_false, reduceIte, reduceCtorEq, Bool.false_eq_true, Bool.and_false, Bool.false_and, Bool.and_self, Bool.and_true, Bool.true_and, Nat.reduceAdd, Nat.reduceBEq, Nat.reduceEqDiff, Nat.reduceLT, Nat.reduceLeDiff, Int.reduceAdd, Int.reduceNeg, Int.reduceToNat, Int.reduceLE, Int.reduceLT, Int.reduceSub, Int.cast_ofNat_Int, Int.reduceNatCast', Int.reduceNatCast, Nat.zero_add, Int.zero_add, and_self, false_and, and_false, or_false, false_or, true_or, or_true, not_true_eq_false, not_false_eq_true, ctL_n]
  refine ww_loop (P := fun n ls w' => ∃ (i : Nat) (b : Int), (i : Int) ≤ w.1 73 62 ∧ n = (w.1 73 62 - i).toNat ∧ ls = [.inr (.inr (.inl 73)), .inl x, .inl b, .inl i] ∧ w = w' ∧ (b = 1 ∧ (∃ k : Nat, k < i ∧ w.2 112 k = x) ∨ b = 0 ∧ ¬ ∃ k : Nat, k < i ∧ w.2 112 k = x)) ?_ (w.1 73 62).toNat _ _ ⟨0, 0, h0, by omega, rfl, rfl, Or.inr ⟨rfl, fun ⟨k, hk, _⟩ => by omega⟩⟩
  rintro n ls w' ⟨i, b, i1, hn, rfl, rfl, hb⟩ ih
  have hb01 : b = 0 ∨ b = 1 := by rcases hb with q | q <;> omega
  by_cases c : (i : Int) < w.1 73 62
  · have hri := hr i c
    have ei : ((i : Int)).toNat = i := by omega
    have e1 : (i : Int) + 1 = ((i + 1 : Nat) : Int) := by clear hb ih; omega
    have hlt : (w.1 73 62 - ((i + 1 : Nat) : Int)).toNat < n := by clear hb ih; omega
    have hle : ((i + 1 : Nat) : Int) ≤ w.1 73 62 := by clear hb ih; omega
    have K1 : b ≠ 0 → ww_Z 12 4 fr 2 cX12_isUsed none _ 4 [.inr (.inr (.inl 73)), .inl x, .inl 1, .inl ((i : Int) + 1)] [] w := fun q => ih (w.1 73 62 - ((i + 1 : Nat) : Int)).toNat _ _ hlt ⟨i + 1, 1, hle, rfl, by rw [e1], rfl, Or.inl ⟨rfl, by
      rcases hb with ⟨-, k, hk, hx⟩ | ⟨q0, -⟩
      · exact ⟨k, Nat.lt_succ_of_lt hk, hx⟩
      · exact absurd q0 q⟩⟩
    have K2 : w.2 112 i = x → ww_Z 12 4 fr 2 cX12_isUsed none _ 4 [.inr (.inr (.inl 73)), .inl x, .inl 1, .inl ((i : Int) + 1)] [] w := fun q => ih (w.1 73 62 - ((i + 1 : Nat) : Int)).toNat _ _ hlt ⟨i + 1, 1, hle, rfl, by rw [e1], rfl, Or.inl ⟨rfl, i, Nat.lt_succ_self i, q⟩⟩
    have K3 : b = 0 → w.2 112 i ≠ x → ww_Z 12 4 fr 2 cX12_isUsed none _ 4 [.inr (.inr (.inl 73)), .inl x, .inl 0, .inl ((i : Int) + 1)] [] w := fun q0 q => ih (w.1 73 62 - ((i + 1 : Nat) : Int)).toNat _ _ hlt ⟨i + 1, 0, hle, rfl, by rw [e1], rfl, Or.inr ⟨rfl, fun ⟨k, hk, hx⟩ => by
      by_cases e : k = i
      · exact q (by rw [← e]; exact hx)
      · rcases hb with ⟨q1, -⟩ | ⟨-, hn⟩
        · omega
        · exact hn ⟨k, by omega, hx⟩⟩⟩
    refine ww_go1 ctL_nil 100 [4] ?_
    simp only [ww_S, ww_1, wr_0, wr_1, wr_2, wr_3, wr_4, wr_5, wr_6, wr_7, wr_8, wr_9, wr_10, wr_11, wr_12, wr_13, wr_14, wr_15, wr_16, wr_17, wr_18, wr_19, wr_20, wr_21, wr_22, wr_23, wr_24, wr_25, wr_26, wr_27, wr_28, wr_29, wr_30, wr_31, wr_32, wr_33, wr_34, wr_35, wr_36, wr_37, wr_38, wr_39, wr_40, wr_41, wr_42, wr_43, wr_44, wr_45, wr_46, wr_47, wr_48, wr_49, wr_50, wr_51, wr_52, wr_53, wr_54, wr_55, wr_56, wr_57, wr_58, wr_59, wr_60, wr_61, wr_62, wr_63, wr_64, wr_65, wr_66, wr_67, wr_68, wr_69, wr_70, wr_71, wr_72, wr_73, wr_74, wr_75, wr_76, wr_77, wr_78, wr_79, wr_80, wr_81, wr_82, wr_83, wr_84, wr_85, wr_86, wr_87, ww_v1, ww_v2, ww_v3, ww_v4, ww_g0, ww_gS, ww_t0, ww_tS, ww_s0, ww_sS, ww_s2, ww_w1, ww_w2, ww_w3, ww_b, ww_tg, ww_p1, ww_p2, ww_q0, ww_qS, ww_k1, ww_k2, ww_k3, ww_w0, ww_wS, ww_i1, ww_i2, ww_f0, ww_f1, ww_f2, ww_f4, ww_fd, ww_cl, ww_mc, ww_tk, ww_ci, ww_ak, ww_gv, ww_g1, ww_kcs, w_f1, w_f2, w_a1, w_a2, w_u_at, dm_223, List.elem_nil, List.elem_cons, List.map_nil, List.map_cons, List.sum_nil, List.sum_cons, Option.toList_none, Option.toList_some, List.nil_append, List.cons_append, true_and, and_true, implies_true, false_implies, if_true, if_false, reduceIte, reduceCtorEq, Bool.false_eq_true, Bool.and_false, Bool.false_and, Bool.and_self, Bool.and_true, Bool.true_and, Nat.reduceAdd, Nat.reduceBEq, Nat.reduceEqDiff, Nat.reduceLT, Nat.reduceLeDiff, Int.reduceAdd, Int.reduceNeg, Int.reduceToNat, Int.reduceLE, Int.reduceLT, Int.reduceSub, Int.cast_ofNat_Int, Int.reduceNatCast', Int.reduceNatCast, Nat.zero_add, Int.zero_add, and_self, false_and, and_false, or_false, false_or, true_or, or_true, not_true_eq_false, not_false_eq_true, ctL_n, ei]
    (repeat' (first | (with_reducible assumption) | (with_reducible exact trivial) | (with_reducible exact K1 (by omega)) | (with_reducible exact K2 (by omega)) | (with_reducible exact K3 (by omega) (by omega)) | refine And.intro ?_ ?_ | intro _)) <;> first | omega | (unfold am_rg at *; omega) | (with_reducible rfl) | (exfalso; omega) | decide | skip
  · refine ww_go1 ctL_nil 100 [4] ?_
    have e : w.1 73 62 = (i : Int) := by omega
    have F : (some (Sum.inl b) : Option am_V) = some (.inl 1) ∧ (∃ k : Nat, (k : Int) < w.1 73 62 ∧ w.2 112 k = x) ∨ (some (Sum.inl b) : Option am_V) = some (.inl 0) ∧ ¬ ∃ k : Nat, (k : Int) < w.1 73 62 ∧ w.2 112 k = x := by
      rcases hb with ⟨rfl, k, hk, hx⟩ | ⟨rfl, hn⟩
      · exact Or.inl ⟨rfl, k, by omega, hx⟩
      · exact Or.inr ⟨rfl, fun ⟨k, hk, hx⟩ => hn ⟨k, by omega, hx⟩⟩
    simp only [ww_S, ww_1, wr_0, wr_1, wr_2, wr_3, wr_4, wr_5, wr_6, wr_7, wr_8, wr_9, wr_10, wr_11, wr_12, wr_13, wr_14, wr_15, wr_16, wr_17, wr_18, wr_19, wr_20, wr_21, wr_22, wr_23, wr_24, wr_25, wr_26, wr_27, wr_28, wr_29, wr_30, wr_31, wr_32, wr_33, wr_34, wr_35, wr_36, wr_37, wr_38, wr_39, wr_40, wr_41, wr_42, wr_43, wr_44, wr_45, wr_46, wr_47, wr_48, wr_49, wr_50, wr_51, wr_52, wr_53, wr_54, wr_55, wr_56, wr_57, wr_58, wr_59, wr_60, wr_61, wr_62, wr_63, wr_64, wr_65, wr_66, wr_67, wr_68, wr_69, wr_70, wr_71, wr_72, wr_73, wr_74, wr_75, wr_76, wr_77, wr_78, wr_79, wr_80, wr_81, wr_82, wr_83, wr_84, wr_85, wr_86, wr_87, ww_v1, ww_v2, ww_v3, ww_v4, ww_g0, ww_gS, ww_t0, ww_tS, ww_s0, ww_sS, ww_s2, ww_w1, ww_w2, ww_w3, ww_b, ww_tg, ww_p1, ww_p2, ww_q0, ww_qS, ww_k1, ww_k2, ww_k3, ww_w0, ww_wS, ww_i1, ww_i2, ww_f0, ww_f1, ww_f2, ww_f4, ww_fd, ww_cl, ww_mc, ww_tk, ww_ci, ww_ak, ww_gv, ww_g1, ww_kcs, w_f1, w_f2, w_a1, w_a2, w_u_at, dm_223, List.elem_nil, List.elem_cons, List.map_nil, List.map_cons, List.sum_nil, List.sum_cons, Option.toList_none, Option.toList_some, List.nil_append, List.cons_append, true_and, and_true, implies_true, false_implies, if_true, if_false, reduceIte, reduceCtorEq, Bool.false_eq_true, Bool.and_false, Bool.false_and, Bool.and_self, Bool.and_true, Bool.true_and, Nat.reduceAdd, Nat.reduceBEq, Nat.reduceEqDiff, Nat.reduceLT, Nat.reduceLeDiff, Int.reduceAdd, Int.reduceNeg, Int.reduceToNat, Int.reduceLE, Int.reduceLT, Int.reduceSub, Int.cast_ofNat_Int, Int.reduceNatCast', Int.reduceNatCast, Nat.zero_add, Int.zero_add, and_self, false_and, and_false, or_false, false_or, true_or, or_true, not_true_eq_false, not_false_eq_true, ctL_n]
    (repeat' (first | (with_reducible assumption) | (with_reducible exact trivial) | (with_reducible exact F) | refine And.intro ?_ ?_ | intro _)) <;> first | omega | (unfold am_rg at *; omega) | (with_reducible rfl) | (exfalso; omega) | decide | skip
section
variable {sil : Bool} {s s1 : S_} {w w' : W_} {Γ Γ' : rG_} {G : G_} {q q1 : Q_} {fr K L : Nat} {P : Option am_V → W_ → Prop} {y : Int}
/-- the state has gone on -/
theorem rX_PO {nq' : Nat} {R : Int} (H : rXC G sil s q w Γ) (k1 : rRC (g_C G q) sil False (8 + (nq' : Int)) 0 s1 w' Γ') (k2 : nq' ≤ cW (w'.2 92) (w'.1 73 26 - 1).toNat ∧ nq' ≤ q_el q) (X : rXT w Γ w' Γ' R) (O : rOt w w') : rXC G sil s1 q w' Γ' := by
  obtain ⟨⟨nq, r1, r2, r3⟩, h47, ⟨⟨⟨x1, x2, x3, x4⟩, ⟨x5, x6, x7, x8⟩, x9, x10⟩, hB⟩, ⟨⟨y1, y2⟩, y3⟩, z1, z2, z3⟩ := H
  obtain ⟨o1, o2, -⟩ := O
  refine ⟨⟨nq', k1, k2.1, k2.2⟩, ?_, ⟨⟨⟨?_, ?_, ?_, ?_⟩, ⟨?_, ?_, ?_, ?_⟩, ?_, ?_⟩, hB⟩, ⟨⟨?_, fun i r hi => ?_⟩, fun i id hi => ?_⟩, fun k hk => ?_, fun l hl => ?_, fun i t hi j hj => ?_⟩
  · rw [o1 73 47 (by omega)]; exact h47
  · rw [o1 73 57 (by omega)]; exact x1
  · rw [o1 73 58 (by omega)]; exact x2
  · rw [o1 73 61 (by omega)]; exact x3
  · rw [o1 73 64 (by omega)]; exact x4
  · rw [o1 73 65 (by omega)]; exact x5
  · rw [o1 73 66 (by omega)]; exact x6
  · rw [o1 73 67 (by omega)]; exact x7
  · rw [o1 73 68 (by omega)]; exact x8
  · rw [o1 73 3 (by omega)]; exact x9
  · rw [o1 73 4 (by omega)]; exact x10
  · rw [o1 73 59 (by omega)]; exact y1
  · obtain ⟨g1, g2⟩ := y2 i r hi
    rw [o2 111 (by omega)]
    have g := g1.1
    refine ⟨rCC_mono X g1, ?_⟩
    rw [(X.2.2.2.2 _ (by omega)).1.1]
    exact g2
  · rw [o2 112 (by omega)]; exact y3 i id hi
  · rw [o2 105 (by omega)]; exact z1 k hk
  · rw [o2 106 (by omega)]; exact z2 l hl
  · rw [o2 113 (by omega)]; exact z3 i t hi j hj
/-- words stay words -/
theorem cW_X {R : Int} (X : rXT w Γ w' Γ' R) (h : 1 ≤ w.1 73 26) : cW (w.2 92) (w.1 73 26 - 1).toNat ≤ cW (w'.2 92) (w'.1 73 26 - 1).toNat := by
  have e := X.1.1.2.2.2.2
  have z := cW_eq (a := w'.2 92) (b := w.2 92) (w.1 73 26 - 1).toNat (fun k hk => (X.2.2.2.2 k (by omega)).1.1)
  rw [← z]
  exact cW_mono _ (by omega)
/-- a fault is noted -/
theorem rX_note {c f p z : Int} (H : rXC G sil s q w Γ) (hz : z = 100000 * c + (10000 * f + 100 * p)) (hn : s_nt s + 1 ≤ 1000000) : rXC G sil (f_note (g_C G q) z s) q (r_nt w c f p) Γ ∧ rXT w Γ (r_nt w c f p) Γ (-1) ∧ rOt w (r_nt w c f p) := by
  have H0 := H
  obtain ⟨⟨nq, r1, r2, r3⟩, -⟩ := H
  obtain ⟨k1, k2, k3, -⟩ := rRC_note (n := 0) (hb := false) (R := -1) r1 hz hn
  have B := rRC_bd r1
  exact ⟨rX_PO H0 k1 ⟨Nat.le_trans r2 (cW_X k2 (by omega)), r3⟩ k2 k3, k2, k3⟩
/-- what waits stays -/
theorem rST_Ot {R : Int} {L L' n : Nat} {l : List F_} (X : rXT w Γ w' Γ' R) (O : rOt w w') (hL : L ≤ L') (h : rST w Γ K L n l) : rST w' Γ' K L' n l := rST_mono X hL n l (fun i _ => by rw [O.2.1 107 (by omega), O.2.1 108 (by omega), O.2.1 109 (by omega), O.2.1 110 (by omega)]; exact ⟨rfl, rfl, rfl, rfl⟩) h
/-- more than 200 elements -/
theorem rX_many {S : List F_} {c k : Nat} (H : rXC G sil s q w Γ) (hel : q_el q = 200) (hn : s_nt s + 1 ≤ 1000000) (hc : 0 < c ∧ c < 8192) (hk : w.2 92 c = (k : Int)) (kk : k < 64 ∧ (k ≠ 50 ∧ k ≠ 51) ∧ k ≠ 18 ∧ k ≠ 19) (h1 : 2 ≤ fr) (LL : ∀ w', rXR G sil (f_note (g_C G (p_el (p_fr q S) (q_el q + 1))) 600000 s) (p_fr (p_el (p_fr q S) (q_el q + 1)) []) w' Γ → zr234 (fr + 2) P 23 y w') : ww_Ct 231 fr [.inr (.inr (.inl 73)), .inl (c : Int)] w (rGo (fr + 2) P y) := by
  have cc : ((c : Int)).toNat = c := by omega
  have H1 := rX_el (S := S) H (by omega)
  have e64 : w.1 73 64 = ((q_el q : Nat) : Int) := H.2.2.1.1.1.2.2.2
  have HH := H.1
  obtain ⟨nq, r1, -⟩ := HH
  have B := rRC_bd r1
  refine lk_231h (k := (k : Int)) (R := fun w2 => zr234 (fr + 2) P 23 y w2) (by omega) (by omega) (by rw [cc]; exact hk) (by omega) (by omega) (lk_230a (n := ((q_el q : Nat) : Int)) (by omega) (by omega) e64 (by omega) ⟨rfl, ?_⟩) (fun w' q => ⟨rfl, q⟩)
  obtain ⟨H2, X2, O2⟩ := rX_note (c := 6) (f := 0) (p := 0) (z := 600000) H1 rfl hn
  refine LL _ ⟨rX_fr (S := []) (rX_ws H2 (rWS_f _ 0)), ⟨0, ?_, rfl⟩, trivial⟩
  rw [w_f1, w_u_at, if_pos ⟨rfl, rfl⟩]; rfl
/-- an element -/
theorem rX_one {S : List F_} {c k : Nat} (H : rXC G sil s q w Γ) (hel : q_el q < 200) (hc : 0 < c ∧ c < 8192) (hk : w.2 92 c = (k : Int)) (kk : k < 64 ∧ (k ≠ 50 ∧ k ≠ 51) ∧ k ≠ 18 ∧ k ≠ 19) (h1 : 2 ≤ fr) (LL : ∀ w', rXC G sil s (p_el (p_fr q S) (q_el q + 1)) w' Γ → (∃ nq : Nat, rRC (g_C G q) sil False (8 + (nq : Int)) 0 s w' Γ ∧ nq ≤ cW (w'.2 92) (w'.1 73 26 - 1).toNat ∧ nq ≤ q_el q) → (∀ j, j ≠ 64 → w'.1 73 j = w.1 73 j) → w'.2 = w.2 → zs230 (fr - 1) (rGo (fr + 2) P y) 34 (c : Int) w') : ww_Ct 231 fr [.inr (.inr (.inl 73)), .inl (c : Int)] w (rGo (fr + 2) P y) := by
  have cc : ((c : Int)).toNat = c := by omega
  have e64 : w.1 73 64 = ((q_el q : Nat) : Int) := H.2.2.1.1.1.2.2.2
  have HH := H.1
  obtain ⟨nq, r1, r2, r3⟩ := HH
  have E : ∃ nq : Nat, rRC (g_C G q) sil False (8 + (nq : Int)) 0 s (w_f w 73 64 (((q_el q : Nat) : Int) + 1)) Γ ∧ nq ≤ cW ((w_f w 73 64 (((q_el q : Nat) : Int) + 1)).2 92) ((w_f w 73 64 (((q_el q : Nat) : Int) + 1)).1 73 26 - 1).toNat ∧ nq ≤ q_el q := ⟨nq, rRC_C r1 (fun j q => w_f_ne _ _ _ _ _ _ (by omega)) (fun _ _ => rfl) (rS3_of r1.2.2.2.2.1 rfl (w_f_ne _ _ _ _ _ _ (by decide)) (w_f_ne _ _ _ _ _ _ (by decide)) (fun _ _ => rfl)), by rw [w_f_ne _ _ _ _ _ _ (by decide)]; exact r2, r3⟩
  exact lk_231h (k := (k : Int)) (R := fun w2 => zr234 (fr + 2) P 23 y w2) (by omega) (by omega) (by rw [cc]; exact hk) (by omega) (by omega) (lk_230b (n := ((q_el q : Nat) : Int)) e64 (by omega) (LL _ (rX_el (S := S) H (by omega)) E (fun j a => w_f_ne _ _ _ _ _ _ (by omega)) rfl)) (fun w' q => ⟨rfl, q⟩)
/-- a state whose frames are these -/
theorem rX_fin {l : List F_} {n : Nat} (H : rXC G sil s q w Γ) (e : lT (q_fr q) = l) (h52 : w.1 73 52 = (n : Int)) (h : rST w Γ 910 (rLm s) n l) (hK : rKf (q_fr q)) : rXR G sil s q w Γ := ⟨H, ⟨n, h52, by rw [e]; exact h⟩, hK⟩
/-- .. nothing of what waits is told -/
theorem rST_w {L n : Nat} {l : List F_} (h1 : ∀ j, j = 5 ∨ j = 15 ∨ j = 17 ∨ j = 21 ∨ j = 26 → w'.1 73 j = w.1 73 j) (h2 : ∀ b, 77 ≤ b → b ≤ 97 → w'.2 b = w.2 b) (h3 : w'.2 107 = w.2 107 ∧ w'.2 108 = w.2 108 ∧ w'.2 109 = w.2 109 ∧ w'.2 110 = w.2 110) (h : rST w Γ K L n l) : rST w' Γ K L n l := rST_mono (rXT_same (R := -1) h1 h2) (Nat.le_refl _) n l (fun i _ => by rw [h3.1, h3.2.1, h3.2.2.1, h3.2.2.2]; exact ⟨rfl, rfl, rfl, rfl⟩) h
/-- a break -/
theorem rX_e2 {c n : Nat} {l : List F_} (H : rXC G sil s q w Γ) (h52 : w.1 73 52 = (n : Int)) (hT : rST w Γ 910 (rLm s) n l) (e : lT (q_fr q) = l) (hK : rKf (q_fr q)) (hp : q_pg q + (q_wi q : Nat) + 1 ≤ 2 * (q_el q : Nat)) (hc : 0 < c ∧ c < 8192) (hk : w.2 92 c = 1) (h1 : 1 ≤ fr) (LL : ∀ w', rXR G sil s (q_nl G q) w' Γ → zr234 (fr + 3) P 23 y w') : zs230 fr (rGo (fr + 3) P y) 34 (c : Int) w := by
  have cc : ((c : Int)).toNat = c := by omega
  refine lk_230d (k := 1) (by omega) (by rw [cc]; exact hk) (by omega) (by omega) (lk_230n h1 (rX_rn H) rfl ⟨rfl, LL _ ?_⟩)
  have A := r_nl_2 w
  refine rX_fin (l := l) (n := n) (rX_nl H hp) (by rw [q_nl_f]; exact e) (by rw [r_nl_ne w (by omega)]; exact h52) (rST_w (fun j _ => r_nl_ne w (by omega)) (fun b _ _ => by rw [A]) (by rw [A]; exact ⟨rfl, rfl, rfl, rfl⟩) hT) (by rw [q_nl_f]; exact hK)
/-- STEP -/
theorem rX_e6 {c n p : Nat} {x : Int} {l : List F_} (H : rXC G sil s q w Γ) (h52 : w.1 73 52 = (n : Int)) (hT : rST w Γ 910 (rLm s) n l) (e : lT (q_fr q) = l) (hK : rKf (q_fr q)) (hc : 0 < c ∧ c < 8192) (hk : w.2 92 c = 21) (ha : w.2 93 c = (p : Int)) (hb : w.2 94 c = x) (hp : p < 3 ∧ -9999 ≤ x ∧ x ≤ 9999) (h1 : 1 ≤ fr) (LL : ∀ w', rXR G sil s (p_ct q (g_up (q_ct q) p (b9 (q_ct q p + x)))) w' Γ → zr234 (fr + 3) P 23 y w') : zs230 fr (rGo (fr + 3) P y) 34 (c : Int) w := by
  have cc : ((c : Int)).toNat = c := by omega
  have pp : ((p : Int)).toNat = p := by omega
  obtain ⟨c1, c2, c3⟩ := rX_ct H hp.1
  refine lk_230d (k := 21) (by omega) (by rw [cc]; exact hk) (by omega) (by omega) (lk_230s (a := (p : Int)) (b := x) (y := q_ct q p) h1 (by omega) rfl (by rw [cc]; exact ha) (by omega) (by rw [cc]; exact hb) (by omega) (by rw [pp]; exact c1) (by omega) ⟨rfl, LL _ ?_⟩)
  rw [pp]
  exact rX_fin (l := l) (n := n) (rX_st H hp.1) e h52 (rST_w (w := w) (fun _ _ => rfl) (fun b _ _ => w_a_2ne _ _ _ (by omega)) ⟨w_a_2ne _ _ _ (by decide), w_a_2ne _ _ _ (by decide), w_a_2ne _ _ _ (by decide), w_a_2ne _ _ _ (by decide)⟩ hT) hK
theorem q_label_f (l : Nat) (q : Q_) : q_fr (q_label l q) = q_fr q := by
  unfold q_label
  split <;> rfl
end
