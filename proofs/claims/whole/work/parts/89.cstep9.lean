/-! ===== the class: items of a text ===== -/
theorem h_w_fs (w : W_) (f x v s : Int) : h_w (w_fs w f x) v s = h_w w v s := by
  unfold h_w
  rw [w_h_fs]
theorem h_ok_fs {w : W_} {f x v : Int} (h : h_ok w v) : h_ok (w_fs w f x) v := by
  unfold h_ok
  rw [w_h_fs, w_h_fs, w_h_fs]
  exact h
/-- the width with a value more, at most 9999 -/
def a_m (w : W_) (v s : Int) : Int := if 9999 < f_t w (9 + s) + h_w w v (if f_t w 7 = 0 then s else f_t w 7) then 9999 else f_t w (9 + s) + h_w w v (if f_t w 7 = 0 then s else f_t w 7)
/-- a value goes into the sequence of its text -/
def w_app0 (w : W_) (v : Int) : W_ := w_fs (w_fs (if f_t w 4 = 20003 then w else w_mk w 8 (f_t w 4) v 0 0) 4 (if f_t w 4 = 20003 then v else 30000 + w.1 13 2)) 6 1
def w_app (w : W_) (v : Int) : W_ := w_fs (w_fs (w_fs (w_app0 w v) 10 (a_m w v 1)) 11 (a_m w v 2)) 12 (a_m w v 3)
set_option maxRecDepth 100000 in
set_option maxHeartbeats 2000000 in
theorem lk_106a {w : W_} {v : Int} (hv : w.1 41 11 = v) (ho : h_ok w v) (hf : ¬ h_cF w v) : ww_Ct 106 4 [.inr (.inr (.inl 41))] w fun r w' => r = none ∧ w' = w := by
  refine of_106 (ww_go (ctL_cons ok_32 ctL_nil) 100 [] ?_)
  simp only [ww_S, ww_1, wr_0, wr_1, wr_2, wr_3, wr_4, wr_5, wr_6, wr_7, wr_8, wr_9, wr_10, wr_11, wr_12, wr_13, wr_14, wr_15, wr_16, wr_17, wr_18, wr_19, wr_20, wr_21, wr_22, wr_23, wr_24, wr_25, wr_26, wr_27, wr_28, wr_29, wr_30, wr_31, wr_32, wr_33, wr_34, wr_35, wr_36, wr_37, wr_38, wr_39, wr_40, wr_41, wr_42, wr_43, wr_44, wr_45, wr_46, wr_47, wr_48, wr_49, wr_50, wr_51, wr_52, wr_53, wr_54, wr_55, wr_56, wr_57, wr_58, wr_59, wr_60, wr_61, wr_62, wr_63, wr_64, wr_65, wr_66, wr_67, wr_68, wr_69, wr_70, wr_71, wr_72, wr_73, wr_74, wr_75, wr_76, wr_77, wr_78, wr_79, wr_80, wr_81, wr_82, wr_83, wr_84, wr_85, wr_86, wr_87, ww_v1, ww_v2, ww_v3, ww_v4, ww_g0, ww_gS, ww_t0, ww_tS, ww_s0, ww_sS, ww_s2, ww_w1, ww_w2, ww_w3, ww_b, ww_tg, ww_p1, ww_p2, ww_q0, ww_qS, ww_k1, ww_k2, ww_k3, ww_w0, ww_wS, ww_i1, ww_i2, ww_f0, ww_f1, ww_f2, ww_f4, ww_fd, ww_cl, ww_mc, ww_tk, ww_ci, ww_ak, ww_gv, ww_g1, ww_kcs, w_f1, w_f2, w_a1, w_a2, w_u_at, dm_106, List.elem_nil, List.elem_cons, List.map_nil, List.map_cons, List.sum_nil, List.sum_cons, Option.toList_none, Option.toList_some, List.nil_append, List.cons_append, true_and, and_true, implies_true, false_implies, if_true, if_false, reduceIte, reduceCtorEq, Bool.false_eq_true, Bool.and_false, Bool.false_and, Bool.and_self, Bool.and_true, Bool.true_and, Nat.reduceAdd, Nat.reduceBEq, Nat.reduceEqDiff, Nat.reduceLT, Nat.reduceLeDiff, Int.reduceAdd, Int.reduceNeg, Int.reduceToNat, Int.reduceLE, Int.reduceLT, Int.reduceSub, Int.cast_ofNat_Int, Int.reduceNatCast', Int.reduceNatCast, Nat.zero_add, Int.zero_add, and_self, false_and, and_false, or_false, false_or, true_or, or_true, not_true_eq_false, not_false_eq_true, at_32, ctL_c, ctL_n, hv, w_i0, w_i1, w_i2]
  (repeat' (first | (with_reducible assumption) | (with_reducible exact trivial) | (with_reducible exact ho) | refine And.intro ?_ ?_ | intro _)) <;> first | omega | (unfold am_rg at *; omega) | (with_reducible rfl) | (exfalso; omega) | decide | skip
  all_goals exact absurd (by assumption) hf
set_option maxRecDepth 100000 in
set_option maxHeartbeats 2000000 in
theorem lk_106 {w : W_} {v : Int} (hv : w.1 41 11 = v) (ho : h_ok w v) (hf : h_cF w v) (hk : h_wk w v) (hlt : v < 30000 + w.1 13 2) (h1 : 1 ≤ w.1 33 1 ∧ w.1 33 1 < 24000) (h2 : 0 ≤ w.1 13 2 ∧ w.1 13 2 < 262144) (h4 : am_rg (f_t w 4)) (h7 : 0 ≤ f_t w 7 ∧ f_t w 7 ≤ 3) (hw : ∀ s : Int, 1 ≤ s → s ≤ 3 → 0 ≤ f_t w (9 + s) ∧ f_t w (9 + s) ≤ 9999) : ww_Ct 106 4 [.inr (.inr (.inl 41))] w fun r w' => r = none ∧ w' = w_app w v := by
  have h4 : am_rg (w_g w 34 ((w.1 33 1 - 1) * 13 + 4)) := h4
  have hws : ∀ s : Int, 1 ≤ s → s ≤ 3 → 0 ≤ h_w w v s ∧ h_w w v s ≤ 9999 := fun s s1 s3 => by
    have : s = 1 ∨ s = 2 ∨ s = 3 := by omega
    rcases this with rfl | rfl | rfl
    · exact hk.1
    · exact hk.2.1
    · exact hk.2.2
  have turn : ∀ (Q : Option am_V → W_ → Prop) (W : W_) (s : Int) (v3 : am_V), am_two v3 = false → 1 ≤ s → s ≤ 3 → W.1 33 1 = w.1 33 1 → W.1 41 11 = v → h_ok W v → (∀ z, h_w W v z = h_w w v z) → w_g W 34 ((w.1 33 1 - 1) * 13 + (9 + s)) = f_t w (9 + s) →
      (∀ v3 : am_V, am_two v3 = false → ww_Z 8 4 4 0 cX8_append none Q 64 [.inr (.inr (.inl 41)), .inl (f_t w 7), .inl (s + 1), v3] [] (w_fs W (9 + s) (a_m w v s))) → ww_Z 8 4 4 0 cX8_append none Q 64 [.inr (.inr (.inl 41)), .inl (f_t w 7), .inl s, v3] [] W := by
    intro Q W s v3 hv3 s1 s3 e33 e11 hoW hwW hg K
    have K := K (.inl (f_t w (9 + s) + h_w w v (if f_t w 7 = 0 then s else f_t w 7))) rfl
    have hsW := hw s s1 s3
    have hx : 0 ≤ h_w w v (if f_t w 7 = 0 then s else f_t w 7) ∧ h_w w v (if f_t w 7 = 0 then s else f_t w 7) ≤ 9999 := by
      split
      · exact hws s s1 s3
      · exact hws _ (by omega) h7.2
    unfold a_m at K
    generalize f_t w 7 = t at *
    refine ww_go1 (ctL_cons ok_13 (ctL_cons ok_14 (ctL_cons ok_29 ctL_nil))) 100 [64] ?_
    by_cases c : t = 0
    · simp only [c, if_true] at K hx
      simp only [ww_S, ww_1, wr_0, wr_1, wr_2, wr_3, wr_4, wr_5, wr_6, wr_7, wr_8, wr_9, wr_10, wr_11, wr_12, wr_13, wr_14, wr_15, wr_16, wr_17, wr_18, wr_19, wr_20, wr_21, wr_22, wr_23, wr_24, wr_25, wr_26, wr_27, wr_28, wr_29, wr_30, wr_31, wr_32, wr_33, wr_34, wr_35, wr_36, wr_37, wr_38, wr_39, wr_40, wr_41, wr_42, wr_43, wr_44, wr_45, wr_46, wr_47, wr_48, wr_49, wr_50, wr_51, wr_52, wr_53, wr_54, wr_55, wr_56, wr_57, wr_58, wr_59, wr_60, wr_61, wr_62, wr_63, wr_64, wr_65, wr_66, wr_67, wr_68, wr_69, wr_70, wr_71, wr_72, wr_73, wr_74, wr_75, wr_76, wr_77, wr_78, wr_79, wr_80, wr_81, wr_82, wr_83, wr_84, wr_85, wr_86, wr_87, ww_v1, ww_v2, ww_v3, ww_v4, ww_g0, ww_gS, ww_t0, ww_tS, ww_s0, ww_sS, ww_s2, ww_w1, ww_w2, ww_w3, ww_b, ww_tg, ww_p1, ww_p2, ww_q0, ww_qS, ww_k1, ww_k2, ww_k3, ww_w0, ww_wS, ww_i1, ww_i2, ww_f0, ww_f1, ww_f2, ww_f4, ww_fd, ww_cl, ww_mc, ww_tk, ww_ci, ww_ak, ww_gv, ww_g1, ww_kcs, w_f1, w_f2, w_a1, w_a2, w_u_at, dm_106, List.elem_nil, List.elem_cons, List.map_nil, List.map_cons, List.sum_nil, List.sum_cons, Option.toList_none, Option.toList_some, List.nil_append, List.cons_append, true_and, and_true, implies_true, false_implies, if_true, if_false, reduceIte, reduceCtorEq, Bool.false_eq_true, Bool.and_false, Bool.false_and, Bool.and_self, Bool.and_true, Bool.true_and, Nat.reduceAdd, Nat.reduceBEq, Nat.reduceEqDiff, Nat.reduceLT, Nat.reduceLeDiff, Int.reduceAdd, Int.reduceNeg, Int.reduceToNat, Int.reduceLE, Int.reduceLT, Int.reduceSub, Int.cast_ofNat_Int, Int.reduceNatCast', Int.reduceNatCast, Nat.zero_add, Int.zero_add, and_self, false_and, and_false, or_false, false_or, true_or, or_true, not_true_eq_false, not_false_eq_true, at_13, at_14s, at_29, ctL_c, ctL_n, hv3, e33, e11, hwW, hg, c]
      (repeat' (first | (with_reducible assumption) | (with_reducible exact trivial) | (with_reducible exact K) | refine And.intro ?_ ?_ | intro _)) <;> first | omega | (unfold am_rg at *; omega) | (with_reducible rfl) | (exfalso; omega) | decide | skip
    · simp only [c, if_false] at K hx
      simp only [ww_S, ww_1, wr_0, wr_1, wr_2, wr_3, wr_4, wr_5, wr_6, wr_7, wr_8, wr_9, wr_10, wr_11, wr_12, wr_13, wr_14, wr_15, wr_16, wr_17, wr_18, wr_19, wr_20, wr_21, wr_22, wr_23, wr_24, wr_25, wr_26, wr_27, wr_28, wr_29, wr_30, wr_31, wr_32, wr_33, wr_34, wr_35, wr_36, wr_37, wr_38, wr_39, wr_40, wr_41, wr_42, wr_43, wr_44, wr_45, wr_46, wr_47, wr_48, wr_49, wr_50, wr_51, wr_52, wr_53, wr_54, wr_55, wr_56, wr_57, wr_58, wr_59, wr_60, wr_61, wr_62, wr_63, wr_64, wr_65, wr_66, wr_67, wr_68, wr_69, wr_70, wr_71, wr_72, wr_73, wr_74, wr_75, wr_76, wr_77, wr_78, wr_79, wr_80, wr_81, wr_82, wr_83, wr_84, wr_85, wr_86, wr_87, ww_v1, ww_v2, ww_v3, ww_v4, ww_g0, ww_gS, ww_t0, ww_tS, ww_s0, ww_sS, ww_s2, ww_w1, ww_w2, ww_w3, ww_b, ww_tg, ww_p1, ww_p2, ww_q0, ww_qS, ww_k1, ww_k2, ww_k3, ww_w0, ww_wS, ww_i1, ww_i2, ww_f0, ww_f1, ww_f2, ww_f4, ww_fd, ww_cl, ww_mc, ww_tk, ww_ci, ww_ak, ww_gv, ww_g1, ww_kcs, w_f1, w_f2, w_a1, w_a2, w_u_at, dm_106, List.elem_nil, List.elem_cons, List.map_nil, List.map_cons, List.sum_nil, List.sum_cons, Option.toList_none, Option.toList_some, List.nil_append, List.cons_append, true_and, and_true, implies_true, false_implies, if_true, if_false, reduceIte, reduceCtorEq, Bool.false_eq_true, Bool.and_false, Bool.false_and, Bool.and_self, Bool.and_true, Bool.true_and, Nat.reduceAdd, Nat.reduceBEq, Nat.reduceEqDiff, Nat.reduceLT, Nat.reduceLeDiff, Int.reduceAdd, Int.reduceNeg, Int.reduceToNat, Int.reduceLE, Int.reduceLT, Int.reduceSub, Int.cast_ofNat_Int, Int.reduceNatCast', Int.reduceNatCast, Nat.zero_add, Int.zero_add, and_self, false_and, and_false, or_false, false_or, true_or, or_true, not_true_eq_false, not_false_eq_true, at_13, at_14s, at_29, ctL_c, ctL_n, hv3, e33, e11, hwW, hg, c]
      (repeat' (first | (with_reducible assumption) | (with_reducible exact trivial) | (with_reducible exact K) | refine And.intro ?_ ?_ | intro _)) <;> first | omega | (unfold am_rg at *; omega) | (with_reducible rfl) | (exfalso; omega) | decide | skip
  have key : ∀ (W : W_) (f x g : Int), W.1 33 1 = w.1 33 1 → 0 ≤ f → 0 ≤ g → g ≠ f → w_g (w_fs W f x) 34 ((w.1 33 1 - 1) * 13 + g) = w_g W 34 ((w.1 33 1 - 1) * 13 + g) := fun W f x g e h0 h3 h => by
    rw [f_t_fs' e h1.1 h0 h3, if_neg h]
  have k0 : ∀ g : Int, 0 ≤ g → g ≠ 4 → g ≠ 6 → w_g (w_app0 w v) 34 ((w.1 33 1 - 1) * 13 + g) = f_t w g := fun g g0 g4 g6 => by
    unfold w_app0
    split
    · rw [key, key] <;> first | rfl | assumption | decide
    · rw [key, key, w_g34_mk] <;> first | rfl | assumption | decide
  have o0 : h_ok (w_app0 w v) v ∧ ∀ z, h_w (w_app0 w v) v z = h_w w v z := by
    unfold w_app0
    split
    · exact ⟨h_ok_fs (h_ok_fs ho), fun z => by rw [h_w_fs, h_w_fs]⟩
    · exact ⟨h_ok_fs (h_ok_fs (h_ok_mk h2.1 hlt ho)), fun z => by rw [h_w_fs, h_w_fs, h_w_mk_lt h2.1 hlt]⟩
  have f0 : ∀ a j : Nat, ¬ (a = 13 ∧ j = 2) → (w_app0 w v).1 a j = w.1 a j := fun a j h => by
    unfold w_app0
    split
    · rfl
    · rw [w_fs1, w_fs1, w_mk1, w_u_at, if_neg h]
  have L : ∀ v3 : am_V, am_two v3 = false → ww_Z 8 4 4 0 cX8_append none (fun r w' => r = none ∧ w' = w_app w v) 64 [.inr (.inr (.inl 41)), .inl (f_t w 7), .inl 1, v3] [] (w_app0 w v) := by
    intro v3 hv3
    refine turn _ _ 1 v3 hv3 (by decide) (by decide) (f0 33 1 (by decide)) ((f0 41 11 (by decide)).trans hv) o0.1 o0.2 (k0 _ (by decide) (by decide) (by decide)) ?_
    intro v3 hv3
    refine turn _ _ 2 v3 hv3 (by decide) (by decide) (f0 33 1 (by decide)) ((f0 41 11 (by decide)).trans hv) (h_ok_fs o0.1) (fun z => by rw [h_w_fs, o0.2]) ((key _ _ _ _ (f0 33 1 (by decide)) (by decide) (by decide) (by decide)).trans (k0 _ (by decide) (by decide) (by decide))) ?_
    intro v3 hv3
    refine turn _ _ 3 v3 hv3 (by decide) (by decide) (f0 33 1 (by decide)) ((f0 41 11 (by decide)).trans hv) (h_ok_fs (h_ok_fs o0.1)) (fun z => by rw [h_w_fs, h_w_fs, o0.2]) ((key (w_fs (w_app0 w v) (9 + 1) (a_m w v 1)) (9 + 2) (a_m w v 2) (9 + 3) (f0 33 1 (by decide)) (by decide) (by decide) (by decide)).trans ((key (w_app0 w v) (9 + 1) (a_m w v 1) (9 + 3) (f0 33 1 (by decide)) (by decide) (by decide) (by decide)).trans (k0 (9 + 3) (by decide) (by decide) (by decide)))) ?_
    intro v3 hv3
    refine ww_go1 (ctL_cons ok_13 (ctL_cons ok_14 (ctL_cons ok_29 ctL_nil))) 100 [64] ?_
    simp only [ww_S, ww_1, wr_0, wr_1, wr_2, wr_3, wr_4, wr_5, wr_6, wr_7, wr_8, wr_9, wr_10, wr_11, wr_12, wr_13, wr_14, wr_15, wr_16, wr_17, wr_18, wr_19, wr_20, wr_21, wr_22, wr_23, wr_24, wr_25, wr_26, wr_27, wr_28, wr_29, wr_30, wr_31, wr_32, wr_33, wr_34, wr_35, wr_36, wr_37, wr_38, wr_39, wr_40, wr_41, wr_42, wr_43, wr_44, wr_45, wr_46, wr_47, wr_48, wr_49, wr_50, wr_51, wr_52, wr_53, wr_54, wr_55, wr_56, wr_57, wr_58, wr_59, wr_60, wr_61, wr_62, wr_63, wr_64, wr_65, wr_66, wr_67, wr_68, wr_69, wr_70, wr_71, wr_72, wr_73, wr_74, wr_75, wr_76, wr_77, wr_78, wr_79, wr_80, wr_81, wr_82, wr_83, wr_84, wr_85, wr_86, wr_87, ww_v1, ww_v2, ww_v3, ww_v4, ww_g0, ww_gS, ww_t0, ww_tS, ww_s0, ww_sS, ww_s2, ww_w1, ww_w2, ww_w3, ww_b, ww_tg, ww_p1, ww_p2, ww_q0, ww_qS, ww_k1, ww_k2, ww_k3, ww_w0, ww_wS, ww_i1, ww_i2, ww_f0, ww_f1, ww_f2, ww_f4, ww_fd, ww_cl, ww_mc, ww_tk, ww_ci, ww_ak, ww_gv, ww_g1, ww_kcs, w_f1, w_f2, w_a1, w_a2, w_u_at, dm_106, List.elem_nil, List.elem_cons, List.map_nil, List.map_cons, List.sum_nil, List.sum_cons, Option.toList_none, Option.toList_some, List.nil_append, List.cons_append, true_and, and_true, implies_true, false_implies, if_true, if_false, reduceIte, reduceCtorEq, Bool.false_eq_true, Bool.and_false, Bool.false_and, Bool.and_self, Bool.and_true, Bool.true_and, Nat.reduceAdd, Nat.reduceBEq, Nat.reduceEqDiff, Nat.reduceLT, Nat.reduceLeDiff, Int.reduceAdd, Int.reduceNeg, Int.reduceToNat, Int.reduceLE, Int.reduceLT, Int.reduceSub, Int.cast_ofNat_Int, Int.reduceNatCast', Int.reduceNatCast, Nat.zero_add, Int.zero_add, and_self, false_and, and_false, or_false, false_or, true_or, or_true, not_true_eq_false, not_false_eq_true, at_13, at_14s, at_29, ctL_c, ctL_n, hv3]
    unfold w_app
    (repeat' (first | (with_reducible assumption) | (with_reducible exact trivial) | refine And.intro ?_ ?_ | intro _)) <;> first | omega | (unfold am_rg at *; omega) | (with_reducible rfl) | (exfalso; omega) | decide | skip
  have L := L am_X rfl
  unfold w_app0 at L
  have e7 : w_g (w_app0 w v) 34 ((w.1 33 1 - 1) * 13 + 7) = f_t w 7 := k0 7 (by decide) (by decide) (by decide)
  unfold w_app0 at e7
  refine of_106 (ww_go (ctL_cons ok_13 (ctL_cons ok_14 (ctL_cons ok_28 (ctL_cons ok_32 ctL_nil)))) 100 [64] ?_)
  by_cases c4 : w_g w 34 ((w.1 33 1 - 1) * 13 + 4) = 20003
  · simp only [c4, if_true] at L e7
    simp only [ww_S, ww_1, wr_0, wr_1, wr_2, wr_3, wr_4, wr_5, wr_6, wr_7, wr_8, wr_9, wr_10, wr_11, wr_12, wr_13, wr_14, wr_15, wr_16, wr_17, wr_18, wr_19, wr_20, wr_21, wr_22, wr_23, wr_24, wr_25, wr_26, wr_27, wr_28, wr_29, wr_30, wr_31, wr_32, wr_33, wr_34, wr_35, wr_36, wr_37, wr_38, wr_39, wr_40, wr_41, wr_42, wr_43, wr_44, wr_45, wr_46, wr_47, wr_48, wr_49, wr_50, wr_51, wr_52, wr_53, wr_54, wr_55, wr_56, wr_57, wr_58, wr_59, wr_60, wr_61, wr_62, wr_63, wr_64, wr_65, wr_66, wr_67, wr_68, wr_69, wr_70, wr_71, wr_72, wr_73, wr_74, wr_75, wr_76, wr_77, wr_78, wr_79, wr_80, wr_81, wr_82, wr_83, wr_84, wr_85, wr_86, wr_87, ww_v1, ww_v2, ww_v3, ww_v4, ww_g0, ww_gS, ww_t0, ww_tS, ww_s0, ww_sS, ww_s2, ww_w1, ww_w2, ww_w3, ww_b, ww_tg, ww_p1, ww_p2, ww_q0, ww_qS, ww_k1, ww_k2, ww_k3, ww_w0, ww_wS, ww_i1, ww_i2, ww_f0, ww_f1, ww_f2, ww_f4, ww_fd, ww_cl, ww_mc, ww_tk, ww_ci, ww_ak, ww_gv, ww_g1, ww_kcs, w_f1, w_f2, w_a1, w_a2, w_u_at, dm_106, List.elem_nil, List.elem_cons, List.map_nil, List.map_cons, List.sum_nil, List.sum_cons, Option.toList_none, Option.toList_some, List.nil_append, List.cons_append, true_and, and_true, implies_true, false_implies, if_true, if_false, reduceIte, reduceCtorEq, Bool.false_eq_true, Bool.and_false, Bool.false_and, Bool.and_self, Bool.and_true, Bool.true_and, Nat.reduceAdd, Nat.reduceBEq, Nat.reduceEqDiff, Nat.reduceLT, Nat.reduceLeDiff, Int.reduceAdd, Int.reduceNeg, Int.reduceToNat, Int.reduceLE, Int.reduceLT, Int.reduceSub, Int.cast_ofNat_Int, Int.reduceNatCast', Int.reduceNatCast, Nat.zero_add, Int.zero_add, and_self, false_and, and_false, or_false, false_or, true_or, or_true, not_true_eq_false, not_false_eq_true, at_13, at_14s, at_28, at_32, ctL_c, ctL_n, hv, w_i0, w_i1, w_i2, w_fs1, w_mk1, hf, c4, e7, eq_self]
    (repeat' (first | (with_reducible assumption) | (with_reducible exact trivial) | (with_reducible exact L) | refine And.intro ?_ ?_ | intro _)) <;> first | omega | (unfold am_rg at *; omega) | (with_reducible rfl) | (exfalso; omega) | decide | skip
  · simp only [c4, if_false] at L e7
    simp only [ww_S, ww_1, wr_0, wr_1, wr_2, wr_3, wr_4, wr_5, wr_6, wr_7, wr_8, wr_9, wr_10, wr_11, wr_12, wr_13, wr_14, wr_15, wr_16, wr_17, wr_18, wr_19, wr_20, wr_21, wr_22, wr_23, wr_24, wr_25, wr_26, wr_27, wr_28, wr_29, wr_30, wr_31, wr_32, wr_33, wr_34, wr_35, wr_36, wr_37, wr_38, wr_39, wr_40, wr_41, wr_42, wr_43, wr_44, wr_45, wr_46, wr_47, wr_48, wr_49, wr_50, wr_51, wr_52, wr_53, wr_54, wr_55, wr_56, wr_57, wr_58, wr_59, wr_60, wr_61, wr_62, wr_63, wr_64, wr_65, wr_66, wr_67, wr_68, wr_69, wr_70, wr_71, wr_72, wr_73, wr_74, wr_75, wr_76, wr_77, wr_78, wr_79, wr_80, wr_81, wr_82, wr_83, wr_84, wr_85, wr_86, wr_87, ww_v1, ww_v2, ww_v3, ww_v4, ww_g0, ww_gS, ww_t0, ww_tS, ww_s0, ww_sS, ww_s2, ww_w1, ww_w2, ww_w3, ww_b, ww_tg, ww_p1, ww_p2, ww_q0, ww_qS, ww_k1, ww_k2, ww_k3, ww_w0, ww_wS, ww_i1, ww_i2, ww_f0, ww_f1, ww_f2, ww_f4, ww_fd, ww_cl, ww_mc, ww_tk, ww_ci, ww_ak, ww_gv, ww_g1, ww_kcs, w_f1, w_f2, w_a1, w_a2, w_u_at, dm_106, List.elem_nil, List.elem_cons, List.map_nil, List.map_cons, List.sum_nil, List.sum_cons, Option.toList_none, Option.toList_some, List.nil_append, List.cons_append, true_and, and_true, implies_true, false_implies, if_true, if_false, reduceIte, reduceCtorEq, Bool.false_eq_true, Bool.and_false, Bool.false_and, Bool.and_self, Bool.and_true, Bool.true_and, Nat.reduceAdd, Nat.reduceBEq, Nat.reduceEqDiff, Nat.reduceLT, Nat.reduceLeDiff, Int.reduceAdd, Int.reduceNeg, Int.reduceToNat, Int.reduceLE, Int.reduceLT, Int.reduceSub, Int.cast_ofNat_Int, Int.reduceNatCast', Int.reduceNatCast, Nat.zero_add, Int.zero_add, and_self, false_and, and_false, or_false, false_or, true_or, or_true, not_true_eq_false, not_false_eq_true, at_13, at_14s, at_28, at_32, ctL_c, ctL_n, hv, w_i0, w_i1, w_i2, w_fs1, w_mk1, hf, c4, e7, eq_self]
    (repeat' (first | (with_reducible assumption) | (with_reducible exact trivial) | (with_reducible exact L) | refine And.intro ?_ ?_ | intro _)) <;> first | omega | (unfold am_rg at *; omega) | (with_reducible rfl) | (exfalso; omega) | decide | skip
