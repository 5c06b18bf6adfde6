/-! ===== the heap of the class: widths of both, join, pair, heading ===== -/
theorem w_h_a (w : W_) (i : Nat) (y v : Int) (f : Nat) : w_h (w_a w 13 i y) v f = if 30000 ≤ v ∧ ((v - 30000) * 8 + f).toNat = i then y else w_h w v f := by
  unfold w_h
  rw [w_a2, w_u_at]
  by_cases c : v < 30000
  · rw [if_pos c, if_neg (by omega), if_pos c]
  · rw [if_neg c, if_neg c]
    by_cases e : ((v - 30000) * 8 + f).toNat = i
    · rw [if_pos ⟨rfl, e⟩, if_pos ⟨by omega, e⟩]
    · rw [if_neg (fun q => e q.2), if_neg (fun q => e q.2)]
theorem w_h_lt {w : W_} {a v k y : Int} {f : Nat} (h : v < a) (h0 : 30000 ≤ a) (hk : 0 ≤ k) (hf : f < 8) : w_h (w_a w 13 ((a - 30000) * 8 + k).toNat y) v f = w_h w v f := by
  rw [w_h_a, if_neg (by omega)]
theorem h_w_lt {w : W_} {a v k y s : Int} (h : v < a) (h0 : 30000 ≤ a) (hk : 0 ≤ k) : h_w (w_a w 13 ((a - 30000) * 8 + k).toNat y) v s = h_w w v s := by
  unfold h_w
  by_cases c1 : -9999 ≤ v ∧ v ≤ 9999
  · rw [if_pos c1, if_pos c1]
  · rw [if_neg c1, if_neg c1]
    by_cases c2 : s < 1 ∨ 3 < s
    · rw [if_pos c2, if_pos c2]
    · rw [if_neg c2, if_neg c2, w_h_lt h h0 hk (by omega)]
/-- widths, in the bounds that they keep -/
abbrev h_wk (w : W_) (v : Int) : Prop := (0 ≤ h_w w v 1 ∧ h_w w v 1 ≤ 9999) ∧ (0 ≤ h_w w v 2 ∧ h_w w v 2 ≤ 9999) ∧ 0 ≤ h_w w v 3 ∧ h_w w v 3 ≤ 9999
def h_mn (w : W_) (a b s : Int) : Int := if 9999 < h_w w a s + h_w w b s then 9999 else h_w w a s + h_w w b s
def sp_27 : List am_V → W_ → Option (Nat × Prop × Option am_V × W_)
  | [.inr (.inr (.inl 13)), .inl x0, .inl x1, .inl x2], w => some (2, (30000 ≤ x0 ∧ x0 - 30000 < w.1 13 2 ∧ x0 < 10000000) ∧ (x1 < x0 ∧ x2 < x0) ∧ (h_ok w x1 ∧ h_wk w x1) ∧ h_ok w x2 ∧ h_wk w x2, some (.inl x0), w_wid w x0 (h_mn w x1 x2 1) (h_mn w x1 x2 2) (h_mn w x1 x2 3))
  | _, _ => none
theorem at_27 (x0 x1 x2 : Int) (w : W_) : sp_27 [.inr (.inr (.inl 13)), .inl x0, .inl x1, .inl x2] w = some (2, (30000 ≤ x0 ∧ x0 - 30000 < w.1 13 2 ∧ x0 < 10000000) ∧ (x1 < x0 ∧ x2 < x0) ∧ (h_ok w x1 ∧ h_wk w x1) ∧ h_ok w x2 ∧ h_wk w x2, some (.inl x0), w_wid w x0 (h_mn w x1 x2 1) (h_mn w x1 x2 2) (h_mn w x1 x2 3)) := rfl
set_option maxRecDepth 100000 in
set_option maxHeartbeats 4000000 in
theorem lk_27 {x0 x1 x2 : Int} {w : W_} (hp : (30000 ≤ x0 ∧ x0 - 30000 < w.1 13 2 ∧ x0 < 10000000) ∧ (x1 < x0 ∧ x2 < x0) ∧ (h_ok w x1 ∧ h_wk w x1) ∧ h_ok w x2 ∧ h_wk w x2) : ww_Ct 27 2 [.inr (.inr (.inl 13)), .inl x0, .inl x1, .inl x2] w fun r w' => r = some (.inl x0) ∧ w' = w_wid w x0 (h_mn w x1 x2 1) (h_mn w x1 x2 2) (h_mn w x1 x2 3) := by
  obtain ⟨⟨a1, a2, a3⟩, ⟨b1, b2⟩, ⟨c1, c2⟩, d1, d2⟩ := hp
  have e1 : ∀ (W : W_) (k y : Int) (f : Nat), 0 ≤ k → f < 8 → w_h (w_a W 13 ((x0 - 30000) * 8 + k).toNat y) x1 f = w_h W x1 f := fun W k y f hk hf => w_h_lt b1 a1 hk hf
  have e2 : ∀ (W : W_) (k y : Int) (f : Nat), 0 ≤ k → f < 8 → w_h (w_a W 13 ((x0 - 30000) * 8 + k).toNat y) x2 f = w_h W x2 f := fun W k y f hk hf => w_h_lt b2 a1 hk hf
  have e3 : ∀ (W : W_) (k y s : Int), 0 ≤ k → h_w (w_a W 13 ((x0 - 30000) * 8 + k).toNat y) x1 s = h_w W x1 s := fun W k y s hk => h_w_lt b1 a1 hk
  have e4 : ∀ (W : W_) (k y s : Int), 0 ≤ k → h_w (w_a W 13 ((x0 - 30000) * 8 + k).toNat y) x2 s = h_w W x2 s := fun W k y s hk => h_w_lt b2 a1 hk
  have turn : ∀ (Q : Option am_V → W_ → Prop) (W : W_) (s : Int), 1 ≤ s → s ≤ 3 → W.1 13 2 = w.1 13 2 → h_ok W x1 → h_ok W x2 → (0 ≤ h_w W x1 s ∧ h_w W x1 s ≤ 9999) → (0 ≤ h_w W x2 s ∧ h_w W x2 s ≤ 9999) →
      ww_Z 2 5 2 1 cX2_withBothWidths none Q 3 [.inr (.inr (.inl 13)), .inl x0, .inl x1, .inl x2, .inl (s + 1)] [] (w_a W 13 ((x0 - 30000) * 8 + (4 + s)).toNat (h_mn W x1 x2 s)) → ww_Z 2 5 2 1 cX2_withBothWidths none Q 3 [.inr (.inr (.inl 13)), .inl x0, .inl x1, .inl x2, .inl s] [] W := by
    intro Q W s s1 s3 hc h1 h2 g1 g2 k
    refine ww_go1 (ctL_cons ok_19 (ctL_cons ok_29 ctL_nil)) 100 [3] ?_
    simp only [ww_S, ww_1, wr_0, wr_1, wr_2, wr_3, wr_4, wr_5, wr_6, wr_7, wr_8, wr_9, wr_10, wr_11, wr_12, wr_13, wr_14, wr_15, wr_16, wr_17, wr_18, wr_19, wr_20, wr_21, wr_22, wr_23, wr_24, wr_25, wr_26, wr_27, wr_28, wr_29, wr_30, wr_31, wr_32, wr_33, wr_34, wr_35, wr_36, wr_37, wr_38, wr_39, wr_40, wr_41, wr_42, wr_43, wr_44, wr_45, wr_46, wr_47, wr_48, wr_49, wr_50, wr_51, wr_52, wr_53, wr_54, wr_55, wr_56, wr_57, wr_58, wr_59, wr_60, wr_61, wr_62, wr_63, wr_64, wr_65, wr_66, wr_67, wr_68, wr_69, wr_70, wr_71, wr_72, wr_73, wr_74, wr_75, wr_76, wr_77, wr_78, wr_79, wr_80, wr_81, wr_82, wr_83, wr_84, wr_85, wr_86, wr_87, ww_v1, ww_v2, ww_v3, ww_v4, ww_g0, ww_gS, ww_t0, ww_tS, ww_s0, ww_sS, ww_s2, ww_w1, ww_w2, ww_w3, ww_b, ww_tg, ww_p1, ww_p2, ww_q0, ww_qS, ww_k1, ww_k2, ww_k3, ww_w0, ww_wS, ww_i1, ww_i2, ww_f0, ww_f1, ww_f2, ww_f4, ww_fd, ww_cl, ww_mc, ww_tk, ww_ci, ww_ak, ww_gv, ww_g1, ww_kcs, w_f1, w_f2, w_a1, w_a2, w_u_at, dm_27, List.elem_nil, List.elem_cons, List.map_nil, List.map_cons, List.sum_nil, List.sum_cons, Option.toList_none, Option.toList_some, List.nil_append, List.cons_append, true_and, and_true, implies_true, false_implies, if_true, if_false, reduceIte, reduceCtorEq, Bool.false_eq_true, Bool.and_false, Bool.false_and, Bool.and_self, Bool.and_true, Bool.true_and, Nat.reduceAdd, Nat.reduceBEq, Nat.reduceEqDiff, Nat.reduceLT, Nat.reduceLeDiff, Int.reduceAdd, Int.reduceNeg, Int.reduceToNat, Int.reduceLE, Int.reduceLT, Int.reduceSub, Int.cast_ofNat_Int, Int.reduceNatCast', Int.reduceNatCast, Nat.zero_add, Int.zero_add, and_self, false_and, and_false, or_false, false_or, true_or, or_true, not_true_eq_false, not_false_eq_true, at_19, at_29, ctL_c, ctL_n, hc]
    unfold h_mn at k
    exact ⟨⟨by omega, by omega⟩, ⟨by omega, by omega⟩, fun q => absurd q (by omega), fun _ => ⟨⟨h1, by omega, by omega⟩, ⟨h2, by omega, by omega⟩, ⟨by omega, by omega⟩, ⟨by omega, by omega⟩, ⟨⟨a1, a2⟩, by omega, by omega⟩, k⟩⟩
  refine of_27 (ww_go (ctL_cons ok_19 (ctL_cons ok_29 ctL_nil)) 100 [3] ?_)
  simp only [ww_S, ww_1, wr_0, wr_1, wr_2, wr_3, wr_4, wr_5, wr_6, wr_7, wr_8, wr_9, wr_10, wr_11, wr_12, wr_13, wr_14, wr_15, wr_16, wr_17, wr_18, wr_19, wr_20, wr_21, wr_22, wr_23, wr_24, wr_25, wr_26, wr_27, wr_28, wr_29, wr_30, wr_31, wr_32, wr_33, wr_34, wr_35, wr_36, wr_37, wr_38, wr_39, wr_40, wr_41, wr_42, wr_43, wr_44, wr_45, wr_46, wr_47, wr_48, wr_49, wr_50, wr_51, wr_52, wr_53, wr_54, wr_55, wr_56, wr_57, wr_58, wr_59, wr_60, wr_61, wr_62, wr_63, wr_64, wr_65, wr_66, wr_67, wr_68, wr_69, wr_70, wr_71, wr_72, wr_73, wr_74, wr_75, wr_76, wr_77, wr_78, wr_79, wr_80, wr_81, wr_82, wr_83, wr_84, wr_85, wr_86, wr_87, ww_v1, ww_v2, ww_v3, ww_v4, ww_g0, ww_gS, ww_t0, ww_tS, ww_s0, ww_sS, ww_s2, ww_w1, ww_w2, ww_w3, ww_b, ww_tg, ww_p1, ww_p2, ww_q0, ww_qS, ww_k1, ww_k2, ww_k3, ww_w0, ww_wS, ww_i1, ww_i2, ww_f0, ww_f1, ww_f2, ww_f4, ww_fd, ww_cl, ww_mc, ww_tk, ww_ci, ww_ak, ww_gv, ww_g1, ww_kcs, w_f1, w_f2, w_a1, w_a2, w_u_at, dm_27, List.elem_nil, List.elem_cons, List.map_nil, List.map_cons, List.sum_nil, List.sum_cons, Option.toList_none, Option.toList_some, List.nil_append, List.cons_append, true_and, and_true, implies_true, false_implies, if_true, if_false, reduceIte, reduceCtorEq, Bool.false_eq_true, Bool.and_false, Bool.false_and, Bool.and_self, Bool.and_true, Bool.true_and, Nat.reduceAdd, Nat.reduceBEq, Nat.reduceEqDiff, Nat.reduceLT, Nat.reduceLeDiff, Int.reduceAdd, Int.reduceNeg, Int.reduceToNat, Int.reduceLE, Int.reduceLT, Int.reduceSub, Int.cast_ofNat_Int, Int.reduceNatCast', Int.reduceNatCast, Nat.zero_add, Int.zero_add, and_self, false_and, and_false, or_false, false_or, true_or, or_true, not_true_eq_false, not_false_eq_true, at_19, at_29, ctL_c, ctL_n]
  have ho : ∀ (W : W_) (k y : Int), 0 ≤ k → (h_ok W x1 → h_ok (w_a W 13 ((x0 - 30000) * 8 + k).toNat y) x1) ∧ (h_ok W x2 → h_ok (w_a W 13 ((x0 - 30000) * 8 + k).toNat y) x2) := by
    intro W k y hk
    refine ⟨fun q => ⟨q.1, ?_, ?_, ?_⟩, fun q => ⟨q.1, ?_, ?_, ?_⟩⟩
    · rw [e1 W k y 0 hk (by omega)]; exact q.2.1
    · rw [e1 W k y 3 hk (by omega)]; exact q.2.2.1
    · rw [e1 W k y 4 hk (by omega)]; exact q.2.2.2
    · rw [e2 W k y 0 hk (by omega)]; exact q.2.1
    · rw [e2 W k y 3 hk (by omega)]; exact q.2.2.1
    · rw [e2 W k y 4 hk (by omega)]; exact q.2.2.2
  refine turn _ w 1 (by omega) (by omega) rfl c1 d1 c2.1 d2.1 ?_
  refine turn _ _ (1 + 1) (by omega) (by omega) rfl ((ho _ _ _ (by omega)).1 c1) ((ho _ _ _ (by omega)).2 d1) ?_ ?_ ?_
  · rw [e3 _ _ _ _ (by omega)]; exact c2.2.1
  · rw [e4 _ _ _ _ (by omega)]; exact d2.2.1
  refine turn _ _ (1 + 1 + 1) (by omega) (by omega) rfl ((ho _ _ _ (by omega)).1 ((ho _ _ _ (by omega)).1 c1)) ((ho _ _ _ (by omega)).2 ((ho _ _ _ (by omega)).2 d1)) ?_ ?_ ?_
  · rw [e3 _ _ _ _ (by omega), e3 _ _ _ _ (by omega)]; exact c2.2.2
  · rw [e4 _ _ _ _ (by omega), e4 _ _ _ _ (by omega)]; exact d2.2.2
  refine ww_go1 (ctL_cons ok_19 (ctL_cons ok_29 ctL_nil)) 20 [3] ?_
  simp only [ww_S, ww_1, wr_0, wr_1, wr_2, wr_3, wr_4, wr_5, wr_6, wr_7, wr_8, wr_9, wr_10, wr_11, wr_12, wr_13, wr_14, wr_15, wr_16, wr_17, wr_18, wr_19, wr_20, wr_21, wr_22, wr_23, wr_24, wr_25, wr_26, wr_27, wr_28, wr_29, wr_30, wr_31, wr_32, wr_33, wr_34, wr_35, wr_36, wr_37, wr_38, wr_39, wr_40, wr_41, wr_42, wr_43, wr_44, wr_45, wr_46, wr_47, wr_48, wr_49, wr_50, wr_51, wr_52, wr_53, wr_54, wr_55, wr_56, wr_57, wr_58, wr_59, wr_60, wr_61, wr_62, wr_63, wr_64, wr_65, wr_66, wr_67, wr_68, wr_69, wr_70, wr_71, wr_72, wr_73, wr_74, wr_75, wr_76, wr_77, wr_78, wr_79, wr_80, wr_81, wr_82, wr_83, wr_84, wr_85, wr_86, wr_87, ww_v1, ww_v2, ww_v3, ww_v4, ww_g0, ww_gS, ww_t0, ww_tS, ww_s0, ww_sS, ww_s2, ww_w1, ww_w2, ww_w3, ww_b, ww_tg, ww_p1, ww_p2, ww_q0, ww_qS, ww_k1, ww_k2, ww_k3, ww_w0, ww_wS, ww_i1, ww_i2, ww_f0, ww_f1, ww_f2, ww_f4, ww_fd, ww_cl, ww_mc, ww_tk, ww_ci, ww_ak, ww_gv, ww_g1, ww_kcs, w_f1, w_f2, w_a1, w_a2, w_u_at, dm_27, List.elem_nil, List.elem_cons, List.map_nil, List.map_cons, List.sum_nil, List.sum_cons, Option.toList_none, Option.toList_some, List.nil_append, List.cons_append, true_and, and_true, implies_true, false_implies, if_true, if_false, reduceIte, reduceCtorEq, Bool.false_eq_true, Bool.and_false, Bool.false_and, Bool.and_self, Bool.and_true, Bool.true_and, Nat.reduceAdd, Nat.reduceBEq, Nat.reduceEqDiff, Nat.reduceLT, Nat.reduceLeDiff, Int.reduceAdd, Int.reduceNeg, Int.reduceToNat, Int.reduceLE, Int.reduceLT, Int.reduceSub, Int.cast_ofNat_Int, Int.reduceNatCast', Int.reduceNatCast, Nat.zero_add, Int.zero_add, and_self, false_and, and_false, or_false, false_or, true_or, or_true, not_true_eq_false, not_false_eq_true, at_19, at_29, ctL_c, ctL_n]
  refine ⟨⟨by omega, by omega⟩, ⟨by omega, by omega⟩, ?_⟩
  unfold h_mn
  rw [e3 _ _ _ _ (by omega), e3 _ _ _ _ (by omega), e3 _ _ _ _ (by omega), e4 _ _ _ _ (by omega), e4 _ _ _ _ (by omega), e4 _ _ _ _ (by omega)]
  exact fun _ => rfl
theorem ok_27 : ww_cOk1 27 sp_27 := by
  intro as w fr pre r w1 e hp
  unfold sp_27 at e
  split at e
  · cases e
    exact lk_27 hp
  · cases e

