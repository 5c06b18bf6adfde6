/-! ===== the tokens of the files: insert, remove ===== -/
def w_shr (w : W_) (lo hi : Nat) : W_ := (w.1, fun b k => if (b = 3 ∨ b = 5) ∧ lo < k ∧ k ≤ hi then w.2 b (k - 1) else w.2 b k)
def w_shl (w : W_) (lo hi : Nat) : W_ := (w.1, fun b k => if (b = 3 ∨ b = 5) ∧ lo ≤ k ∧ k < hi then w.2 b (k + 1) else w.2 b k)
theorem w_shr_0 {w : W_} {lo hi : Nat} (h : hi ≤ lo) : w_shr w lo hi = w := by
  refine Prod.ext rfl ?_
  funext b k
  show (if (b = 3 ∨ b = 5) ∧ lo < k ∧ k ≤ hi then w.2 b (k - 1) else w.2 b k) = _
  rw [if_neg (by omega)]
theorem w_shl_0 {w : W_} {lo hi : Nat} (h : hi ≤ lo) : w_shl w lo hi = w := by
  refine Prod.ext rfl ?_
  funext b k
  show (if (b = 3 ∨ b = 5) ∧ lo ≤ k ∧ k < hi then w.2 b (k + 1) else w.2 b k) = _
  rw [if_neg (by omega)]
theorem w_shr_S {w : W_} {lo hi : Nat} (h : lo ≤ hi) (h0 : 0 < lo) : w_a (w_a (w_shr w lo hi) 3 lo (w.2 3 (lo - 1))) 5 lo (w.2 5 (lo - 1)) = w_shr w (lo - 1) hi := by
  refine Prod.ext rfl ?_
  funext b k
  show (if b = 5 ∧ k = lo then w.2 5 (lo - 1) else if b = 3 ∧ k = lo then w.2 3 (lo - 1) else if (b = 3 ∨ b = 5) ∧ lo < k ∧ k ≤ hi then w.2 b (k - 1) else w.2 b k) = if (b = 3 ∨ b = 5) ∧ lo - 1 < k ∧ k ≤ hi then w.2 b (k - 1) else w.2 b k
  by_cases c5 : b = 5 ∧ k = lo
  · rw [if_pos c5, if_pos (by omega), c5.1, c5.2]
  · rw [if_neg c5]
    by_cases c3 : b = 3 ∧ k = lo
    · rw [if_pos c3, if_pos (by omega), c3.1, c3.2]
    · rw [if_neg c3]
      by_cases c : (b = 3 ∨ b = 5) ∧ lo < k ∧ k ≤ hi
      · rw [if_pos c, if_pos (by omega)]
      · rw [if_neg c, if_neg (by omega)]
theorem w_shl_S {w : W_} {lo hi : Nat} (h : lo ≤ hi) : w_a (w_a (w_shl w lo hi) 3 hi (w.2 3 (hi + 1))) 5 hi (w.2 5 (hi + 1)) = w_shl w lo (hi + 1) := by
  refine Prod.ext rfl ?_
  funext b k
  show (if b = 5 ∧ k = hi then w.2 5 (hi + 1) else if b = 3 ∧ k = hi then w.2 3 (hi + 1) else if (b = 3 ∨ b = 5) ∧ lo ≤ k ∧ k < hi then w.2 b (k + 1) else w.2 b k) = if (b = 3 ∨ b = 5) ∧ lo ≤ k ∧ k < hi + 1 then w.2 b (k + 1) else w.2 b k
  by_cases c5 : b = 5 ∧ k = hi
  · rw [if_pos c5, if_pos (by omega), c5.1, c5.2]
  · rw [if_neg c5]
    by_cases c3 : b = 3 ∧ k = hi
    · rw [if_pos c3, if_pos (by omega), c3.1, c3.2]
    · rw [if_neg c3]
      by_cases c : (b = 3 ∨ b = 5) ∧ lo ≤ k ∧ k < hi
      · rw [if_pos c, if_pos (by omega)]
      · rw [if_neg c, if_neg (by omega)]
/-- what insert makes -/
def w_ins (w : W_) (f p : Nat) (k n : Int) : W_ := w_a (w_a (w_a (w_shr w (60 * f + p) (60 * f + (w.2 7 f).toNat)) 3 (60 * f + p) k) 5 (60 * f + p) n) 7 f (w.2 7 f + 1)
def w_rem (w : W_) (f p : Nat) : W_ := w_a (w_shl w (60 * f + p) (60 * f + (w.2 7 f).toNat - 1)) 7 f (w.2 7 f - 1)
theorem w_g_pos {w : W_} {b : Nat} {k : Int} (h : 0 ≤ k) : w_g w b k = w.2 b k.toNat := by
  unfold w_g
  rw [if_neg (by omega)]
set_option maxRecDepth 100000 in
set_option maxHeartbeats 4000000 in
theorem lk_5 {f p k n : Int} {w : W_} (f0 : 0 ≤ f) (f1 : f < 3) (p0 : 0 ≤ p) (p1 : p ≤ w.2 7 f.toNat) (s1 : w.2 7 f.toNat < 60) : ww_Ct 5 4 [.inr (.inr (.inl 2)), .inl f, .inl p, .inl k, .inl n] w fun r w' => r = none ∧ w' = w_ins w f.toNat p.toNat k n := by
  have hsz : w_g w 7 f = w.2 7 f.toNat := w_g_pos f0
  refine of_5 (ww_go (ctL_cons ok_1 (ctL_cons ok_7 (ctL_cons ok_69 ctL_nil))) 100 [13] ?_)
  simp only [ww_S, ww_1, wr_0, wr_1, wr_2, wr_3, wr_4, wr_5, wr_6, wr_7, wr_8, wr_9, wr_10, wr_11, wr_12, wr_13, wr_14, wr_15, wr_16, wr_17, wr_18, wr_19, wr_20, wr_21, wr_22, wr_23, wr_24, wr_25, wr_26, wr_27, wr_28, wr_29, wr_30, wr_31, wr_32, wr_33, wr_34, wr_35, wr_36, wr_37, wr_38, wr_39, wr_40, wr_41, wr_42, wr_43, wr_44, wr_45, wr_46, wr_47, wr_48, wr_49, wr_50, wr_51, wr_52, wr_53, wr_54, wr_55, wr_56, wr_57, wr_58, wr_59, wr_60, wr_61, wr_62, wr_63, wr_64, wr_65, wr_66, wr_67, wr_68, wr_69, wr_70, wr_71, wr_72, wr_73, wr_74, wr_75, wr_76, wr_77, wr_78, wr_79, wr_80, wr_81, wr_82, wr_83, wr_84, wr_85, wr_86, wr_87, ww_v1, ww_v2, ww_v3, ww_v4, ww_g0, ww_gS, ww_t0, ww_tS, ww_s0, ww_sS, ww_s2, ww_w1, ww_w2, ww_w3, ww_b, ww_tg, ww_p1, ww_p2, ww_q0, ww_qS, ww_k1, ww_k2, ww_k3, ww_w0, ww_wS, ww_i1, ww_i2, ww_f0, ww_f1, ww_f2, ww_f4, ww_fd, ww_cl, ww_mc, ww_tk, ww_ci, ww_ak, ww_gv, ww_g1, ww_kcs, w_f1, w_f2, w_a1, w_a2, w_u_at, dm_5, List.elem_nil, List.elem_cons, List.map_nil, List.map_cons, List.sum_nil, List.sum_cons, Option.toList_none, Option.toList_some, List.nil_append, List.cons_append, true_and, and_true, implies_true, false_implies, if_true, if_false, reduceIte, reduceCtorEq, Bool.false_eq_true, Bool.and_false, Bool.false_and, Bool.and_self, Bool.and_true, Bool.true_and, Nat.reduceAdd, Nat.reduceBEq, Nat.reduceEqDiff, Nat.reduceLT, Nat.reduceLeDiff, Int.reduceAdd, Int.reduceNeg, Int.reduceToNat, Int.reduceLE, Int.reduceLT, Int.reduceSub, Int.cast_ofNat_Int, Int.reduceNatCast', Int.reduceNatCast, Nat.zero_add, Int.zero_add, and_self, false_and, and_false, or_false, false_or, true_or, or_true, not_true_eq_false, not_false_eq_true, at_1, at_7, at_69, ctL_c, ctL_n]
  refine ⟨⟨by omega, by omega⟩, ?_⟩
  refine ww_loop (P := fun m ls w' => ∃ i : Int, p ≤ i ∧ i ≤ w.2 7 f.toNat ∧ m = (i - p).toNat ∧ ls = [.inr (.inr (.inl 2)), .inl f, .inl p, .inl k, .inl n, .inl (f * 60), .inl i] ∧ w' = w_shr w (60 * f + i).toNat (60 * f.toNat + (w.2 7 f.toNat).toNat)) ?_ (w.2 7 f.toNat - p).toNat _ _ ⟨w.2 7 f.toNat, p1, Int.le_refl _, rfl, by rw [hsz], by rw [w_shr_0 (by omega)]⟩
  rintro m ls w' ⟨i, i0, i1, hm, rfl, rfl⟩ ih
  refine ww_go1 (ctL_cons ok_1 (ctL_cons ok_7 (ctL_cons ok_69 ctL_nil))) 100 [13] ?_
  have hsh : ∀ (b lo hi : Nat) (k : Int), 0 ≤ k → k ≤ lo → w_g (w_shr w lo hi) b k = w.2 b k.toNat := by
    intro b lo hi k k0 kl
    rw [w_g_pos k0]
    show (if (b = 3 ∨ b = 5) ∧ lo < k.toNat ∧ k.toNat ≤ hi then w.2 b (k.toNat - 1) else w.2 b k.toNat) = _
    rw [if_neg (by omega)]
  have h7 : ∀ (lo hi : Nat) (k : Int), 0 ≤ k → w_g (w_shr w lo hi) 7 k = w.2 7 k.toNat := by
    intro lo hi k k0
    rw [w_g_pos k0]
    show (if ((7 : Nat) = 3 ∨ (7 : Nat) = 5) ∧ lo < k.toNat ∧ k.toNat ≤ hi then w.2 7 (k.toNat - 1) else w.2 7 k.toNat) = _
    rw [if_neg (by omega)]
  simp only [ww_S, ww_1, wr_0, wr_1, wr_2, wr_3, wr_4, wr_5, wr_6, wr_7, wr_8, wr_9, wr_10, wr_11, wr_12, wr_13, wr_14, wr_15, wr_16, wr_17, wr_18, wr_19, wr_20, wr_21, wr_22, wr_23, wr_24, wr_25, wr_26, wr_27, wr_28, wr_29, wr_30, wr_31, wr_32, wr_33, wr_34, wr_35, wr_36, wr_37, wr_38, wr_39, wr_40, wr_41, wr_42, wr_43, wr_44, wr_45, wr_46, wr_47, wr_48, wr_49, wr_50, wr_51, wr_52, wr_53, wr_54, wr_55, wr_56, wr_57, wr_58, wr_59, wr_60, wr_61, wr_62, wr_63, wr_64, wr_65, wr_66, wr_67, wr_68, wr_69, wr_70, wr_71, wr_72, wr_73, wr_74, wr_75, wr_76, wr_77, wr_78, wr_79, wr_80, wr_81, wr_82, wr_83, wr_84, wr_85, wr_86, wr_87, ww_v1, ww_v2, ww_v3, ww_v4, ww_g0, ww_gS, ww_t0, ww_tS, ww_s0, ww_sS, ww_s2, ww_w1, ww_w2, ww_w3, ww_b, ww_tg, ww_p1, ww_p2, ww_q0, ww_qS, ww_k1, ww_k2, ww_k3, ww_w0, ww_wS, ww_i1, ww_i2, ww_f0, ww_f1, ww_f2, ww_f4, ww_fd, ww_cl, ww_mc, ww_tk, ww_ci, ww_ak, ww_gv, ww_g1, ww_kcs, w_f1, w_f2, w_a1, w_a2, w_u_at, dm_5, List.elem_nil, List.elem_cons, List.map_nil, List.map_cons, List.sum_nil, List.sum_cons, Option.toList_none, Option.toList_some, List.nil_append, List.cons_append, true_and, and_true, implies_true, false_implies, if_true, if_false, reduceIte, reduceCtorEq, Bool.false_eq_true, Bool.and_false, Bool.false_and, Bool.and_self, Bool.and_true, Bool.true_and, Nat.reduceAdd, Nat.reduceBEq, Nat.reduceEqDiff, Nat.reduceLT, Nat.reduceLeDiff, Int.reduceAdd, Int.reduceNeg, Int.reduceToNat, Int.reduceLE, Int.reduceLT, Int.reduceSub, Int.cast_ofNat_Int, Int.reduceNatCast', Int.reduceNatCast, Nat.zero_add, Int.zero_add, and_self, false_and, and_false, or_false, false_or, true_or, or_true, not_true_eq_false, not_false_eq_true, at_1, at_7, at_69, ctL_c, ctL_n, w_isRs, w_bds, w_g_a]
  refine ⟨⟨by omega, by omega⟩, ⟨by omega, by omega⟩, fun q => ?_, fun q => ?_⟩
  · have e : i = p := by omega
    refine ⟨⟨by omega, by omega⟩, ⟨by omega, by omega⟩, ⟨by omega, by omega⟩, ⟨by omega, by omega⟩, ?_⟩
    rw [h7 _ _ _ f0, e]
    unfold w_ins
    have e1 : (60 * f + p).toNat = 60 * f.toNat + p.toNat := by omega
    have e2 : (f * 60 + p).toNat = 60 * f.toNat + p.toNat := by omega
    rw [e1, e2]
  · refine ⟨⟨⟨by omega, by omega⟩, by omega, by omega⟩, ?_⟩
    have e1 : (f * 60 + i).toNat = (60 * f + i).toNat := by omega
    have e2 : (f * 60 + i - 1).toNat = (60 * f + i).toNat - 1 := by omega
    rw [hsh 3 (60 * f + i).toNat (60 * f.toNat + (w.2 7 f.toNat).toNat) (f * 60 + i - 1) (by omega) (by omega), hsh 5 (60 * f + i).toNat (60 * f.toNat + (w.2 7 f.toNat).toNat) (f * 60 + i - 1) (by omega) (by omega), e1, e2, w_shr_S (lo := (60 * f + i).toNat) (hi := 60 * f.toNat + (w.2 7 f.toNat).toNat) (by omega) (by omega)]
    refine ih (i - 1 - p).toNat _ _ (by omega) ⟨i - 1, by omega, by omega, rfl, rfl, ?_⟩
    have e3 : (60 * f + (i - 1)).toNat = (60 * f + i).toNat - 1 := by omega
    rw [e3]
set_option maxRecDepth 100000 in
set_option maxHeartbeats 4000000 in
theorem lk_6 {f p : Int} {w : W_} (f0 : 0 ≤ f) (f1 : f < 3) (p0 : 0 ≤ p) (p1 : p < w.2 7 f.toNat) (s1 : w.2 7 f.toNat ≤ 60) : ww_Ct 6 4 [.inr (.inr (.inl 2)), .inl f, .inl p] w fun r w' => r = none ∧ w' = w_rem w f.toNat p.toNat := by
  have hsh : ∀ (b lo hi : Nat) (k : Int), 0 ≤ k → hi ≤ k → w_g (w_shl w lo hi) b k = w.2 b k.toNat := by
    intro b lo hi k k0 kl
    rw [w_g_pos k0]
    show (if (b = 3 ∨ b = 5) ∧ lo ≤ k.toNat ∧ k.toNat < hi then w.2 b (k.toNat + 1) else w.2 b k.toNat) = _
    rw [if_neg (by omega)]
  have h7 : ∀ (lo hi : Nat) (k : Int), 0 ≤ k → w_g (w_shl w lo hi) 7 k = w.2 7 k.toNat := by
    intro lo hi k k0
    rw [w_g_pos k0]
    show (if ((7 : Nat) = 3 ∨ (7 : Nat) = 5) ∧ lo ≤ k.toNat ∧ k.toNat < hi then w.2 7 (k.toNat + 1) else w.2 7 k.toNat) = _
    rw [if_neg (by omega)]
  refine of_6 (ww_go (ctL_cons ok_1 (ctL_cons ok_7 (ctL_cons ok_69 ctL_nil))) 100 [10] ?_)
  simp only [ww_S, ww_1, wr_0, wr_1, wr_2, wr_3, wr_4, wr_5, wr_6, wr_7, wr_8, wr_9, wr_10, wr_11, wr_12, wr_13, wr_14, wr_15, wr_16, wr_17, wr_18, wr_19, wr_20, wr_21, wr_22, wr_23, wr_24, wr_25, wr_26, wr_27, wr_28, wr_29, wr_30, wr_31, wr_32, wr_33, wr_34, wr_35, wr_36, wr_37, wr_38, wr_39, wr_40, wr_41, wr_42, wr_43, wr_44, wr_45, wr_46, wr_47, wr_48, wr_49, wr_50, wr_51, wr_52, wr_53, wr_54, wr_55, wr_56, wr_57, wr_58, wr_59, wr_60, wr_61, wr_62, wr_63, wr_64, wr_65, wr_66, wr_67, wr_68, wr_69, wr_70, wr_71, wr_72, wr_73, wr_74, wr_75, wr_76, wr_77, wr_78, wr_79, wr_80, wr_81, wr_82, wr_83, wr_84, wr_85, wr_86, wr_87, ww_v1, ww_v2, ww_v3, ww_v4, ww_g0, ww_gS, ww_t0, ww_tS, ww_s0, ww_sS, ww_s2, ww_w1, ww_w2, ww_w3, ww_b, ww_tg, ww_p1, ww_p2, ww_q0, ww_qS, ww_k1, ww_k2, ww_k3, ww_w0, ww_wS, ww_i1, ww_i2, ww_f0, ww_f1, ww_f2, ww_f4, ww_fd, ww_cl, ww_mc, ww_tk, ww_ci, ww_ak, ww_gv, ww_g1, ww_kcs, w_f1, w_f2, w_a1, w_a2, w_u_at, dm_6, List.elem_nil, List.elem_cons, List.map_nil, List.map_cons, List.sum_nil, List.sum_cons, Option.toList_none, Option.toList_some, List.nil_append, List.cons_append, true_and, and_true, implies_true, false_implies, if_true, if_false, reduceIte, reduceCtorEq, Bool.false_eq_true, Bool.and_false, Bool.false_and, Bool.and_self, Bool.and_true, Bool.true_and, Nat.reduceAdd, Nat.reduceBEq, Nat.reduceEqDiff, Nat.reduceLT, Nat.reduceLeDiff, Int.reduceAdd, Int.reduceNeg, Int.reduceToNat, Int.reduceLE, Int.reduceLT, Int.reduceSub, Int.cast_ofNat_Int, Int.reduceNatCast', Int.reduceNatCast, Nat.zero_add, Int.zero_add, and_self, false_and, and_false, or_false, false_or, true_or, or_true, not_true_eq_false, not_false_eq_true, at_1, at_7, at_69, ctL_c, ctL_n]
  refine ww_loop (P := fun m ls w' => ∃ i : Int, p + 1 ≤ i ∧ i ≤ w.2 7 f.toNat ∧ m = (w.2 7 f.toNat - i).toNat ∧ ls = [.inr (.inr (.inl 2)), .inl f, .inl p, .inl (f * 60), .inl i] ∧ w' = w_shl w (60 * f.toNat + p.toNat) (60 * f + i - 1).toNat) ?_ (w.2 7 f.toNat - (p + 1)).toNat _ _ ⟨p + 1, Int.le_refl _, by omega, rfl, rfl, by rw [w_shl_0 (by omega)]⟩
  rintro m ls w' ⟨i, i0, i1, hm, rfl, rfl⟩ ih
  refine ww_go1 (ctL_cons ok_1 (ctL_cons ok_7 (ctL_cons ok_69 ctL_nil))) 100 [10] ?_
  simp only [ww_S, ww_1, wr_0, wr_1, wr_2, wr_3, wr_4, wr_5, wr_6, wr_7, wr_8, wr_9, wr_10, wr_11, wr_12, wr_13, wr_14, wr_15, wr_16, wr_17, wr_18, wr_19, wr_20, wr_21, wr_22, wr_23, wr_24, wr_25, wr_26, wr_27, wr_28, wr_29, wr_30, wr_31, wr_32, wr_33, wr_34, wr_35, wr_36, wr_37, wr_38, wr_39, wr_40, wr_41, wr_42, wr_43, wr_44, wr_45, wr_46, wr_47, wr_48, wr_49, wr_50, wr_51, wr_52, wr_53, wr_54, wr_55, wr_56, wr_57, wr_58, wr_59, wr_60, wr_61, wr_62, wr_63, wr_64, wr_65, wr_66, wr_67, wr_68, wr_69, wr_70, wr_71, wr_72, wr_73, wr_74, wr_75, wr_76, wr_77, wr_78, wr_79, wr_80, wr_81, wr_82, wr_83, wr_84, wr_85, wr_86, wr_87, ww_v1, ww_v2, ww_v3, ww_v4, ww_g0, ww_gS, ww_t0, ww_tS, ww_s0, ww_sS, ww_s2, ww_w1, ww_w2, ww_w3, ww_b, ww_tg, ww_p1, ww_p2, ww_q0, ww_qS, ww_k1, ww_k2, ww_k3, ww_w0, ww_wS, ww_i1, ww_i2, ww_f0, ww_f1, ww_f2, ww_f4, ww_fd, ww_cl, ww_mc, ww_tk, ww_ci, ww_ak, ww_gv, ww_g1, ww_kcs, w_f1, w_f2, w_a1, w_a2, w_u_at, dm_6, List.elem_nil, List.elem_cons, List.map_nil, List.map_cons, List.sum_nil, List.sum_cons, Option.toList_none, Option.toList_some, List.nil_append, List.cons_append, true_and, and_true, implies_true, false_implies, if_true, if_false, reduceIte, reduceCtorEq, Bool.false_eq_true, Bool.and_false, Bool.false_and, Bool.and_self, Bool.and_true, Bool.true_and, Nat.reduceAdd, Nat.reduceBEq, Nat.reduceEqDiff, Nat.reduceLT, Nat.reduceLeDiff, Int.reduceAdd, Int.reduceNeg, Int.reduceToNat, Int.reduceLE, Int.reduceLT, Int.reduceSub, Int.cast_ofNat_Int, Int.reduceNatCast', Int.reduceNatCast, Nat.zero_add, Int.zero_add, and_self, false_and, and_false, or_false, false_or, true_or, or_true, not_true_eq_false, not_false_eq_true, at_1, at_7, at_69, ctL_c, ctL_n, w_isRs, w_bds, w_g_a]
  rw [h7 _ _ _ f0]
  refine ⟨⟨by omega, by omega⟩, ⟨by omega, by omega⟩, ⟨by omega, by omega⟩, fun q => ?_, fun q => ?_⟩
  · have e : i = w.2 7 f.toNat := by omega
    refine ⟨⟨by omega, by omega⟩, ⟨by omega, by omega⟩, ?_⟩
    unfold w_rem
    have e1 : (60 * f + i - 1).toNat = 60 * f.toNat + (w.2 7 f.toNat).toNat - 1 := by omega
    rw [e1]
  · refine ⟨⟨⟨by omega, by omega⟩, by omega, by omega⟩, ?_⟩
    have e1 : (f * 60 + i - 1).toNat = (60 * f + i - 1).toNat := by omega
    have e2 : (f * 60 + i).toNat = (60 * f + i - 1).toNat + 1 := by omega
    rw [hsh 3 _ _ (f * 60 + i) (by omega) (by omega), hsh 5 _ _ (f * 60 + i) (by omega) (by omega), e1, e2, w_shl_S (by omega)]
    refine ih (w.2 7 f.toNat - (i + 1)).toNat _ _ (by omega) ⟨i + 1, by omega, by omega, rfl, rfl, ?_⟩
    have e3 : (60 * f + (i + 1) - 1).toNat = (60 * f + i - 1).toNat + 1 := by omega
    rw [e3]
