/-! ===== cut, of the reference ===== -/
theorem w_a_comm (w : W_) {a b i j : Nat} {x y : Int} (h : a ≠ b) : w_a (w_a w a i x) b j y = w_a (w_a w b j y) a i x := by
  refine Prod.ext rfl ?_
  funext c k
  show (if c = b ∧ k = j then y else if c = a ∧ k = i then x else w.2 c k) = if c = a ∧ k = i then x else if c = b ∧ k = j then y else w.2 c k
  by_cases c1 : c = b ∧ k = j
  · rw [if_pos c1, if_neg (fun q => h (q.1.symm.trans c1.1)), if_pos c1]
  · rw [if_neg c1, if_neg c1]
/-- what cut answers of a fault -/
def q_cut (w : W_) (f p : Int) : Int := if (0 ≤ f ∧ f ≤ 2) ∧ 0 ≤ p ∧ p < w.2 76 f.toNat then 0 else 1
set_option maxRecDepth 100000 in
set_option maxHeartbeats 4000000 in
theorem lk_172t {f p : Int} {w : W_} (hf : am_rg f) (hp : am_rg p) (h0 : 0 ≤ w.2 76 0 ∧ w.2 76 0 ≤ 60) (hs : 0 ≤ f → f ≤ 2 → 0 ≤ w.2 76 f.toNat ∧ w.2 76 f.toNat ≤ 60) (hc : q_cut w f p ≠ 0) :
    ww_Ct 172 2 [.inr (.inr (.inl 73)), .inl f, .inl p] w fun r w' => r = some (.inl 0) ∧ w' = w_f w 73 93 (q_cut w f p) := by
  unfold q_cut at hc ⊢
  refine of_172 (ww_go (ctL_cons ok_167 (ctL_cons ok_168 (ctL_cons ok_169 ctL_nil))) 100 [58] ?_)
  simp only [ww_S, ww_1, wr_0, wr_1, wr_2, wr_3, wr_4, wr_5, wr_6, wr_7, wr_8, wr_9, wr_10, wr_11, wr_12, wr_13, wr_14, wr_15, wr_16, wr_17, wr_18, wr_19, wr_20, wr_21, wr_22, wr_23, wr_24, wr_25, wr_26, wr_27, wr_28, wr_29, wr_30, wr_31, wr_32, wr_33, wr_34, wr_35, wr_36, wr_37, wr_38, wr_39, wr_40, wr_41, wr_42, wr_43, wr_44, wr_45, wr_46, wr_47, wr_48, wr_49, wr_50, wr_51, wr_52, wr_53, wr_54, wr_55, wr_56, wr_57, wr_58, wr_59, wr_60, wr_61, wr_62, wr_63, wr_64, wr_65, wr_66, wr_67, wr_68, wr_69, wr_70, wr_71, wr_72, wr_73, wr_74, wr_75, wr_76, wr_77, wr_78, wr_79, wr_80, wr_81, wr_82, wr_83, wr_84, wr_85, wr_86, wr_87, ww_v1, ww_v2, ww_v3, ww_v4, ww_g0, ww_gS, ww_t0, ww_tS, ww_s0, ww_sS, ww_s2, ww_w1, ww_w2, ww_w3, ww_b, ww_tg, ww_p1, ww_p2, ww_q0, ww_qS, ww_k1, ww_k2, ww_k3, ww_w0, ww_wS, ww_i1, ww_i2, ww_f0, ww_f1, ww_f2, ww_f4, ww_fd, ww_cl, ww_mc, ww_tk, ww_ci, ww_ak, ww_gv, ww_g1, ww_kcs, w_f1, w_f2, w_a1, w_a2, w_u_at, dm_172, List.elem_nil, List.elem_cons, List.map_nil, List.map_cons, List.sum_nil, List.sum_cons, Option.toList_none, Option.toList_some, List.nil_append, List.cons_append, true_and, and_true, implies_true, false_implies, if_true, if_false, reduceIte, reduceCtorEq, Bool.false_eq_true, Bool.and_false, Bool.false_and, Bool.and_self, Bool.and_true, Bool.true_and, Nat.reduceAdd, Nat.reduceBEq, Nat.reduceEqDiff, Nat.reduceLT, Nat.reduceLeDiff, Int.reduceAdd, Int.reduceNeg, Int.reduceToNat, Int.reduceLE, Int.reduceLT, Int.reduceSub, Int.cast_ofNat_Int, Int.reduceNatCast', Int.reduceNatCast, Nat.zero_add, Int.zero_add, and_self, false_and, and_false, or_false, false_or, true_or, or_true, not_true_eq_false, not_false_eq_true, at_167, at_168, at_169, ctL_c, ctL_n]
  unfold am_rg at *
  (repeat' (first | refine And.intro ?_ ?_ | intro _)) <;> first | assumption | (with_reducible rfl) | omega | (exfalso; omega) | (refine congrArg (w_f w 73 93) ?_; (repeat' split) <;> first | rfl | omega) | skip
set_option maxRecDepth 100000 in
set_option maxHeartbeats 4000000 in
theorem z172_104 {f p t : Int} {v3 : am_V} {w : W_} {Q : Option am_V → W_ → Prop} (f0 : 0 ≤ f) (f1 : f < 3) (p0 : 0 ≤ p) (p1 : p < w.2 76 f.toNat) (s1 : w.2 76 f.toNat ≤ 60) (hv : am_two v3 = false)
    (hr : 0 ≤ w.1 73 70 ∧ w.1 73 70 ≤ 60 ∧ ∀ r : Nat, (r : Int) < w.1 73 70 → am_rg (w.2 114 r))
    (K : ∀ w', r_fg (q_rem w f.toNat p.toNat) f w' → Q (some (.inl t)) w') :
    ww_Z 12 7 2 1 cX12_cut none Q 104 [.inr (.inr (.inl 73)), .inl f, .inl p, v3, .inl (60 * f), .inl t, .inl (60 * f + p)] [] (w_a w 76 f.toNat (w.2 76 f.toNat - 1)) := by
  refine ww_loop (P := fun m ls w' => ∃ i : Int, p ≤ i ∧ i < w.2 76 f.toNat ∧ m = (w.2 76 f.toNat - i).toNat ∧ ls = [.inr (.inr (.inl 73)), .inl f, .inl p, v3, .inl (60 * f), .inl t, .inl (60 * f + i)] ∧ w' = w_a (q_shl w (60 * f.toNat + p.toNat) (60 * f + i).toNat) 76 f.toNat (w.2 76 f.toNat - 1)) ?_ (w.2 76 f.toNat - p).toNat _ _ ⟨p, Int.le_refl _, p1, rfl, rfl, by rw [q_shl_0 (by omega)]⟩
  rintro m ls w' ⟨i, i0, i1, hm, rfl, rfl⟩ ih
  have hsh : ∀ (b lo hi : Nat) (k : Nat), hi ≤ k → (q_shl w lo hi).2 b k = w.2 b k := by
    intro b lo hi k kl
    show (if (b = 74 ∨ b = 75) ∧ lo ≤ k ∧ k < hi then w.2 b (k + 1) else w.2 b k) = _
    rw [if_neg (by omega)]
  have h7 : ∀ (lo hi : Nat), (w_a (q_shl w lo hi) 76 f.toNat (w.2 76 f.toNat - 1)).2 76 f.toNat = w.2 76 f.toNat - 1 := by
    intro lo hi
    exact if_pos ⟨rfl, rfl⟩
  refine ww_go1 (ctL_cons ok_167 ctL_nil) 100 [104] ?_
  simp only [ww_S, ww_1, wr_0, wr_1, wr_2, wr_3, wr_4, wr_5, wr_6, wr_7, wr_8, wr_9, wr_10, wr_11, wr_12, wr_13, wr_14, wr_15, wr_16, wr_17, wr_18, wr_19, wr_20, wr_21, wr_22, wr_23, wr_24, wr_25, wr_26, wr_27, wr_28, wr_29, wr_30, wr_31, wr_32, wr_33, wr_34, wr_35, wr_36, wr_37, wr_38, wr_39, wr_40, wr_41, wr_42, wr_43, wr_44, wr_45, wr_46, wr_47, wr_48, wr_49, wr_50, wr_51, wr_52, wr_53, wr_54, wr_55, wr_56, wr_57, wr_58, wr_59, wr_60, wr_61, wr_62, wr_63, wr_64, wr_65, wr_66, wr_67, wr_68, wr_69, wr_70, wr_71, wr_72, wr_73, wr_74, wr_75, wr_76, wr_77, wr_78, wr_79, wr_80, wr_81, wr_82, wr_83, wr_84, wr_85, wr_86, wr_87, ww_v1, ww_v2, ww_v3, ww_v4, ww_g0, ww_gS, ww_t0, ww_tS, ww_s0, ww_sS, ww_s2, ww_w1, ww_w2, ww_w3, ww_b, ww_tg, ww_p1, ww_p2, ww_q0, ww_qS, ww_k1, ww_k2, ww_k3, ww_w0, ww_wS, ww_i1, ww_i2, ww_f0, ww_f1, ww_f2, ww_f4, ww_fd, ww_cl, ww_mc, ww_tk, ww_ci, ww_ak, ww_gv, ww_g1, ww_kcs, w_f1, w_f2, w_a1, w_a2, w_u_at, dm_172, List.elem_nil, List.elem_cons, List.map_nil, List.map_cons, List.sum_nil, List.sum_cons, Option.toList_none, Option.toList_some, List.nil_append, List.cons_append, true_and, and_true, implies_true, false_implies, if_true, if_false, reduceIte, reduceCtorEq, Bool.false_eq_true, Bool.and_false, Bool.false_and, Bool.and_self, Bool.and_true, Bool.true_and, Nat.reduceAdd, Nat.reduceBEq, Nat.reduceEqDiff, Nat.reduceLT, Nat.reduceLeDiff, Int.reduceAdd, Int.reduceNeg, Int.reduceToNat, Int.reduceLE, Int.reduceLT, Int.reduceSub, Int.cast_ofNat_Int, Int.reduceNatCast', Int.reduceNatCast, Nat.zero_add, Int.zero_add, and_self, false_and, and_false, or_false, false_or, true_or, or_true, not_true_eq_false, not_false_eq_true, at_167, ctL_c, ctL_n, hv, h7]
  refine ⟨f0, f1, ⟨by omega, by omega⟩, ⟨by omega, by omega⟩, fun q => ?_, fun q => ?_⟩
  · have e : i = w.2 76 f.toNat - 1 := by omega
    have e1 : (60 * f + i).toNat = 60 * f.toNat + (w.2 76 f.toNat).toNat - 1 := by omega
    have ew : w_a (q_shl w (60 * f.toNat + p.toNat) (60 * f + i).toNat) 76 f.toNat (w.2 76 f.toNat - 1) = q_rem w f.toNat p.toNat := by
      rw [e1]
      rfl
    rw [ew]
    have e114 := q_rem_ne w f.toNat p.toNat (b := 114) (by decide) (by decide) (by decide)
    refine ww_Cn_of (lk_170 (w := q_rem w f.toNat p.toNat) f0 f1 hr.1 hr.2.1 (by rw [e114]; exact hr.2.2)) (by omega) ?_
    rintro r w1 ⟨rfl, h⟩
    have h : r_fg (q_rem w f.toNat p.toNat) f w1 := h
    refine ww_go1 (ctL_cons ok_167 ctL_nil) 100 [] ?_
    simp only [ww_S, ww_1, wr_0, wr_1, wr_2, wr_3, wr_4, wr_5, wr_6, wr_7, wr_8, wr_9, wr_10, wr_11, wr_12, wr_13, wr_14, wr_15, wr_16, wr_17, wr_18, wr_19, wr_20, wr_21, wr_22, wr_23, wr_24, wr_25, wr_26, wr_27, wr_28, wr_29, wr_30, wr_31, wr_32, wr_33, wr_34, wr_35, wr_36, wr_37, wr_38, wr_39, wr_40, wr_41, wr_42, wr_43, wr_44, wr_45, wr_46, wr_47, wr_48, wr_49, wr_50, wr_51, wr_52, wr_53, wr_54, wr_55, wr_56, wr_57, wr_58, wr_59, wr_60, wr_61, wr_62, wr_63, wr_64, wr_65, wr_66, wr_67, wr_68, wr_69, wr_70, wr_71, wr_72, wr_73, wr_74, wr_75, wr_76, wr_77, wr_78, wr_79, wr_80, wr_81, wr_82, wr_83, wr_84, wr_85, wr_86, wr_87, ww_v1, ww_v2, ww_v3, ww_v4, ww_g0, ww_gS, ww_t0, ww_tS, ww_s0, ww_sS, ww_s2, ww_w1, ww_w2, ww_w3, ww_b, ww_tg, ww_p1, ww_p2, ww_q0, ww_qS, ww_k1, ww_k2, ww_k3, ww_w0, ww_wS, ww_i1, ww_i2, ww_f0, ww_f1, ww_f2, ww_f4, ww_fd, ww_cl, ww_mc, ww_tk, ww_ci, ww_ak, ww_gv, ww_g1, ww_kcs, w_f1, w_f2, w_a1, w_a2, w_u_at, dm_172, List.elem_nil, List.elem_cons, List.map_nil, List.map_cons, List.sum_nil, List.sum_cons, Option.toList_none, Option.toList_some, List.nil_append, List.cons_append, true_and, and_true, implies_true, false_implies, if_true, if_false, reduceIte, reduceCtorEq, Bool.false_eq_true, Bool.and_false, Bool.false_and, Bool.and_self, Bool.and_true, Bool.true_and, Nat.reduceAdd, Nat.reduceBEq, Nat.reduceEqDiff, Nat.reduceLT, Nat.reduceLeDiff, Int.reduceAdd, Int.reduceNeg, Int.reduceToNat, Int.reduceLE, Int.reduceLT, Int.reduceSub, Int.cast_ofNat_Int, Int.reduceNatCast', Int.reduceNatCast, Nat.zero_add, Int.zero_add, and_self, false_and, and_false, or_false, false_or, true_or, or_true, not_true_eq_false, not_false_eq_true, at_167, ctL_c, ctL_n, Option.toList, List.nil_append]
    exact K w1 h
  · repeat (refine And.intro (by omega) ?_)
    have e2 : (60 * f + i + 1).toNat = (60 * f + i).toNat + 1 := by omega
    rw [e2, hsh 74 _ _ _ (by omega), hsh 75 _ _ _ (by omega), w_a_comm (a := 76) (b := 74) _ (by decide), w_a_comm (a := 76) (b := 75) _ (by decide), q_shl_S (by omega)]
    refine ih (w.2 76 f.toNat - (i + 1)).toNat _ _ (by omega) ⟨i + 1, by omega, by omega, rfl, ?_, ?_⟩
    · have e3 : 60 * f + i + 1 = 60 * f + (i + 1) := by omega
      rw [e3]
    · have e3 : (60 * f + (i + 1)).toNat = (60 * f + i).toNat + 1 := by omega
      rw [e3]
set_option maxRecDepth 100000 in
set_option maxHeartbeats 4000000 in
theorem lk_172 {f p : Int} {w : W_} (f0 : 0 ≤ f) (f1 : f < 3) (p0 : 0 ≤ p) (p1 : p < w.2 76 f.toNat) (s1 : w.2 76 f.toNat ≤ 60)
    (ht : 0 ≤ w.2 74 (60 * f + p).toNat ∧ w.2 74 (60 * f + p).toNat ≤ 31) (hn : 0 ≤ w.2 75 (60 * f + p).toNat ∧ w.2 75 (60 * f + p).toNat ≤ 99)
    (hr : 0 ≤ w.1 73 70 ∧ w.1 73 70 ≤ 60 ∧ ∀ r : Nat, (r : Int) < w.1 73 70 → am_rg (w.2 114 r)) :
    ww_Ct 172 2 [.inr (.inr (.inl 73)), .inl f, .inl p] w fun r w' => r = some (.inl (100 * w.2 74 (60 * f + p).toNat + w.2 75 (60 * f + p).toNat)) ∧ r_fg (q_rem (w_f w 73 93 0) f.toNat p.toNat) f w' := by
  refine of_172 (ww_go (ctL_cons ok_167 (ctL_cons ok_168 (ctL_cons ok_169 ctL_nil))) 100 [104] ?_)
  simp only [ww_S, ww_1, wr_0, wr_1, wr_2, wr_3, wr_4, wr_5, wr_6, wr_7, wr_8, wr_9, wr_10, wr_11, wr_12, wr_13, wr_14, wr_15, wr_16, wr_17, wr_18, wr_19, wr_20, wr_21, wr_22, wr_23, wr_24, wr_25, wr_26, wr_27, wr_28, wr_29, wr_30, wr_31, wr_32, wr_33, wr_34, wr_35, wr_36, wr_37, wr_38, wr_39, wr_40, wr_41, wr_42, wr_43, wr_44, wr_45, wr_46, wr_47, wr_48, wr_49, wr_50, wr_51, wr_52, wr_53, wr_54, wr_55, wr_56, wr_57, wr_58, wr_59, wr_60, wr_61, wr_62, wr_63, wr_64, wr_65, wr_66, wr_67, wr_68, wr_69, wr_70, wr_71, wr_72, wr_73, wr_74, wr_75, wr_76, wr_77, wr_78, wr_79, wr_80, wr_81, wr_82, wr_83, wr_84, wr_85, wr_86, wr_87, ww_v1, ww_v2, ww_v3, ww_v4, ww_g0, ww_gS, ww_t0, ww_tS, ww_s0, ww_sS, ww_s2, ww_w1, ww_w2, ww_w3, ww_b, ww_tg, ww_p1, ww_p2, ww_q0, ww_qS, ww_k1, ww_k2, ww_k3, ww_w0, ww_wS, ww_i1, ww_i2, ww_f0, ww_f1, ww_f2, ww_f4, ww_fd, ww_cl, ww_mc, ww_tk, ww_ci, ww_ak, ww_gv, ww_g1, ww_kcs, w_f1, w_f2, w_a1, w_a2, w_u_at, dm_172, List.elem_nil, List.elem_cons, List.map_nil, List.map_cons, List.sum_nil, List.sum_cons, Option.toList_none, Option.toList_some, List.nil_append, List.cons_append, true_and, and_true, implies_true, false_implies, if_true, if_false, reduceIte, reduceCtorEq, Bool.false_eq_true, Bool.and_false, Bool.false_and, Bool.and_self, Bool.and_true, Bool.true_and, Nat.reduceAdd, Nat.reduceBEq, Nat.reduceEqDiff, Nat.reduceLT, Nat.reduceLeDiff, Int.reduceAdd, Int.reduceNeg, Int.reduceToNat, Int.reduceLE, Int.reduceLT, Int.reduceSub, Int.cast_ofNat_Int, Int.reduceNatCast', Int.reduceNatCast, Nat.zero_add, Int.zero_add, and_self, false_and, and_false, or_false, false_or, true_or, or_true, not_true_eq_false, not_false_eq_true, at_167, at_168, at_169, ctL_c, ctL_n]
  have z := z172_104 (v3 := .inl 1) (t := 100 * w.2 74 (60 * f + p).toNat + w.2 75 (60 * f + p).toNat) (w := w_f w 73 93 0) (Q := fun r w' => r = some (.inl (100 * w.2 74 (60 * f + p).toNat + w.2 75 (60 * f + p).toNat)) ∧ r_fg (q_rem (w_f w 73 93 0) f.toNat p.toNat) f w') f0 f1 p0 p1 s1 rfl hr (fun w' h => ⟨rfl, h⟩)
  have g1 : (if 0 ≤ f ∧ f ≤ 2 then (1 : Int) else 0) = 1 := if_pos ⟨f0, by omega⟩
  have g2 : (if 0 ≤ p ∧ p ≤ w.2 76 f.toNat - 1 then (1 : Int) else 0) = 1 := if_pos ⟨p0, by omega⟩
  simp only [g1, g2]
  (repeat' (first | exact z | refine And.intro ?_ ?_ | intro _)) <;> first | omega | (exfalso; omega) | skip
