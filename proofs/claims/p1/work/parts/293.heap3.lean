/-! ===== the heap of the class: heading, join, pair ===== -/
theorem w_h_mk_lt {w : W_} {a b c d e v : Int} {f : Nat} (h0 : 0 ≤ w.1 13 2) (h : v < 30000 + w.1 13 2) (hf : f < 8) : w_h (w_mk w a b c d e) v f = w_h w v f := by
  unfold w_h w_mk
  dsimp only
  by_cases c1 : v < 30000
  · rw [if_pos c1, if_pos c1]
  · rw [if_neg c1, if_neg c1, if_neg (by omega)]
theorem h_w_mk_lt {w : W_} {a b c d e v s : Int} (h0 : 0 ≤ w.1 13 2) (h : v < 30000 + w.1 13 2) : h_w (w_mk w a b c d e) v s = h_w w v s := by
  unfold h_w
  by_cases c1 : -9999 ≤ v ∧ v ≤ 9999
  · rw [if_pos c1, if_pos c1]
  · rw [if_neg c1, if_neg c1]
    by_cases c2 : s < 1 ∨ 3 < s
    · rw [if_pos c2, if_pos c2]
    · rw [if_neg c2, if_neg c2, w_h_mk_lt h0 h (by omega)]
theorem h_ok_mk {w : W_} {a b c d e v : Int} (h0 : 0 ≤ w.1 13 2) (h : v < 30000 + w.1 13 2) (k : h_ok w v) : h_ok (w_mk w a b c d e) v := by
  refine ⟨k.1, ?_, ?_, ?_⟩
  · rw [w_h_mk_lt h0 h (by omega)]; exact k.2.1
  · rw [w_h_mk_lt h0 h (by omega)]; exact k.2.2.1
  · rw [w_h_mk_lt h0 h (by omega)]; exact k.2.2.2
theorem h_wk_mk {w : W_} {a b c d e v : Int} (h0 : 0 ≤ w.1 13 2) (h : v < 30000 + w.1 13 2) (k : h_wk w v) : h_wk (w_mk w a b c d e) v := by
  unfold h_wk
  rw [h_w_mk_lt h0 h, h_w_mk_lt h0 h, h_w_mk_lt h0 h]
  exact k
def sp_23 : List am_V → W_ → Option (Nat × Prop × Option am_V × W_)
  | [.inr (.inr (.inl 13)), .inl x0, .inl x1], w => some (3, (0 ≤ w.1 13 2 ∧ w.1 13 2 < 262144) ∧ x0 < 30000 + w.1 13 2 ∧ h_ok w x0, some (.inl (30000 + w.1 13 2)), w_wid (w_mk w 5 x0 20003 x1 0) (30000 + w.1 13 2) (h_w w x0 1) (h_w w x0 2) (h_w w x0 3))
  | _, _ => none
theorem at_23 (x0 x1 : Int) (w : W_) : sp_23 [.inr (.inr (.inl 13)), .inl x0, .inl x1] w = some (3, (0 ≤ w.1 13 2 ∧ w.1 13 2 < 262144) ∧ x0 < 30000 + w.1 13 2 ∧ h_ok w x0, some (.inl (30000 + w.1 13 2)), w_wid (w_mk w 5 x0 20003 x1 0) (30000 + w.1 13 2) (h_w w x0 1) (h_w w x0 2) (h_w w x0 3)) := rfl
set_option maxRecDepth 100000 in
set_option maxHeartbeats 4000000 in
theorem lk_23 {x0 x1 : Int} {w : W_} (hp : (0 ≤ w.1 13 2 ∧ w.1 13 2 < 262144) ∧ x0 < 30000 + w.1 13 2 ∧ h_ok w x0) : ww_Ct 23 3 [.inr (.inr (.inl 13)), .inl x0, .inl x1] w fun r w' => r = some (.inl (30000 + w.1 13 2)) ∧ w' = w_wid (w_mk w 5 x0 20003 x1 0) (30000 + w.1 13 2) (h_w w x0 1) (h_w w x0 2) (h_w w x0 3) := by
  obtain ⟨⟨h0, h1⟩, h2, h3⟩ := hp
  refine of_23 (ww_go (ctL_cons ok_20 (ctL_cons ok_24 (ctL_cons ok_29 ctL_nil))) 100 [] ?_)
  simp only [ww_S, ww_1, wr_0, wr_1, wr_2, wr_3, wr_4, wr_5, wr_6, wr_7, wr_8, wr_9, wr_10, wr_11, wr_12, wr_13, wr_14, wr_15, wr_16, wr_17, wr_18, wr_19, wr_20, wr_21, wr_22, wr_23, wr_24, wr_25, wr_26, wr_27, wr_28, wr_29, wr_30, wr_31, wr_32, wr_33, wr_34, wr_35, wr_36, wr_37, wr_38, wr_39, wr_40, wr_41, wr_42, wr_43, wr_44, wr_45, wr_46, wr_47, wr_48, wr_49, wr_50, wr_51, wr_52, wr_53, wr_54, wr_55, wr_56, wr_57, wr_58, wr_59, wr_60, wr_61, wr_62, wr_63, wr_64, wr_65, wr_66, wr_67, wr_68, wr_69, wr_70, wr_71, wr_72, wr_73, wr_74, wr_75, wr_76, wr_77, wr_78, wr_79, wr_80, wr_81, wr_82, wr_83, wr_84, wr_85, wr_86, wr_87, ww_v1, ww_v2, ww_v3, ww_v4, ww_g0, ww_gS, ww_t0, ww_tS, ww_s0, ww_sS, ww_s2, ww_w1, ww_w2, ww_w3, ww_b, ww_tg, ww_p1, ww_p2, ww_q0, ww_qS, ww_k1, ww_k2, ww_k3, ww_w0, ww_wS, ww_i1, ww_i2, ww_f0, ww_f1, ww_f2, ww_f4, ww_fd, ww_cl, ww_mc, ww_tk, ww_ci, ww_ak, ww_gv, ww_g1, ww_kcs, w_f1, w_f2, w_a1, w_a2, w_u_at, dm_23, List.elem_nil, List.elem_cons, List.map_nil, List.map_cons, List.sum_nil, List.sum_cons, Option.toList_none, Option.toList_some, List.nil_append, List.cons_append, true_and, and_true, implies_true, false_implies, if_true, if_false, reduceIte, reduceCtorEq, Bool.false_eq_true, Bool.and_false, Bool.false_and, Bool.and_self, Bool.and_true, Bool.true_and, Nat.reduceAdd, Nat.reduceBEq, Nat.reduceEqDiff, Nat.reduceLT, Nat.reduceLeDiff, Int.reduceAdd, Int.reduceNeg, Int.reduceToNat, Int.reduceLE, Int.reduceLT, Int.reduceSub, Int.cast_ofNat_Int, Int.reduceNatCast', Int.reduceNatCast, Nat.zero_add, Int.zero_add, and_self, false_and, and_false, or_false, false_or, true_or, or_true, not_true_eq_false, not_false_eq_true, at_20, at_24, at_29, ctL_c, ctL_n, w_mk1]
  rw [h_w_mk_lt h0 h2, h_w_mk_lt h0 h2, h_w_mk_lt h0 h2]
  have hk := h_ok_mk (a := 5) (b := x0) (c := 20003) (d := x1) (e := 0) h0 h2 h3
  refine ⟨⟨h0, h1⟩, ⟨hk, by omega, by omega⟩, ⟨hk, by omega, by omega⟩, ⟨hk, by omega, by omega⟩, ?_⟩
  exact ⟨⟨by omega, by omega⟩, rfl⟩
theorem ok_23 : ww_cOk1 23 sp_23 := by
  intro as w fr pre r w1 e hp
  unfold sp_23 at e
  split at e
  · cases e
    exact lk_23 hp
  · cases e

/-- both filled or not, content or not: what join answers, and the world behind it -/
def h_jR (w : W_) (a b : Int) : Int := if ¬ h_cF w a ∧ ¬ h_cF w b then 20000 else if ¬ h_cF w b ∧ h_cC w a then a else if ¬ h_cF w a ∧ h_cC w b then b else 30000 + w.1 13 2
def h_jW (w : W_) (a b : Int) : W_ := if ¬ h_cF w a ∧ ¬ h_cF w b then w else if ¬ h_cF w b ∧ h_cC w a then w else if ¬ h_cF w a ∧ h_cC w b then w else w_wid (w_mk w 8 (if h_cF w a then a else 20003) (if h_cF w b then b else 20003) 0 0) (30000 + w.1 13 2) (h_mn w a b 1) (h_mn w a b 2) (h_mn w a b 3)
theorem h_mn_mk {w : W_} {a b c d e x y s : Int} (h0 : 0 ≤ w.1 13 2) (hx : x < 30000 + w.1 13 2) (hy : y < 30000 + w.1 13 2) : h_mn (w_mk w a b c d e) x y s = h_mn w x y s := by
  unfold h_mn
  rw [h_w_mk_lt h0 hx, h_w_mk_lt h0 hy]
def sp_25 : List am_V → W_ → Option (Nat × Prop × Option am_V × W_)
  | [.inr (.inr (.inl 13)), .inl x0, .inl x1], w => some (3, (0 ≤ w.1 13 2 ∧ w.1 13 2 < 262144) ∧ (x0 < 30000 + w.1 13 2 ∧ x1 < 30000 + w.1 13 2) ∧ (h_ok w x0 ∧ h_wk w x0) ∧ h_ok w x1 ∧ h_wk w x1, some (.inl (h_jR w x0 x1)), h_jW w x0 x1)
  | _, _ => none
theorem at_25 (x0 x1 : Int) (w : W_) : sp_25 [.inr (.inr (.inl 13)), .inl x0, .inl x1] w = some (3, (0 ≤ w.1 13 2 ∧ w.1 13 2 < 262144) ∧ (x0 < 30000 + w.1 13 2 ∧ x1 < 30000 + w.1 13 2) ∧ (h_ok w x0 ∧ h_wk w x0) ∧ h_ok w x1 ∧ h_wk w x1, some (.inl (h_jR w x0 x1)), h_jW w x0 x1) := rfl
set_option maxRecDepth 100000 in
set_option maxHeartbeats 4000000 in
theorem lk_25 {x0 x1 : Int} {w : W_} (hp : (0 ≤ w.1 13 2 ∧ w.1 13 2 < 262144) ∧ (x0 < 30000 + w.1 13 2 ∧ x1 < 30000 + w.1 13 2) ∧ (h_ok w x0 ∧ h_wk w x0) ∧ h_ok w x1 ∧ h_wk w x1) : ww_Ct 25 3 [.inr (.inr (.inl 13)), .inl x0, .inl x1] w fun r w' => r = some (.inl (h_jR w x0 x1)) ∧ w' = h_jW w x0 x1 := by
  obtain ⟨⟨h0, h1⟩, ⟨b0, b1⟩, ⟨c0, c1⟩, d0, d1⟩ := hp
  unfold h_jR h_jW
  refine of_25 (ww_go (ctL_cons ok_20 (ctL_cons ok_27 (ctL_cons ok_31 (ctL_cons ok_32 ctL_nil)))) 200 [] ?_)
  simp only [ww_S, ww_1, wr_0, wr_1, wr_2, wr_3, wr_4, wr_5, wr_6, wr_7, wr_8, wr_9, wr_10, wr_11, wr_12, wr_13, wr_14, wr_15, wr_16, wr_17, wr_18, wr_19, wr_20, wr_21, wr_22, wr_23, wr_24, wr_25, wr_26, wr_27, wr_28, wr_29, wr_30, wr_31, wr_32, wr_33, wr_34, wr_35, wr_36, wr_37, wr_38, wr_39, wr_40, wr_41, wr_42, wr_43, wr_44, wr_45, wr_46, wr_47, wr_48, wr_49, wr_50, wr_51, wr_52, wr_53, wr_54, wr_55, wr_56, wr_57, wr_58, wr_59, wr_60, wr_61, wr_62, wr_63, wr_64, wr_65, wr_66, wr_67, wr_68, wr_69, wr_70, wr_71, wr_72, wr_73, wr_74, wr_75, wr_76, wr_77, wr_78, wr_79, wr_80, wr_81, wr_82, wr_83, wr_84, wr_85, wr_86, wr_87, ww_v1, ww_v2, ww_v3, ww_v4, ww_g0, ww_gS, ww_t0, ww_tS, ww_s0, ww_sS, ww_s2, ww_w1, ww_w2, ww_w3, ww_b, ww_tg, ww_p1, ww_p2, ww_q0, ww_qS, ww_k1, ww_k2, ww_k3, ww_w0, ww_wS, ww_i1, ww_i2, ww_f0, ww_f1, ww_f2, ww_f4, ww_fd, ww_cl, ww_mc, ww_tk, ww_ci, ww_ak, ww_gv, ww_g1, ww_kcs, w_f1, w_f2, w_a1, w_a2, w_u_at, dm_25, List.elem_nil, List.elem_cons, List.map_nil, List.map_cons, List.sum_nil, List.sum_cons, Option.toList_none, Option.toList_some, List.nil_append, List.cons_append, true_and, and_true, implies_true, false_implies, if_true, if_false, reduceIte, reduceCtorEq, Bool.false_eq_true, Bool.and_false, Bool.false_and, Bool.and_self, Bool.and_true, Bool.true_and, Nat.reduceAdd, Nat.reduceBEq, Nat.reduceEqDiff, Nat.reduceLT, Nat.reduceLeDiff, Int.reduceAdd, Int.reduceNeg, Int.reduceToNat, Int.reduceLE, Int.reduceLT, Int.reduceSub, Int.cast_ofNat_Int, Int.reduceNatCast', Int.reduceNatCast, Nat.zero_add, Int.zero_add, and_self, false_and, and_false, or_false, false_or, true_or, or_true, not_true_eq_false, not_false_eq_true, at_20, at_27, at_31, at_32, ctL_c, ctL_n, w_mk1, w_i0, w_i1, w_i2, c0, d0]
  have m1 : ∀ c d s, h_mn (w_mk w 8 c d 0 0) x0 x1 s = h_mn w x0 x1 s := fun c d s => h_mn_mk h0 b0 b1
  have m2 : ∀ c d, h_ok (w_mk w 8 c d 0 0) x0 ∧ h_wk (w_mk w 8 c d 0 0) x0 := fun c d => ⟨h_ok_mk h0 b0 c0, h_wk_mk h0 b0 c1⟩
  have m3 : ∀ c d, h_ok (w_mk w 8 c d 0 0) x1 ∧ h_wk (w_mk w 8 c d 0 0) x1 := fun c d => ⟨h_ok_mk h0 b1 d0, h_wk_mk h0 b1 d1⟩
  refine ⟨c0, d0, ?_⟩
  by_cases f0 : h_cF w x0 <;> by_cases f1 : h_cF w x1 <;> by_cases g0 : h_cC w x0 <;> by_cases g1 : h_cC w x1 <;> simp only [f0, f1, g0, g1, c0, d0, true_and, and_true, false_implies, true_implies, implies_true, if_true, if_false, not_true_eq_false, not_false_eq_true, false_and, and_false, and_self, m1]
  all_goals (repeat' (first | assumption | exact (m2 _ _).1 | exact (m2 _ _).2 | exact (m3 _ _).1 | exact (m3 _ _).2 | rfl | refine And.intro ?_ ?_ | intro _ | omega))
theorem ok_25 : ww_cOk1 25 sp_25 := by
  intro as w fr pre r w1 e hp
  unfold sp_25 at e
  split at e
  · cases e
    exact lk_25 hp
  · cases e

