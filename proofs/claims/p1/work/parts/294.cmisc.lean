/-! ===== the class: faults, marks, small steps ===== -/
abbrev w_kn (w : W_) : Prop := (0 ≤ w.1 (w_o w) 5 ∧ w.1 (w_o w) 5 < 64) ∧ (w.1 17 7 = 24 ∨ w.1 17 7 = 55 ∨ w.1 17 7 = 64)
/-- a fault is noted -/
def w_nt (w : W_) (x : Int) : W_ := w_f (w_f (w_a w (w_o w + 3) (w.1 (w_o w) 5).toNat (if w.1 (w_o w) 5 < 60 then x + w.1 17 6 else w.2 (w_o w + 3) (w.1 (w_o w) 5).toNat)) 17 5 (w.1 17 5 + 1)) (w_o w) 5 (if w.1 (w_o w) 5 < 60 then w.1 (w_o w) 5 + 1 else w.1 (w_o w) 5)
theorem w_a_self (w : W_) (a i : Nat) : w_a w a i (w.2 a i) = w := by
  refine Prod.ext rfl ?_
  funext b k
  show (if b = a ∧ k = i then w.2 a i else w.2 b k) = w.2 b k
  by_cases c : b = a ∧ k = i
  · rw [if_pos c, c.1, c.2]
  · rw [if_neg c]
theorem w_f_self (w : W_) (a i : Nat) : w_f w a i (w.1 a i) = w := by
  refine Prod.ext ?_ rfl
  funext b k
  show (if b = a ∧ k = i then w.1 a i else w.1 b k) = w.1 b k
  by_cases c : b = a ∧ k = i
  · rw [if_pos c, c.1, c.2]
  · rw [if_neg c]
theorem w_f_sw (w : W_) {a i b j : Nat} (x y : Int) (h : ¬ (a = b ∧ i = j)) : w_f (w_f w a i x) b j y = w_f (w_f w b j y) a i x := by
  refine Prod.ext ?_ rfl
  funext c k
  show (if c = b ∧ k = j then y else if c = a ∧ k = i then x else w.1 c k) = if c = a ∧ k = i then x else if c = b ∧ k = j then y else w.1 c k
  by_cases e : c = b ∧ k = j
  · rw [if_pos e, if_neg (fun q => h ⟨q.1.symm.trans e.1, q.2.symm.trans e.2⟩), if_pos e]
  · rw [if_neg e]
    by_cases d : c = a ∧ k = i
    · rw [if_pos d, if_pos d]
    · rw [if_neg d, if_neg d, if_neg e]
theorem w_nt_eq (w : W_) (x : Int) (h : w_kn w) : (if w.1 (w_o w) 5 < 60 then w_f (w_a (w_f w 17 5 (w.1 17 5 + 1)) (w_o w + 3) (w.1 (w_o w) 5).toNat (x + w.1 17 6)) (w_o w) 5 (w.1 (w_o w) 5 + 1) else w_f w 17 5 (w.1 17 5 + 1)) = w_nt w x := by
  have hne : ¬ (w_o w = 17 ∧ 5 = 5) := by
    intro q
    have q := q.1
    unfold w_o at q
    omega
  unfold w_nt
  by_cases c : w.1 (w_o w) 5 < 60
  · rw [if_pos c, if_pos c, if_pos c]
    rfl
  · rw [if_neg c, if_neg c, if_neg c, w_a_self]
    have e : (w_f w 17 5 (w.1 17 5 + 1)).1 (w_o w) 5 = w.1 (w_o w) 5 := by
      rw [w_f1, w_u_at, if_neg hne]
    rw [← e, w_f_self]
theorem at_65n (x0 x1 : Int) (w : W_) (h : w_kn w) : sp_65 [.inr (.inr (.inl 17)), .inl x0, .inl x1] w = some (3, w_kn w, none, w_nt w (100000 * x0 + x1)) := by
  rw [at_65, w_nt_eq w _ h]
/-- where it is written to -/
theorem w_o_ne {w : W_} (h : w.1 17 7 = 24 ∨ w.1 17 7 = 55 ∨ w.1 17 7 = 64) {n : Nat} (h1 : n ≠ 24) (h2 : n ≠ 55) (h3 : n ≠ 64) : (n = w_o w) = False := by
  refine eq_false (fun q => ?_)
  unfold w_o at q
  omega
theorem w_o_ne3 {w : W_} (h : w.1 17 7 = 24 ∨ w.1 17 7 = 55 ∨ w.1 17 7 = 64) {n : Nat} (h1 : n ≠ 27) (h2 : n ≠ 58) (h3 : n ≠ 67) : (n = w_o w + 3) = False := by
  refine eq_false (fun q => ?_)
  unfold w_o at q
  omega
def sp_76 : List am_V → W_ → Option (Nat × Prop × Option am_V × W_)
  | [.inr (.inr (.inl 41)), .inl x0, .inl x1], w => some (4, w_kn w ∧ 0 ≤ x1 ∧ x1 < 100000, some (.inl 20004), w_nt w (100000 * x0 + (10000 * (x1 / 60) + 100 * (x1 % 60))))
  | _, _ => none
theorem at_76 (x0 x1 : Int) (w : W_) : sp_76 [.inr (.inr (.inl 41)), .inl x0, .inl x1] w = some (4, w_kn w ∧ 0 ≤ x1 ∧ x1 < 100000, some (.inl 20004), w_nt w (100000 * x0 + (10000 * (x1 / 60) + 100 * (x1 % 60)))) := rfl
set_option maxRecDepth 100000 in
set_option maxHeartbeats 4000000 in
theorem lk_76 {x0 x1 : Int} {w : W_} (hp : w_kn w ∧ 0 ≤ x1 ∧ x1 < 100000) : ww_Ct 76 4 [.inr (.inr (.inl 41)), .inl x0, .inl x1] w fun r w' => r = some (.inl 20004) ∧ w' = w_nt w (100000 * x0 + (10000 * (x1 / 60) + 100 * (x1 % 60))) := by
  obtain ⟨h, h0, h1⟩ := hp
  refine of_76 (ww_go (ctL_cons ok_65 (ctL_cons ok_163 ctL_nil)) 100 [] ?_)
  simp only [ww_S, ww_1, wr_0, wr_1, wr_2, wr_3, wr_4, wr_5, wr_6, wr_7, wr_8, wr_9, wr_10, wr_11, wr_12, wr_13, wr_14, wr_15, wr_16, wr_17, wr_18, wr_19, wr_20, wr_21, wr_22, wr_23, wr_24, wr_25, wr_26, wr_27, wr_28, wr_29, wr_30, wr_31, wr_32, wr_33, wr_34, wr_35, wr_36, wr_37, wr_38, wr_39, wr_40, wr_41, wr_42, wr_43, wr_44, wr_45, wr_46, wr_47, wr_48, wr_49, wr_50, wr_51, wr_52, wr_53, wr_54, wr_55, wr_56, wr_57, wr_58, wr_59, wr_60, wr_61, wr_62, wr_63, wr_64, wr_65, wr_66, wr_67, wr_68, wr_69, wr_70, wr_71, wr_72, wr_73, wr_74, wr_75, wr_76, wr_77, wr_78, wr_79, wr_80, wr_81, wr_82, wr_83, wr_84, wr_85, wr_86, wr_87, ww_v1, ww_v2, ww_v3, ww_v4, ww_g0, ww_gS, ww_t0, ww_tS, ww_s0, ww_sS, ww_s2, ww_w1, ww_w2, ww_w3, ww_b, ww_tg, ww_p1, ww_p2, ww_q0, ww_qS, ww_k1, ww_k2, ww_k3, ww_w0, ww_wS, ww_i1, ww_i2, ww_f0, ww_f1, ww_f2, ww_f4, ww_fd, ww_cl, ww_mc, ww_tk, ww_ci, ww_ak, ww_gv, ww_g1, ww_kcs, w_f1, w_f2, w_a1, w_a2, w_u_at, dm_76, List.elem_nil, List.elem_cons, List.map_nil, List.map_cons, List.sum_nil, List.sum_cons, Option.toList_none, Option.toList_some, List.nil_append, List.cons_append, true_and, and_true, implies_true, false_implies, if_true, if_false, reduceIte, reduceCtorEq, Bool.false_eq_true, Bool.and_false, Bool.false_and, Bool.and_self, Bool.and_true, Bool.true_and, Nat.reduceAdd, Nat.reduceBEq, Nat.reduceEqDiff, Nat.reduceLT, Nat.reduceLeDiff, Int.reduceAdd, Int.reduceNeg, Int.reduceToNat, Int.reduceLE, Int.reduceLT, Int.reduceSub, Int.cast_ofNat_Int, Int.reduceNatCast', Int.reduceNatCast, Nat.zero_add, Int.zero_add, and_self, false_and, and_false, or_false, false_or, true_or, or_true, not_true_eq_false, not_false_eq_true, ctL_c, ctL_n, at_65n _ _ _ h, at_163]
  exact ⟨⟨h0, h1⟩, h⟩
theorem ok_76 : ww_cOk1 76 sp_76 := by
  intro as w fr pre r w1 e hp
  unfold sp_76 at e
  split at e
  · cases e
    exact lk_76 hp
  · cases e

abbrev w_spot (i : Int) : Int := 10000 * (i / 60) + 100 * (i % 60)
def sp_88 : List am_V → W_ → Option (Nat × Prop × Option am_V × W_)
  | [.inr (.inr (.inl 41)), .inl x0, .inl x1], w => some (4, (w_kn w ∧ am_rg (w.1 41 11)) ∧ (0 ≤ x0 ∧ x0 < 100000) ∧ (x1 = 0 ∨ x1 = 1), some (.inl (if w.1 41 11 = 20004 ∨ x1 = 1 then w.1 41 11 else 20004)), (if w.1 41 11 = 20004 ∨ x1 = 1 then w else w_nt w (100000 * 3 + w_spot x0)))
  | _, _ => none
theorem at_88 (x0 x1 : Int) (w : W_) : sp_88 [.inr (.inr (.inl 41)), .inl x0, .inl x1] w = some (4, (w_kn w ∧ am_rg (w.1 41 11)) ∧ (0 ≤ x0 ∧ x0 < 100000) ∧ (x1 = 0 ∨ x1 = 1), some (.inl (if w.1 41 11 = 20004 ∨ x1 = 1 then w.1 41 11 else 20004)), (if w.1 41 11 = 20004 ∨ x1 = 1 then w else w_nt w (100000 * 3 + w_spot x0))) := rfl
set_option maxRecDepth 100000 in
set_option maxHeartbeats 4000000 in
theorem lk_88 {x0 x1 : Int} {w : W_} (hp : (w_kn w ∧ am_rg (w.1 41 11)) ∧ (0 ≤ x0 ∧ x0 < 100000) ∧ (x1 = 0 ∨ x1 = 1)) : ww_Ct 88 4 [.inr (.inr (.inl 41)), .inl x0, .inl x1] w fun r w' => r = some (.inl (if w.1 41 11 = 20004 ∨ x1 = 1 then w.1 41 11 else 20004)) ∧ w' = (if w.1 41 11 = 20004 ∨ x1 = 1 then w else w_nt w (100000 * 3 + w_spot x0)) := by
  obtain ⟨⟨h, h2⟩, ⟨h0, h1⟩, h3⟩ := hp
  refine of_88 (ww_go (ctL_cons ok_65 (ctL_cons ok_163 ctL_nil)) 100 [] ?_)
  simp only [ww_S, ww_1, wr_0, wr_1, wr_2, wr_3, wr_4, wr_5, wr_6, wr_7, wr_8, wr_9, wr_10, wr_11, wr_12, wr_13, wr_14, wr_15, wr_16, wr_17, wr_18, wr_19, wr_20, wr_21, wr_22, wr_23, wr_24, wr_25, wr_26, wr_27, wr_28, wr_29, wr_30, wr_31, wr_32, wr_33, wr_34, wr_35, wr_36, wr_37, wr_38, wr_39, wr_40, wr_41, wr_42, wr_43, wr_44, wr_45, wr_46, wr_47, wr_48, wr_49, wr_50, wr_51, wr_52, wr_53, wr_54, wr_55, wr_56, wr_57, wr_58, wr_59, wr_60, wr_61, wr_62, wr_63, wr_64, wr_65, wr_66, wr_67, wr_68, wr_69, wr_70, wr_71, wr_72, wr_73, wr_74, wr_75, wr_76, wr_77, wr_78, wr_79, wr_80, wr_81, wr_82, wr_83, wr_84, wr_85, wr_86, wr_87, ww_v1, ww_v2, ww_v3, ww_v4, ww_g0, ww_gS, ww_t0, ww_tS, ww_s0, ww_sS, ww_s2, ww_w1, ww_w2, ww_w3, ww_b, ww_tg, ww_p1, ww_p2, ww_q0, ww_qS, ww_k1, ww_k2, ww_k3, ww_w0, ww_wS, ww_i1, ww_i2, ww_f0, ww_f1, ww_f2, ww_f4, ww_fd, ww_cl, ww_mc, ww_tk, ww_ci, ww_ak, ww_gv, ww_g1, ww_kcs, w_f1, w_f2, w_a1, w_a2, w_u_at, dm_88, List.elem_nil, List.elem_cons, List.map_nil, List.map_cons, List.sum_nil, List.sum_cons, Option.toList_none, Option.toList_some, List.nil_append, List.cons_append, true_and, and_true, implies_true, false_implies, if_true, if_false, reduceIte, reduceCtorEq, Bool.false_eq_true, Bool.and_false, Bool.false_and, Bool.and_self, Bool.and_true, Bool.true_and, Nat.reduceAdd, Nat.reduceBEq, Nat.reduceEqDiff, Nat.reduceLT, Nat.reduceLeDiff, Int.reduceAdd, Int.reduceNeg, Int.reduceToNat, Int.reduceLE, Int.reduceLT, Int.reduceSub, Int.cast_ofNat_Int, Int.reduceNatCast', Int.reduceNatCast, Nat.zero_add, Int.zero_add, and_self, false_and, and_false, or_false, false_or, true_or, or_true, not_true_eq_false, not_false_eq_true, ctL_c, ctL_n, at_65n _ _ _ h, at_163]
  refine ⟨h2, ⟨by omega, by omega⟩, fun z => ⟨by rw [if_pos (Or.inl z)], by rw [if_pos (Or.inl z)]⟩, fun z => ⟨by unfold am_rg; omega, fun y => ?_, fun y => ?_⟩⟩
  · rw [if_neg (by omega), if_neg (by omega)]
    exact ⟨⟨h0, h1⟩, h, rfl, rfl⟩
  · rw [if_pos (by omega), if_pos (by omega)]
    exact ⟨rfl, rfl⟩
theorem ok_88 : ww_cOk1 88 sp_88 := by
  intro as w fr pre r w1 e hp
  unfold sp_88 at e
  split at e
  · cases e
    exact lk_88 hp
  · cases e

