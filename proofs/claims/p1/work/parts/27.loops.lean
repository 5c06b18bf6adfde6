/-! ===== loops ===== -/
/-- a loop: a measure, what holds at its head -/
theorem ww_loop {own nL fr rk : Nat} {bytes : ByteArray} {sc : am_Sc} {Q : Option am_V → W_ → Prop} {pc : Nat} (P : Nat → List am_V → W_ → Prop)
    (step : ∀ n ls w, P n ls w → (∀ n' ls' w', n' < n → P n' ls' w' → ww_Z own nL fr rk bytes sc Q pc ls' [] w') → ww_Z own nL fr rk bytes sc Q pc ls [] w) : ∀ n ls w, P n ls w → ww_Z own nL fr rk bytes sc Q pc ls [] w := by
  intro n
  induction n using Nat.strongRecOn with
  | ind n ih => exact fun ls w h => step n ls w h fun n' ls' w' hn hp => ih n' hn ls' w' hp
/-- the first numbers of a row, from another one -/
def w_cpy (w : W_) (a b : Nat) (n : Int) : W_ := (w.1, fun c k => if c = a ∧ (k : Int) < n then w.2 b k else w.2 c k)
theorem w_g_cpy (w : W_) (a b : Nat) (n : Int) (c : Nat) (k : Int) : w_g (w_cpy w a b n) c k = if c = a ∧ 0 ≤ k ∧ k < n then w_g w b k else w_g w c k := by
  unfold w_g w_cpy
  dsimp only
  by_cases q : k < 0
  · rw [if_pos q, if_neg (by omega), if_pos q]
  · rw [if_neg q, if_neg q, if_neg q]
    by_cases e : c = a ∧ k < n
    · rw [if_pos ⟨e.1, by omega⟩, if_pos ⟨e.1, by omega, e.2⟩]
    · rw [if_neg (fun z => e ⟨z.1, by omega⟩), if_neg (fun z => e ⟨z.1, z.2.2⟩)]
set_option maxRecDepth 100000 in
theorem lk_71 {a b : Nat} {x : Int} {w : W_} (ha : w_isR a = true) (hb : w_isR b = true) (hab : a ≠ b) (h0 : 0 ≤ x) (h1 : x ≤ w_bd a) : ww_Ct 71 3 [.inr (.inr (.inl a)), .inr (.inr (.inl b)), .inl x] w fun r w' => r = none ∧ w' = w_cpy w a b x := by
  have hbd := (w_key10 a (w_isR_ok ha).1 (w_isR_ok ha).2).2.2
  refine of_71 (ww_go (ctL_cons ok_68 (ctL_cons ok_69 ctL_nil)) 100 [2] ?_)
  simp only [ww_S, ww_1, wr_0, wr_1, wr_2, wr_3, wr_4, wr_5, wr_6, wr_7, wr_8, wr_9, wr_10, wr_11, wr_12, wr_13, wr_14, wr_15, wr_16, wr_17, wr_18, wr_19, wr_20, wr_21, wr_22, wr_23, wr_24, wr_25, wr_26, wr_27, wr_28, wr_29, wr_30, wr_31, wr_32, wr_33, wr_34, wr_35, wr_36, wr_37, wr_38, wr_39, wr_40, wr_41, wr_42, wr_43, wr_44, wr_45, wr_46, wr_47, wr_48, wr_49, wr_50, wr_51, wr_52, wr_53, wr_54, wr_55, wr_56, wr_57, wr_58, wr_59, wr_60, wr_61, wr_62, wr_63, wr_64, wr_65, wr_66, wr_67, wr_68, wr_69, wr_70, wr_71, wr_72, wr_73, wr_74, wr_75, wr_76, wr_77, wr_78, wr_79, wr_80, wr_81, wr_82, wr_83, wr_84, wr_85, wr_86, wr_87, ww_v1, ww_v2, ww_v3, ww_v4, ww_g0, ww_gS, ww_t0, ww_tS, ww_s0, ww_sS, ww_s2, ww_w1, ww_w2, ww_w3, ww_b, ww_tg, ww_p1, ww_p2, ww_q0, ww_qS, ww_k1, ww_k2, ww_k3, ww_w0, ww_wS, ww_i1, ww_i2, ww_f0, ww_f1, ww_f2, ww_f4, ww_fd, ww_cl, ww_mc, ww_tk, ww_ci, ww_ak, ww_gv, ww_g1, ww_kcs, w_f1, w_f2, w_a1, w_a2, w_u_at, dm_71, List.elem_nil, List.elem_cons, List.map_nil, List.map_cons, List.sum_nil, List.sum_cons, Option.toList_none, Option.toList_some, List.nil_append, List.cons_append, true_and, and_true, implies_true, false_implies, if_true, if_false, reduceIte, reduceCtorEq, Bool.false_eq_true, Bool.and_false, Bool.false_and, Bool.and_self, Bool.and_true, Bool.true_and, Nat.reduceAdd, Nat.reduceBEq, Nat.reduceEqDiff, Nat.reduceLT, Nat.reduceLeDiff, Int.reduceAdd, Int.reduceNeg, Int.reduceToNat, Int.reduceLE, Int.reduceLT, Int.reduceSub, Int.cast_ofNat_Int, Int.reduceNatCast', Int.reduceNatCast, Nat.zero_add, Int.zero_add, and_self, false_and, and_false, or_false, false_or, true_or, or_true, not_true_eq_false, not_false_eq_true, at_68, at_69, ctL_c, ctL_n]
  refine ww_loop (P := fun n ls w' => ∃ i : Int, 0 ≤ i ∧ i ≤ x ∧ n = (x - i).toNat ∧ ls = [.inr (.inr (.inl a)), .inr (.inr (.inl b)), .inl x, .inl i] ∧ w' = w_cpy w a b i) ?_ x.toNat _ _ ⟨0, Int.le_refl _, h0, by omega, rfl, ?_⟩
  · rintro n ls w' ⟨i, i0, i1, hn, rfl, rfl⟩ ih
    refine ww_go1 (ctL_cons ok_68 (ctL_cons ok_69 ctL_nil)) 100 [2] ?_
    simp only [ww_S, ww_1, wr_0, wr_1, wr_2, wr_3, wr_4, wr_5, wr_6, wr_7, wr_8, wr_9, wr_10, wr_11, wr_12, wr_13, wr_14, wr_15, wr_16, wr_17, wr_18, wr_19, wr_20, wr_21, wr_22, wr_23, wr_24, wr_25, wr_26, wr_27, wr_28, wr_29, wr_30, wr_31, wr_32, wr_33, wr_34, wr_35, wr_36, wr_37, wr_38, wr_39, wr_40, wr_41, wr_42, wr_43, wr_44, wr_45, wr_46, wr_47, wr_48, wr_49, wr_50, wr_51, wr_52, wr_53, wr_54, wr_55, wr_56, wr_57, wr_58, wr_59, wr_60, wr_61, wr_62, wr_63, wr_64, wr_65, wr_66, wr_67, wr_68, wr_69, wr_70, wr_71, wr_72, wr_73, wr_74, wr_75, wr_76, wr_77, wr_78, wr_79, wr_80, wr_81, wr_82, wr_83, wr_84, wr_85, wr_86, wr_87, ww_v1, ww_v2, ww_v3, ww_v4, ww_g0, ww_gS, ww_t0, ww_tS, ww_s0, ww_sS, ww_s2, ww_w1, ww_w2, ww_w3, ww_b, ww_tg, ww_p1, ww_p2, ww_q0, ww_qS, ww_k1, ww_k2, ww_k3, ww_w0, ww_wS, ww_i1, ww_i2, ww_f0, ww_f1, ww_f2, ww_f4, ww_fd, ww_cl, ww_mc, ww_tk, ww_ci, ww_ak, ww_gv, ww_g1, ww_kcs, w_f1, w_f2, w_a1, w_a2, w_u_at, dm_71, List.elem_nil, List.elem_cons, List.map_nil, List.map_cons, List.sum_nil, List.sum_cons, Option.toList_none, Option.toList_some, List.nil_append, List.cons_append, true_and, and_true, implies_true, false_implies, if_true, if_false, reduceIte, reduceCtorEq, Bool.false_eq_true, Bool.and_false, Bool.false_and, Bool.and_self, Bool.and_true, Bool.true_and, Nat.reduceAdd, Nat.reduceBEq, Nat.reduceEqDiff, Nat.reduceLT, Nat.reduceLeDiff, Int.reduceAdd, Int.reduceNeg, Int.reduceToNat, Int.reduceLE, Int.reduceLT, Int.reduceSub, Int.cast_ofNat_Int, Int.reduceNatCast', Int.reduceNatCast, Nat.zero_add, Int.zero_add, and_self, false_and, and_false, or_false, false_or, true_or, or_true, not_true_eq_false, not_false_eq_true, at_68, at_69, ctL_c, ctL_n, ha, hb, (w_isR_ok ha).2, (w_isR_ok hb).2]
    refine ⟨⟨by omega, by omega⟩, ⟨by omega, by omega⟩, fun q => ?_, fun q => ⟨⟨by omega, by omega⟩, ⟨i0, by omega⟩, ?_⟩⟩
    · have : i = x := by omega
      rw [this]
    · refine ih (x - (i + 1)).toNat _ _ (by omega) ⟨i + 1, by omega, by omega, rfl, rfl, ?_⟩
      refine Prod.ext rfl ?_
      funext c k
      have hg : w_g (w_cpy w a b i) b i = w.2 b i.toNat := by
        rw [w_g_cpy, if_neg (fun z => hab z.1.symm)]
        unfold w_g
        rw [if_neg (by omega)]
      show (if c = a ∧ k = i.toNat then w_g (w_cpy w a b i) b i else if c = a ∧ (k : Int) < i then w.2 b k else w.2 c k) = if c = a ∧ (k : Int) < i + 1 then w.2 b k else w.2 c k
      rw [hg]
      by_cases c1 : c = a
      · subst c1
        by_cases c2 : k = i.toNat
        · rw [if_pos ⟨rfl, c2⟩, if_pos ⟨rfl, by omega⟩, c2]
        · rw [if_neg (fun z => c2 z.2)]
          by_cases c3 : (k : Int) < i
          · rw [if_pos ⟨rfl, c3⟩, if_pos ⟨rfl, by omega⟩]
          · rw [if_neg (fun z => c3 z.2), if_neg (by omega)]
      · rw [if_neg (fun z => c1 z.1), if_neg (fun z => c1 z.1), if_neg (fun z => c1 z.1)]
  · refine Prod.ext rfl ?_
    funext c k
    show w.2 c k = if c = a ∧ (k : Int) < 0 then w.2 b k else w.2 c k
    rw [if_neg (by omega)]
set_option maxRecDepth 100000 in
theorem lk_72 {a b : Nat} {x : Int} {w : W_} (ha : w_isR a = true) (hb : w_isR b = true) (h0 : 0 ≤ x) (h1 : x ≤ 100000) (hr : ∀ k : Int, 0 ≤ k → k < x → am_rg (w_g w a k) ∧ am_rg (w_g w b k)) : ww_Ct 72 1 [.inr (.inr (.inl a)), .inr (.inr (.inl b)), .inl x] w fun r w' => (r = some (.inl 1) ∧ (∀ k : Int, 0 ≤ k → k < x → w_g w a k = w_g w b k) ∨ r = some (.inl 0) ∧ ¬ ∀ k : Int, 0 ≤ k → k < x → w_g w a k = w_g w b k) ∧ w' = w := by
  refine of_72 (ww_go (ctL_cons ok_68 ctL_nil) 100 [2] ?_)
  simp only [ww_S, ww_1, wr_0, wr_1, wr_2, wr_3, wr_4, wr_5, wr_6, wr_7, wr_8, wr_9, wr_10, wr_11, wr_12, wr_13, wr_14, wr_15, wr_16, wr_17, wr_18, wr_19, wr_20, wr_21, wr_22, wr_23, wr_24, wr_25, wr_26, wr_27, wr_28, wr_29, wr_30, wr_31, wr_32, wr_33, wr_34, wr_35, wr_36, wr_37, wr_38, wr_39, wr_40, wr_41, wr_42, wr_43, wr_44, wr_45, wr_46, wr_47, wr_48, wr_49, wr_50, wr_51, wr_52, wr_53, wr_54, wr_55, wr_56, wr_57, wr_58, wr_59, wr_60, wr_61, wr_62, wr_63, wr_64, wr_65, wr_66, wr_67, wr_68, wr_69, wr_70, wr_71, wr_72, wr_73, wr_74, wr_75, wr_76, wr_77, wr_78, wr_79, wr_80, wr_81, wr_82, wr_83, wr_84, wr_85, wr_86, wr_87, ww_v1, ww_v2, ww_v3, ww_v4, ww_g0, ww_gS, ww_t0, ww_tS, ww_s0, ww_sS, ww_s2, ww_w1, ww_w2, ww_w3, ww_b, ww_tg, ww_p1, ww_p2, ww_q0, ww_qS, ww_k1, ww_k2, ww_k3, ww_w0, ww_wS, ww_i1, ww_i2, ww_f0, ww_f1, ww_f2, ww_f4, ww_fd, ww_cl, ww_mc, ww_tk, ww_ci, ww_ak, ww_gv, ww_g1, ww_kcs, w_f1, w_f2, w_a1, w_a2, w_u_at, dm_72, List.elem_nil, List.elem_cons, List.map_nil, List.map_cons, List.sum_nil, List.sum_cons, Option.toList_none, Option.toList_some, List.nil_append, List.cons_append, true_and, and_true, implies_true, false_implies, if_true, if_false, reduceIte, reduceCtorEq, Bool.false_eq_true, Bool.and_false, Bool.false_and, Bool.and_self, Bool.and_true, Bool.true_and, Nat.reduceAdd, Nat.reduceBEq, Nat.reduceEqDiff, Nat.reduceLT, Nat.reduceLeDiff, Int.reduceAdd, Int.reduceNeg, Int.reduceToNat, Int.reduceLE, Int.reduceLT, Int.reduceSub, Int.cast_ofNat_Int, Int.reduceNatCast', Int.reduceNatCast, Nat.zero_add, Int.zero_add, and_self, false_and, and_false, or_false, false_or, true_or, or_true, not_true_eq_false, not_false_eq_true, at_68, ctL_c, ctL_n]
  refine ww_loop (P := fun n ls w' => ∃ i : Int, 0 ≤ i ∧ i ≤ x ∧ n = (x - i).toNat ∧ ls = [.inr (.inr (.inl a)), .inr (.inr (.inl b)), .inl x, .inl i] ∧ w' = w ∧ ∀ k : Int, 0 ≤ k → k < i → w_g w a k = w_g w b k) ?_ x.toNat _ _ ⟨0, Int.le_refl _, h0, by omega, rfl, rfl, fun k _ _ => by omega⟩
  rintro n ls w' ⟨i, i0, i1, hn, rfl, rfl, he⟩ ih
  refine ww_go1 (ctL_cons ok_68 ctL_nil) 100 [2] ?_
  simp only [ww_S, ww_1, wr_0, wr_1, wr_2, wr_3, wr_4, wr_5, wr_6, wr_7, wr_8, wr_9, wr_10, wr_11, wr_12, wr_13, wr_14, wr_15, wr_16, wr_17, wr_18, wr_19, wr_20, wr_21, wr_22, wr_23, wr_24, wr_25, wr_26, wr_27, wr_28, wr_29, wr_30, wr_31, wr_32, wr_33, wr_34, wr_35, wr_36, wr_37, wr_38, wr_39, wr_40, wr_41, wr_42, wr_43, wr_44, wr_45, wr_46, wr_47, wr_48, wr_49, wr_50, wr_51, wr_52, wr_53, wr_54, wr_55, wr_56, wr_57, wr_58, wr_59, wr_60, wr_61, wr_62, wr_63, wr_64, wr_65, wr_66, wr_67, wr_68, wr_69, wr_70, wr_71, wr_72, wr_73, wr_74, wr_75, wr_76, wr_77, wr_78, wr_79, wr_80, wr_81, wr_82, wr_83, wr_84, wr_85, wr_86, wr_87, ww_v1, ww_v2, ww_v3, ww_v4, ww_g0, ww_gS, ww_t0, ww_tS, ww_s0, ww_sS, ww_s2, ww_w1, ww_w2, ww_w3, ww_b, ww_tg, ww_p1, ww_p2, ww_q0, ww_qS, ww_k1, ww_k2, ww_k3, ww_w0, ww_wS, ww_i1, ww_i2, ww_f0, ww_f1, ww_f2, ww_f4, ww_fd, ww_cl, ww_mc, ww_tk, ww_ci, ww_ak, ww_gv, ww_g1, ww_kcs, w_f1, w_f2, w_a1, w_a2, w_u_at, dm_72, List.elem_nil, List.elem_cons, List.map_nil, List.map_cons, List.sum_nil, List.sum_cons, Option.toList_none, Option.toList_some, List.nil_append, List.cons_append, true_and, and_true, implies_true, false_implies, if_true, if_false, reduceIte, reduceCtorEq, Bool.false_eq_true, Bool.and_false, Bool.false_and, Bool.and_self, Bool.and_true, Bool.true_and, Nat.reduceAdd, Nat.reduceBEq, Nat.reduceEqDiff, Nat.reduceLT, Nat.reduceLeDiff, Int.reduceAdd, Int.reduceNeg, Int.reduceToNat, Int.reduceLE, Int.reduceLT, Int.reduceSub, Int.cast_ofNat_Int, Int.reduceNatCast', Int.reduceNatCast, Nat.zero_add, Int.zero_add, and_self, false_and, and_false, or_false, false_or, true_or, or_true, not_true_eq_false, not_false_eq_true, at_68, ctL_c, ctL_n, ha, hb, (w_isR_ok ha).2, (w_isR_ok hb).2]
  refine ⟨⟨by omega, by omega⟩, ⟨by omega, by omega⟩, fun q => ?_, fun q => ⟨⟨by omega, by omega⟩, ⟨by omega, by omega⟩, (hr i i0 (by omega)).1, (hr i i0 (by omega)).2, fun z => ?_, fun z => ?_⟩⟩
  · exact Or.inl fun k k0 k1 => he k k0 (by omega)
  · exact ih (x - (i + 1)).toNat _ _ (by omega) ⟨i + 1, by omega, by omega, rfl, rfl, rfl, fun k k0 k1 => by
      by_cases c : k = i
      · rw [c]; exact z
      · exact he k k0 (by omega)⟩
  · exact Or.inr fun y => z (y i i0 (by omega))
