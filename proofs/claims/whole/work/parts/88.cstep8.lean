/-! ===== the class: ends of texts, items ===== -/
theorem w_wid_2ne (w : W_) (v a b c : Int) {i : Nat} (h : i ≠ 13) : (w_wid w v a b c).2 i = w.2 i := by
  unfold w_wid
  rw [w_a_2ne _ _ _ h, w_a_2ne _ _ _ h, w_a_2ne _ _ _ h]
theorem w_g34_wid (w : W_) (v a b c k : Int) : w_g (w_wid w v a b c) 34 k = w_g w 34 k := w_g_ne (w_wid_2ne w v a b c (by decide)) k
theorem w_g34_mk (w : W_) (a b c d e k : Int) : w_g (w_mk w a b c d e) 34 k = w_g w 34 k := w_g_mk w a b c d e 34 k (by decide)
theorem w_mkf (w : W_) (i j : Nat) (x a b c d e : Int) (h : ¬ (i = 13 ∧ j = 2)) : w_mk (w_f w i j x) a b c d e = w_f (w_mk w a b c d e) i j x := by
  have e2 : (w_f w i j x).1 13 2 = w.1 13 2 := by rw [w_f1, w_u_at, if_neg (fun q => h ⟨q.1.symm, q.2.symm⟩)]
  unfold w_mk
  refine Prod.ext ?_ ?_
  · dsimp only
    rw [e2]
    funext p q
    show (if p = 13 ∧ q = 2 then w.1 13 2 + 1 else if p = i ∧ q = j then x else w.1 p q) = if p = i ∧ q = j then x else if p = 13 ∧ q = 2 then w.1 13 2 + 1 else w.1 p q
    by_cases c1 : p = 13 ∧ q = 2
    · rw [if_pos c1, if_neg (fun r => h ⟨r.1.symm.trans c1.1, r.2.symm.trans c1.2⟩), if_pos c1]
    · rw [if_neg c1, if_neg c1]
  · dsimp only
    rw [e2]
    rfl
/-- a text ends: its content is the value -/
def w_ct (w : W_) : W_ := w_po (w_f (w_f (if f_t w 6 = 0 then w_f w 41 11 20000 else w_wid (w_f (w_mk (w_f w 41 11 20000) 9 (f_t w 4) 20003 0 0) 41 11 (30000 + w.1 13 2)) (30000 + w.1 13 2) (f_t w 10) (f_t w 11) (f_t w 12)) 41 13 (f_t w 9)) 41 12 (w.1 41 12 - 1))
set_option maxRecDepth 100000 in
set_option maxHeartbeats 2000000 in
theorem z_108 {w : W_} {x : Int} {v2 : am_V} (h1 : 1 ≤ w.1 33 1 ∧ w.1 33 1 < 24000) (h2 : 0 ≤ w.1 13 2 ∧ w.1 13 2 < 262144) (h6 : am_rg (f_t w 6)) : ww_Z 8 3 5 0 cX8_closeText none (fun r w' => r = none ∧ w' = w_ct w) 69 [.inr (.inr (.inl 41)), .inl x, v2] [] w := by
  have h6 : am_rg (w_g w 34 ((w.1 33 1 - 1) * 13 + 6)) := h6
  unfold w_ct
  refine ww_go1 (ctL_cons ok_12 (ctL_cons ok_13 (ctL_cons ok_20 (ctL_cons ok_24 ctL_nil)))) 300 [] ?_
  by_cases c : w_g w 34 ((w.1 33 1 - 1) * 13 + 6) = 0
  · simp only [ww_S, ww_1, wr_0, wr_1, wr_2, wr_3, wr_4, wr_5, wr_6, wr_7, wr_8, wr_9, wr_10, wr_11, wr_12, wr_13, wr_14, wr_15, wr_16, wr_17, wr_18, wr_19, wr_20, wr_21, wr_22, wr_23, wr_24, wr_25, wr_26, wr_27, wr_28, wr_29, wr_30, wr_31, wr_32, wr_33, wr_34, wr_35, wr_36, wr_37, wr_38, wr_39, wr_40, wr_41, wr_42, wr_43, wr_44, wr_45, wr_46, wr_47, wr_48, wr_49, wr_50, wr_51, wr_52, wr_53, wr_54, wr_55, wr_56, wr_57, wr_58, wr_59, wr_60, wr_61, wr_62, wr_63, wr_64, wr_65, wr_66, wr_67, wr_68, wr_69, wr_70, wr_71, wr_72, wr_73, wr_74, wr_75, wr_76, wr_77, wr_78, wr_79, wr_80, wr_81, wr_82, wr_83, wr_84, wr_85, wr_86, wr_87, ww_v1, ww_v2, ww_v3, ww_v4, ww_g0, ww_gS, ww_t0, ww_tS, ww_s0, ww_sS, ww_s2, ww_w1, ww_w2, ww_w3, ww_b, ww_tg, ww_p1, ww_p2, ww_q0, ww_qS, ww_k1, ww_k2, ww_k3, ww_w0, ww_wS, ww_i1, ww_i2, ww_f0, ww_f1, ww_f2, ww_f4, ww_fd, ww_cl, ww_mc, ww_tk, ww_ci, ww_ak, ww_gv, ww_g1, ww_kcs, w_f1, w_f2, w_a1, w_a2, w_u_at, dm_108, List.elem_nil, List.elem_cons, List.map_nil, List.map_cons, List.sum_nil, List.sum_cons, Option.toList_none, Option.toList_some, List.nil_append, List.cons_append, true_and, and_true, implies_true, false_implies, if_true, if_false, reduceIte, reduceCtorEq, Bool.false_eq_true, Bool.and_false, Bool.false_and, Bool.and_self, Bool.and_true, Bool.true_and, Nat.reduceAdd, Nat.reduceBEq, Nat.reduceEqDiff, Nat.reduceLT, Nat.reduceLeDiff, Int.reduceAdd, Int.reduceNeg, Int.reduceToNat, Int.reduceLE, Int.reduceLT, Int.reduceSub, Int.cast_ofNat_Int, Int.reduceNatCast', Int.reduceNatCast, Nat.zero_add, Int.zero_add, and_self, false_and, and_false, or_false, false_or, true_or, or_true, not_true_eq_false, not_false_eq_true, at_12p, at_13, at_20, at_24, ctL_c, ctL_n, w_g_f, w_g34_wid, w_g34_mk, w_mk1, w_wid1, c, if_true]
    (repeat' (first | (with_reducible assumption) | (with_reducible exact trivial) | refine And.intro ?_ ?_ | intro _)) <;> first | omega | (unfold am_rg at *; omega) | (with_reducible rfl) | (exfalso; omega) | decide | skip
  · simp only [ww_S, ww_1, wr_0, wr_1, wr_2, wr_3, wr_4, wr_5, wr_6, wr_7, wr_8, wr_9, wr_10, wr_11, wr_12, wr_13, wr_14, wr_15, wr_16, wr_17, wr_18, wr_19, wr_20, wr_21, wr_22, wr_23, wr_24, wr_25, wr_26, wr_27, wr_28, wr_29, wr_30, wr_31, wr_32, wr_33, wr_34, wr_35, wr_36, wr_37, wr_38, wr_39, wr_40, wr_41, wr_42, wr_43, wr_44, wr_45, wr_46, wr_47, wr_48, wr_49, wr_50, wr_51, wr_52, wr_53, wr_54, wr_55, wr_56, wr_57, wr_58, wr_59, wr_60, wr_61, wr_62, wr_63, wr_64, wr_65, wr_66, wr_67, wr_68, wr_69, wr_70, wr_71, wr_72, wr_73, wr_74, wr_75, wr_76, wr_77, wr_78, wr_79, wr_80, wr_81, wr_82, wr_83, wr_84, wr_85, wr_86, wr_87, ww_v1, ww_v2, ww_v3, ww_v4, ww_g0, ww_gS, ww_t0, ww_tS, ww_s0, ww_sS, ww_s2, ww_w1, ww_w2, ww_w3, ww_b, ww_tg, ww_p1, ww_p2, ww_q0, ww_qS, ww_k1, ww_k2, ww_k3, ww_w0, ww_wS, ww_i1, ww_i2, ww_f0, ww_f1, ww_f2, ww_f4, ww_fd, ww_cl, ww_mc, ww_tk, ww_ci, ww_ak, ww_gv, ww_g1, ww_kcs, w_f1, w_f2, w_a1, w_a2, w_u_at, dm_108, List.elem_nil, List.elem_cons, List.map_nil, List.map_cons, List.sum_nil, List.sum_cons, Option.toList_none, Option.toList_some, List.nil_append, List.cons_append, true_and, and_true, implies_true, false_implies, if_true, if_false, reduceIte, reduceCtorEq, Bool.false_eq_true, Bool.and_false, Bool.false_and, Bool.and_self, Bool.and_true, Bool.true_and, Nat.reduceAdd, Nat.reduceBEq, Nat.reduceEqDiff, Nat.reduceLT, Nat.reduceLeDiff, Int.reduceAdd, Int.reduceNeg, Int.reduceToNat, Int.reduceLE, Int.reduceLT, Int.reduceSub, Int.cast_ofNat_Int, Int.reduceNatCast', Int.reduceNatCast, Nat.zero_add, Int.zero_add, and_self, false_and, and_false, or_false, false_or, true_or, or_true, not_true_eq_false, not_false_eq_true, at_12p, at_13, at_20, at_24, ctL_c, ctL_n, w_g_f, w_g34_wid, w_g34_mk, w_mk1, w_wid1, c, if_false]
    (repeat' (first | (with_reducible assumption) | (with_reducible exact trivial) | refine And.intro ?_ ?_ | intro _)) <;> first | omega | (unfold am_rg at *; omega) | (with_reducible rfl) | (exfalso; omega) | decide | skip
set_option maxRecDepth 100000 in
set_option maxHeartbeats 2000000 in
theorem lk_108a {w : W_} (h1 : 1 ≤ w.1 33 1 ∧ w.1 33 1 < 24000) (h2 : 0 ≤ w.1 13 2 ∧ w.1 13 2 < 262144) (h6 : am_rg (f_t w 6)) (h7 : 0 ≤ f_t w 1 ∧ f_t w 1 < 180) : ww_Ct 108 5 [.inr (.inr (.inl 41))] w fun r w' => r = none ∧ w' = w_ct w := by
  have h7 : 0 ≤ w_g w 34 ((w.1 33 1 - 1) * 13 + 1) ∧ w_g w 34 ((w.1 33 1 - 1) * 13 + 1) < 180 := h7
  have z := z_108 (x := w_g w 34 ((w.1 33 1 - 1) * 13 + 1) - 180) (v2 := am_X) h1 h2 h6
  refine of_108 (ww_go (ctL_cons ok_13 ctL_nil) 300 [69] ?_)
  simp only [ww_S, ww_1, wr_0, wr_1, wr_2, wr_3, wr_4, wr_5, wr_6, wr_7, wr_8, wr_9, wr_10, wr_11, wr_12, wr_13, wr_14, wr_15, wr_16, wr_17, wr_18, wr_19, wr_20, wr_21, wr_22, wr_23, wr_24, wr_25, wr_26, wr_27, wr_28, wr_29, wr_30, wr_31, wr_32, wr_33, wr_34, wr_35, wr_36, wr_37, wr_38, wr_39, wr_40, wr_41, wr_42, wr_43, wr_44, wr_45, wr_46, wr_47, wr_48, wr_49, wr_50, wr_51, wr_52, wr_53, wr_54, wr_55, wr_56, wr_57, wr_58, wr_59, wr_60, wr_61, wr_62, wr_63, wr_64, wr_65, wr_66, wr_67, wr_68, wr_69, wr_70, wr_71, wr_72, wr_73, wr_74, wr_75, wr_76, wr_77, wr_78, wr_79, wr_80, wr_81, wr_82, wr_83, wr_84, wr_85, wr_86, wr_87, ww_v1, ww_v2, ww_v3, ww_v4, ww_g0, ww_gS, ww_t0, ww_tS, ww_s0, ww_sS, ww_s2, ww_w1, ww_w2, ww_w3, ww_b, ww_tg, ww_p1, ww_p2, ww_q0, ww_qS, ww_k1, ww_k2, ww_k3, ww_w0, ww_wS, ww_i1, ww_i2, ww_f0, ww_f1, ww_f2, ww_f4, ww_fd, ww_cl, ww_mc, ww_tk, ww_ci, ww_ak, ww_gv, ww_g1, ww_kcs, w_f1, w_f2, w_a1, w_a2, w_u_at, dm_108, List.elem_nil, List.elem_cons, List.map_nil, List.map_cons, List.sum_nil, List.sum_cons, Option.toList_none, Option.toList_some, List.nil_append, List.cons_append, true_and, and_true, implies_true, false_implies, if_true, if_false, reduceIte, reduceCtorEq, Bool.false_eq_true, Bool.and_false, Bool.false_and, Bool.and_self, Bool.and_true, Bool.true_and, Nat.reduceAdd, Nat.reduceBEq, Nat.reduceEqDiff, Nat.reduceLT, Nat.reduceLeDiff, Int.reduceAdd, Int.reduceNeg, Int.reduceToNat, Int.reduceLE, Int.reduceLT, Int.reduceSub, Int.cast_ofNat_Int, Int.reduceNatCast', Int.reduceNatCast, Nat.zero_add, Int.zero_add, and_self, false_and, and_false, or_false, false_or, true_or, or_true, not_true_eq_false, not_false_eq_true, at_13, ctL_c, ctL_n]
  (repeat' (first | (with_reducible assumption) | (with_reducible exact trivial) | (with_reducible exact z) | refine And.intro ?_ ?_ | intro _)) <;> first | omega | (unfold am_rg at *; omega) | (with_reducible rfl) | (exfalso; omega) | decide | skip
/-- the names at the end of a file: the first n of them are there -/
def w_fnm (w : W_) (f n : Int) : W_ := (w.1, fun b k => if b = 44 ∧ f * 10 ≤ (k : Int) ∧ (k : Int) < f * 10 + n then w.2 42 (w.1 41 12 * 10 + ((k : Int) - f * 10)).toNat else w.2 b k)
theorem w_fnm_2ne (w : W_) (f n : Int) {b : Nat} (h : b ≠ 44) : (w_fnm w f n).2 b = w.2 b := by
  unfold w_fnm
  funext k
  dsimp only
  rw [if_neg (fun q => h q.1)]
set_option maxRecDepth 100000 in
set_option maxHeartbeats 2000000 in
theorem lk_108b {w : W_} {f : Int} (h1 : 1 ≤ w.1 33 1 ∧ w.1 33 1 < 24000) (h2 : 0 ≤ w.1 13 2 ∧ w.1 13 2 < 262144) (h6 : am_rg (f_t w 6)) (hf : f_t w 1 = 180 + f) (h7 : 0 ≤ f ∧ f < 3) (h8 : 0 ≤ w.1 41 12 ∧ w.1 41 12 < 2300) : ww_Ct 108 5 [.inr (.inr (.inl 41))] w fun r w' => r = none ∧ w' = w_ct (w_a (w_fnm w f 10) 46 f.toNat 2) := by
  have hf : w_g w 34 ((w.1 33 1 - 1) * 13 + 1) = 180 + f := hf
  have e34 : ∀ (n k : Int), w_g (w_a (w_fnm w f n) 46 f.toNat 2) 34 k = w_g w 34 k := fun n k => by
    refine w_g_ne ?_ k
    rw [w_a_2ne _ _ _ (by decide), w_fnm_2ne _ _ _ (by decide)]
  have z := z_108 (w := w_a (w_fnm w f 10) 46 f.toNat 2) (x := f) (v2 := .inl 10) h1 h2 (by unfold f_t; show am_rg (w_g _ 34 ((w.1 33 1 - 1) * 13 + 6)); rw [e34]; exact h6)
  have e0 : 180 + f - 180 = f := by omega
  refine of_108 (ww_go (ctL_cons ok_13 ctL_nil) 300 [19, 69] ?_)
  simp only [ww_S, ww_1, wr_0, wr_1, wr_2, wr_3, wr_4, wr_5, wr_6, wr_7, wr_8, wr_9, wr_10, wr_11, wr_12, wr_13, wr_14, wr_15, wr_16, wr_17, wr_18, wr_19, wr_20, wr_21, wr_22, wr_23, wr_24, wr_25, wr_26, wr_27, wr_28, wr_29, wr_30, wr_31, wr_32, wr_33, wr_34, wr_35, wr_36, wr_37, wr_38, wr_39, wr_40, wr_41, wr_42, wr_43, wr_44, wr_45, wr_46, wr_47, wr_48, wr_49, wr_50, wr_51, wr_52, wr_53, wr_54, wr_55, wr_56, wr_57, wr_58, wr_59, wr_60, wr_61, wr_62, wr_63, wr_64, wr_65, wr_66, wr_67, wr_68, wr_69, wr_70, wr_71, wr_72, wr_73, wr_74, wr_75, wr_76, wr_77, wr_78, wr_79, wr_80, wr_81, wr_82, wr_83, wr_84, wr_85, wr_86, wr_87, ww_v1, ww_v2, ww_v3, ww_v4, ww_g0, ww_gS, ww_t0, ww_tS, ww_s0, ww_sS, ww_s2, ww_w1, ww_w2, ww_w3, ww_b, ww_tg, ww_p1, ww_p2, ww_q0, ww_qS, ww_k1, ww_k2, ww_k3, ww_w0, ww_wS, ww_i1, ww_i2, ww_f0, ww_f1, ww_f2, ww_f4, ww_fd, ww_cl, ww_mc, ww_tk, ww_ci, ww_ak, ww_gv, ww_g1, ww_kcs, w_f1, w_f2, w_a1, w_a2, w_u_at, dm_108, List.elem_nil, List.elem_cons, List.map_nil, List.map_cons, List.sum_nil, List.sum_cons, Option.toList_none, Option.toList_some, List.nil_append, List.cons_append, true_and, and_true, implies_true, false_implies, if_true, if_false, reduceIte, reduceCtorEq, Bool.false_eq_true, Bool.and_false, Bool.false_and, Bool.and_self, Bool.and_true, Bool.true_and, Nat.reduceAdd, Nat.reduceBEq, Nat.reduceEqDiff, Nat.reduceLT, Nat.reduceLeDiff, Int.reduceAdd, Int.reduceNeg, Int.reduceToNat, Int.reduceLE, Int.reduceLT, Int.reduceSub, Int.cast_ofNat_Int, Int.reduceNatCast', Int.reduceNatCast, Nat.zero_add, Int.zero_add, and_self, false_and, and_false, or_false, false_or, true_or, or_true, not_true_eq_false, not_false_eq_true, at_13, ctL_c, ctL_n, hf, e0]
  have L : ww_Z 8 3 5 0 cX8_closeText none (fun r w' => r = none ∧ w' = w_ct (w_a (w_fnm w f 10) 46 f.toNat 2)) 19 [.inr (.inr (.inl 41)), .inl f, .inl 0] [] w := by
    refine ww_loop (P := fun n ls w' => ∃ i : Int, 0 ≤ i ∧ i ≤ 10 ∧ n = (10 - i).toNat ∧ ls = [.inr (.inr (.inl 41)), .inl f, .inl i] ∧ w' = w_fnm w f i) ?_ 10 _ _ ⟨0, by omega, by omega, by omega, rfl, ?_⟩
    · rintro n ls w' ⟨i, i0, i1, hn, rfl, rfl⟩ ih
      have e12 : (w_fnm w f i).1 = w.1 := rfl
      have e42 : w_g (w_fnm w f i) 42 (w.1 41 12 * 10 + i) = w.2 42 (w.1 41 12 * 10 + i).toNat := by
        rw [w_g_pos (by omega), w_fnm_2ne _ _ _ (by decide)]
      have K : i < 10 → ww_Z 8 3 5 0 cX8_closeText none (fun r w' => r = none ∧ w' = w_ct (w_a (w_fnm w f 10) 46 f.toNat 2)) 19 [.inr (.inr (.inl 41)), .inl f, .inl (i + 1)] [] (w_a (w_fnm w f i) 44 (f * 10 + i).toNat (w.2 42 (w.1 41 12 * 10 + i).toNat)) := by
        intro c
        refine ih (10 - (i + 1)).toNat _ _ (by omega) ⟨i + 1, by omega, by omega, rfl, rfl, ?_⟩
        refine Prod.ext rfl ?_
        funext b k
        show (if b = 44 ∧ k = (f * 10 + i).toNat then w.2 42 (w.1 41 12 * 10 + i).toNat else if b = 44 ∧ f * 10 ≤ (k : Int) ∧ (k : Int) < f * 10 + i then w.2 42 (w.1 41 12 * 10 + ((k : Int) - f * 10)).toNat else w.2 b k) = if b = 44 ∧ f * 10 ≤ (k : Int) ∧ (k : Int) < f * 10 + (i + 1) then w.2 42 (w.1 41 12 * 10 + ((k : Int) - f * 10)).toNat else w.2 b k
        by_cases c1 : b = 44 ∧ k = (f * 10 + i).toNat
        · have e : (w.1 41 12 * 10 + ((k : Int) - f * 10)).toNat = (w.1 41 12 * 10 + i).toNat := by omega
          rw [if_pos c1, if_pos ⟨c1.1, by omega, by omega⟩, e]
        · rw [if_neg c1]
          by_cases c2 : b = 44 ∧ f * 10 ≤ (k : Int) ∧ (k : Int) < f * 10 + i
          · rw [if_pos c2, if_pos ⟨c2.1, c2.2.1, by omega⟩]
          · rw [if_neg c2, if_neg (by omega)]
      by_cases ci : i = 10
      · subst ci
        refine ww_go1 (ctL_cons ok_13 (ctL_cons ok_68 (ctL_cons ok_69 ctL_nil))) 300 [19, 69] ?_
        simp only [ww_S, ww_1, wr_0, wr_1, wr_2, wr_3, wr_4, wr_5, wr_6, wr_7, wr_8, wr_9, wr_10, wr_11, wr_12, wr_13, wr_14, wr_15, wr_16, wr_17, wr_18, wr_19, wr_20, wr_21, wr_22, wr_23, wr_24, wr_25, wr_26, wr_27, wr_28, wr_29, wr_30, wr_31, wr_32, wr_33, wr_34, wr_35, wr_36, wr_37, wr_38, wr_39, wr_40, wr_41, wr_42, wr_43, wr_44, wr_45, wr_46, wr_47, wr_48, wr_49, wr_50, wr_51, wr_52, wr_53, wr_54, wr_55, wr_56, wr_57, wr_58, wr_59, wr_60, wr_61, wr_62, wr_63, wr_64, wr_65, wr_66, wr_67, wr_68, wr_69, wr_70, wr_71, wr_72, wr_73, wr_74, wr_75, wr_76, wr_77, wr_78, wr_79, wr_80, wr_81, wr_82, wr_83, wr_84, wr_85, wr_86, wr_87, ww_v1, ww_v2, ww_v3, ww_v4, ww_g0, ww_gS, ww_t0, ww_tS, ww_s0, ww_sS, ww_s2, ww_w1, ww_w2, ww_w3, ww_b, ww_tg, ww_p1, ww_p2, ww_q0, ww_qS, ww_k1, ww_k2, ww_k3, ww_w0, ww_wS, ww_i1, ww_i2, ww_f0, ww_f1, ww_f2, ww_f4, ww_fd, ww_cl, ww_mc, ww_tk, ww_ci, ww_ak, ww_gv, ww_g1, ww_kcs, w_f1, w_f2, w_a1, w_a2, w_u_at, dm_108, List.elem_nil, List.elem_cons, List.map_nil, List.map_cons, List.sum_nil, List.sum_cons, Option.toList_none, Option.toList_some, List.nil_append, List.cons_append, true_and, and_true, implies_true, false_implies, if_true, if_false, reduceIte, reduceCtorEq, Bool.false_eq_true, Bool.and_false, Bool.false_and, Bool.and_self, Bool.and_true, Bool.true_and, Nat.reduceAdd, Nat.reduceBEq, Nat.reduceEqDiff, Nat.reduceLT, Nat.reduceLeDiff, Int.reduceAdd, Int.reduceNeg, Int.reduceToNat, Int.reduceLE, Int.reduceLT, Int.reduceSub, Int.cast_ofNat_Int, Int.reduceNatCast', Int.reduceNatCast, Nat.zero_add, Int.zero_add, and_self, false_and, and_false, or_false, false_or, true_or, or_true, not_true_eq_false, not_false_eq_true, at_13, at_68, at_69, ctL_c, ctL_n, w_isRs, w_bds, e12]
        (repeat' (first | (with_reducible assumption) | (with_reducible exact trivial) | (with_reducible exact z) | refine And.intro ?_ ?_ | intro _)) <;> first | omega | (unfold am_rg at *; omega) | (with_reducible rfl) | (exfalso; omega) | decide | skip
      · have K := K (by omega)
        refine ww_go1 (ctL_cons ok_13 (ctL_cons ok_68 (ctL_cons ok_69 ctL_nil))) 300 [19, 69] ?_
        simp only [ww_S, ww_1, wr_0, wr_1, wr_2, wr_3, wr_4, wr_5, wr_6, wr_7, wr_8, wr_9, wr_10, wr_11, wr_12, wr_13, wr_14, wr_15, wr_16, wr_17, wr_18, wr_19, wr_20, wr_21, wr_22, wr_23, wr_24, wr_25, wr_26, wr_27, wr_28, wr_29, wr_30, wr_31, wr_32, wr_33, wr_34, wr_35, wr_36, wr_37, wr_38, wr_39, wr_40, wr_41, wr_42, wr_43, wr_44, wr_45, wr_46, wr_47, wr_48, wr_49, wr_50, wr_51, wr_52, wr_53, wr_54, wr_55, wr_56, wr_57, wr_58, wr_59, wr_60, wr_61, wr_62, wr_63, wr_64, wr_65, wr_66, wr_67, wr_68, wr_69, wr_70, wr_71, wr_72, wr_73, wr_74, wr_75, wr_76, wr_77, wr_78, wr_79, wr_80, wr_81, wr_82, wr_83, wr_84, wr_85, wr_86, wr_87, ww_v1, ww_v2, ww_v3, ww_v4, ww_g0, ww_gS, ww_t0, ww_tS, ww_s0, ww_sS, ww_s2, ww_w1, ww_w2, ww_w3, ww_b, ww_tg, ww_p1, ww_p2, ww_q0, ww_qS, ww_k1, ww_k2, ww_k3, ww_w0, ww_wS, ww_i1, ww_i2, ww_f0, ww_f1, ww_f2, ww_f4, ww_fd, ww_cl, ww_mc, ww_tk, ww_ci, ww_ak, ww_gv, ww_g1, ww_kcs, w_f1, w_f2, w_a1, w_a2, w_u_at, dm_108, List.elem_nil, List.elem_cons, List.map_nil, List.map_cons, List.sum_nil, List.sum_cons, Option.toList_none, Option.toList_some, List.nil_append, List.cons_append, true_and, and_true, implies_true, false_implies, if_true, if_false, reduceIte, reduceCtorEq, Bool.false_eq_true, Bool.and_false, Bool.false_and, Bool.and_self, Bool.and_true, Bool.true_and, Nat.reduceAdd, Nat.reduceBEq, Nat.reduceEqDiff, Nat.reduceLT, Nat.reduceLeDiff, Int.reduceAdd, Int.reduceNeg, Int.reduceToNat, Int.reduceLE, Int.reduceLT, Int.reduceSub, Int.cast_ofNat_Int, Int.reduceNatCast', Int.reduceNatCast, Nat.zero_add, Int.zero_add, and_self, false_and, and_false, or_false, false_or, true_or, or_true, not_true_eq_false, not_false_eq_true, at_13, at_68, at_69, ctL_c, ctL_n, w_isRs, w_bds, e12, e42]
        (repeat' (first | (with_reducible assumption) | (with_reducible exact trivial) | (with_reducible exact K) | refine And.intro ?_ ?_ | intro _)) <;> first | omega | (unfold am_rg at *; omega) | (with_reducible rfl) | (exfalso; omega) | decide | skip
    · refine Prod.ext rfl ?_
      funext b k
      show w.2 b k = if b = 44 ∧ f * 10 ≤ (k : Int) ∧ (k : Int) < f * 10 + 0 then w.2 42 (w.1 41 12 * 10 + ((k : Int) - f * 10)).toNat else w.2 b k
      rw [if_neg (by omega)]
  (repeat' (first | (with_reducible assumption) | (with_reducible exact trivial) | (with_reducible exact L) | refine And.intro ?_ ?_ | intro _)) <;> first | omega | (unfold am_rg at *; omega) | (with_reducible rfl) | (exfalso; omega) | decide | skip
