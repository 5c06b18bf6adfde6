/-! ===== the class: steps of texts and formulas ===== -/
theorem w_app0_f (w : W_) (v : Int) {a j : Nat} (h : ¬ (a = 13 ∧ j = 2)) : (w_app0 w v).1 a j = w.1 a j := by
  unfold w_app0
  split
  · rfl
  · rw [w_fs1, w_fs1, w_mk1, w_u_at, if_neg h]
theorem w_app_f (w : W_) (v : Int) {a j : Nat} (h : ¬ (a = 13 ∧ j = 2)) : (w_app w v).1 a j = w.1 a j := w_app0_f w v h
theorem w_app_n (w : W_) (v : Int) : w.1 13 2 ≤ (w_app w v).1 13 2 ∧ (w_app w v).1 13 2 ≤ w.1 13 2 + 1 := by
  show w.1 13 2 ≤ (w_app0 w v).1 13 2 ∧ (w_app0 w v).1 13 2 ≤ w.1 13 2 + 1
  unfold w_app0
  split
  · show w.1 13 2 ≤ w.1 13 2 ∧ w.1 13 2 ≤ w.1 13 2 + 1
    omega
  · rw [w_fs1, w_fs1, w_mk1, w_u_at, if_pos ⟨rfl, rfl⟩]
    omega
theorem w_app_2 (w : W_) (v : Int) {b : Nat} (h1 : b ≠ 34) (h2 : b ≠ 13) : (w_app w v).2 b = w.2 b := by
  unfold w_app w_app0
  rw [w_fs2 _ _ _ h1, w_fs2 _ _ _ h1, w_fs2 _ _ _ h1, w_fs2 _ _ _ h1, w_fs2 _ _ _ h1]
  split
  · rfl
  · rw [w_mk_2ne _ _ _ _ _ _ h2]
theorem w_apm_2 (w : W_) {b : Nat} (h1 : b ≠ 34) (h2 : b ≠ 13) : (w_apm w).2 b = w.2 b := by
  have e : ∀ x y : Int, (w_fs (w_fs (if f_t w 4 = 20003 then w else w_mk w 8 (f_t w 4) (f_t w 5) 0 0) 4 x) 5 y).2 b = w.2 b := fun x y => by
    rw [w_fs2 _ _ _ h1, w_fs2 _ _ _ h1]
    split
    · rfl
    · rw [w_mk_2ne _ _ _ _ _ _ h2]
  unfold w_apm
  dsimp only
  split
  · rfl
  · split
    · exact e _ _
    · rw [w_fs2 _ _ _ h1]
      exact e _ _
theorem w_apm_f (w : W_) {a j : Nat} (h : ¬ (a = 13 ∧ j = 2)) : (w_apm w).1 a j = w.1 a j := by
  have e : ∀ x y : Int, (w_fs (w_fs (if f_t w 4 = 20003 then w else w_mk w 8 (f_t w 4) (f_t w 5) 0 0) 4 x) 5 y).1 a j = w.1 a j := fun x y => by
    rw [w_fs1, w_fs1]
    split
    · rfl
    · rw [w_mk1, w_u_at, if_neg h]
  unfold w_apm
  dsimp only
  split
  · rfl
  · split
    · exact e _ _
    · rw [w_fs1]
      exact e _ _
theorem f_t_app {w : W_} {v g : Int} (h1 : 1 ≤ w.1 33 1) (g0 : 0 ≤ g) (g4 : g ≠ 4) (g6 : g ≠ 6) (g10 : g ≠ 10) (g11 : g ≠ 11) (g12 : g ≠ 12) : f_t (w_app w v) g = f_t w g := by
  have e := w_app_f w v (a := 33) (j := 1) (by decide)
  have e0 := w_app0_f w v (a := 33) (j := 1) (by decide)
  have key : ∀ (W : W_) (f x : Int), W.1 33 1 = w.1 33 1 → 0 ≤ f → g ≠ f → w_g (w_fs W f x) 34 ((w.1 33 1 - 1) * 13 + g) = w_g W 34 ((w.1 33 1 - 1) * 13 + g) := fun W f x e h0 h => by
    rw [f_t_fs' e h1 h0 g0, if_neg h]
  show w_g (w_app w v) 34 (((w_app w v).1 33 1 - 1) * 13 + g) = _
  rw [e]
  unfold w_app
  rw [key (w_fs (w_fs (w_app0 w v) 10 (a_m w v 1)) 11 (a_m w v 2)) _ _ e0 (by decide) g12, key (w_fs (w_app0 w v) 10 (a_m w v 1)) _ _ e0 (by decide) g11, key (w_app0 w v) _ _ e0 (by decide) g10]
  unfold w_app0
  split
  · rw [key (w_fs w 4 _) _ _ rfl (by decide) g6, key w _ _ rfl (by decide) g4]
  · rw [key (w_fs (w_mk w 8 (f_t w 4) v 0 0) 4 _) _ _ rfl (by decide) g6, key (w_mk w 8 (f_t w 4) v 0 0) _ _ rfl (by decide) g4, w_g34_mk]
theorem f_t_app4 {w : W_} {v : Int} (h1 : 1 ≤ w.1 33 1) : f_t (w_app w v) 4 = if f_t w 4 = 20003 then v else 30000 + w.1 13 2 := by
  have e := w_app_f w v (a := 33) (j := 1) (by decide)
  have e0 := w_app0_f w v (a := 33) (j := 1) (by decide)
  have key : ∀ (W : W_) (f x : Int), W.1 33 1 = w.1 33 1 → 0 ≤ f → 4 ≠ f → w_g (w_fs W f x) 34 ((w.1 33 1 - 1) * 13 + 4) = w_g W 34 ((w.1 33 1 - 1) * 13 + 4) := fun W f x e h0 h => by
    rw [f_t_fs' e h1 h0 (by decide), if_neg h]
  have key4 : ∀ (W : W_) (x : Int), W.1 33 1 = w.1 33 1 → w_g (w_fs W 4 x) 34 ((w.1 33 1 - 1) * 13 + 4) = x := fun W x e => by
    rw [f_t_fs' e h1 (by decide) (by decide), if_pos rfl]
  show w_g (w_app w v) 34 (((w_app w v).1 33 1 - 1) * 13 + 4) = _
  rw [e]
  unfold w_app
  rw [key (w_fs (w_fs (w_app0 w v) 10 (a_m w v 1)) 11 (a_m w v 2)) 12 (a_m w v 3) e0 (by decide) (by decide), key (w_fs (w_app0 w v) 10 (a_m w v 1)) 11 (a_m w v 2) e0 (by decide) (by decide), key (w_app0 w v) 10 (a_m w v 1) e0 (by decide) (by decide)]
  unfold w_app0
  split
  · rw [key (w_fs w 4 v) 6 1 rfl (by decide) (by decide), key4 w _ rfl]
  · rw [key (w_fs (w_mk w 8 (f_t w 4) v 0 0) 4 (30000 + w.1 13 2)) 6 1 rfl (by decide) (by decide), key4 (w_mk w 8 (f_t w 4) v 0 0) _ rfl]
/-- the frame of a text, as appending wants it -/
def h_tf (w : W_) : Prop := (1 ≤ w.1 33 1 ∧ w.1 33 1 < 24000) ∧ (0 ≤ w.1 13 2 ∧ w.1 13 2 < 262141) ∧ am_rg (f_t w 4) ∧ am_rg (f_t w 5) ∧ am_rg (f_t w 8) ∧ (0 ≤ f_t w 7 ∧ f_t w 7 ≤ 3) ∧ ∀ s : Int, 1 ≤ s → s ≤ 3 → 0 ≤ f_t w (9 + s) ∧ f_t w (9 + s) ≤ 9999
/-- a value that may be appended -/
def h_vl (w : W_) (v : Int) : Prop := h_ok w v ∧ h_wk w v ∧ v < 30000 + w.1 13 2
def w_ap (w : W_) (v : Int) : W_ := if h_cF w v then w_app w v else w
theorem lk_106c {w : W_} {v : Int} (hv : w.1 41 11 = v) (ht : h_tf w) (hl : h_vl w v) : ww_Ct 106 4 [.inr (.inr (.inl 41))] w fun r w' => r = none ∧ w' = w_ap w v := by
  obtain ⟨t1, t2, t3, t4, t5, t6, t7⟩ := ht
  unfold w_ap
  by_cases c : h_cF w v
  · rw [if_pos c]
    exact lk_106 hv hl.1 c hl.2.1 hl.2.2 t1 ⟨t2.1, by omega⟩ t3 t6 t7
  · rw [if_neg c]
    exact lk_106a hv hl.1 c
theorem w_ap_f (w : W_) (v : Int) {a j : Nat} (h : ¬ (a = 13 ∧ j = 2)) : (w_ap w v).1 a j = w.1 a j := by
  unfold w_ap
  split
  · exact w_app_f w v h
  · rfl
theorem w_ap_2 (w : W_) (v : Int) {b : Nat} (h1 : b ≠ 34) (h2 : b ≠ 13) : (w_ap w v).2 b = w.2 b := by
  unfold w_ap
  split
  · exact w_app_2 w v h1 h2
  · rfl
theorem lk_107c {w : W_} {v : Int} (ht : h_tf w) (hl : h_vl w v) : ww_Ct 107 4 [.inr (.inr (.inl 41))] (w_ap w v) fun r w' => r = none ∧ w' = w_apm (w_ap w v) := by
  obtain ⟨t1, t2, t3, t4, t5, t6, t7⟩ := ht
  have hv : am_rg v := ⟨by have := hl.1.1; omega, by have := hl.1.1; omega⟩
  unfold w_ap
  by_cases c : h_cF w v
  · rw [if_pos c]
    have hn := w_app_n w v
    refine lk_107 ⟨?_, ?_, ?_, ?_, ?_, ?_⟩
    · rw [w_app_f w v (by decide)]
      exact t1
    · rw [f_t_app4 t1.1]
      split
      · exact hv
      · exact ⟨by omega, by omega⟩
    · rw [f_t_app t1.1 (by decide) (by decide) (by decide) (by decide) (by decide) (by decide)]
      exact t4
    · rw [f_t_app t1.1 (by decide) (by decide) (by decide) (by decide) (by decide) (by decide)]
      exact t5
    · omega
    · omega
  · rw [if_neg c]
    exact lk_107 ⟨t1, t3, t4, t5, t2.1, by omega⟩
/-- behind an item of a text -/
def w_tt (w : W_) (v item : Int) : W_ := w_fs (w_fs (w_apm (w_ap w v)) 2 0) 3 (w_g w 37 (item * 9 + 3) - 1)
set_option maxRecDepth 100000 in
set_option maxHeartbeats 2000000 in
theorem z_104 {w : W_} {v item k : Int} (hv : w.1 41 11 = v) (ht : h_tf w) (hl : h_vl w v) (hi : 0 ≤ item ∧ item < 1000) : ww_Z 8 3 5 0 cX8_stepText none (fun r w' => r = none ∧ w' = w_tt w v item) 159 [.inr (.inr (.inl 41)), .inl item, .inl k] [] w := by
  have e33 : (w_apm (w_ap w v)).1 33 1 = w.1 33 1 := by rw [w_apm_f _ (by decide), w_ap_f _ _ (by decide)]
  have e37 : ∀ k, w_g (w_apm (w_ap w v)) 37 k = w_g w 37 k := fun k => w_g_ne (by rw [w_apm_2 _ (by decide) (by decide), w_ap_2 _ _ (by decide) (by decide)]) k
  have t1 := ht.1
  refine ww_go1 ctL_nil 20 [] ?_
  simp only [ww_S, ww_1, wr_0, wr_1, wr_2, wr_3, wr_4, wr_5, wr_6, wr_7, wr_8, wr_9, wr_10, wr_11, wr_12, wr_13, wr_14, wr_15, wr_16, wr_17, wr_18, wr_19, wr_20, wr_21, wr_22, wr_23, wr_24, wr_25, wr_26, wr_27, wr_28, wr_29, wr_30, wr_31, wr_32, wr_33, wr_34, wr_35, wr_36, wr_37, wr_38, wr_39, wr_40, wr_41, wr_42, wr_43, wr_44, wr_45, wr_46, wr_47, wr_48, wr_49, wr_50, wr_51, wr_52, wr_53, wr_54, wr_55, wr_56, wr_57, wr_58, wr_59, wr_60, wr_61, wr_62, wr_63, wr_64, wr_65, wr_66, wr_67, wr_68, wr_69, wr_70, wr_71, wr_72, wr_73, wr_74, wr_75, wr_76, wr_77, wr_78, wr_79, wr_80, wr_81, wr_82, wr_83, wr_84, wr_85, wr_86, wr_87, ww_v1, ww_v2, ww_v3, ww_v4, ww_g0, ww_gS, ww_t0, ww_tS, ww_s0, ww_sS, ww_s2, ww_w1, ww_w2, ww_w3, ww_b, ww_tg, ww_p1, ww_p2, ww_q0, ww_qS, ww_k1, ww_k2, ww_k3, ww_w0, ww_wS, ww_i1, ww_i2, ww_f0, ww_f1, ww_f2, ww_f4, ww_fd, ww_cl, ww_mc, ww_tk, ww_ci, ww_ak, ww_gv, ww_g1, ww_kcs, w_f1, w_f2, w_a1, w_a2, w_u_at, dm_104, List.elem_nil, List.elem_cons, List.map_nil, List.map_cons, List.sum_nil, List.sum_cons, Option.toList_none, Option.toList_some, List.nil_append, List.cons_append, true_and, and_true, implies_true, false_implies, if_true, if_false, reduceIte, reduceCtorEq, Bool.false_eq_true, Bool.and_false, Bool.false_and, Bool.and_self, Bool.and_true, Bool.true_and, Nat.reduceAdd, Nat.reduceBEq, Nat.reduceEqDiff, Nat.reduceLT, Nat.reduceLeDiff, Int.reduceAdd, Int.reduceNeg, Int.reduceToNat, Int.reduceLE, Int.reduceLT, Int.reduceSub, Int.cast_ofNat_Int, Int.reduceNatCast', Int.reduceNatCast, Nat.zero_add, Int.zero_add, and_self, false_and, and_false, or_false, false_or, true_or, or_true, not_true_eq_false, not_false_eq_true, ctL_n]
  refine ww_Cn_of (lk_106c hv ht hl) (by omega) ?_
  rintro _ _ ⟨rfl, rfl⟩
  refine ww_go1 ctL_nil 20 [] ?_
  simp only [ww_S, ww_1, wr_0, wr_1, wr_2, wr_3, wr_4, wr_5, wr_6, wr_7, wr_8, wr_9, wr_10, wr_11, wr_12, wr_13, wr_14, wr_15, wr_16, wr_17, wr_18, wr_19, wr_20, wr_21, wr_22, wr_23, wr_24, wr_25, wr_26, wr_27, wr_28, wr_29, wr_30, wr_31, wr_32, wr_33, wr_34, wr_35, wr_36, wr_37, wr_38, wr_39, wr_40, wr_41, wr_42, wr_43, wr_44, wr_45, wr_46, wr_47, wr_48, wr_49, wr_50, wr_51, wr_52, wr_53, wr_54, wr_55, wr_56, wr_57, wr_58, wr_59, wr_60, wr_61, wr_62, wr_63, wr_64, wr_65, wr_66, wr_67, wr_68, wr_69, wr_70, wr_71, wr_72, wr_73, wr_74, wr_75, wr_76, wr_77, wr_78, wr_79, wr_80, wr_81, wr_82, wr_83, wr_84, wr_85, wr_86, wr_87, ww_v1, ww_v2, ww_v3, ww_v4, ww_g0, ww_gS, ww_t0, ww_tS, ww_s0, ww_sS, ww_s2, ww_w1, ww_w2, ww_w3, ww_b, ww_tg, ww_p1, ww_p2, ww_q0, ww_qS, ww_k1, ww_k2, ww_k3, ww_w0, ww_wS, ww_i1, ww_i2, ww_f0, ww_f1, ww_f2, ww_f4, ww_fd, ww_cl, ww_mc, ww_tk, ww_ci, ww_ak, ww_gv, ww_g1, ww_kcs, w_f1, w_f2, w_a1, w_a2, w_u_at, dm_104, List.elem_nil, List.elem_cons, List.map_nil, List.map_cons, List.sum_nil, List.sum_cons, Option.toList_none, Option.toList_some, List.nil_append, List.cons_append, true_and, and_true, implies_true, false_implies, if_true, if_false, reduceIte, reduceCtorEq, Bool.false_eq_true, Bool.and_false, Bool.false_and, Bool.and_self, Bool.and_true, Bool.true_and, Nat.reduceAdd, Nat.reduceBEq, Nat.reduceEqDiff, Nat.reduceLT, Nat.reduceLeDiff, Int.reduceAdd, Int.reduceNeg, Int.reduceToNat, Int.reduceLE, Int.reduceLT, Int.reduceSub, Int.cast_ofNat_Int, Int.reduceNatCast', Int.reduceNatCast, Nat.zero_add, Int.zero_add, and_self, false_and, and_false, or_false, false_or, true_or, or_true, not_true_eq_false, not_false_eq_true, ctL_n]
  refine ww_Cn_of (lk_107c ht hl) (by omega) ?_
  rintro _ _ ⟨rfl, rfl⟩
  unfold w_tt
  refine ww_go1 (ctL_cons ok_14 (ctL_cons ok_130 ctL_nil)) 40 [] ?_
  simp only [ww_S, ww_1, wr_0, wr_1, wr_2, wr_3, wr_4, wr_5, wr_6, wr_7, wr_8, wr_9, wr_10, wr_11, wr_12, wr_13, wr_14, wr_15, wr_16, wr_17, wr_18, wr_19, wr_20, wr_21, wr_22, wr_23, wr_24, wr_25, wr_26, wr_27, wr_28, wr_29, wr_30, wr_31, wr_32, wr_33, wr_34, wr_35, wr_36, wr_37, wr_38, wr_39, wr_40, wr_41, wr_42, wr_43, wr_44, wr_45, wr_46, wr_47, wr_48, wr_49, wr_50, wr_51, wr_52, wr_53, wr_54, wr_55, wr_56, wr_57, wr_58, wr_59, wr_60, wr_61, wr_62, wr_63, wr_64, wr_65, wr_66, wr_67, wr_68, wr_69, wr_70, wr_71, wr_72, wr_73, wr_74, wr_75, wr_76, wr_77, wr_78, wr_79, wr_80, wr_81, wr_82, wr_83, wr_84, wr_85, wr_86, wr_87, ww_v1, ww_v2, ww_v3, ww_v4, ww_g0, ww_gS, ww_t0, ww_tS, ww_s0, ww_sS, ww_s2, ww_w1, ww_w2, ww_w3, ww_b, ww_tg, ww_p1, ww_p2, ww_q0, ww_qS, ww_k1, ww_k2, ww_k3, ww_w0, ww_wS, ww_i1, ww_i2, ww_f0, ww_f1, ww_f2, ww_f4, ww_fd, ww_cl, ww_mc, ww_tk, ww_ci, ww_ak, ww_gv, ww_g1, ww_kcs, w_f1, w_f2, w_a1, w_a2, w_u_at, dm_104, List.elem_nil, List.elem_cons, List.map_nil, List.map_cons, List.sum_nil, List.sum_cons, Option.toList_none, Option.toList_some, List.nil_append, List.cons_append, true_and, and_true, implies_true, false_implies, if_true, if_false, reduceIte, reduceCtorEq, Bool.false_eq_true, Bool.and_false, Bool.false_and, Bool.and_self, Bool.and_true, Bool.true_and, Nat.reduceAdd, Nat.reduceBEq, Nat.reduceEqDiff, Nat.reduceLT, Nat.reduceLeDiff, Int.reduceAdd, Int.reduceNeg, Int.reduceToNat, Int.reduceLE, Int.reduceLT, Int.reduceSub, Int.cast_ofNat_Int, Int.reduceNatCast', Int.reduceNatCast, Nat.zero_add, Int.zero_add, and_self, false_and, and_false, or_false, false_or, true_or, or_true, not_true_eq_false, not_false_eq_true, at_14s, at_130, ctL_c, ctL_n, w_fs1, e33, w_g37_fs, e37]
  (repeat' (first | (with_reducible assumption) | (with_reducible exact trivial) | refine And.intro ?_ ?_ | intro _)) <;> first | omega | (unfold am_rg at *; omega) | (with_reducible rfl) | (exfalso; omega) | decide | skip
set_option maxRecDepth 100000 in
set_option maxHeartbeats 2000000 in
theorem lk_104b {w : W_} {item : Int} (hi : f_t w 3 = item) (i0 : 0 ≤ item ∧ item < 1000) (h1 : 1 ≤ w.1 33 1 ∧ w.1 33 1 < 24000) (hk : w_g w 3 item = 3) (hs : f_t w 2 = 0) : ww_Ct 104 5 [.inr (.inr (.inl 41))] w fun r w' => r = none ∧ w' = w_f (w_fs (w_f w 17 4 (w.1 17 4 + 1)) 2 1) 41 10 (w_g w 37 (item * 9 + 0) - 1) := by
  have hi : w_g w 34 ((w.1 33 1 - 1) * 13 + 3) = item := hi
  have hs : w_g w 34 ((w.1 33 1 - 1) * 13 + 2) = 0 := hs
  refine of_104 (ww_go (ctL_cons ok_2 (ctL_cons ok_13 (ctL_cons ok_14 (ctL_cons ok_128 ctL_nil)))) 100 [] ?_)
  simp only [ww_S, ww_1, wr_0, wr_1, wr_2, wr_3, wr_4, wr_5, wr_6, wr_7, wr_8, wr_9, wr_10, wr_11, wr_12, wr_13, wr_14, wr_15, wr_16, wr_17, wr_18, wr_19, wr_20, wr_21, wr_22, wr_23, wr_24, wr_25, wr_26, wr_27, wr_28, wr_29, wr_30, wr_31, wr_32, wr_33, wr_34, wr_35, wr_36, wr_37, wr_38, wr_39, wr_40, wr_41, wr_42, wr_43, wr_44, wr_45, wr_46, wr_47, wr_48, wr_49, wr_50, wr_51, wr_52, wr_53, wr_54, wr_55, wr_56, wr_57, wr_58, wr_59, wr_60, wr_61, wr_62, wr_63, wr_64, wr_65, wr_66, wr_67, wr_68, wr_69, wr_70, wr_71, wr_72, wr_73, wr_74, wr_75, wr_76, wr_77, wr_78, wr_79, wr_80, wr_81, wr_82, wr_83, wr_84, wr_85, wr_86, wr_87, ww_v1, ww_v2, ww_v3, ww_v4, ww_g0, ww_gS, ww_t0, ww_tS, ww_s0, ww_sS, ww_s2, ww_w1, ww_w2, ww_w3, ww_b, ww_tg, ww_p1, ww_p2, ww_q0, ww_qS, ww_k1, ww_k2, ww_k3, ww_w0, ww_wS, ww_i1, ww_i2, ww_f0, ww_f1, ww_f2, ww_f4, ww_fd, ww_cl, ww_mc, ww_tk, ww_ci, ww_ak, ww_gv, ww_g1, ww_kcs, w_f1, w_f2, w_a1, w_a2, w_u_at, dm_104, List.elem_nil, List.elem_cons, List.map_nil, List.map_cons, List.sum_nil, List.sum_cons, Option.toList_none, Option.toList_some, List.nil_append, List.cons_append, true_and, and_true, implies_true, false_implies, if_true, if_false, reduceIte, reduceCtorEq, Bool.false_eq_true, Bool.and_false, Bool.false_and, Bool.and_self, Bool.and_true, Bool.true_and, Nat.reduceAdd, Nat.reduceBEq, Nat.reduceEqDiff, Nat.reduceLT, Nat.reduceLeDiff, Int.reduceAdd, Int.reduceNeg, Int.reduceToNat, Int.reduceLE, Int.reduceLT, Int.reduceSub, Int.cast_ofNat_Int, Int.reduceNatCast', Int.reduceNatCast, Nat.zero_add, Int.zero_add, and_self, false_and, and_false, or_false, false_or, true_or, or_true, not_true_eq_false, not_false_eq_true, at_2, at_13, at_14s, at_128, ctL_c, ctL_n, hi, hk, hs, w_g_f, w_fs1, w_g37_fs]
  (repeat' (first | (with_reducible assumption) | (with_reducible exact trivial) | refine And.intro ?_ ?_ | intro _)) <;> first | omega | (unfold am_rg at *; omega) | (with_reducible rfl) | (exfalso; omega) | decide | skip
set_option maxRecDepth 100000 in
set_option maxHeartbeats 2000000 in
theorem lk_104c {w : W_} {item : Int} (hi : f_t w 3 = item) (i0 : 0 ≤ item ∧ item < 1000) (h1 : 1 ≤ w.1 33 1 ∧ w.1 33 1 < 23999) (hk : w_g w 3 item = 4) (hs : f_t w 2 = 0) : ww_Ct 104 5 [.inr (.inr (.inl 41))] w fun r w' => r = none ∧ w' = w_fs (w_pu (w_fs (w_f w 17 4 (w.1 17 4 + 1)) 2 1) 6 item) 3 (w_g w 37 (item * 9) - 1) := by
  have hi : w_g w 34 ((w.1 33 1 - 1) * 13 + 3) = item := hi
  have hs : w_g w 34 ((w.1 33 1 - 1) * 13 + 2) = 0 := hs
  have g37 : ∀ (W : W_) (x y k : Int), w_g (w_pu W x y) 37 k = w_g W 37 k := fun W x y k => w_g_pu W x y 37 k (by decide)
  refine of_104 (ww_go (ctL_cons ok_2 (ctL_cons ok_11 (ctL_cons ok_13 (ctL_cons ok_14 (ctL_cons ok_129 ctL_nil))))) 100 [] ?_)
  simp only [ww_S, ww_1, wr_0, wr_1, wr_2, wr_3, wr_4, wr_5, wr_6, wr_7, wr_8, wr_9, wr_10, wr_11, wr_12, wr_13, wr_14, wr_15, wr_16, wr_17, wr_18, wr_19, wr_20, wr_21, wr_22, wr_23, wr_24, wr_25, wr_26, wr_27, wr_28, wr_29, wr_30, wr_31, wr_32, wr_33, wr_34, wr_35, wr_36, wr_37, wr_38, wr_39, wr_40, wr_41, wr_42, wr_43, wr_44, wr_45, wr_46, wr_47, wr_48, wr_49, wr_50, wr_51, wr_52, wr_53, wr_54, wr_55, wr_56, wr_57, wr_58, wr_59, wr_60, wr_61, wr_62, wr_63, wr_64, wr_65, wr_66, wr_67, wr_68, wr_69, wr_70, wr_71, wr_72, wr_73, wr_74, wr_75, wr_76, wr_77, wr_78, wr_79, wr_80, wr_81, wr_82, wr_83, wr_84, wr_85, wr_86, wr_87, ww_v1, ww_v2, ww_v3, ww_v4, ww_g0, ww_gS, ww_t0, ww_tS, ww_s0, ww_sS, ww_s2, ww_w1, ww_w2, ww_w3, ww_b, ww_tg, ww_p1, ww_p2, ww_q0, ww_qS, ww_k1, ww_k2, ww_k3, ww_w0, ww_wS, ww_i1, ww_i2, ww_f0, ww_f1, ww_f2, ww_f4, ww_fd, ww_cl, ww_mc, ww_tk, ww_ci, ww_ak, ww_gv, ww_g1, ww_kcs, w_f1, w_f2, w_a1, w_a2, w_u_at, dm_104, List.elem_nil, List.elem_cons, List.map_nil, List.map_cons, List.sum_nil, List.sum_cons, Option.toList_none, Option.toList_some, List.nil_append, List.cons_append, true_and, and_true, implies_true, false_implies, if_true, if_false, reduceIte, reduceCtorEq, Bool.false_eq_true, Bool.and_false, Bool.false_and, Bool.and_self, Bool.and_true, Bool.true_and, Nat.reduceAdd, Nat.reduceBEq, Nat.reduceEqDiff, Nat.reduceLT, Nat.reduceLeDiff, Int.reduceAdd, Int.reduceNeg, Int.reduceToNat, Int.reduceLE, Int.reduceLT, Int.reduceSub, Int.cast_ofNat_Int, Int.reduceNatCast', Int.reduceNatCast, Nat.zero_add, Int.zero_add, and_self, false_and, and_false, or_false, false_or, true_or, or_true, not_true_eq_false, not_false_eq_true, at_2, at_11p, at_13, at_14s, at_129, ctL_c, ctL_n, hi, hk, hs, w_g_f, w_fs1, w_pu1, w_g37_fs, g37]
  (repeat' (first | (with_reducible assumption) | (with_reducible exact trivial) | refine And.intro ?_ ?_ | intro _)) <;> first | omega | (unfold am_rg at *; omega) | (with_reducible rfl) | (exfalso; omega) | decide | skip
set_option maxRecDepth 100000 in
set_option maxHeartbeats 2000000 in
theorem lk_104d {w : W_} {item k n : Int} (hi : f_t w 3 = item) (i0 : 0 ≤ item ∧ item < 1000) (hk : w_g w 3 item = k) (k0 : 0 ≤ k ∧ k < 3) (hn : w_g w 5 item = n) (n0 : 0 ≤ n ∧ n < 100) (hs : f_t w 2 = 0) (h1 : 1 ≤ w.1 33 1 ∧ w.1 33 1 < 24000) (hc : 0 ≤ w.1 13 2 ∧ w.1 13 2 < 262144)
    (W : W_) (hW : W = w_f (if k = 0 then w_wid (w_mk (w_f w 17 4 (w.1 17 4 + 1)) 1 20003 20003 n 0) (30000 + w.1 13 2) 1 2 3 else w_mk (w_f w 17 4 (w.1 17 4 + 1)) (if k = 1 then 2 else 3) 20003 20003 (n % 10) 0) 41 11 (30000 + w.1 13 2)) (ht : h_tf W) (hl : h_vl W (30000 + w.1 13 2)) : ww_Ct 104 5 [.inr (.inr (.inl 41))] w fun r w' => r = none ∧ w' = w_tt W (30000 + w.1 13 2) item := by
  have hi : w_g w 34 ((w.1 33 1 - 1) * 13 + 3) = item := hi
  have hs : w_g w 34 ((w.1 33 1 - 1) * 13 + 2) = 0 := hs
  have e11 : W.1 41 11 = 30000 + w.1 13 2 := by
    rw [hW, w_f1, w_u_at, if_pos ⟨rfl, rfl⟩]
  have z := z_104 (k := k) e11 ht hl i0
  rw [hW] at z ⊢
  refine of_104 (ww_go (ctL_cons ok_2 (ctL_cons ok_3 (ctL_cons ok_13 (ctL_cons ok_105 ctL_nil)))) 100 [159] ?_)
  simp only [ww_S, ww_1, wr_0, wr_1, wr_2, wr_3, wr_4, wr_5, wr_6, wr_7, wr_8, wr_9, wr_10, wr_11, wr_12, wr_13, wr_14, wr_15, wr_16, wr_17, wr_18, wr_19, wr_20, wr_21, wr_22, wr_23, wr_24, wr_25, wr_26, wr_27, wr_28, wr_29, wr_30, wr_31, wr_32, wr_33, wr_34, wr_35, wr_36, wr_37, wr_38, wr_39, wr_40, wr_41, wr_42, wr_43, wr_44, wr_45, wr_46, wr_47, wr_48, wr_49, wr_50, wr_51, wr_52, wr_53, wr_54, wr_55, wr_56, wr_57, wr_58, wr_59, wr_60, wr_61, wr_62, wr_63, wr_64, wr_65, wr_66, wr_67, wr_68, wr_69, wr_70, wr_71, wr_72, wr_73, wr_74, wr_75, wr_76, wr_77, wr_78, wr_79, wr_80, wr_81, wr_82, wr_83, wr_84, wr_85, wr_86, wr_87, ww_v1, ww_v2, ww_v3, ww_v4, ww_g0, ww_gS, ww_t0, ww_tS, ww_s0, ww_sS, ww_s2, ww_w1, ww_w2, ww_w3, ww_b, ww_tg, ww_p1, ww_p2, ww_q0, ww_qS, ww_k1, ww_k2, ww_k3, ww_w0, ww_wS, ww_i1, ww_i2, ww_f0, ww_f1, ww_f2, ww_f4, ww_fd, ww_cl, ww_mc, ww_tk, ww_ci, ww_ak, ww_gv, ww_g1, ww_kcs, w_f1, w_f2, w_a1, w_a2, w_u_at, dm_104, List.elem_nil, List.elem_cons, List.map_nil, List.map_cons, List.sum_nil, List.sum_cons, Option.toList_none, Option.toList_some, List.nil_append, List.cons_append, true_and, and_true, implies_true, false_implies, if_true, if_false, reduceIte, reduceCtorEq, Bool.false_eq_true, Bool.and_false, Bool.false_and, Bool.and_self, Bool.and_true, Bool.true_and, Nat.reduceAdd, Nat.reduceBEq, Nat.reduceEqDiff, Nat.reduceLT, Nat.reduceLeDiff, Int.reduceAdd, Int.reduceNeg, Int.reduceToNat, Int.reduceLE, Int.reduceLT, Int.reduceSub, Int.cast_ofNat_Int, Int.reduceNatCast', Int.reduceNatCast, Nat.zero_add, Int.zero_add, and_self, false_and, and_false, or_false, false_or, true_or, or_true, not_true_eq_false, not_false_eq_true, at_2, at_3, at_13, at_105, ctL_c, ctL_n, hi, hk, hn, hs, w_g_f]
  (repeat' (first | (with_reducible assumption) | (with_reducible exact trivial) | (with_reducible exact z) | refine And.intro ?_ ?_ | intro _)) <;> first | omega | (unfold am_rg at *; omega) | (with_reducible rfl) | (exfalso; omega) | decide | skip
