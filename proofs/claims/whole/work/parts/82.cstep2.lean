/-! ===== the class: leaves, marks, LATEs, scopes ===== -/
abbrev f_t (w : W_) (f : Int) : Int := w_g w 34 ((w.1 33 1 - 1) * 13 + f)
theorem w_g34_fs (w : W_) (f x k : Int) : w_g (w_fs w f x) 34 k = if 0 ≤ k ∧ k.toNat = ((w.1 33 1 - 1) * 13 + f).toNat then x else w_g w 34 k := by
  unfold w_fs
  rw [w_g_a]
  by_cases c : 0 ≤ k ∧ k.toNat = ((w.1 33 1 - 1) * 13 + f).toNat
  · rw [if_pos c, if_pos ⟨rfl, c⟩]
  · rw [if_neg c, if_neg (fun q => c q.2)]
theorem f_t_fs {w : W_} {f g x : Int} (h : 1 ≤ w.1 33 1) (hf : 0 ≤ f) (hg : 0 ≤ g) : w_g (w_fs w f x) 34 ((w.1 33 1 - 1) * 13 + g) = if g = f then x else w_g w 34 ((w.1 33 1 - 1) * 13 + g) := by
  rw [w_g34_fs]
  by_cases c : g = f
  · rw [if_pos c, if_pos (by omega)]
  · rw [if_neg c, if_neg (by omega)]
theorem f_t_fs' {W : W_} {n f g x : Int} (hn : W.1 33 1 = n) (h : 1 ≤ n) (hf : 0 ≤ f) (hg : 0 ≤ g) : w_g (w_fs W f x) 34 ((n - 1) * 13 + g) = if g = f then x else w_g W 34 ((n - 1) * 13 + g) := by
  subst hn
  exact f_t_fs h hf hg
theorem w_mk_2ne (w : W_) (a b c d e : Int) {i : Nat} (h : i ≠ 13) : (w_mk w a b c d e).2 i = w.2 i := by
  funext k
  unfold w_mk
  dsimp only
  rw [if_neg (fun q => h q.1)]
theorem w_g_mk (w : W_) (a b c d e : Int) (i : Nat) (k : Int) (h : i ≠ 13) : w_g (w_mk w a b c d e) i k = w_g w i k := w_g_ne (w_mk_2ne w a b c d e h) k
def sp_105 : List am_V → W_ → Option (Nat × Prop × Option am_V × W_)
  | [.inr (.inr (.inl 41)), .inl x0, .inl x1], w => some (4, (0 ≤ x0 ∧ x0 < 100) ∧ (0 ≤ x1 ∧ x1 < 100) ∧ (0 ≤ w.1 13 2 ∧ w.1 13 2 < 262144), some (.inl (30000 + w.1 13 2)), (if x0 = 0 then w_wid (w_mk w 1 20003 20003 x1 0) (30000 + w.1 13 2) 1 2 3 else w_mk w (if x0 = 1 then 2 else 3) 20003 20003 (x1 % 10) 0))
  | _, _ => none
theorem at_105 (x0 x1 : Int) (w : W_) : sp_105 [.inr (.inr (.inl 41)), .inl x0, .inl x1] w = some (4, (0 ≤ x0 ∧ x0 < 100) ∧ (0 ≤ x1 ∧ x1 < 100) ∧ (0 ≤ w.1 13 2 ∧ w.1 13 2 < 262144), some (.inl (30000 + w.1 13 2)), (if x0 = 0 then w_wid (w_mk w 1 20003 20003 x1 0) (30000 + w.1 13 2) 1 2 3 else w_mk w (if x0 = 1 then 2 else 3) 20003 20003 (x1 % 10) 0)) := rfl
set_option maxRecDepth 100000 in
set_option maxHeartbeats 4000000 in
theorem lk_105 {x0 x1 : Int} {w : W_} (hp : (0 ≤ x0 ∧ x0 < 100) ∧ (0 ≤ x1 ∧ x1 < 100) ∧ (0 ≤ w.1 13 2 ∧ w.1 13 2 < 262144)) : ww_Ct 105 4 [.inr (.inr (.inl 41)), .inl x0, .inl x1] w fun r w' => r = some (.inl (30000 + w.1 13 2)) ∧ w' = (if x0 = 0 then w_wid (w_mk w 1 20003 20003 x1 0) (30000 + w.1 13 2) 1 2 3 else w_mk w (if x0 = 1 then 2 else 3) 20003 20003 (x1 % 10) 0) := by
  obtain ⟨⟨h0, h1⟩, ⟨h2, h3⟩, h4, h5⟩ := hp
  refine of_105 (ww_go (ctL_cons ok_20 (ctL_cons ok_21 ctL_nil)) 200 [] ?_)
  simp only [ww_S, ww_1, wr_0, wr_1, wr_2, wr_3, wr_4, wr_5, wr_6, wr_7, wr_8, wr_9, wr_10, wr_11, wr_12, wr_13, wr_14, wr_15, wr_16, wr_17, wr_18, wr_19, wr_20, wr_21, wr_22, wr_23, wr_24, wr_25, wr_26, wr_27, wr_28, wr_29, wr_30, wr_31, wr_32, wr_33, wr_34, wr_35, wr_36, wr_37, wr_38, wr_39, wr_40, wr_41, wr_42, wr_43, wr_44, wr_45, wr_46, wr_47, wr_48, wr_49, wr_50, wr_51, wr_52, wr_53, wr_54, wr_55, wr_56, wr_57, wr_58, wr_59, wr_60, wr_61, wr_62, wr_63, wr_64, wr_65, wr_66, wr_67, wr_68, wr_69, wr_70, wr_71, wr_72, wr_73, wr_74, wr_75, wr_76, wr_77, wr_78, wr_79, wr_80, wr_81, wr_82, wr_83, wr_84, wr_85, wr_86, wr_87, ww_v1, ww_v2, ww_v3, ww_v4, ww_g0, ww_gS, ww_t0, ww_tS, ww_s0, ww_sS, ww_s2, ww_w1, ww_w2, ww_w3, ww_b, ww_tg, ww_p1, ww_p2, ww_q0, ww_qS, ww_k1, ww_k2, ww_k3, ww_w0, ww_wS, ww_i1, ww_i2, ww_f0, ww_f1, ww_f2, ww_f4, ww_fd, ww_cl, ww_mc, ww_tk, ww_ci, ww_ak, ww_gv, ww_g1, ww_kcs, w_f1, w_f2, w_a1, w_a2, w_u_at, dm_105, List.elem_nil, List.elem_cons, List.map_nil, List.map_cons, List.sum_nil, List.sum_cons, Option.toList_none, Option.toList_some, List.nil_append, List.cons_append, true_and, and_true, implies_true, false_implies, if_true, if_false, reduceIte, reduceCtorEq, Bool.false_eq_true, Bool.and_false, Bool.false_and, Bool.and_self, Bool.and_true, Bool.true_and, Nat.reduceAdd, Nat.reduceBEq, Nat.reduceEqDiff, Nat.reduceLT, Nat.reduceLeDiff, Int.reduceAdd, Int.reduceNeg, Int.reduceToNat, Int.reduceLE, Int.reduceLT, Int.reduceSub, Int.cast_ofNat_Int, Int.reduceNatCast', Int.reduceNatCast, Nat.zero_add, Int.zero_add, and_self, false_and, and_false, or_false, false_or, true_or, or_true, not_true_eq_false, not_false_eq_true, at_20, at_21, ctL_c, ctL_n]
  by_cases c0 : x0 = 0
  · subst c0
    simp only [if_true, if_false, not_true_eq_false, false_implies, true_implies]
    (repeat' (first | (with_reducible assumption) | (with_reducible exact trivial) | refine And.intro ?_ ?_ | intro _)) <;> first | (with_reducible assumption) | omega | (unfold am_rg; omega) | (with_reducible rfl) | (exfalso; omega) | skip
  · by_cases c1 : x0 = 1
    · subst c1
      simp only [Int.reduceEq, if_true, if_false]
      (repeat' (first | (with_reducible assumption) | (with_reducible exact trivial) | refine And.intro ?_ ?_ | intro _)) <;> first | (with_reducible assumption) | omega | (unfold am_rg; omega) | (with_reducible rfl) | (exfalso; omega) | skip
    · simp only [c0, c1, if_false]
      (repeat' (first | (with_reducible assumption) | (with_reducible exact trivial) | refine And.intro ?_ ?_ | intro _)) <;> first | (with_reducible assumption) | omega | (unfold am_rg; omega) | (with_reducible rfl) | (exfalso; omega) | skip
theorem ok_105 : ww_cOk1 105 sp_105 := by
  intro as w fr pre r w1 e hp
  unfold sp_105 at e
  split at e
  · cases e
    exact lk_105 hp
  · cases e

/-- marks go into the sequence of the text -/
def w_apm (w : W_) : W_ :=
  let a := w_fs (w_fs (if f_t w 4 = 20003 then w else w_mk w 8 (f_t w 4) (f_t w 5) 0 0) 4 (if f_t w 4 = 20003 then f_t w 5 else 30000 + w.1 13 2)) 5 20003
  if f_t w 5 = 20003 then w else if f_t w 8 = 0 then a else w_fs a 7 (f_t w 8)
def sp_101 : List am_V → W_ → Option (Nat × Prop × Option am_V × W_)
  | [.inr (.inr (.inl 41)), .inl x0], w => some (5, (-100000 ≤ x0 ∧ x0 < 10000000) ∧ (-1 ≤ w.1 41 12 ∧ w.1 41 12 < 2299) ∧ h_cn 10 w (w_h w x0 1) ∧ 0 ≤ w_h w x0 3 ∧ w_h w x0 3 < 1000, none, w_f (w_bind 10 (w_fill (w_f w 41 12 (w.1 41 12 + 1)) 42 ((w.1 41 12 + 1) * 10).toNat ((w.1 41 12 + 1) * 10 + 10).toNat 20005) (w.1 41 12 + 1) (w_h w x0 1)) 41 10 (w_g w 37 (w_h w x0 3 * 9) - 1))
  | _, _ => none
theorem at_101 (x0 : Int) (w : W_) : sp_101 [.inr (.inr (.inl 41)), .inl x0] w = some (5, (-100000 ≤ x0 ∧ x0 < 10000000) ∧ (-1 ≤ w.1 41 12 ∧ w.1 41 12 < 2299) ∧ h_cn 10 w (w_h w x0 1) ∧ 0 ≤ w_h w x0 3 ∧ w_h w x0 3 < 1000, none, w_f (w_bind 10 (w_fill (w_f w 41 12 (w.1 41 12 + 1)) 42 ((w.1 41 12 + 1) * 10).toNat ((w.1 41 12 + 1) * 10 + 10).toNat 20005) (w.1 41 12 + 1) (w_h w x0 1)) 41 10 (w_g w 37 (w_h w x0 3 * 9) - 1)) := rfl
set_option maxRecDepth 100000 in
set_option maxHeartbeats 4000000 in
theorem lk_101 {x0 : Int} {w : W_} (hp : (-100000 ≤ x0 ∧ x0 < 10000000) ∧ (-1 ≤ w.1 41 12 ∧ w.1 41 12 < 2299) ∧ h_cn 10 w (w_h w x0 1) ∧ 0 ≤ w_h w x0 3 ∧ w_h w x0 3 < 1000) : ww_Ct 101 5 [.inr (.inr (.inl 41)), .inl x0] w fun r w' => r = none ∧ w' = w_f (w_bind 10 (w_fill (w_f w 41 12 (w.1 41 12 + 1)) 42 ((w.1 41 12 + 1) * 10).toNat ((w.1 41 12 + 1) * 10 + 10).toNat 20005) (w.1 41 12 + 1) (w_h w x0 1)) 41 10 (w_g w 37 (w_h w x0 3 * 9) - 1) := by
  obtain ⟨h0, h1, h2, h3, h4⟩ := hp
  refine of_101 (ww_go (ctL_cons ok_18 (ctL_cons ok_78 (ctL_cons ok_128 ctL_nil))) 200 [] ?_)
  have e2 : ∀ (c : Nat), c ≠ 42 → ∀ (n : Nat) (W : W_) (s b : Int), (w_bind n W s b).2 c = W.2 c := by
    intro c hc n
    induction n with
    | zero => intro W s b; rfl
    | succ n ih =>
      intro W s b
      unfold w_bind
      split
      · rfl
      · rw [ih, w_a_2ne _ _ _ hc]
  have eh : ∀ (n : Nat) (W : W_) (i j : Nat) (y s b v : Int) (f : Nat), w_h (w_bind n (w_fill W 42 i j y) s b) v f = w_h W v f := by
    intro n W i j y s b v f
    unfold w_h
    rw [e2 13 (by decide), w_fill_2ne _ _ _ _ (by decide)]
  have eg : ∀ (n : Nat) (W : W_) (i j : Nat) (y s b k : Int), w_g (w_bind n (w_fill W 42 i j y) s b) 37 k = w_g W 37 k := by
    intro n W i j y s b k
    refine w_g_ne ?_ k
    rw [e2 37 (by decide), w_fill_2ne _ _ _ _ (by decide)]
  rw [← Int.add_zero (w_h w x0 3 * 9)]
  simp only [ww_S, ww_1, wr_0, wr_1, wr_2, wr_3, wr_4, wr_5, wr_6, wr_7, wr_8, wr_9, wr_10, wr_11, wr_12, wr_13, wr_14, wr_15, wr_16, wr_17, wr_18, wr_19, wr_20, wr_21, wr_22, wr_23, wr_24, wr_25, wr_26, wr_27, wr_28, wr_29, wr_30, wr_31, wr_32, wr_33, wr_34, wr_35, wr_36, wr_37, wr_38, wr_39, wr_40, wr_41, wr_42, wr_43, wr_44, wr_45, wr_46, wr_47, wr_48, wr_49, wr_50, wr_51, wr_52, wr_53, wr_54, wr_55, wr_56, wr_57, wr_58, wr_59, wr_60, wr_61, wr_62, wr_63, wr_64, wr_65, wr_66, wr_67, wr_68, wr_69, wr_70, wr_71, wr_72, wr_73, wr_74, wr_75, wr_76, wr_77, wr_78, wr_79, wr_80, wr_81, wr_82, wr_83, wr_84, wr_85, wr_86, wr_87, ww_v1, ww_v2, ww_v3, ww_v4, ww_g0, ww_gS, ww_t0, ww_tS, ww_s0, ww_sS, ww_s2, ww_w1, ww_w2, ww_w3, ww_b, ww_tg, ww_p1, ww_p2, ww_q0, ww_qS, ww_k1, ww_k2, ww_k3, ww_w0, ww_wS, ww_i1, ww_i2, ww_f0, ww_f1, ww_f2, ww_f4, ww_fd, ww_cl, ww_mc, ww_tk, ww_ci, ww_ak, ww_gv, ww_g1, ww_kcs, w_f1, w_f2, w_a1, w_a2, w_u_at, dm_101, List.elem_nil, List.elem_cons, List.map_nil, List.map_cons, List.sum_nil, List.sum_cons, Option.toList_none, Option.toList_some, List.nil_append, List.cons_append, true_and, and_true, implies_true, false_implies, if_true, if_false, reduceIte, reduceCtorEq, Bool.false_eq_true, Bool.and_false, Bool.false_and, Bool.and_self, Bool.and_true, Bool.true_and, Nat.reduceAdd, Nat.reduceBEq, Nat.reduceEqDiff, Nat.reduceLT, Nat.reduceLeDiff, Int.reduceAdd, Int.reduceNeg, Int.reduceToNat, Int.reduceLE, Int.reduceLT, Int.reduceSub, Int.cast_ofNat_Int, Int.reduceNatCast', Int.reduceNatCast, Nat.zero_add, Int.zero_add, and_self, false_and, and_false, or_false, false_or, true_or, or_true, not_true_eq_false, not_false_eq_true, at_18, at_78, at_128, ctL_c, ctL_n, eh, eg, w_h_f, w_g_f]
  (repeat' (first | (with_reducible assumption) | (with_reducible exact trivial) | refine And.intro ?_ ?_ | intro _)) <;> first | (with_reducible assumption) | omega | (unfold am_rg; omega) | (with_reducible rfl) | skip
theorem ok_101 : ww_cOk1 101 sp_101 := by
  intro as w fr pre r w1 e hp
  unfold sp_101 at e
  split at e
  · cases e
    exact lk_101 hp
  · cases e

def sp_126 : List am_V → W_ → Option (Nat × Prop × Option am_V × W_)
  | [.inr (.inr (.inl 50)), .inl x0], w => some (4, w_kn w ∧ (0 ≤ x0 ∧ x0 < 100000) ∧ am_rg (w.1 50 8) ∧ am_rg (w.1 17 4), some (.inl (if 12 ≤ w.1 50 8 then 0 else if 300 ≤ w.1 17 4 then 0 else 1)), (if 12 ≤ w.1 50 8 then w_nt w (100000 * 5 + w_spot x0) else if 300 ≤ w.1 17 4 then w_nt w (100000 * 6 + w_spot x0) else w))
  | _, _ => none
theorem at_126 (x0 : Int) (w : W_) : sp_126 [.inr (.inr (.inl 50)), .inl x0] w = some (4, w_kn w ∧ (0 ≤ x0 ∧ x0 < 100000) ∧ am_rg (w.1 50 8) ∧ am_rg (w.1 17 4), some (.inl (if 12 ≤ w.1 50 8 then 0 else if 300 ≤ w.1 17 4 then 0 else 1)), (if 12 ≤ w.1 50 8 then w_nt w (100000 * 5 + w_spot x0) else if 300 ≤ w.1 17 4 then w_nt w (100000 * 6 + w_spot x0) else w)) := rfl
set_option maxRecDepth 100000 in
set_option maxHeartbeats 4000000 in
theorem lk_126 {x0 : Int} {w : W_} (hp : w_kn w ∧ (0 ≤ x0 ∧ x0 < 100000) ∧ am_rg (w.1 50 8) ∧ am_rg (w.1 17 4)) : ww_Ct 126 4 [.inr (.inr (.inl 50)), .inl x0] w fun r w' => r = some (.inl (if 12 ≤ w.1 50 8 then 0 else if 300 ≤ w.1 17 4 then 0 else 1)) ∧ w' = (if 12 ≤ w.1 50 8 then w_nt w (100000 * 5 + w_spot x0) else if 300 ≤ w.1 17 4 then w_nt w (100000 * 6 + w_spot x0) else w) := by
  obtain ⟨h, ⟨h0, h1⟩, h2, h3⟩ := hp
  refine of_126 (ww_go (ctL_cons ok_65 (ctL_cons ok_163 ctL_nil)) 100 [] ?_)
  simp only [ww_S, ww_1, wr_0, wr_1, wr_2, wr_3, wr_4, wr_5, wr_6, wr_7, wr_8, wr_9, wr_10, wr_11, wr_12, wr_13, wr_14, wr_15, wr_16, wr_17, wr_18, wr_19, wr_20, wr_21, wr_22, wr_23, wr_24, wr_25, wr_26, wr_27, wr_28, wr_29, wr_30, wr_31, wr_32, wr_33, wr_34, wr_35, wr_36, wr_37, wr_38, wr_39, wr_40, wr_41, wr_42, wr_43, wr_44, wr_45, wr_46, wr_47, wr_48, wr_49, wr_50, wr_51, wr_52, wr_53, wr_54, wr_55, wr_56, wr_57, wr_58, wr_59, wr_60, wr_61, wr_62, wr_63, wr_64, wr_65, wr_66, wr_67, wr_68, wr_69, wr_70, wr_71, wr_72, wr_73, wr_74, wr_75, wr_76, wr_77, wr_78, wr_79, wr_80, wr_81, wr_82, wr_83, wr_84, wr_85, wr_86, wr_87, ww_v1, ww_v2, ww_v3, ww_v4, ww_g0, ww_gS, ww_t0, ww_tS, ww_s0, ww_sS, ww_s2, ww_w1, ww_w2, ww_w3, ww_b, ww_tg, ww_p1, ww_p2, ww_q0, ww_qS, ww_k1, ww_k2, ww_k3, ww_w0, ww_wS, ww_i1, ww_i2, ww_f0, ww_f1, ww_f2, ww_f4, ww_fd, ww_cl, ww_mc, ww_tk, ww_ci, ww_ak, ww_gv, ww_g1, ww_kcs, w_f1, w_f2, w_a1, w_a2, w_u_at, dm_126, List.elem_nil, List.elem_cons, List.map_nil, List.map_cons, List.sum_nil, List.sum_cons, Option.toList_none, Option.toList_some, List.nil_append, List.cons_append, true_and, and_true, implies_true, false_implies, if_true, if_false, reduceIte, reduceCtorEq, Bool.false_eq_true, Bool.and_false, Bool.false_and, Bool.and_self, Bool.and_true, Bool.true_and, Nat.reduceAdd, Nat.reduceBEq, Nat.reduceEqDiff, Nat.reduceLT, Nat.reduceLeDiff, Int.reduceAdd, Int.reduceNeg, Int.reduceToNat, Int.reduceLE, Int.reduceLT, Int.reduceSub, Int.cast_ofNat_Int, Int.reduceNatCast', Int.reduceNatCast, Nat.zero_add, Int.zero_add, and_self, false_and, and_false, or_false, false_or, true_or, or_true, not_true_eq_false, not_false_eq_true, ctL_c, ctL_n, at_65n _ _ _ h, at_163]
  by_cases c0 : 12 ≤ w.1 50 8
  · simp only [c0, if_true]
    (repeat' (first | (with_reducible assumption) | (with_reducible exact trivial) | refine And.intro ?_ ?_ | intro _)) <;> first | (with_reducible assumption) | omega | (unfold am_rg; omega) | (with_reducible rfl) | (exfalso; omega) | skip
  · by_cases c1 : 300 ≤ w.1 17 4
    · simp only [c0, c1, if_true, if_false]
      (repeat' (first | (with_reducible assumption) | (with_reducible exact trivial) | refine And.intro ?_ ?_ | intro _)) <;> first | (with_reducible assumption) | omega | (unfold am_rg; omega) | (with_reducible rfl) | (exfalso; omega) | skip
    · simp only [c0, c1, if_true, if_false]
      (repeat' (first | (with_reducible assumption) | (with_reducible exact trivial) | refine And.intro ?_ ?_ | intro _)) <;> first | (with_reducible assumption) | omega | (unfold am_rg; omega) | (with_reducible rfl) | (exfalso; omega) | skip
theorem ok_126 : ww_cOk1 126 sp_126 := by
  intro as w fr pre r w1 e hp
  unfold sp_126 at e
  split at e
  · cases e
    exact lk_126 hp
  · cases e

set_option maxRecDepth 100000 in
set_option maxHeartbeats 1000000 in
theorem lk_122a {w : W_} (h0 : f_t w 2 = 0) (h1 : 1 ≤ w.1 33 1 ∧ w.1 33 1 < 24000) (h2 : -100000 ≤ f_t w 1 ∧ f_t w 1 < 10000000) : ww_Ct 122 4 [.inr (.inr (.inl 50))] w fun r w' => r = none ∧ w' = w_pu (w_fs (w_fs (w_fs (w_fs w 2 1) 3 (w.1 50 9)) 4 (w.1 50 10)) 5 (w.1 50 7)) 7 (w_h w (f_t w 1) 1) := by
  refine of_122 (ww_go (ctL_cons ok_11 (ctL_cons ok_12 (ctL_cons ok_13 (ctL_cons ok_14 (ctL_cons ok_18 ctL_nil))))) 200 [] ?_)
  have e1 : w_g (w_fs (w_fs (w_fs (w_fs w 2 1) 3 (w.1 50 9)) 4 (w.1 50 10)) 5 (w.1 50 7)) 34 ((w.1 33 1 - 1) * 13 + 1) = w_g w 34 ((w.1 33 1 - 1) * 13 + 1) := by
    have key : ∀ (W : W_) (f x : Int), W.1 33 1 = w.1 33 1 → 0 ≤ f → f ≠ 1 → w_g (w_fs W f x) 34 ((w.1 33 1 - 1) * 13 + 1) = w_g W 34 ((w.1 33 1 - 1) * 13 + 1) := fun W f x e h0 h => by
      rw [f_t_fs' e h1.1 h0 (by decide), if_neg (Ne.symm h)]
    rw [key, key, key, key] <;> first | rfl | decide
  simp only [ww_S, ww_1, wr_0, wr_1, wr_2, wr_3, wr_4, wr_5, wr_6, wr_7, wr_8, wr_9, wr_10, wr_11, wr_12, wr_13, wr_14, wr_15, wr_16, wr_17, wr_18, wr_19, wr_20, wr_21, wr_22, wr_23, wr_24, wr_25, wr_26, wr_27, wr_28, wr_29, wr_30, wr_31, wr_32, wr_33, wr_34, wr_35, wr_36, wr_37, wr_38, wr_39, wr_40, wr_41, wr_42, wr_43, wr_44, wr_45, wr_46, wr_47, wr_48, wr_49, wr_50, wr_51, wr_52, wr_53, wr_54, wr_55, wr_56, wr_57, wr_58, wr_59, wr_60, wr_61, wr_62, wr_63, wr_64, wr_65, wr_66, wr_67, wr_68, wr_69, wr_70, wr_71, wr_72, wr_73, wr_74, wr_75, wr_76, wr_77, wr_78, wr_79, wr_80, wr_81, wr_82, wr_83, wr_84, wr_85, wr_86, wr_87, ww_v1, ww_v2, ww_v3, ww_v4, ww_g0, ww_gS, ww_t0, ww_tS, ww_s0, ww_sS, ww_s2, ww_w1, ww_w2, ww_w3, ww_b, ww_tg, ww_p1, ww_p2, ww_q0, ww_qS, ww_k1, ww_k2, ww_k3, ww_w0, ww_wS, ww_i1, ww_i2, ww_f0, ww_f1, ww_f2, ww_f4, ww_fd, ww_cl, ww_mc, ww_tk, ww_ci, ww_ak, ww_gv, ww_g1, ww_kcs, w_f1, w_f2, w_a1, w_a2, w_u_at, dm_122, List.elem_nil, List.elem_cons, List.map_nil, List.map_cons, List.sum_nil, List.sum_cons, Option.toList_none, Option.toList_some, List.nil_append, List.cons_append, true_and, and_true, implies_true, false_implies, if_true, if_false, reduceIte, reduceCtorEq, Bool.false_eq_true, Bool.and_false, Bool.false_and, Bool.and_self, Bool.and_true, Bool.true_and, Nat.reduceAdd, Nat.reduceBEq, Nat.reduceEqDiff, Nat.reduceLT, Nat.reduceLeDiff, Int.reduceAdd, Int.reduceNeg, Int.reduceToNat, Int.reduceLE, Int.reduceLT, Int.reduceSub, Int.cast_ofNat_Int, Int.reduceNatCast', Int.reduceNatCast, Nat.zero_add, Int.zero_add, and_self, false_and, and_false, or_false, false_or, true_or, or_true, not_true_eq_false, not_false_eq_true, at_11p, at_12p, at_13, at_14s, at_18, ctL_c, ctL_n, w_fs1, w_h_fs, e1, h0]
  (repeat' (first | (with_reducible assumption) | (with_reducible exact trivial) | refine And.intro ?_ ?_ | intro _)) <;> first | (with_reducible assumption) | omega | (unfold am_rg; omega) | (with_reducible rfl) | (exfalso; omega) | skip
set_option maxRecDepth 100000 in
set_option maxHeartbeats 1000000 in
theorem lk_122b {w : W_} (h0 : f_t w 2 = 1) (h1 : 1 ≤ w.1 33 1 ∧ w.1 33 1 < 24000) : ww_Ct 122 4 [.inr (.inr (.inl 50))] w fun r w' => r = none ∧ w' = w_po (w_f (w_f (w_f w 50 9 (f_t w 3)) 50 10 (f_t w 4)) 50 7 (f_t w 5)) := by
  refine of_122 (ww_go (ctL_cons ok_11 (ctL_cons ok_12 (ctL_cons ok_13 (ctL_cons ok_14 (ctL_cons ok_18 ctL_nil))))) 200 [] ?_)
  simp only [ww_S, ww_1, wr_0, wr_1, wr_2, wr_3, wr_4, wr_5, wr_6, wr_7, wr_8, wr_9, wr_10, wr_11, wr_12, wr_13, wr_14, wr_15, wr_16, wr_17, wr_18, wr_19, wr_20, wr_21, wr_22, wr_23, wr_24, wr_25, wr_26, wr_27, wr_28, wr_29, wr_30, wr_31, wr_32, wr_33, wr_34, wr_35, wr_36, wr_37, wr_38, wr_39, wr_40, wr_41, wr_42, wr_43, wr_44, wr_45, wr_46, wr_47, wr_48, wr_49, wr_50, wr_51, wr_52, wr_53, wr_54, wr_55, wr_56, wr_57, wr_58, wr_59, wr_60, wr_61, wr_62, wr_63, wr_64, wr_65, wr_66, wr_67, wr_68, wr_69, wr_70, wr_71, wr_72, wr_73, wr_74, wr_75, wr_76, wr_77, wr_78, wr_79, wr_80, wr_81, wr_82, wr_83, wr_84, wr_85, wr_86, wr_87, ww_v1, ww_v2, ww_v3, ww_v4, ww_g0, ww_gS, ww_t0, ww_tS, ww_s0, ww_sS, ww_s2, ww_w1, ww_w2, ww_w3, ww_b, ww_tg, ww_p1, ww_p2, ww_q0, ww_qS, ww_k1, ww_k2, ww_k3, ww_w0, ww_wS, ww_i1, ww_i2, ww_f0, ww_f1, ww_f2, ww_f4, ww_fd, ww_cl, ww_mc, ww_tk, ww_ci, ww_ak, ww_gv, ww_g1, ww_kcs, w_f1, w_f2, w_a1, w_a2, w_u_at, dm_122, List.elem_nil, List.elem_cons, List.map_nil, List.map_cons, List.sum_nil, List.sum_cons, Option.toList_none, Option.toList_some, List.nil_append, List.cons_append, true_and, and_true, implies_true, false_implies, if_true, if_false, reduceIte, reduceCtorEq, Bool.false_eq_true, Bool.and_false, Bool.false_and, Bool.and_self, Bool.and_true, Bool.true_and, Nat.reduceAdd, Nat.reduceBEq, Nat.reduceEqDiff, Nat.reduceLT, Nat.reduceLeDiff, Int.reduceAdd, Int.reduceNeg, Int.reduceToNat, Int.reduceLE, Int.reduceLT, Int.reduceSub, Int.cast_ofNat_Int, Int.reduceNatCast', Int.reduceNatCast, Nat.zero_add, Int.zero_add, and_self, false_and, and_false, or_false, false_or, true_or, or_true, not_true_eq_false, not_false_eq_true, at_11p, at_12p, at_13, at_14s, at_18, ctL_c, ctL_n, w_fs1, w_h_fs, h0, w_g_f]
  (repeat' (first | (with_reducible assumption) | (with_reducible exact trivial) | refine And.intro ?_ ?_ | intro _)) <;> first | (with_reducible assumption) | omega | (unfold am_rg; omega) | (with_reducible rfl) | (exfalso; omega) | skip
