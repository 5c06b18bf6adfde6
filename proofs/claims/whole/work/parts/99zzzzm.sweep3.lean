/-! ===== the sweep keeps the order of nodes ===== -/
/-- places grow with the nodes -/
def h_mo (first i : Int) (m : Nat → Int) (w' : W_) : Prop := ∀ k k' : Int, first ≤ k → k < k' → k' < i → m k.toNat = 1 → m k'.toNat = 1 → w'.2 14 k.toNat < w'.2 14 k'.toNat
theorem h_mo.zero {w' : W_} {first i : Int} {m : Nat → Int} (h : h_mo first i m w') (z : m i.toNat = 0) : h_mo first (i + 1) m w' := fun k k' q0 q1 q2 q3 q4 => by
  by_cases c : k' = i
  · rw [c, z] at q4; cases q4
  · exact h k k' q0 q1 (by omega) q3 q4
theorem h_mo.one {w w' : W_} {first i free : Int} {m : Nat → Int} (h : h_mo first i m w') (f0 : 0 ≤ first) (i0 : first ≤ i) (hI : h_mI w first m i free w') : h_mo first (i + 1) m (w_a (w_mv w' i free first 8) 14 i.toNat (free + 1)) := fun k k' q0 q1 q2 q3 q4 => by
  have e14 : ∀ k : Nat, (w_a (w_mv w' i free first 8) 14 i.toNat (free + 1)).2 14 k = if k = i.toNat then free + 1 else w'.2 14 k := by
    intro k
    show (if (14 : Nat) = 14 ∧ k = i.toNat then free + 1 else (w_mv w' i free first 8).2 14 k) = _
    have e : (w_mv w' i free first 8).2 14 k = w'.2 14 k := by
      unfold w_mv
      dsimp only
      rw [if_neg (by omega)]
    rw [e]
    by_cases c : k = i.toNat
    · rw [if_pos c, if_pos ⟨rfl, c⟩]
    · rw [if_neg c, if_neg (fun q => c q.2)]
  rw [e14, e14, if_neg (by omega)]
  by_cases c : k' = i
  · rw [if_pos (by omega)]
    rcases hI.2.2.2.1 k q0 (by omega) with g | ⟨g1, g2, g3⟩
    · rw [g.1] at q3; cases q3
    · omega
  · rw [if_neg (by omega)]
    exact h k k' q0 q1 (by omega) q3 q4
set_option maxRecDepth 100000 in
set_option maxHeartbeats 4000000 in
theorem z34_105m {w w0 : W_} {first : Int} {m : Nat → Int} {Q : Option am_V → W_ → Prop} (hp : h_pre w first) (hm : h_mf w first m) (h0 : h_mI w first m first first w0)
    (K : ∀ free w', h_mI w first m (w.1 13 2) free w' → h_mo first (w.1 13 2) m w' → ww_Z 2 5 4 0 cX2_sweep none Q 153 [.inr (.inr (.inl 13)), .inl first, .inr (.inr (.inl 10)), .inl free, .inl (w.1 13 2)] [] w') :
    ww_Z 2 5 4 0 cX2_sweep none Q 105 [.inr (.inr (.inl 13)), .inl first, .inr (.inr (.inl 10)), .inl first, .inl first] [] w0 := by
  obtain ⟨⟨a0, a1, a2⟩, ⟨b0, b1⟩, hr, hc⟩ := hp
  refine ww_loop (P := fun n ls w' => ∃ (i free : Int), (first ≤ i ∧ i ≤ w.1 13 2) ∧ n = (w.1 13 2 - i).toNat ∧ (h_mI w first m i free w' ∧ h_mo first i m w') ∧ ls = [.inr (.inr (.inl 13)), .inl first, .inr (.inr (.inl 10)), .inl free, .inl i]) ?_ (w.1 13 2 - first).toNat _ _ ⟨first, first, ⟨by omega, by omega⟩, rfl, ⟨h0, fun k k' q0 q1 q2 => absurd q2 (by omega)⟩, rfl⟩
  rintro n ls w' ⟨i, free, ⟨i0, i1⟩, hn, ⟨hI, hO⟩, rfl⟩ ih
  have hI' := hI
  obtain ⟨h1, h2, h3, h4, h5, h6, h7⟩ := hI'
  have e132 : w'.1 13 2 = w.1 13 2 := by rw [h1]
  refine ww_go1 (ctL_cons ok_37 (ctL_cons ok_68 (ctL_cons ok_69 ctL_nil))) 100 [105, 153] ?_
  simp only [ww_S, ww_1, wr_0, wr_1, wr_2, wr_3, wr_4, wr_5, wr_6, wr_7, wr_8, wr_9, wr_10, wr_11, wr_12, wr_13, wr_14, wr_15, wr_16, wr_17, wr_18, wr_19, wr_20, wr_21, wr_22, wr_23, wr_24, wr_25, wr_26, wr_27, wr_28, wr_29, wr_30, wr_31, wr_32, wr_33, wr_34, wr_35, wr_36, wr_37, wr_38, wr_39, wr_40, wr_41, wr_42, wr_43, wr_44, wr_45, wr_46, wr_47, wr_48, wr_49, wr_50, wr_51, wr_52, wr_53, wr_54, wr_55, wr_56, wr_57, wr_58, wr_59, wr_60, wr_61, wr_62, wr_63, wr_64, wr_65, wr_66, wr_67, wr_68, wr_69, wr_70, wr_71, wr_72, wr_73, wr_74, wr_75, wr_76, wr_77, wr_78, wr_79, wr_80, wr_81, wr_82, wr_83, wr_84, wr_85, wr_86, wr_87, ww_v1, ww_v2, ww_v3, ww_v4, ww_g0, ww_gS, ww_t0, ww_tS, ww_s0, ww_sS, ww_s2, ww_w1, ww_w2, ww_w3, ww_b, ww_tg, ww_p1, ww_p2, ww_q0, ww_qS, ww_k1, ww_k2, ww_k3, ww_w0, ww_wS, ww_i1, ww_i2, ww_f0, ww_f1, ww_f2, ww_f4, ww_fd, ww_cl, ww_mc, ww_tk, ww_ci, ww_ak, ww_gv, ww_g1, ww_kcs, w_f1, w_f2, w_a1, w_a2, w_u_at, dm_34, List.elem_nil, List.elem_cons, List.map_nil, List.map_cons, List.sum_nil, List.sum_cons, Option.toList_none, Option.toList_some, List.nil_append, List.cons_append, true_and, and_true, implies_true, false_implies, if_true, if_false, reduceIte, reduceCtorEq, Bool.false_eq_true, Bool.and_false, Bool.false_and, Bool.and_self, Bool.and_true, Bool.true_and, Nat.reduceAdd, Nat.reduceBEq, Nat.reduceEqDiff, Nat.reduceLT, Nat.reduceLeDiff, Int.reduceAdd, Int.reduceNeg, Int.reduceToNat, Int.reduceLE, Int.reduceLT, Int.reduceSub, Int.cast_ofNat_Int, Int.reduceNatCast', Int.reduceNatCast, Nat.zero_add, Int.zero_add, and_self, false_and, and_false, or_false, false_or, true_or, or_true, not_true_eq_false, not_false_eq_true, at_37, at_68, at_69, ctL_c, ctL_n, w_isRs, w_bds, e132]
  have hh : ∀ k : Int, 0 ≤ k → w.2 13 (8 * k + 1).toNat = w_h w (30000 + k) 1 ∧ w.2 13 (8 * k + 2).toNat = w_h w (30000 + k) 2 := by
    intro k k0
    unfold w_h
    have e1 : ((30000 + k - 30000) * 8 + ((1 : Nat) : Int)).toNat = (8 * k + 1).toNat := by omega
    have e2 : ((30000 + k - 30000) * 8 + ((2 : Nat) : Int)).toNat = (8 * k + 2).toNat := by omega
    rw [if_neg (by omega), if_neg (by omega), e1, e2]
    exact ⟨rfl, rfl⟩
  refine ⟨⟨by omega, by omega⟩, ⟨by omega, by omega⟩, fun q => ?_, fun q => ⟨⟨by omega, by omega⟩, ?_⟩⟩
  · have e : i = w.1 13 2 := by omega
    subst e
    exact K free w' hI hO
  · have e14 : w_g w' 14 i = m i.toNat := by
      rw [w_g_pos (by omega), h5 i i0 (Int.le_refl _)]
    have hm1 := hm i i0 (by omega)
    rw [e14]
    refine ⟨?_, fun q0 => ?_, fun q0 => ?_⟩
    · rcases hm1 with e | e
      · rw [e]
        exact ⟨by decide, by decide⟩
      · rw [e.1]
        exact ⟨by decide, by decide⟩
    · exact ih (w.1 13 2 - (i + 1)).toNat _ _ (by omega) ⟨i + 1, free, ⟨by omega, by omega⟩, rfl, ⟨hI.zero a0 q0, hO.zero q0⟩, rfl⟩
    · have hm2 : m i.toNat = 1 := by
        rcases hm1 with e | e
        · exact absurd e q0
        · exact e.1
      have hci := hc i (by omega) (by omega)
      have hhi := hh i (by omega)
      obtain ⟨⟨l0, l1⟩, l2, l3⟩ := hci
      rw [h6 _ (Or.inr (by omega)), h6 _ (Or.inr (by omega)), hhi.1, hhi.2]
      refine ⟨⟨by omega, by omega, by omega, by omega, by omega, by omega, ⟨l0, by omega⟩, l2, by omega⟩, ?_⟩
      have hone := hI.one a0 hm2 (fun k k0 k1 f hf => by
        have hk := hh k (by omega)
        have hck := hc k (by omega) (by omega)
        rcases hf with rfl | rfl
        · rw [hk.1]
          exact hck.1.2
        · rw [hk.2]
          exact hck.2.2)
      refine ⟨⟨by omega, by omega⟩, ?_⟩
      exact ih (w.1 13 2 - (i + 1)).toNat _ _ (by omega) ⟨i + 1, free + 1, ⟨by omega, by omega⟩, rfl, ⟨hone, hO.one a0 i0 hI⟩, rfl⟩
/-- behind the sweep -/
def h_sw2 (w : W_) (first : Int) (w' : W_) : Prop := ∃ (free : Int) (m : Nat → Int),
  w'.1 = (w_f (w_f w 13 2 free) 13 3 free).1 ∧ (∀ b : Nat, b ≠ 11 → b ≠ 13 → b ≠ 14 → w'.2 b = w.2 b) ∧ (first ≤ free ∧ free ≤ w.1 13 2) ∧
  (∀ k : Nat, w'.2 11 k = if k % 61 = 2 ∧ ((k / 61 : Nat) : Int) < w.1 10 1 then h_mvd w' first (w.2 11 k) else w.2 11 k) ∧
  (∀ k : Int, first ≤ k → k < w.1 13 2 → h_pl w first m w' free k) ∧
  (∀ k : Nat, (k : Int) < 8 * first → w'.2 13 k = w.2 13 k) ∧
  (∀ p : Int, first ≤ p → p < free → ∃ k : Int, (first ≤ k ∧ k < w.1 13 2) ∧ m k.toNat = 1 ∧ w'.2 14 k.toNat = p + 1) ∧
  h_mf w first m ∧ h_mR w first m (w.1 10 1) ∧ h_mC w first m (first - 1) ∧ h_mo first (w.1 13 2) m w'
set_option maxRecDepth 100000 in
set_option maxHeartbeats 4000000 in
theorem lk_34m {w : W_} {first : Int} (hp : h_pre w first) : ww_Ct 34 4 [.inr (.inr (.inl 13)), .inl first, .inr (.inr (.inl 10))] w fun r w' => r = none ∧ h_sw2 w first w' := by
  have hp' := hp
  obtain ⟨⟨a0, a1, a2⟩, ⟨b0, b1⟩, hr, hc⟩ := hp'
  refine of_34 (ww_go (ctL_cons ok_70 ctL_nil) 100 [17] ?_)
  simp only [ww_S, ww_1, wr_0, wr_1, wr_2, wr_3, wr_4, wr_5, wr_6, wr_7, wr_8, wr_9, wr_10, wr_11, wr_12, wr_13, wr_14, wr_15, wr_16, wr_17, wr_18, wr_19, wr_20, wr_21, wr_22, wr_23, wr_24, wr_25, wr_26, wr_27, wr_28, wr_29, wr_30, wr_31, wr_32, wr_33, wr_34, wr_35, wr_36, wr_37, wr_38, wr_39, wr_40, wr_41, wr_42, wr_43, wr_44, wr_45, wr_46, wr_47, wr_48, wr_49, wr_50, wr_51, wr_52, wr_53, wr_54, wr_55, wr_56, wr_57, wr_58, wr_59, wr_60, wr_61, wr_62, wr_63, wr_64, wr_65, wr_66, wr_67, wr_68, wr_69, wr_70, wr_71, wr_72, wr_73, wr_74, wr_75, wr_76, wr_77, wr_78, wr_79, wr_80, wr_81, wr_82, wr_83, wr_84, wr_85, wr_86, wr_87, ww_v1, ww_v2, ww_v3, ww_v4, ww_g0, ww_gS, ww_t0, ww_tS, ww_s0, ww_sS, ww_s2, ww_w1, ww_w2, ww_w3, ww_b, ww_tg, ww_p1, ww_p2, ww_q0, ww_qS, ww_k1, ww_k2, ww_k3, ww_w0, ww_wS, ww_i1, ww_i2, ww_f0, ww_f1, ww_f2, ww_f4, ww_fd, ww_cl, ww_mc, ww_tk, ww_ci, ww_ak, ww_gv, ww_g1, ww_kcs, w_f1, w_f2, w_a1, w_a2, w_u_at, dm_34, List.elem_nil, List.elem_cons, List.map_nil, List.map_cons, List.sum_nil, List.sum_cons, Option.toList_none, Option.toList_some, List.nil_append, List.cons_append, true_and, and_true, implies_true, false_implies, if_true, if_false, reduceIte, reduceCtorEq, Bool.false_eq_true, Bool.and_false, Bool.false_and, Bool.and_self, Bool.and_true, Bool.true_and, Nat.reduceAdd, Nat.reduceBEq, Nat.reduceEqDiff, Nat.reduceLT, Nat.reduceLeDiff, Int.reduceAdd, Int.reduceNeg, Int.reduceToNat, Int.reduceLE, Int.reduceLT, Int.reduceSub, Int.cast_ofNat_Int, Int.reduceNatCast', Int.reduceNatCast, Nat.zero_add, Int.zero_add, and_self, false_and, and_false, or_false, false_or, true_or, or_true, not_true_eq_false, not_false_eq_true, at_70, ctL_c, ctL_n, w_isRs, w_bds, w_r_fill]
  refine ⟨⟨by omega, by omega, by omega⟩, ?_⟩
  refine z34_17 hp rfl (fun k k0 k1 => Or.inl (if_pos (by omega))) fun m1 hm1 hR1 => ?_
  refine ww_go1 (ctL_cons ok_70 ctL_nil) 100 [48] ?_
  simp only [ww_S, ww_1, wr_0, wr_1, wr_2, wr_3, wr_4, wr_5, wr_6, wr_7, wr_8, wr_9, wr_10, wr_11, wr_12, wr_13, wr_14, wr_15, wr_16, wr_17, wr_18, wr_19, wr_20, wr_21, wr_22, wr_23, wr_24, wr_25, wr_26, wr_27, wr_28, wr_29, wr_30, wr_31, wr_32, wr_33, wr_34, wr_35, wr_36, wr_37, wr_38, wr_39, wr_40, wr_41, wr_42, wr_43, wr_44, wr_45, wr_46, wr_47, wr_48, wr_49, wr_50, wr_51, wr_52, wr_53, wr_54, wr_55, wr_56, wr_57, wr_58, wr_59, wr_60, wr_61, wr_62, wr_63, wr_64, wr_65, wr_66, wr_67, wr_68, wr_69, wr_70, wr_71, wr_72, wr_73, wr_74, wr_75, wr_76, wr_77, wr_78, wr_79, wr_80, wr_81, wr_82, wr_83, wr_84, wr_85, wr_86, wr_87, ww_v1, ww_v2, ww_v3, ww_v4, ww_g0, ww_gS, ww_t0, ww_tS, ww_s0, ww_sS, ww_s2, ww_w1, ww_w2, ww_w3, ww_b, ww_tg, ww_p1, ww_p2, ww_q0, ww_qS, ww_k1, ww_k2, ww_k3, ww_w0, ww_wS, ww_i1, ww_i2, ww_f0, ww_f1, ww_f2, ww_f4, ww_fd, ww_cl, ww_mc, ww_tk, ww_ci, ww_ak, ww_gv, ww_g1, ww_kcs, w_f1, w_f2, w_a1, w_a2, w_u_at, dm_34, List.elem_nil, List.elem_cons, List.map_nil, List.map_cons, List.sum_nil, List.sum_cons, Option.toList_none, Option.toList_some, List.nil_append, List.cons_append, true_and, and_true, implies_true, false_implies, if_true, if_false, reduceIte, reduceCtorEq, Bool.false_eq_true, Bool.and_false, Bool.false_and, Bool.and_self, Bool.and_true, Bool.true_and, Nat.reduceAdd, Nat.reduceBEq, Nat.reduceEqDiff, Nat.reduceLT, Nat.reduceLeDiff, Int.reduceAdd, Int.reduceNeg, Int.reduceToNat, Int.reduceLE, Int.reduceLT, Int.reduceSub, Int.cast_ofNat_Int, Int.reduceNatCast', Int.reduceNatCast, Nat.zero_add, Int.zero_add, and_self, false_and, and_false, or_false, false_or, true_or, or_true, not_true_eq_false, not_false_eq_true, at_70, ctL_c, ctL_n, w_r1]
  refine z34_48 hp rfl hm1 hR1 fun m hm hR hC => ?_
  refine ww_go1 (ctL_cons ok_70 ctL_nil) 100 [105] ?_
  simp only [ww_S, ww_1, wr_0, wr_1, wr_2, wr_3, wr_4, wr_5, wr_6, wr_7, wr_8, wr_9, wr_10, wr_11, wr_12, wr_13, wr_14, wr_15, wr_16, wr_17, wr_18, wr_19, wr_20, wr_21, wr_22, wr_23, wr_24, wr_25, wr_26, wr_27, wr_28, wr_29, wr_30, wr_31, wr_32, wr_33, wr_34, wr_35, wr_36, wr_37, wr_38, wr_39, wr_40, wr_41, wr_42, wr_43, wr_44, wr_45, wr_46, wr_47, wr_48, wr_49, wr_50, wr_51, wr_52, wr_53, wr_54, wr_55, wr_56, wr_57, wr_58, wr_59, wr_60, wr_61, wr_62, wr_63, wr_64, wr_65, wr_66, wr_67, wr_68, wr_69, wr_70, wr_71, wr_72, wr_73, wr_74, wr_75, wr_76, wr_77, wr_78, wr_79, wr_80, wr_81, wr_82, wr_83, wr_84, wr_85, wr_86, wr_87, ww_v1, ww_v2, ww_v3, ww_v4, ww_g0, ww_gS, ww_t0, ww_tS, ww_s0, ww_sS, ww_s2, ww_w1, ww_w2, ww_w3, ww_b, ww_tg, ww_p1, ww_p2, ww_q0, ww_qS, ww_k1, ww_k2, ww_k3, ww_w0, ww_wS, ww_i1, ww_i2, ww_f0, ww_f1, ww_f2, ww_f4, ww_fd, ww_cl, ww_mc, ww_tk, ww_ci, ww_ak, ww_gv, ww_g1, ww_kcs, w_f1, w_f2, w_a1, w_a2, w_u_at, dm_34, List.elem_nil, List.elem_cons, List.map_nil, List.map_cons, List.sum_nil, List.sum_cons, Option.toList_none, Option.toList_some, List.nil_append, List.cons_append, true_and, and_true, implies_true, false_implies, if_true, if_false, reduceIte, reduceCtorEq, Bool.false_eq_true, Bool.and_false, Bool.false_and, Bool.and_self, Bool.and_true, Bool.true_and, Nat.reduceAdd, Nat.reduceBEq, Nat.reduceEqDiff, Nat.reduceLT, Nat.reduceLeDiff, Int.reduceAdd, Int.reduceNeg, Int.reduceToNat, Int.reduceLE, Int.reduceLT, Int.reduceSub, Int.cast_ofNat_Int, Int.reduceNatCast', Int.reduceNatCast, Nat.zero_add, Int.zero_add, and_self, false_and, and_false, or_false, false_or, true_or, or_true, not_true_eq_false, not_false_eq_true, at_70, ctL_c, ctL_n, w_r1]
  refine z34_105m hp hm ⟨rfl, fun b b1 b2 => w_r2 w m b2, ⟨Int.le_refl _, Int.le_refl _⟩, fun k k0 k1 => by omega, fun k k0 k1 => rfl, fun k _ => by rw [w_r2 w m (by decide)], fun p p0 p1 => by omega⟩ fun free w2 hI hO => ?_
  obtain ⟨h1, h2, h3, h4, h5, h6, h7⟩ := hI
  have e11 : w2.2 11 = w.2 11 := h2 11 (by decide) (by decide)
  have eg : ∀ k, w_g w2 11 k = w_g w 11 k := fun k => by
    unfold w_g
    rw [e11]
  have emv : ∀ x, h_mvd (w_f (w_f (w_rv w2 first (w2.1 10 1)) 13 2 free) 13 3 free) first x = h_mvd w2 first x := fun x => w_rv_mvd w2 first (w2.1 10 1) x
  have e14 : ∀ k, (w_f (w_f (w_rv w2 first (w2.1 10 1)) 13 2 free) 13 3 free).2 14 k = w2.2 14 k := fun k => w_rv_14 w2 first (w2.1 10 1) k
  have ene : ∀ (b : Nat), b ≠ 11 → ∀ k, (w_f (w_f (w_rv w2 first (w2.1 10 1)) 13 2 free) 13 3 free).2 b k = w2.2 b k := fun b hb k => by
    show (w_rv w2 first (w2.1 10 1)).2 b k = w2.2 b k
    unfold w_rv
    dsimp only
    rw [if_neg (fun q => hb q.1)]
  refine z34_153 a0 (by omega) (by rw [h1]; exact b0) (by rw [h1]; exact b1) (by rw [h1]; exact h3.2) (fun r r0 r1 => ?_) rfl ⟨rfl, free, m, ?_, fun b c1 c2 c3 => ?_, h3, fun k => ?_, fun k k0 k1 => ?_, fun k k0 => ?_, fun p p0 p1 => ?_, hm, hR, hC, fun k k' q0 q1 q2 q3 q4 => by rw [e14, e14]; exact hO k k' q0 q1 q2 q3 q4⟩
  · rw [h1] at r1
    rw [eg]
    have g := hr r r0 r1
    exact ⟨g.1, by omega⟩
  · show w_u (w_u w2.1 13 2 free) 13 3 free = w_u (w_u w.1 13 2 free) 13 3 free
    rw [h1]
  · funext k
    rw [ene b c1, h2 b c2 c3]
  · rw [emv, ← e11, ← h1]
    show (if (11 : Nat) = 11 ∧ k % 61 = 2 ∧ ((k / 61 : Nat) : Int) < w2.1 10 1 then h_mvd w2 first (w2.2 11 k) else w2.2 11 k) = _
    by_cases c : k % 61 = 2 ∧ ((k / 61 : Nat) : Int) < w2.1 10 1
    · rw [if_pos c, if_pos ⟨rfl, c⟩]
    · rw [if_neg c, if_neg (fun q => c q.2)]
  · rcases h4 k k0 k1 with g | ⟨g1, g2, g3⟩
    · exact Or.inl ⟨g.1, by rw [e14]; exact g.2⟩
    · refine Or.inr ⟨g1, by rw [e14]; exact g2, fun f f1 f2 => ?_⟩
      rw [e14, ene 13 (by decide), emv]
      exact g3 f f1 f2
  · rw [ene 13 (by decide)]
    exact h6 k (Or.inl k0)
  · obtain ⟨k, k0, k1, k2⟩ := h7 p p0 p1
    exact ⟨k, k0, k1, by rw [e14]; exact k2⟩
set_option maxRecDepth 100000 in
set_option maxHeartbeats 4000000 in
theorem lk_35m {w : W_} (hp : h_pre w (w.1 13 3)) : ww_Ct 35 5 [.inr (.inr (.inl 13)), .inr (.inr (.inl 10))] w fun r w' => r = none ∧ h_sw2 w (w.1 13 3) w' := by
  refine of_35 (ww_go (ctL_cons ok_70 ctL_nil) 100 [] ?_)
  simp only [ww_S, ww_1, wr_0, wr_1, wr_2, wr_3, wr_4, wr_5, wr_6, wr_7, wr_8, wr_9, wr_10, wr_11, wr_12, wr_13, wr_14, wr_15, wr_16, wr_17, wr_18, wr_19, wr_20, wr_21, wr_22, wr_23, wr_24, wr_25, wr_26, wr_27, wr_28, wr_29, wr_30, wr_31, wr_32, wr_33, wr_34, wr_35, wr_36, wr_37, wr_38, wr_39, wr_40, wr_41, wr_42, wr_43, wr_44, wr_45, wr_46, wr_47, wr_48, wr_49, wr_50, wr_51, wr_52, wr_53, wr_54, wr_55, wr_56, wr_57, wr_58, wr_59, wr_60, wr_61, wr_62, wr_63, wr_64, wr_65, wr_66, wr_67, wr_68, wr_69, wr_70, wr_71, wr_72, wr_73, wr_74, wr_75, wr_76, wr_77, wr_78, wr_79, wr_80, wr_81, wr_82, wr_83, wr_84, wr_85, wr_86, wr_87, ww_v1, ww_v2, ww_v3, ww_v4, ww_g0, ww_gS, ww_t0, ww_tS, ww_s0, ww_sS, ww_s2, ww_w1, ww_w2, ww_w3, ww_b, ww_tg, ww_p1, ww_p2, ww_q0, ww_qS, ww_k1, ww_k2, ww_k3, ww_w0, ww_wS, ww_i1, ww_i2, ww_f0, ww_f1, ww_f2, ww_f4, ww_fd, ww_cl, ww_mc, ww_tk, ww_ci, ww_ak, ww_gv, ww_g1, ww_kcs, w_f1, w_f2, w_a1, w_a2, w_u_at, dm_35, List.elem_nil, List.elem_cons, List.map_nil, List.map_cons, List.sum_nil, List.sum_cons, Option.toList_none, Option.toList_some, List.nil_append, List.cons_append, true_and, and_true, implies_true, false_implies, if_true, if_false, reduceIte, reduceCtorEq, Bool.false_eq_true, Bool.and_false, Bool.false_and, Bool.and_self, Bool.and_true, Bool.true_and, Nat.reduceAdd, Nat.reduceBEq, Nat.reduceEqDiff, Nat.reduceLT, Nat.reduceLeDiff, Int.reduceAdd, Int.reduceNeg, Int.reduceToNat, Int.reduceLE, Int.reduceLT, Int.reduceSub, Int.cast_ofNat_Int, Int.reduceNatCast', Int.reduceNatCast, Nat.zero_add, Int.zero_add, and_self, false_and, and_false, or_false, false_or, true_or, or_true, not_true_eq_false, not_false_eq_true, at_70, ctL_c, ctL_n]
  refine ww_Cn_of (lk_34m hp) (Nat.le_refl _) ?_
  rintro r w' ⟨rfl, h⟩
  refine ww_go1 (ctL_cons ok_70 ctL_nil) 100 [] ?_
  simp only [ww_S, ww_1, wr_0, wr_1, wr_2, wr_3, wr_4, wr_5, wr_6, wr_7, wr_8, wr_9, wr_10, wr_11, wr_12, wr_13, wr_14, wr_15, wr_16, wr_17, wr_18, wr_19, wr_20, wr_21, wr_22, wr_23, wr_24, wr_25, wr_26, wr_27, wr_28, wr_29, wr_30, wr_31, wr_32, wr_33, wr_34, wr_35, wr_36, wr_37, wr_38, wr_39, wr_40, wr_41, wr_42, wr_43, wr_44, wr_45, wr_46, wr_47, wr_48, wr_49, wr_50, wr_51, wr_52, wr_53, wr_54, wr_55, wr_56, wr_57, wr_58, wr_59, wr_60, wr_61, wr_62, wr_63, wr_64, wr_65, wr_66, wr_67, wr_68, wr_69, wr_70, wr_71, wr_72, wr_73, wr_74, wr_75, wr_76, wr_77, wr_78, wr_79, wr_80, wr_81, wr_82, wr_83, wr_84, wr_85, wr_86, wr_87, ww_v1, ww_v2, ww_v3, ww_v4, ww_g0, ww_gS, ww_t0, ww_tS, ww_s0, ww_sS, ww_s2, ww_w1, ww_w2, ww_w3, ww_b, ww_tg, ww_p1, ww_p2, ww_q0, ww_qS, ww_k1, ww_k2, ww_k3, ww_w0, ww_wS, ww_i1, ww_i2, ww_f0, ww_f1, ww_f2, ww_f4, ww_fd, ww_cl, ww_mc, ww_tk, ww_ci, ww_ak, ww_gv, ww_g1, ww_kcs, w_f1, w_f2, w_a1, w_a2, w_u_at, dm_35, List.elem_nil, List.elem_cons, List.map_nil, List.map_cons, List.sum_nil, List.sum_cons, Option.toList_none, Option.toList_some, List.nil_append, List.cons_append, true_and, and_true, implies_true, false_implies, if_true, if_false, reduceIte, reduceCtorEq, Bool.false_eq_true, Bool.and_false, Bool.false_and, Bool.and_self, Bool.and_true, Bool.true_and, Nat.reduceAdd, Nat.reduceBEq, Nat.reduceEqDiff, Nat.reduceLT, Nat.reduceLeDiff, Int.reduceAdd, Int.reduceNeg, Int.reduceToNat, Int.reduceLE, Int.reduceLT, Int.reduceSub, Int.cast_ofNat_Int, Int.reduceNatCast', Int.reduceNatCast, Nat.zero_add, Int.zero_add, and_self, false_and, and_false, or_false, false_or, true_or, or_true, not_true_eq_false, not_false_eq_true, at_70, ctL_c, ctL_n, Option.toList, List.nil_append]
  exact h
set_option maxRecDepth 100000 in
set_option maxHeartbeats 4000000 in
theorem lk_58m {w : W_} {file : Int} (f0 : 0 ≤ file) (f1 : file < 3) (hp : h_pre w 0) (hr : ∀ r : Nat, (r : Int) < w.1 10 1 → 0 ≤ w.2 11 (61 * r) ∧ w.2 11 (61 * r) < 180) : ww_Ct 58 5 [.inr (.inr (.inl 9)), .inl file] w fun r w' => r = none ∧ ∃ w1, k_I w file (w.1 10 1).toNat w1 ∧ (if (k_n w file (w.1 10 1).toNat : Int) < w.1 10 1 then h_sw2 w1 0 w' else w' = w1) := by
  refine of_58 (ww_go (ctL_cons ok_70 ctL_nil) 100 [] ?_)
  simp only [ww_S, ww_1, wr_0, wr_1, wr_2, wr_3, wr_4, wr_5, wr_6, wr_7, wr_8, wr_9, wr_10, wr_11, wr_12, wr_13, wr_14, wr_15, wr_16, wr_17, wr_18, wr_19, wr_20, wr_21, wr_22, wr_23, wr_24, wr_25, wr_26, wr_27, wr_28, wr_29, wr_30, wr_31, wr_32, wr_33, wr_34, wr_35, wr_36, wr_37, wr_38, wr_39, wr_40, wr_41, wr_42, wr_43, wr_44, wr_45, wr_46, wr_47, wr_48, wr_49, wr_50, wr_51, wr_52, wr_53, wr_54, wr_55, wr_56, wr_57, wr_58, wr_59, wr_60, wr_61, wr_62, wr_63, wr_64, wr_65, wr_66, wr_67, wr_68, wr_69, wr_70, wr_71, wr_72, wr_73, wr_74, wr_75, wr_76, wr_77, wr_78, wr_79, wr_80, wr_81, wr_82, wr_83, wr_84, wr_85, wr_86, wr_87, ww_v1, ww_v2, ww_v3, ww_v4, ww_g0, ww_gS, ww_t0, ww_tS, ww_s0, ww_sS, ww_s2, ww_w1, ww_w2, ww_w3, ww_b, ww_tg, ww_p1, ww_p2, ww_q0, ww_qS, ww_k1, ww_k2, ww_k3, ww_w0, ww_wS, ww_i1, ww_i2, ww_f0, ww_f1, ww_f2, ww_f4, ww_fd, ww_cl, ww_mc, ww_tk, ww_ci, ww_ak, ww_gv, ww_g1, ww_kcs, w_f1, w_f2, w_a1, w_a2, w_u_at, dm_58, List.elem_nil, List.elem_cons, List.map_nil, List.map_cons, List.sum_nil, List.sum_cons, Option.toList_none, Option.toList_some, List.nil_append, List.cons_append, true_and, and_true, implies_true, false_implies, if_true, if_false, reduceIte, reduceCtorEq, Bool.false_eq_true, Bool.and_false, Bool.false_and, Bool.and_self, Bool.and_true, Bool.true_and, Nat.reduceAdd, Nat.reduceBEq, Nat.reduceEqDiff, Nat.reduceLT, Nat.reduceLeDiff, Int.reduceAdd, Int.reduceNeg, Int.reduceToNat, Int.reduceLE, Int.reduceLT, Int.reduceSub, Int.cast_ofNat_Int, Int.reduceNatCast', Int.reduceNatCast, Nat.zero_add, Int.zero_add, and_self, false_and, and_false, or_false, false_or, true_or, or_true, not_true_eq_false, not_false_eq_true, at_70, ctL_c, ctL_n]
  refine ww_Cn_of (lk_54 f0 f1 hp.2.1.1 hp.2.1.2 hr) (by omega) ?_
  rintro r w1 ⟨rfl, hI⟩
  refine ww_go1 (ctL_cons ok_70 ctL_nil) 100 [] ?_
  simp only [ww_S, ww_1, wr_0, wr_1, wr_2, wr_3, wr_4, wr_5, wr_6, wr_7, wr_8, wr_9, wr_10, wr_11, wr_12, wr_13, wr_14, wr_15, wr_16, wr_17, wr_18, wr_19, wr_20, wr_21, wr_22, wr_23, wr_24, wr_25, wr_26, wr_27, wr_28, wr_29, wr_30, wr_31, wr_32, wr_33, wr_34, wr_35, wr_36, wr_37, wr_38, wr_39, wr_40, wr_41, wr_42, wr_43, wr_44, wr_45, wr_46, wr_47, wr_48, wr_49, wr_50, wr_51, wr_52, wr_53, wr_54, wr_55, wr_56, wr_57, wr_58, wr_59, wr_60, wr_61, wr_62, wr_63, wr_64, wr_65, wr_66, wr_67, wr_68, wr_69, wr_70, wr_71, wr_72, wr_73, wr_74, wr_75, wr_76, wr_77, wr_78, wr_79, wr_80, wr_81, wr_82, wr_83, wr_84, wr_85, wr_86, wr_87, ww_v1, ww_v2, ww_v3, ww_v4, ww_g0, ww_gS, ww_t0, ww_tS, ww_s0, ww_sS, ww_s2, ww_w1, ww_w2, ww_w3, ww_b, ww_tg, ww_p1, ww_p2, ww_q0, ww_qS, ww_k1, ww_k2, ww_k3, ww_w0, ww_wS, ww_i1, ww_i2, ww_f0, ww_f1, ww_f2, ww_f4, ww_fd, ww_cl, ww_mc, ww_tk, ww_ci, ww_ak, ww_gv, ww_g1, ww_kcs, w_f1, w_f2, w_a1, w_a2, w_u_at, dm_58, List.elem_nil, List.elem_cons, List.map_nil, List.map_cons, List.sum_nil, List.sum_cons, Option.toList_none, Option.toList_some, List.nil_append, List.cons_append, true_and, and_true, implies_true, false_implies, if_true, if_false, reduceIte, reduceCtorEq, Bool.false_eq_true, Bool.and_false, Bool.false_and, Bool.and_self, Bool.and_true, Bool.true_and, Nat.reduceAdd, Nat.reduceBEq, Nat.reduceEqDiff, Nat.reduceLT, Nat.reduceLeDiff, Int.reduceAdd, Int.reduceNeg, Int.reduceToNat, Int.reduceLE, Int.reduceLT, Int.reduceSub, Int.cast_ofNat_Int, Int.reduceNatCast', Int.reduceNatCast, Nat.zero_add, Int.zero_add, and_self, false_and, and_false, or_false, false_or, true_or, or_true, not_true_eq_false, not_false_eq_true, at_70, ctL_c, ctL_n, Option.toList, List.nil_append, List.cons_append]
  by_cases c : (k_n w file (w.1 10 1).toNat : Int) < w.1 10 1
  · rw [if_pos c]
    refine ⟨⟨by decide, by decide⟩, fun q => absurd q (by decide), fun _ => ?_⟩
    refine ww_Cn_of (lk_34m (hI.pre hp)) (Nat.le_refl _) ?_
    rintro r w2 ⟨rfl, h⟩
    refine ww_go1 (ctL_cons ok_70 ctL_nil) 100 [] ?_
    simp only [ww_S, ww_1, wr_0, wr_1, wr_2, wr_3, wr_4, wr_5, wr_6, wr_7, wr_8, wr_9, wr_10, wr_11, wr_12, wr_13, wr_14, wr_15, wr_16, wr_17, wr_18, wr_19, wr_20, wr_21, wr_22, wr_23, wr_24, wr_25, wr_26, wr_27, wr_28, wr_29, wr_30, wr_31, wr_32, wr_33, wr_34, wr_35, wr_36, wr_37, wr_38, wr_39, wr_40, wr_41, wr_42, wr_43, wr_44, wr_45, wr_46, wr_47, wr_48, wr_49, wr_50, wr_51, wr_52, wr_53, wr_54, wr_55, wr_56, wr_57, wr_58, wr_59, wr_60, wr_61, wr_62, wr_63, wr_64, wr_65, wr_66, wr_67, wr_68, wr_69, wr_70, wr_71, wr_72, wr_73, wr_74, wr_75, wr_76, wr_77, wr_78, wr_79, wr_80, wr_81, wr_82, wr_83, wr_84, wr_85, wr_86, wr_87, ww_v1, ww_v2, ww_v3, ww_v4, ww_g0, ww_gS, ww_t0, ww_tS, ww_s0, ww_sS, ww_s2, ww_w1, ww_w2, ww_w3, ww_b, ww_tg, ww_p1, ww_p2, ww_q0, ww_qS, ww_k1, ww_k2, ww_k3, ww_w0, ww_wS, ww_i1, ww_i2, ww_f0, ww_f1, ww_f2, ww_f4, ww_fd, ww_cl, ww_mc, ww_tk, ww_ci, ww_ak, ww_gv, ww_g1, ww_kcs, w_f1, w_f2, w_a1, w_a2, w_u_at, dm_58, List.elem_nil, List.elem_cons, List.map_nil, List.map_cons, List.sum_nil, List.sum_cons, Option.toList_none, Option.toList_some, List.nil_append, List.cons_append, true_and, and_true, implies_true, false_implies, if_true, if_false, reduceIte, reduceCtorEq, Bool.false_eq_true, Bool.and_false, Bool.false_and, Bool.and_self, Bool.and_true, Bool.true_and, Nat.reduceAdd, Nat.reduceBEq, Nat.reduceEqDiff, Nat.reduceLT, Nat.reduceLeDiff, Int.reduceAdd, Int.reduceNeg, Int.reduceToNat, Int.reduceLE, Int.reduceLT, Int.reduceSub, Int.cast_ofNat_Int, Int.reduceNatCast', Int.reduceNatCast, Nat.zero_add, Int.zero_add, and_self, false_and, and_false, or_false, false_or, true_or, or_true, not_true_eq_false, not_false_eq_true, at_70, ctL_c, ctL_n, Option.toList, List.nil_append]
    exact ⟨w1, hI, by rw [if_pos c]; exact h⟩
  · rw [if_neg c]
    exact ⟨⟨by decide, by decide⟩, fun _ => ⟨w1, hI, by rw [if_neg c]⟩, fun q => absurd rfl q⟩
