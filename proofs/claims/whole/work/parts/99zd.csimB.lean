/-! ===== the class runs as the evaluator: what is broken, SET and SHOW without a block ===== -/
set_option maxRecDepth 100000 in
set_option maxHeartbeats 2000000 in
theorem lk_84f {x0 x1 : Int} {w : W_} (hk : x1 = 18 ∨ x1 = 19) (i0 : 0 ≤ x0 ∧ x0 < 1000) (hb : w_g w 37 (x0 * 9 + 6) ≠ 0) (hr : am_rg (w_g w 37 (x0 * 9 + 6))) (h1 : 0 ≤ w.1 33 1 ∧ w.1 33 1 < 24000) : ww_Ct 84 5 [.inr (.inr (.inl 41)), .inl x0, .inl x1] w fun r w' => r = none ∧ w' = w_pu w 1 x0 := by
  refine of_84 (ww_go (ctL_cons ok_11 (ctL_cons ok_133 ctL_nil)) 200 [] ?_)
  rcases hk with rfl | rfl
  all_goals (
    simp only [ww_S, ww_1, wr_0, wr_1, wr_2, wr_3, wr_4, wr_5, wr_6, wr_7, wr_8, wr_9, wr_10, wr_11, wr_12, wr_13, wr_14, wr_15, wr_16, wr_17, wr_18, wr_19, wr_20, wr_21, wr_22, wr_23, wr_24, wr_25, wr_26, wr_27, wr_28, wr_29, wr_30, wr_31, wr_32, wr_33, wr_34, wr_35, wr_36, wr_37, wr_38, wr_39, wr_40, wr_41, wr_42, wr_43, wr_44, wr_45, wr_46, wr_47, wr_48, wr_49, wr_50, wr_51, wr_52, wr_53, wr_54, wr_55, wr_56, wr_57, wr_58, wr_59, wr_60, wr_61, wr_62, wr_63, wr_64, wr_65, wr_66, wr_67, wr_68, wr_69, wr_70, wr_71, wr_72, wr_73, wr_74, wr_75, wr_76, wr_77, wr_78, wr_79, wr_80, wr_81, wr_82, wr_83, wr_84, wr_85, wr_86, wr_87, ww_v1, ww_v2, ww_v3, ww_v4, ww_g0, ww_gS, ww_t0, ww_tS, ww_s0, ww_sS, ww_s2, ww_w1, ww_w2, ww_w3, ww_b, ww_tg, ww_p1, ww_p2, ww_q0, ww_qS, ww_k1, ww_k2, ww_k3, ww_w0, ww_wS, ww_i1, ww_i2, ww_f0, ww_f1, ww_f2, ww_f4, ww_fd, ww_cl, ww_mc, ww_tk, ww_ci, ww_ak, ww_gv, ww_g1, ww_kcs, w_f1, w_f2, w_a1, w_a2, w_u_at, dm_84, List.elem_nil, List.elem_cons, List.map_nil, List.map_cons, List.sum_nil, List.sum_cons, Option.toList_none, Option.toList_some, List.nil_append, List.cons_append, true_and, and_true, implies_true, false_implies, if_true, if_false, reduceIte, reduceCtorEq, Bool.false_eq_true, Bool.and_false, Bool.false_and, Bool.and_self, Bool.and_true, Bool.true_and, Nat.reduceAdd, Nat.reduceBEq, Nat.reduceEqDiff, Nat.reduceLT, Nat.reduceLeDiff, Int.reduceAdd, Int.reduceNeg, Int.reduceToNat, Int.reduceLE, Int.reduceLT, Int.reduceSub, Int.cast_ofNat_Int, Int.reduceNatCast', Int.reduceNatCast, Nat.zero_add, Int.zero_add, and_self, false_and, and_false, or_false, false_or, true_or, or_true, not_true_eq_false, not_false_eq_true, at_11p, at_133, ctL_c, ctL_n, hb, w_i0, w_i1, w_i2]
    (repeat' (first | (with_reducible assumption) | (with_reducible exact trivial) | refine And.intro ?_ ?_ | intro _)) <;> first | omega | (unfold am_rg at *; omega) | (with_reducible rfl) | (exfalso; omega) | decide | skip)
set_option maxRecDepth 100000 in
set_option maxHeartbeats 2000000 in
theorem lk_84g {x0 x1 : Int} {w : W_} (hk : x1 = 18 ∨ x1 = 19) (i0 : 0 ≤ x0 ∧ x0 < 1000) (hb : w_g w 37 (x0 * 9 + 6) = 0) (hkn : w_kn w) : ww_Ct 84 5 [.inr (.inr (.inl 41)), .inl x0, .inl x1] w fun r w' => r = none ∧ w' = w_f (w_nt w (100000 * 7 + w_spot x0)) 41 11 20004 := by
  refine of_84 (ww_go (ctL_cons ok_76 (ctL_cons ok_133 ctL_nil)) 200 [] ?_)
  rcases hk with rfl | rfl
  all_goals (
    simp only [ww_S, ww_1, wr_0, wr_1, wr_2, wr_3, wr_4, wr_5, wr_6, wr_7, wr_8, wr_9, wr_10, wr_11, wr_12, wr_13, wr_14, wr_15, wr_16, wr_17, wr_18, wr_19, wr_20, wr_21, wr_22, wr_23, wr_24, wr_25, wr_26, wr_27, wr_28, wr_29, wr_30, wr_31, wr_32, wr_33, wr_34, wr_35, wr_36, wr_37, wr_38, wr_39, wr_40, wr_41, wr_42, wr_43, wr_44, wr_45, wr_46, wr_47, wr_48, wr_49, wr_50, wr_51, wr_52, wr_53, wr_54, wr_55, wr_56, wr_57, wr_58, wr_59, wr_60, wr_61, wr_62, wr_63, wr_64, wr_65, wr_66, wr_67, wr_68, wr_69, wr_70, wr_71, wr_72, wr_73, wr_74, wr_75, wr_76, wr_77, wr_78, wr_79, wr_80, wr_81, wr_82, wr_83, wr_84, wr_85, wr_86, wr_87, ww_v1, ww_v2, ww_v3, ww_v4, ww_g0, ww_gS, ww_t0, ww_tS, ww_s0, ww_sS, ww_s2, ww_w1, ww_w2, ww_w3, ww_b, ww_tg, ww_p1, ww_p2, ww_q0, ww_qS, ww_k1, ww_k2, ww_k3, ww_w0, ww_wS, ww_i1, ww_i2, ww_f0, ww_f1, ww_f2, ww_f4, ww_fd, ww_cl, ww_mc, ww_tk, ww_ci, ww_ak, ww_gv, ww_g1, ww_kcs, w_f1, w_f2, w_a1, w_a2, w_u_at, dm_84, List.elem_nil, List.elem_cons, List.map_nil, List.map_cons, List.sum_nil, List.sum_cons, Option.toList_none, Option.toList_some, List.nil_append, List.cons_append, true_and, and_true, implies_true, false_implies, if_true, if_false, reduceIte, reduceCtorEq, Bool.false_eq_true, Bool.and_false, Bool.false_and, Bool.and_self, Bool.and_true, Bool.true_and, Nat.reduceAdd, Nat.reduceBEq, Nat.reduceEqDiff, Nat.reduceLT, Nat.reduceLeDiff, Int.reduceAdd, Int.reduceNeg, Int.reduceToNat, Int.reduceLE, Int.reduceLT, Int.reduceSub, Int.cast_ofNat_Int, Int.reduceNatCast', Int.reduceNatCast, Nat.zero_add, Int.zero_add, and_self, false_and, and_false, or_false, false_or, true_or, or_true, not_true_eq_false, not_false_eq_true, at_76, at_133, ctL_c, ctL_n, hb, w_i0, w_i1, w_i2]
    (repeat' (first | (with_reducible assumption) | (with_reducible exact trivial) | (with_reducible exact hkn) | refine And.intro ?_ ?_ | intro _)) <;> first | omega | (unfold am_rg at *; omega) | (with_reducible rfl) | (exfalso; omega) | decide | skip)
section
variable {C : C_} {sil : Bool} {o a0 : Nat} {D : Prop} {K0 : Int} {hb : Bool} {s s1 : S_} {E E1 : N_} {w : W_} {fr : Nat} {Q : Option am_V → W_ → Prop} {i : Int} {k : Nat} {n : Int} {id : Nat} {a b c v : T_}
theorem sim_nil (H : RD C sil o a0 D K0 hb s E w) (hd : w.1 41 10 = (183 : Nat)) (hf : 20 ≤ fr) (hi : 0 ≤ i ∧ i ≤ 900000) (hB : s_b s < 90000) (K : cK C sil o a0 D K0 hb s (u_b s (s_b s + 1)) E w vW fr Q i) : dr fr Q i w := by
  have h3 : w_g w 3 (183 : Int) = 0 := H.2.2.2.2.2.2.1
  have h5 : w_g w 5 (183 : Int) = 0 := H.2.2.2.2.2.2.2.1.1
  have hd : w.1 41 10 = 183 := hd
  refine dr_due (f := 6) (by omega) ⟨by unfold am_rg; omega, by omega⟩ (lk_82p (id := 183) (n := 0) (k := 0) hd (by decide) h3 h5 (by decide) (by unfold am_rg; omega) (by decide) lk_84w) (by omega) fun w' hw => ?_
  rw [hw]
  refine sim_fin (w0 := w) (RD_br H (by omega)) (w_bg_n w) (oQ_fQ (oQ_bg (RD_oK H.1))) (w_bg_d w) vW_W fun w1 g1 g2 g3 g4 g5 => K (i + 1) w1 (by omega) ?_ g1 g2 g3 g4 g5
  show i + 1 + 12 * (s_b s : Int) ≤ i + 12 * ((s_b s + 1 : Nat) : Int)
  omega
theorem sim_pl (hk : k = 18 ∨ k = 19) (H : RD C sil o a0 D K0 false s E w) (he : eW w 0 false (ce k n id a b c)) (hd : w.1 41 10 = id) (hf : 20 ≤ fr) (hi : 0 ≤ i ∧ i ≤ 900000) (ht : s_tb s < 2000) (hB : s_b s < 90000 ∧ s_nt s < 900000) (K : cK C sil o a0 D K0 false s (f_note C (f_code 7 id) (u_go s)) E w vW fr Q i) : dr fr Q i w := by
  obtain ⟨⟨h1, h2, h3, h4, h5, h6, h7, -⟩, hbl, -⟩ := eW_ce he
  have hz : w_g (w_bg w) 37 ((id : Int) * 9 + 6) = 0 := by
    have q := hbl hk
    rw [if_neg Bool.false_ne_true] at q
    exact q
  have HB := RD_bg H ht (by omega)
  have ho := RD_oK H.1
  have O1 : oQ (w.1 33 1) w (w_bg w) := oQ_bg ho
  have hoB := oK_x O1.2.2.2 ho
  refine dr_due (f := 6) (by omega) ⟨by unfold am_rg; omega, by omega⟩ (lk_82p (k := k) hd (by omega) h2 h3 ⟨h4, h5⟩ (by unfold am_rg; omega) (by omega) (lk_84g (w := w_bg w) (by omega) (by omega) hz (CR_o HB.1).2)) (by omega) fun w' hw => ?_
  rw [hw]
  have hcode : (100000 * 7 + w_spot (id : Int)) = f_code 7 id := f_code_w 7 id
  rw [hcode]
  refine sim_fin (w0 := w) (RD_nt (f := f_code 7 id) HB (by show s_nt s < 1000000; omega)) ((w_nt_n hoB).1.trans (w_bg_n w)) (oQ_fQ (oQ_tr O1 (oQ_nt hoB))) ((w_nt_n hoB).2.1.trans (w_bg_d w)) vW_W fun w1 g1 g2 g3 g4 g5 => K (i + 1) w1 (by omega) ?_ g1 g2 g3 g4 g5
  show i + 1 + 12 * (s_b s : Int) ≤ i + 12 * ((s_b s + 1 : Nat) : Int)
  omega
end
