/-! ===== the class runs as the evaluator: leaves ===== -/
set_option maxRecDepth 100000 in
set_option maxHeartbeats 2000000 in
theorem lk_84w {x0 : Int} {w : W_} : ww_Ct 84 5 [.inr (.inr (.inl 41)), .inl x0, .inl 0] w fun r w' => r = none ∧ w' = w_f w 41 11 20004 := by
  refine of_84 (ww_go ctL_nil 200 [] ?_)
  simp only [ww_S, ww_1, wr_0, wr_1, wr_2, wr_3, wr_4, wr_5, wr_6, wr_7, wr_8, wr_9, wr_10, wr_11, wr_12, wr_13, wr_14, wr_15, wr_16, wr_17, wr_18, wr_19, wr_20, wr_21, wr_22, wr_23, wr_24, wr_25, wr_26, wr_27, wr_28, wr_29, wr_30, wr_31, wr_32, wr_33, wr_34, wr_35, wr_36, wr_37, wr_38, wr_39, wr_40, wr_41, wr_42, wr_43, wr_44, wr_45, wr_46, wr_47, wr_48, wr_49, wr_50, wr_51, wr_52, wr_53, wr_54, wr_55, wr_56, wr_57, wr_58, wr_59, wr_60, wr_61, wr_62, wr_63, wr_64, wr_65, wr_66, wr_67, wr_68, wr_69, wr_70, wr_71, wr_72, wr_73, wr_74, wr_75, wr_76, wr_77, wr_78, wr_79, wr_80, wr_81, wr_82, wr_83, wr_84, wr_85, wr_86, wr_87, ww_v1, ww_v2, ww_v3, ww_v4, ww_g0, ww_gS, ww_t0, ww_tS, ww_s0, ww_sS, ww_s2, ww_w1, ww_w2, ww_w3, ww_b, ww_tg, ww_p1, ww_p2, ww_q0, ww_qS, ww_k1, ww_k2, ww_k3, ww_w0, ww_wS, ww_i1, ww_i2, ww_f0, ww_f1, ww_f2, ww_f4, ww_fd, ww_cl, ww_mc, ww_tk, ww_ci, ww_ak, ww_gv, ww_g1, ww_kcs, w_f1, w_f2, w_a1, w_a2, w_u_at, dm_84, List.elem_nil, List.elem_cons, List.map_nil, List.map_cons, List.sum_nil, List.sum_cons, Option.toList_none, Option.toList_some, List.nil_append, List.cons_append, true_and, and_true, implies_true, false_implies, if_true, if_false, reduceIte, reduceCtorEq, Bool.false_eq_true, Bool.and_false, Bool.false_and, Bool.and_self, Bool.and_true, Bool.true_and, Nat.reduceAdd, Nat.reduceBEq, Nat.reduceEqDiff, Nat.reduceLT, Nat.reduceLeDiff, Int.reduceAdd, Int.reduceNeg, Int.reduceToNat, Int.reduceLE, Int.reduceLT, Int.reduceSub, Int.cast_ofNat_Int, Int.reduceNatCast', Int.reduceNatCast, Nat.zero_add, Int.zero_add, and_self, false_and, and_false, or_false, false_or, true_or, or_true, not_true_eq_false, not_false_eq_true, ctL_c, ctL_n]
  (repeat' (first | (with_reducible assumption) | (with_reducible exact trivial) | refine And.intro ?_ ?_ | intro _)) <;> first | omega | (unfold am_rg at *; omega) | (with_reducible rfl) | (exfalso; omega) | decide | skip
theorem f_spot_w (id : Nat) : w_spot (id : Int) = f_spot id := by
  unfold f_spot
  show 10000 * ((id : Int) / 60) + 100 * ((id : Int) % 60) = _
  omega
theorem f_code_w (k id : Nat) : 100000 * (k : Int) + w_spot (id : Int) = f_code k id := by
  unfold f_code
  rw [← f_spot_w]
theorem f_t_pu {w : W_} {x y g : Int} (h0 : 0 ≤ w.1 33 1) (hg : 0 ≤ g ∧ g < 13) : f_t (w_pu w x y) g = if g = 0 then x else if g = 1 then y else 0 := by
  have e : (w_pu w x y).1 33 1 = w.1 33 1 + 1 := by rw [w_pu1, if_pos ⟨rfl, rfl⟩]
  unfold f_t w_g
  rw [e, if_neg (by omega)]
  show w_u (w_u (w_fill w 34 _ _ 0).2 34 _ x) 34 _ y 34 _ = _
  rw [w_u_at]
  by_cases c1 : g = 1
  · rw [if_pos (by omega), if_neg (by omega), if_pos c1]
  · rw [if_neg (by omega), w_u_at]
    by_cases c0 : g = 0
    · rw [if_pos (by omega), if_pos c0]
    · rw [if_neg (by omega), if_neg c0, if_neg c1]
      show (if 34 = 34 ∧ _ ≤ _ ∧ _ < _ then (0 : Int) else _) = 0
      rw [if_pos (by omega)]
theorem f_t_f {w : W_} {a j : Nat} {x g : Int} (h : ¬ (a = 33 ∧ j = 1)) : f_t (w_f w a j x) g = f_t w g := by
  unfold f_t
  rw [w_g_f, w_f1, w_u_at, if_neg (by omega)]
theorem f_t_fs0 {w : W_} {f x g : Int} (h : 1 ≤ w.1 33 1) (hf : 0 ≤ f) (hg : 0 ≤ g) : f_t (w_fs w f x) g = if g = f then x else f_t w g := f_t_fs' rfl h hf hg
section
variable {C : C_} {sil : Bool} {o a0 : Nat} {D : Prop} {K0 : Int} {hb : Bool} {s : S_} {E : N_} {w : W_}
theorem RD_val {j : Nat} {x : Int} (H : RD C sil o a0 D K0 hb s E w) (hj : j = 10 ∨ j = 11) : RD C sil o a0 D K0 hb s E (w_f w 41 j x) := by
  have hc : (w_f w 41 j x).1 33 1 = w.1 33 1 := by rw [w_f1, w_u_at, if_neg (by omega)]
  exact RD_o H (CR_S H.1 (wS_f (Or.inr ⟨rfl, by omega⟩))) (oQ_val (RD_oK H.1) hj) rfl (Nat.le_refl _) H.2.2.2.2.2.1 (by rw [hc]; exact ⟨Int.le_refl _, H.2.2.2.1.2⟩)
theorem RD_bg (H : RD C sil o a0 D K0 hb s E w) (ht : s_tb s < 2000) (hB : s_b s < 100000) : RD C sil o a0 D K0 hb (u_go s) E (w_bg w) := by
  have hc : (w_bg w).1 33 1 = w.1 33 1 := by rw [w_bg1, if_neg (by decide), if_neg (by decide)]
  refine RD_o H (CR_bg H.1 ht hB) (oQ_bg (RD_oK H.1)) rfl (Nat.le_refl _) (Nat.le_succ_of_le H.2.2.2.2.2.1) ?_
  rw [hc]
  have := H.2.2.2.1
  show _ ∧ _ ≤ 19990 + 2 * ((s_tb s + 1 : Nat) : Int)
  omega
theorem RD_br (H : RD C sil o a0 D K0 hb s E w) (hB : s_b s < 100000) : RD C sil o a0 D K0 hb (u_b s (s_b s + 1)) E (w_bg w) := by
  have hc : (w_bg w).1 33 1 = w.1 33 1 := by rw [w_bg1, if_neg (by decide), if_neg (by decide)]
  refine RD_o H (CR_br H.1 hB) (oQ_bg (RD_oK H.1)) rfl (Nat.le_refl _) (Nat.le_succ_of_le H.2.2.2.2.2.1) ?_
  rw [hc]
  exact ⟨Int.le_refl _, H.2.2.2.1.2⟩
theorem RD_nt {f : Int} (H : RD C sil o a0 D K0 hb s E w) (hn : s_nt s < 1000000) : RD C sil o a0 D K0 hb (f_note C f s) E (w_nt w f) := by
  have ho := RD_oK H.1
  have hc : (w_nt w f).1 33 1 = w.1 33 1 := by
    unfold w_nt
    rw [w_f1, w_u_at, if_neg (by omega), w_f1, w_u_at, if_neg (by decide)]
    rfl
  refine RD_o H (CR_nt H.1 hn f) (oQ_nt ho) rfl (Nat.le_refl _) H.2.2.2.2.2.1 ?_
  rw [hc]
  exact ⟨Int.le_refl _, H.2.2.2.1.2⟩
theorem RD_pu {x y : Int} (H : RD C sil o a0 D K0 hb s E w) (hc : w.1 33 1 + 1 ≤ 19990 + 2 * s_tb s) : RD C sil o a0 D K0 hb s E (w_pu w x y) := by
  have hc1 : (w_pu w x y).1 33 1 = w.1 33 1 + 1 := by rw [w_pu1, if_pos ⟨rfl, rfl⟩]
  refine RD_o H (CR_S H.1 (wS_pu w x y)) (oQ_pu (RD_oK H.1) (Int.le_refl _) H.2.2.2.1.1) rfl (Nat.le_refl _) H.2.2.2.2.2.1 ?_
  rw [hc1]
  omega
theorem RD_fs {f x : Int} (H : RD C sil o a0 D K0 hb s E w) (h1 : 1 ≤ w.1 33 1) (hf : 0 ≤ f) (ht : hb = true → w.1 41 13 < w.1 33 1 - 1) : RD C sil o a0 D K0 hb s E (w_fs w f x) := by
  obtain ⟨h1', h2, h3, h4, h5, h6, h7, h8⟩ := H
  have g : oQ (w.1 33 1 - 1) w (w_fs w f x) := oQ_fs (RD_oK h1') (Int.le_refl _) (by omega) hf
  have h0 := h1'.2.2.1.2.2.2.1.1
  refine ⟨CR_S h1' (wS_fs w f x), nW_o h2 g h0, fun q => ?_, h4, h5, h6, ?_, ?_⟩
  · obtain ⟨b1, b2, b3, b4, b5⟩ := h3 q
    have tq := ht q
    have e : ∀ f' : Int, 0 ≤ f' → f' < 13 → wg ((w_fs w f x).2 34) (w.1 41 13 * 13 + f') = wg (w.2 34) (w.1 41 13 * 13 + f') := fun f' f0 f1 => by
      unfold wg
      rw [if_neg (by omega), if_neg (by omega), g.2.1 _ (by omega)]
    show (0 ≤ w.1 41 13 ∧ w.1 41 13 < w.1 33 1) ∧ cR (w.1 13 2) ((w_fs w f x).2 13) (fW (w_fs w f x)) (s_tl s) (wg ((w_fs w f x).2 34) (w.1 41 13 * 13 + 5)) ∧ _
    rw [e 5 (by decide) (by decide)]
    refine ⟨b1, cW_x g.2.2.2 b2, ?_⟩
    show (0 ≤ wg ((w_fs w f x).2 34) (w.1 41 13 * 13 + 7) ∧ wg ((w_fs w f x).2 34) (w.1 41 13 * 13 + 7) ≤ 3) ∧ (0 ≤ wg ((w_fs w f x).2 34) (w.1 41 13 * 13 + 8) ∧ wg ((w_fs w f x).2 34) (w.1 41 13 * 13 + 8) ≤ 3) ∧ ∀ k : Nat, 1 ≤ k → k ≤ 3 → ((v_wq (s_tl s) (if wg ((w_fs w f x).2 34) (w.1 41 13 * 13 + 7) = 0 then k else (wg ((w_fs w f x).2 34) (w.1 41 13 * 13 + 7)).toNat)).2 : Int) = if wg ((w_fs w f x).2 34) (w.1 41 13 * 13 + 8) = 0 then (k : Int) else wg ((w_fs w f x).2 34) (w.1 41 13 * 13 + 8)
    rw [e 7 (by decide) (by decide), e 8 (by decide) (by decide)]
    exact ⟨b3, b4, b5⟩
  · rw [w_fs2 w f x (by decide)]; exact h7
  · rw [w_fs2 w f x (by decide), w_fs2 w f x (by decide), w_fs2 w f x (by decide)]; exact h8
/-- a frame ends -/
theorem RD_po {n : Int} (H : RD C sil o a0 D K0 hb s E w) (hc : w.1 33 1 = n + 1) (h0 : 0 ≤ n) (ht : hb = true → w.1 41 13 < n) : RD C sil o a0 D K0 hb s E (w_po w) ∧ (w_po w).1 33 1 = n := by
  obtain ⟨h1', h2, h3, h4, h5, h6, h7, h8⟩ := H
  have hn : (w_po w).1 33 1 = n := by
    rw [w_po1, if_pos ⟨rfl, rfl⟩, hc]
    split <;> omega
  have g : oQ n w (w_po w) := oQ_po (RD_oK h1')
  refine ⟨⟨CR_S h1' (wS_po w), nW_o h2 g h1'.2.2.1.2.2.2.1.1, fun q => ?_, by rw [hn]; omega, by rw [w_po1, if_neg (by decide)]; exact h5, h6, h7, h8⟩, hn⟩
  obtain ⟨b1, b2, b3, b4, b5⟩ := h3 q
  have tq := ht q
  have e13 : (w_po w).1 41 13 = w.1 41 13 := by rw [w_po1, if_neg (by decide)]
  rw [hn, e13]
  exact ⟨by omega, cW_x g.2.2.2 b2, b3, b4, b5⟩
/-- the value stands -/
theorem sim_fin {s1 : S_} {E1 : N_} {w0 W : W_} {v : T_} {x i : Int} {fr : Nat} {Q : Option am_V → W_ → Prop} (H : RD C sil o a0 D K0 hb s1 E1 W) (hc : W.1 33 1 = w0.1 33 1) (hf : fQ (w0.1 33 1) hb w0 W) (hd : W.1 41 10 = -1) (hv : vW_ W v x) (K : ∀ w', RD C sil o a0 D K0 hb s1 E1 w' → w'.1 33 1 = w0.1 33 1 → fQ (w0.1 33 1) hb w0 w' → vW_ w' v (w'.1 41 11) → w'.1 41 10 = -1 → dr fr Q i w') : dr fr Q i (w_f W 41 11 x) := by
  have g : oQ (w0.1 33 1) W (w_f W 41 11 x) := oQ_val (RD_oK H.1) (Or.inr rfl)
  have e11 : (w_f W 41 11 x).1 41 11 = x := by rw [w_f1, w_u_at, if_pos ⟨rfl, rfl⟩]
  refine K _ (RD_val H (Or.inr rfl)) ?_ (fQ_tr hf (oQ_fQ g)) ?_ ?_
  · rw [w_f1, w_u_at, if_neg (by decide)]; exact hc
  · rw [e11]; exact vW_x g.2.2.2 H.1.2.2.1.2.2.2.1.1 hv
  · rw [w_f1, w_u_at, if_neg (by decide)]; exact hd
theorem w_bg_d (w : W_) : (w_bg w).1 41 10 = -1 := rfl
theorem w_bg_n (w : W_) : (w_bg w).1 33 1 = w.1 33 1 := by rw [w_bg1, if_neg (by decide), if_neg (by decide)]
theorem w_nt_n {w : W_} {f : Int} (ho : oK w) : (w_nt w f).1 33 1 = w.1 33 1 ∧ (w_nt w f).1 41 10 = w.1 41 10 ∧ (w_nt w f).1 41 11 = w.1 41 11 := by
  refine ⟨?_, ?_, ?_⟩ <;> (unfold w_nt; rw [w_f1, w_u_at, if_neg (by omega), w_f1, w_u_at, if_neg (by decide)]; rfl)
end
