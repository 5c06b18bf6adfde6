/-! ===== a round of the class: the runner's start ===== -/
/-- the runner at its start, ahead of reading the first file -/
def w_rs (w : W_) (r : Int) : W_ := w_fill (w_f (w_f (w_f (w_f (w_f (w_f (w_f (w_f (w_f w 41 17 r) 41 10 (-1)) 41 11 20003) 41 12 (-1)) 41 13 (-1)) 41 14 0) 41 15 0) 41 16 0) 33 1 0) 46 0 3 0
set_option maxRecDepth 100000 in
set_option maxHeartbeats 2000000 in
theorem lk_74a {w : W_} {r : Int} {P : Option am_V → W_ → Prop} (hr : r = 0 ∨ r = 1) (L : ww_Z 8 2 11 0 cX8_start none P 59 [.inr (.inr (.inl 41)), .inl r] [] (w_rs w r)) : ww_Ct 74 11 [.inr (.inr (.inl 41)), .inl r] w P := by
  refine of_74 (ww_go (ctL_cons ok_10 (ctL_cons ok_70 ctL_nil)) 100 [59] ?_)
  simp only [ww_S, ww_1, wr_0, wr_1, wr_2, wr_3, wr_4, wr_5, wr_6, wr_7, wr_8, wr_9, wr_10, wr_11, wr_12, wr_13, wr_14, wr_15, wr_16, wr_17, wr_18, wr_19, wr_20, wr_21, wr_22, wr_23, wr_24, wr_25, wr_26, wr_27, wr_28, wr_29, wr_30, wr_31, wr_32, wr_33, wr_34, wr_35, wr_36, wr_37, wr_38, wr_39, wr_40, wr_41, wr_42, wr_43, wr_44, wr_45, wr_46, wr_47, wr_48, wr_49, wr_50, wr_51, wr_52, wr_53, wr_54, wr_55, wr_56, wr_57, wr_58, wr_59, wr_60, wr_61, wr_62, wr_63, wr_64, wr_65, wr_66, wr_67, wr_68, wr_69, wr_70, wr_71, wr_72, wr_73, wr_74, wr_75, wr_76, wr_77, wr_78, wr_79, wr_80, wr_81, wr_82, wr_83, wr_84, wr_85, wr_86, wr_87, ww_v1, ww_v2, ww_v3, ww_v4, ww_g0, ww_gS, ww_t0, ww_tS, ww_s0, ww_sS, ww_s2, ww_w1, ww_w2, ww_w3, ww_b, ww_tg, ww_p1, ww_p2, ww_q0, ww_qS, ww_k1, ww_k2, ww_k3, ww_w0, ww_wS, ww_i1, ww_i2, ww_f0, ww_f1, ww_f2, ww_f4, ww_fd, ww_cl, ww_mc, ww_tk, ww_ci, ww_ak, ww_gv, ww_g1, ww_kcs, w_f1, w_f2, w_a1, w_a2, w_u_at, dm_74, List.elem_nil, List.elem_cons, List.map_nil, List.map_cons, List.sum_nil, List.sum_cons, Option.toList_none, Option.toList_some, List.nil_append, List.cons_append, true_and, and_true, implies_true, false_implies, if_true, if_false, reduceIte, reduceCtorEq, Bool.false_eq_true, Bool.and_false, Bool.false_and, Bool.and_self, Bool.and_true, Bool.true_and, Nat.reduceAdd, Nat.reduceBEq, Nat.reduceEqDiff, Nat.reduceLT, Nat.reduceLeDiff, Int.reduceAdd, Int.reduceNeg, Int.reduceToNat, Int.reduceLE, Int.reduceLT, Int.reduceSub, Int.cast_ofNat_Int, Int.reduceNatCast', Int.reduceNatCast, Nat.zero_add, Int.zero_add, and_self, false_and, and_false, or_false, false_or, true_or, or_true, not_true_eq_false, not_false_eq_true, at_10, at_70, ctL_c, ctL_n, w_isRs, w_bds, w_fill1]
  (repeat' (first | (with_reducible assumption) | (with_reducible exact trivial) | exact L | refine And.intro ?_ ?_ | intro _)) <;> first | omega | (unfold am_rg at *; omega) | (with_reducible rfl) | (exfalso; omega) | decide | skip
set_option maxRecDepth 100000 in
set_option maxHeartbeats 2000000 in
theorem lk_74b {w : W_} {r : Int} {P : Option am_V → W_ → Prop} {R : W_ → Prop} (hc : ww_Ct 135 10 [.inr (.inr (.inl 36)), .inl 0] w fun r w' => r = none ∧ R w') (L : ∀ w', R w' → ww_Z 8 2 11 0 cX8_start none P 67 [.inr (.inr (.inl 41)), .inl r] [] w') : ww_Z 8 2 11 0 cX8_start none P 59 [.inr (.inr (.inl 41)), .inl r] [] w := by
  refine ww_go1 ctL_nil 20 [67] ?_
  simp only [ww_S, ww_1, wr_0, wr_1, wr_2, wr_3, wr_4, wr_5, wr_6, wr_7, wr_8, wr_9, wr_10, wr_11, wr_12, wr_13, wr_14, wr_15, wr_16, wr_17, wr_18, wr_19, wr_20, wr_21, wr_22, wr_23, wr_24, wr_25, wr_26, wr_27, wr_28, wr_29, wr_30, wr_31, wr_32, wr_33, wr_34, wr_35, wr_36, wr_37, wr_38, wr_39, wr_40, wr_41, wr_42, wr_43, wr_44, wr_45, wr_46, wr_47, wr_48, wr_49, wr_50, wr_51, wr_52, wr_53, wr_54, wr_55, wr_56, wr_57, wr_58, wr_59, wr_60, wr_61, wr_62, wr_63, wr_64, wr_65, wr_66, wr_67, wr_68, wr_69, wr_70, wr_71, wr_72, wr_73, wr_74, wr_75, wr_76, wr_77, wr_78, wr_79, wr_80, wr_81, wr_82, wr_83, wr_84, wr_85, wr_86, wr_87, ww_v1, ww_v2, ww_v3, ww_v4, ww_g0, ww_gS, ww_t0, ww_tS, ww_s0, ww_sS, ww_s2, ww_w1, ww_w2, ww_w3, ww_b, ww_tg, ww_p1, ww_p2, ww_q0, ww_qS, ww_k1, ww_k2, ww_k3, ww_w0, ww_wS, ww_i1, ww_i2, ww_f0, ww_f1, ww_f2, ww_f4, ww_fd, ww_cl, ww_mc, ww_tk, ww_ci, ww_ak, ww_gv, ww_g1, ww_kcs, w_f1, w_f2, w_a1, w_a2, w_u_at, dm_74, List.elem_nil, List.elem_cons, List.map_nil, List.map_cons, List.sum_nil, List.sum_cons, Option.toList_none, Option.toList_some, List.nil_append, List.cons_append, true_and, and_true, implies_true, false_implies, if_true, if_false, reduceIte, reduceCtorEq, Bool.false_eq_true, Bool.and_false, Bool.false_and, Bool.and_self, Bool.and_true, Bool.true_and, Nat.reduceAdd, Nat.reduceBEq, Nat.reduceEqDiff, Nat.reduceLT, Nat.reduceLeDiff, Int.reduceAdd, Int.reduceNeg, Int.reduceToNat, Int.reduceLE, Int.reduceLT, Int.reduceSub, Int.cast_ofNat_Int, Int.reduceNatCast', Int.reduceNatCast, Nat.zero_add, Int.zero_add, and_self, false_and, and_false, or_false, false_or, true_or, or_true, not_true_eq_false, not_false_eq_true, ctL_n]
  refine ww_Cn_of hc (by decide) ?_
  rintro _ w1 ⟨rfl, hR⟩
  exact L w1 hR
set_option maxRecDepth 100000 in
set_option maxHeartbeats 2000000 in
theorem lk_74c {w : W_} {r : Int} {P : Option am_V → W_ → Prop} (hc : h_cn 10 w 20003) (h0 : 0 ≤ w.1 33 1 ∧ w.1 33 1 < 23999) (h2 : -1 ≤ w.1 41 12 ∧ w.1 41 12 < 2299) (L : P none (w_opt (w_scp w 20003) 180)) : ww_Z 8 2 11 0 cX8_start none P 67 [.inr (.inr (.inl 41)), .inl r] [] w := by
  have e : (w_scp w 20003).1 33 1 = w.1 33 1 := by rw [w_scp1, if_neg (by decide)]
  refine ww_go1 (ctL_cons ok_78 (ctL_cons ok_103 ctL_nil)) 40 [] ?_
  simp only [ww_S, ww_1, wr_0, wr_1, wr_2, wr_3, wr_4, wr_5, wr_6, wr_7, wr_8, wr_9, wr_10, wr_11, wr_12, wr_13, wr_14, wr_15, wr_16, wr_17, wr_18, wr_19, wr_20, wr_21, wr_22, wr_23, wr_24, wr_25, wr_26, wr_27, wr_28, wr_29, wr_30, wr_31, wr_32, wr_33, wr_34, wr_35, wr_36, wr_37, wr_38, wr_39, wr_40, wr_41, wr_42, wr_43, wr_44, wr_45, wr_46, wr_47, wr_48, wr_49, wr_50, wr_51, wr_52, wr_53, wr_54, wr_55, wr_56, wr_57, wr_58, wr_59, wr_60, wr_61, wr_62, wr_63, wr_64, wr_65, wr_66, wr_67, wr_68, wr_69, wr_70, wr_71, wr_72, wr_73, wr_74, wr_75, wr_76, wr_77, wr_78, wr_79, wr_80, wr_81, wr_82, wr_83, wr_84, wr_85, wr_86, wr_87, ww_v1, ww_v2, ww_v3, ww_v4, ww_g0, ww_gS, ww_t0, ww_tS, ww_s0, ww_sS, ww_s2, ww_w1, ww_w2, ww_w3, ww_b, ww_tg, ww_p1, ww_p2, ww_q0, ww_qS, ww_k1, ww_k2, ww_k3, ww_w0, ww_wS, ww_i1, ww_i2, ww_f0, ww_f1, ww_f2, ww_f4, ww_fd, ww_cl, ww_mc, ww_tk, ww_ci, ww_ak, ww_gv, ww_g1, ww_kcs, w_f1, w_f2, w_a1, w_a2, w_u_at, dm_74, List.elem_nil, List.elem_cons, List.map_nil, List.map_cons, List.sum_nil, List.sum_cons, Option.toList_none, Option.toList_some, List.nil_append, List.cons_append, true_and, and_true, implies_true, false_implies, if_true, if_false, reduceIte, reduceCtorEq, Bool.false_eq_true, Bool.and_false, Bool.false_and, Bool.and_self, Bool.and_true, Bool.true_and, Nat.reduceAdd, Nat.reduceBEq, Nat.reduceEqDiff, Nat.reduceLT, Nat.reduceLeDiff, Int.reduceAdd, Int.reduceNeg, Int.reduceToNat, Int.reduceLE, Int.reduceLT, Int.reduceSub, Int.cast_ofNat_Int, Int.reduceNatCast', Int.reduceNatCast, Nat.zero_add, Int.zero_add, and_self, false_and, and_false, or_false, false_or, true_or, or_true, not_true_eq_false, not_false_eq_true, ctL_c, ctL_n, at_78s, at_103, e]
  (repeat' (first | (with_reducible assumption) | (with_reducible exact trivial) | exact L | refine And.intro ?_ ?_ | intro _)) <;> first | omega | (unfold am_rg at *; omega) | (with_reducible rfl) | (exfalso; omega) | decide | skip
theorem lk_74 {w : W_} {r : Int} {R : W_ → Prop} (hr : r = 0 ∨ r = 1) (hc : ww_Ct 135 10 [.inr (.inr (.inl 36)), .inl 0] (w_rs w r) fun r w' => r = none ∧ R w') (hR : ∀ w', R w' → w'.1 33 1 = 0 ∧ w'.1 41 12 = -1) : ww_Ct 74 11 [.inr (.inr (.inl 41)), .inl r] w fun z w' => z = none ∧ ∃ wB, R wB ∧ w' = w_opt (w_scp wB 20003) 180 := by
  refine lk_74a hr (lk_74b hc fun wB hB => ?_)
  obtain ⟨e1, e2⟩ := hR wB hB
  exact lk_74c ⟨by omega, fun q => by omega⟩ (by rw [e1]; decide) (by rw [e2]; decide) ⟨rfl, wB, hB, rfl⟩
section
variable {C : C_} {sil : Bool} {o a0 : Nat} {D : Prop} {K0 : Int} {hb : Bool} {s s1 : S_} {E E1 : N_} {w : W_} {fr : Nat} {Q : Option am_V → W_ → Prop} {i : Int} {v : T_}
theorem CR_nts : ∀ (l : List Int) {s : S_} {w : W_}, CR C sil o a0 D K0 s w → s_nt s + l.length ≤ 1000000 → CR C sil o a0 D K0 (f_list C l s) (w_nts w l)
  | [], _, _, H, _ => H
  | x :: l, s, w, H, hn => by
    rw [List.length_cons] at hn
    exact CR_nts l (CR_nt H (by omega) x) (by show s_nt s + 1 + l.length ≤ 1000000; omega)
theorem CR_read {f : Nat} {a46 : Nat → Int} (H : CR C sil o a0 D K0 s w) (hfl : flO C (w.2 3) (w.2 5) (w.2 7)) (hg : g0 (w.2 7)) (f3 : f < 3) (h46 : a46 f ≠ 0) (hs0 : s_fs s f = 0) (hn : s_nt s + (C.2.2.2 f).length ≤ 1000000) : ww_Ct 135 10 [.inr (.inr (.inl 36)), .inl (f : Int)] w fun r w' => r = none ∧ (CR C sil o a0 D K0 (f_list C (C.2.2.2 f) s) w' ∧ (∀ n, oQ n w w') ∧ (∀ a j, a ≠ 17 ∧ a ≠ 24 ∧ a ≠ 55 ∧ a ≠ 64 ∧ a ≠ 36 → w'.1 a j = w.1 a j) ∧ (w'.2 34 = w.2 34 ∧ w'.2 42 = w.2 42 ∧ w'.2 46 = w.2 46) ∧ (eR (w.2 3) (w.2 5) (w'.2 37) a46 1 false (C.2.2.1 f) ∧ tI (w.2 3) (w.2 5) (w.2 7) (C.2.2.1 f)) ∧ w_g w' 37 ((180 + (f : Int)) * 9) - 1 = it_id (C.2.2.1 f)) := by
  obtain ⟨-, k1, k3⟩ := hfl
  obtain ⟨⟨z0, z1⟩, et, ef⟩ := k3 f f3
  have kn := (CR_o H).2
  have ho := RD_oK H
  have h46w := (H.2.2.1.2.1 f f3).1
  rw [hs0] at h46w
  have FI0 : FI w f (w.2 7 f).toNat := ⟨kn, ⟨f3, by omega, by omega⟩, k1⟩
  refine ww_Ct.mono (lk_135 FI0 h46) fun r w' h => ⟨h.1, ?_⟩
  obtain ⟨-, h1, h2, h3, h4⟩ := h
  rw [et, ef]
  have RN := CR_nts (C.2.2.2 f) H hn
  rw [ef] at RN
  have ON : ∀ n, oQ n w (w_nts w (j_go 200 (tJ (w.2 3) (w.2 5) (w.2 7) f) (some (true, false)) none 0).2.2) := fun n => oQ_nts _ ho
  have e46 : ∀ l, (w_nts w l).2 46 = w.2 46 := fun l => w_nts_2 (by decide) l kn
  have e37 : ∀ l, (w_nts w l).2 37 = w.2 37 := fun l => w_nts_2 (by decide) l kn
  have e34 : ∀ l, (w_nts w l).2 34 = w.2 34 := fun l => w_nts_2 (by decide) l kn
  have e42 : ∀ l, (w_nts w l).2 42 = w.2 42 := fun l => w_nts_2 (by decide) l kn
  have hF : ∀ id : Nat, id < 180 → (w_nts w (j_go 200 (tJ (w.2 3) (w.2 5) (w.2 7) f) (some (true, false)) none 0).2.2).2 46 (id / 60) ≠ 0 → ∀ s : Nat, s < 9 → w'.2 37 (id * 9 + s) = (w_nts w (j_go 200 (tJ (w.2 3) (w.2 5) (w.2 7) f) (some (true, false)) none 0).2.2).2 37 (id * 9 + s) := fun id h1 h2 s hs => by
    rw [e37]
    rw [e46] at h2
    refine h4 _ (fun q => ?_) fun q => by omega
    have : id / 60 = f := by omega
    rw [this, h46w] at h2
    exact h2 rfl
  have OT : ∀ n, oQ n (w_nts w (j_go 200 (tJ (w.2 3) (w.2 5) (w.2 7) f) (some (true, false)) none 0).2.2) w' := fun n => oQ_tE h1 (oK_x (ON 0).2.2.2 ho) hF
  refine ⟨CR_tE RN h1 (OT 0).2.2.2, fun n => oQ_tr (ON n) (OT n), fun a j ha => (h1.1 a j ha.2.2.2.2).trans (w_nts_n ⟨ha.1, ha.2.1, ha.2.2.1, ha.2.2.2.1⟩ _ kn), ⟨(h1.2 34 (by decide) (by decide)).trans (e34 _), (h1.2 42 (by decide) (by decide)).trans (e42 _), (h1.2 46 (by decide) (by decide)).trans (e46 _)⟩, ⟨h2, ⟨f, ⟨⟨f3, by omega⟩, hg _ (by omega)⟩, e_in_refl _⟩⟩, ?_⟩
  rw [w_g_0 w' 37 (k := (180 + f) * 9) (by omega), h3]
  show it_id (tx _ _ _ f) + 1 - 1 = it_id (tx _ _ _ f)
  omega
theorem clos_none (u : Nat → Bool) : ∀ k, n_clos n_none u k = .nil := by
  intro k
  induction k with
  | zero => rfl
  | succ k ih =>
    rw [n_clos]
    split
    · rename_i h
      cases h
    · exact ih
/-- a row of names where none was -/
theorem RD_sc0 {V : W_} (H : CR C sil o a0 False K0 s V) (hfl : flO C (V.2 3) (V.2 5) (V.2 7) ∧ (False ∨ g0 (V.2 7))) (h183 : V.2 3 183 = 0) (hcnt : 0 ≤ V.1 33 1 ∧ V.1 33 1 ≤ 19990 + 2 * s_tb s) (hrow : V.1 41 12 = -1) (h10 : V.1 41 10 = -1) (hlt : s_lt s ≤ s_b s) (hr : s_rw s < 2040) : RD C sil o a0 False K0 false (u_rw s (s_rw s + 1)) n_none (w_scp V 20003) := by
  have z := RD_la (d := -1) (c := 20003) (e := .nil) (cl := .nil) (E0 := n_none) H hfl h183 hcnt hrow hlt (clos_none _ 10).symm rfl hr
  have e : w_f (w_scp V 20003) 41 10 (-1) = w_scp V 20003 := by
    have e2 : (w_scp V 20003).1 41 10 = -1 := by rw [w_scp1, if_neg (by decide)]; exact h10
    rw [← e2]
    exact w_f_self _ _ _
  rw [e] at z
  exact z
end
section
variable {C : C_} {sil : Bool} {o : Nat} {K0 : Int} {s s1 : S_} {fr : Nat} {Q : Option am_V → W_ → Prop} {v : T_}
/-- the first file's text is run -/
theorem tx_run {m L : Nat} {wB : W_} (h4 : cSK C sil o K0 (ev C m)) (RB : CR C sil o 0 False K0 (f_list C (C.2.2.2 0) s) wB) (hfl : flO C (wB.2 3) (wB.2 5) (wB.2 7) ∧ (False ∨ g0 (wB.2 7))) (h183 : wB.2 3 183 = 0) (e33 : wB.1 33 1 = 0) (e12 : wB.1 41 12 = -1) (e13 : wB.1 41 13 = -1) (e10 : wB.1 41 10 = -1) (BR : eR (wB.2 3) (wB.2 5) (wB.2 37) (fun g => if g = 0 then 1 else wB.2 46 g) 1 false (C.2.2.1 0)) (BI : tI (wB.2 3) (wB.2 5) (wB.2 7) (C.2.2.1 0)) (Bi : w_g wB 37 (180 * 9) - 1 = it_id (C.2.2.1 0)) (hf : 20 ≤ fr) (hfs : ∀ g, s_fs s g = 0) (hl : s_lt s ≤ s_b s) (hb0 : s_b s = 0) (htl : s_tl s = .nil) (hnd : s_nd s ≤ 11 * s_tb s) (hr : o_file L (ev C m) C sil 0 s = some (v, s1)) (hB : s_b s1 ≤ 70000 ∧ s_nt s1 ≤ 900000)
    (K : ∀ i' w', 0 ≤ i' → i' ≤ 1 + 12 * (s_b s1 : Int) → CR C sil o 0 False K0 s1 w' → w'.1 33 1 = 0 → w'.1 41 12 = -1 → w'.1 41 10 = -1 → xP wB w' → vW_ w' v (w'.1 41 11) → dr fr Q i' w') : dr fr Q 0 (w_opt (w_scp wB 20003) 180) := by
  have hsB := fl_eq (C := C) (C.2.2.2 0) s
  have hfq : ∀ x y, f_list C (C.2.2.2 0) (u_fs s x y) = u_fs (f_list C (C.2.2.2 0) s) x y := fl_fs _ s
  unfold o_file at hr
  rw [hfq] at hr
  generalize f_list C (C.2.2.2 0) s = sB at *
  have b_tl : s_tl sB = .nil := by rw [hsB]; exact htl
  have b_fs : ∀ g, s_fs sB g = 0 := fun g => by rw [hsB]; exact hfs g
  have b_lt : s_lt sB ≤ s_b sB := by rw [hsB]; exact hl
  have b_b : s_b sB = 0 := by rw [hsB]; exact hb0
  have b_rw : s_rw sB = s_rw s := by rw [hsB]
  have b_nd : s_nd sB ≤ 11 * s_tb sB := by rw [hsB]; exact hnd
  have b_fsf : s_fs s = s_fs sB := by rw [hsB]
  have b_fef : s_fe s = s_fe sB := by rw [hsB]
  clear hsB hfq
  rw [b_fsf, b_fef, ← b_rw] at hr
  split at hr
  · rename_i hrw
    cases hb2 : t_block L (ev C m) C sil (C.2.2.1 0) n_none (u_rw (u_fs sB (fun g => if g = 0 then 1 else s_fs sB g) (s_fe sB)) (s_rw sB + 1)) with
    | none => rw [hb2] at hr; cases hr
    | some y =>
      obtain ⟨v3, E3, s4⟩ := y
      rw [hb2] at hr
      have hr : some (v3, u_fs s4 (fun g => if g = 0 then 2 else s_fs s4 g) (fun g => if g = 0 then E3 else s_fe s4 g)) = some (v, s1) := hr
      injection hr with hr
      injection hr with hv hs1
      unfold t_block at hb2
      cases hq : t_run L (ev C m) C sil (C.2.2.1 0) .nil false n_none (u_tl (u_rw (u_fs sB (fun g => if g = 0 then 1 else s_fs sB g) (s_fe sB)) (s_rw sB + 1)) .nil) with
      | none => rw [hq] at hb2; cases hb2
      | some x =>
        obtain ⟨q, fl, E4, s3⟩ := x
        rw [hq] at hb2
        have hb2 : some ((if fl = true then .tag 9 q else vE : T_), E4, u_tl (u_nd s3 1) (s_tl sB)) = some (v3, E3, s4) := hb2
        injection hb2 with hb2
        injection hb2 with hv3 hb2
        injection hb2 with hE hs4
        subst hE hs4 hv3 hs1 hv
        have hB : s_b s3 ≤ 70000 ∧ s_nt s3 ≤ 900000 := hB
        have mr := t_run_M (ev_M C m) _ _ (Nat.le_refl _) _ _ _ _ _ _ _ _ hq b_lt
        have wr := t_run_W (ev_W C m) _ _ (Nat.le_refl _) _ _ _ _ _ _ _ _ hq
        have mt : s_tb sB ≤ s_tb s3 := mr.2.2.2.2.2.2.2.2.1
        have wr : s_nd s3 + 11 * s_tb sB ≤ s_nd sB + 11 * s_tb s3 + 0 := wr
        have ho := RD_oK RB
        have RC := RD_sc0 RB hfl h183 (by omega) e12 e10 b_lt hrw
        have SC : wS wB (w_scp wB 20003) := wS_scp wB 20003
        have hoC := oK_x (xP_S SC ho) ho
        have C12 : (w_scp wB 20003).1 41 12 = 0 := by rw [w_scp1, if_pos ⟨rfl, rfl⟩, e12]; rfl
        have C33 : (w_scp wB 20003).1 33 1 = 0 := by rw [w_scp1, if_neg (by decide)]; exact e33
        have C13 : (w_scp wB 20003).1 41 13 = -1 := by rw [w_scp1, if_neg (by decide)]; exact e13
        have C10 : (w_scp wB 20003).1 41 10 = -1 := by rw [w_scp1, if_neg (by decide)]; exact e10
        have wa46 : ∀ k, (w_a (w_scp wB 20003) 46 0 1).2 46 k = if k = 0 then ((1 : Nat) : Int) else (w_scp wB 20003).2 46 k := fun k => by
          rw [w_a2, w_u_at]
          simp only [true_and]
          rfl
        have C46 : (w_scp wB 20003).2 46 = wB.2 46 := w_scp_2 wB _ (by decide)
        obtain ⟨RF, OF⟩ := RD_fs46 (f := 0) (x := 1) (fe := s_fe sB) (w' := w_a (w_scp wB 20003) 46 0 1) RC (Or.inl rfl) rfl (fun b h1 h2 => w_a_2ne _ _ _ h2) wa46 fun X g hg hq => by
          by_cases c : g = 0
          · rw [if_pos c] at hq; cases hq
          · rw [if_neg c] at hq
            have z : s_fs sB g = 2 := hq
            rw [b_fs g] at z
            cases z
        have hoF := oK_x (OF 0).2.2.2 hoC
        have F37 : (w_a (w_scp wB 20003) 46 0 1).2 37 = wB.2 37 := (w_a_2ne _ _ _ (by decide)).trans (w_scp_2 wB _ (by decide))
        have F3 : (w_a (w_scp wB 20003) 46 0 1).2 3 = wB.2 3 := (w_a_2ne _ _ _ (by decide)).trans (w_scp_2 wB _ (by decide))
        have F5 : (w_a (w_scp wB 20003) 46 0 1).2 5 = wB.2 5 := (w_a_2ne _ _ _ (by decide)).trans (w_scp_2 wB _ (by decide))
        have F7 : (w_a (w_scp wB 20003) 46 0 1).2 7 = wB.2 7 := (w_a_2ne _ _ _ (by decide)).trans (w_scp_2 wB _ (by decide))
        have F46 : (w_a (w_scp wB 20003) 46 0 1).2 46 = fun g => if g = 0 then 1 else wB.2 46 g := by
          funext k
          rw [wa46, C46]
          rfl
        have i37 : w_g (w_scp wB 20003) 37 (180 * 9) - 1 = it_id (C.2.2.1 0) := by
          rw [w_g_scp wB _ (by decide)]
          exact Bi
        have hw1 : w_opt (w_scp wB 20003) 180 = w_op1 (w_a (w_scp wB 20003) 46 0 1) 180 (it_id (C.2.2.1 0)) := by
          rw [w_opt_2 (by decide), i37]
          rfl
        rw [hw1]
        have eWt : eW (w_a (w_scp wB 20003) 46 0 1) 1 true (C.2.2.1 0) := by
          refine ⟨?_, ?_⟩
          · rw [F3, F5, F37, F46]
            exact eR_hb (by decide) BR
          · rw [F3, F5, F7]
            exact BI
        have I33 : (w_a (w_scp wB 20003) 46 0 1).1 33 1 = 0 := C33
        have I13 : (w_a (w_scp wB 20003) 46 0 1).1 41 13 = -1 := C13
        have I12 : (w_a (w_scp wB 20003) 46 0 1).1 41 12 = 0 := C12
        have I10 : (w_a (w_scp wB 20003) 46 0 1).1 41 10 = -1 := C10
        have xI : xP wB (w_a (w_scp wB 20003) 46 0 1) := xP_tr (xP_S SC ho) (OF 0).2.2.2
        generalize w_a (w_scp wB 20003) 46 0 1 = I at *
        have hI0 : 0 ≤ I.1 33 1 := by omega
        have RO := RD_op (x := 180) (j := it_id (C.2.2.1 0)) RF (by
          rw [I33]
          show 0 + 1 ≤ 19990 + 2 * (s_tb sB : Int)
          omega)
        obtain ⟨TO, fO⟩ := TX_op (w0 := wB) (x := 180) (t := C.2.2.1 0) hI0 (by rw [I33, e33]) (by rw [I13, e13])
        obtain ⟨n1, n2, n3, n4, n5⟩ := op1_n (x := 180) (j := it_id (C.2.2.1 0)) hI0
        have SO := op1_S I 180 (it_id (C.2.2.1 0))
        have xO : xP wB (w_op1 I 180 (it_id (C.2.2.1 0))) := xP_tr xI (xP_S SO hoF)
        have QO : TQ wB (w_op1 I 180 (it_id (C.2.2.1 0))) := ⟨by rw [n3, I12, e12]; rfl, fun k hk => by rw [e33] at hk; omega, fun k hk => by rw [e12] at hk; omega, xO⟩
        have dO : (w_op1 I 180 (it_id (C.2.2.1 0))).1 41 10 = -1 := n4.trans I10
        have eWO := eW_S SO eWt
        generalize w_op1 I 180 (it_id (C.2.2.1 0)) = w1 at *
        refine sim_run (ev_N C m) (ev_M C m) (ev_W C m) (ev_T C m) h4 hf _ (C.2.2.1 0) (Nat.le_refl _) .nil false n_none _ q fl E4 s3 hq w1 0 true RO rfl TO fO QO eWO dO (fun z => z.elim) (Int.le_refl _) (by show (0 : Int) + 12 * (s_b s3 : Int) ≤ 900000 + 12 * (s_b sB : Int); omega) ⟨by omega, hB.2⟩ fun i5 w5 l1 l2 R5 tl5 T5 q5 d5 => ?_
        have l2 : i5 + 12 * (s_b sB : Int) ≤ 0 + 12 * (s_b s3 : Int) := l2
        have T5' := T5
        obtain ⟨⟨t1, t2, t3⟩, ⟨t4, t5, t6, t7⟩, t8, t9, tw⟩ := T5'
        have t6 : f_t w5 3 = -1 := t6
        have hcn5 := R5.1.2.2.1.2.2.2
        have hct5 := R5.2.2.2.1
        have hrow5 := R5.2.2.2.2.1
        have ho5 := RD_oK R5.1
        have c5 : 1 ≤ w5.1 33 1 ∧ w5.1 33 1 < 24000 := by omega
        have nd3 : s_nd s3 + 1 ≤ 11 * s_tb s3 + 300 := by omega
        have X1 : (w_a (w_fnm w5 0 10) 46 0 2).1 = w5.1 := rfl
        have X2 : ∀ b, b ≠ 44 → b ≠ 46 → (w_a (w_fnm w5 0 10) 46 0 2).2 b = w5.2 b := fun b h1 h2 => (w_a_2ne _ _ _ h2).trans (w_fnm_2ne w5 0 10 h1)
        have X46 : ∀ k, (w_a (w_fnm w5 0 10) 46 0 2).2 46 k = if k = 0 then ((2 : Nat) : Int) else w5.2 46 k := fun k => by
          rw [w_a2, w_u_at, w_fnm_2ne w5 0 10 (by decide)]
          simp only [true_and]
          rfl
        have X44 : ∀ k : Nat, (w_a (w_fnm w5 0 10) 46 0 2).2 44 k = if (0 : Int) * 10 ≤ (k : Int) ∧ (k : Int) < (0 : Int) * 10 + 10 then w5.2 42 (w5.1 41 12 * 10 + ((k : Int) - (0 : Int) * 10)).toNat else w5.2 44 k := fun k => by
          rw [w_a_2ne _ _ _ (by decide)]
          unfold w_fnm
          simp only [true_and]
        obtain ⟨RG, OG⟩ := RD_fs46 (f := 0) (x := 2) (fe := fun g => if g = 0 then E4 else s_fe s3 g) (w' := w_a (w_fnm w5 0 10) 46 0 2) R5 (Or.inr rfl) X1 X2 X46 fun X g hg hq' m' hm' => by
          have h0 := hcn5.1.1
          have e44 := X44 (g * 10 + m')
          show match (if g = 0 then E4 else s_fe s3 g) m' with
            | none => (w_a (w_fnm w5 0 10) 46 0 2).2 44 (g * 10 + m') = 20005
            | some v => vR ((w_a (w_fnm w5 0 10) 46 0 2).1 13 2) ((w_a (w_fnm w5 0 10) 46 0 2).2 13) (fW0 (w_a (w_fnm w5 0 10) 46 0 2)) v ((w_a (w_fnm w5 0 10) 46 0 2).2 44 (g * 10 + m'))
          by_cases c : g = 0
          · have h1 := R5.2.1 m' hm'
            rw [if_pos ⟨by omega, by omega⟩, show (w5.1 41 12 * 10 + (((g * 10 + m' : Nat) : Int) - (0 : Int) * 10)).toNat = (w5.1 41 12).toNat * 10 + m' by omega] at e44
            rw [if_pos c, e44]
            have h1 : match E4 m' with
              | none => w5.2 42 ((w5.1 41 12).toNat * 10 + m') = 20005
              | some v => vW_ w5 v (w5.2 42 ((w5.1 41 12).toNat * 10 + m')) := h1
            cases z : E4 m' with
            | none => rw [z] at h1; exact h1
            | some v => rw [z] at h1; exact v0_x X h0 (vR_mono h0 (Int.le_refl _) (fun _ _ => rfl) fW_0 h1)
          · rw [if_neg c] at hq'
            have h1 := R5.1.2.2.1.2.2.1 g hg hq' m' hm'
            rw [if_neg (by omega)] at e44
            rw [if_neg c, e44]
            have h1 : match s_fe s3 g m' with
              | none => w5.2 44 (g * 10 + m') = 20005
              | some v => vR (w5.1 13 2) (w5.2 13) (fW0 w5) v (w5.2 44 (g * 10 + m')) := h1
            cases z : s_fe s3 g m' with
            | none => rw [z] at h1; exact h1
            | some v => rw [z] at h1; exact v0_x X h0 h1
        have hoG := oK_x (OG 0).2.2.2 ho5
        have fG : ∀ g : Int, f_t (w_a (w_fnm w5 0 10) 46 0 2) g = f_t w5 g := fun g => by
          unfold f_t w_g
          rw [X1, X2 34 (by decide) (by decide)]
        have TG : TX wB 180 .nil q fl (w_a (w_fnm w5 0 10) 46 0 2) := by
          refine ⟨⟨t1, t2, t3⟩, ⟨by rw [fG]; exact t4, by rw [fG]; exact t5, by rw [fG]; exact t6, by rw [fG]; exact t7⟩, by rw [fG]; exact cW_x (OG 0).2.2.2 t8, by rw [fG]; exact t9, fun z z1 z3 => ?_⟩
          rw [fG, fG]
          exact tw z z1 z3
        have QG : TQ wB (w_a (w_fnm w5 0 10) 46 0 2) := TQ_o q5 (OG _)
        refine dr_5 (f := 6) (by omega) d5 c5 t4 (lk_104a t6 c5 (lk_108b (f := 0) c5 (by omega) (by rw [t9]; split <;> (unfold am_rg; omega)) t5 (by omega) (by omega))) (by omega) (by omega) fun w6 hw6 => ?_
        have d6 : (w_a (w_fnm w5 0 10) 46 0 2).1 41 10 = -1 := d5
        obtain ⟨RZ, c33, QC, NC, vC, dC, -, -, -⟩ := RT_cl (hb := false) (s_tl sB) RG TG QG nd3
        have hw6 : w6 = w_ct (w_a (w_fnm w5 0 10) 46 0 2) := hw6
        generalize w_a (w_fnm w5 0 10) 46 0 2 = Gw at *
        rw [← hw6] at RZ c33 QC NC vC dC
        exact K (i5 + 1) w6 (by omega) (by show i5 + 1 ≤ 1 + 12 * (s_b s3 : Int); omega) RZ (by rw [c33, e33]) (by rw [QC.1.1, e12]) (dC.trans d6) QC.2.2.2 vC
  · cases hr
end
