/-! ===== the class: names that are kept, all ===== -/
theorem vW_un {w : W_} {v : T_} {x : Int} (h : vW_ w v x) : x ≠ 20005 := by
  have h2 := h.1
  unfold cR at h2
  split at h2
  all_goals first
    | exact h2.elim
    | (have := h2.1.1; omega)
    | (have := h2.1; omega)
    | omega
set_option maxRecDepth 100000 in
set_option maxHeartbeats 2000000 in
theorem lk_81 {w : W_} {id : Int} {U : Nat} {E : N_} (i0 : 0 ≤ id ∧ id < 1000) (hu : w_g w 37 (id * 9 + 4) = (U : Int)) (hU : U < 1024) (hs : 0 ≤ w.1 41 12 ∧ w.1 41 12 < 2300) (hE : nW w E) (hn : 0 ≤ w.1 13 2 ∧ w.1 13 2 ≤ 262000) (ho : oK w) (hg : gN (w.1 13 2) (w.2 7)) : ww_Ct 81 5 [.inr (.inr (.inl 41)), .inl id] w fun r w' => ∃ x, r = some (.inl x) ∧ hS w w' ∧ w'.1 13 2 ≤ w.1 13 2 + cn U 10 ∧ cR (w'.1 13 2) (w'.2 13) (fW w') (n_clos E (u_U U) 10) x := by
  refine of_81 (ww_go (ctL_cons ok_131 ctL_nil) 100 [16] ?_)
  simp only [ww_S, ww_1, wr_0, wr_1, wr_2, wr_3, wr_4, wr_5, wr_6, wr_7, wr_8, wr_9, wr_10, wr_11, wr_12, wr_13, wr_14, wr_15, wr_16, wr_17, wr_18, wr_19, wr_20, wr_21, wr_22, wr_23, wr_24, wr_25, wr_26, wr_27, wr_28, wr_29, wr_30, wr_31, wr_32, wr_33, wr_34, wr_35, wr_36, wr_37, wr_38, wr_39, wr_40, wr_41, wr_42, wr_43, wr_44, wr_45, wr_46, wr_47, wr_48, wr_49, wr_50, wr_51, wr_52, wr_53, wr_54, wr_55, wr_56, wr_57, wr_58, wr_59, wr_60, wr_61, wr_62, wr_63, wr_64, wr_65, wr_66, wr_67, wr_68, wr_69, wr_70, wr_71, wr_72, wr_73, wr_74, wr_75, wr_76, wr_77, wr_78, wr_79, wr_80, wr_81, wr_82, wr_83, wr_84, wr_85, wr_86, wr_87, ww_v1, ww_v2, ww_v3, ww_v4, ww_g0, ww_gS, ww_t0, ww_tS, ww_s0, ww_sS, ww_s2, ww_w1, ww_w2, ww_w3, ww_b, ww_tg, ww_p1, ww_p2, ww_q0, ww_qS, ww_k1, ww_k2, ww_k3, ww_w0, ww_wS, ww_i1, ww_i2, ww_f0, ww_f1, ww_f2, ww_f4, ww_fd, ww_cl, ww_mc, ww_tk, ww_ci, ww_ak, ww_gv, ww_g1, ww_kcs, w_f1, w_f2, w_a1, w_a2, w_u_at, dm_81, List.elem_nil, List.elem_cons, List.map_nil, List.map_cons, List.sum_nil, List.sum_cons, Option.toList_none, Option.toList_some, List.nil_append, List.cons_append, true_and, and_true, implies_true, false_implies, if_true, if_false, reduceIte, reduceCtorEq, Bool.false_eq_true, Bool.and_false, Bool.false_and, Bool.and_self, Bool.and_true, Bool.true_and, Nat.reduceAdd, Nat.reduceBEq, Nat.reduceEqDiff, Nat.reduceLT, Nat.reduceLeDiff, Int.reduceAdd, Int.reduceNeg, Int.reduceToNat, Int.reduceLE, Int.reduceLT, Int.reduceSub, Int.cast_ofNat_Int, Int.reduceNatCast', Int.reduceNatCast, Nat.zero_add, Int.zero_add, and_self, false_and, and_false, or_false, false_or, true_or, or_true, not_true_eq_false, not_false_eq_true, at_131, ctL_c, ctL_n, hu]
  refine ⟨⟨by omega, by omega⟩, ?_⟩
  refine ww_loop (P := fun m ls w' => ∃ (i : Nat) (x : Int) (v5 : am_V), i ≤ 10 ∧ m = 10 - i ∧ am_two v5 = false ∧ ls = [.inr (.inr (.inl 41)), .inl id, .inl (U : Int), .inl x, .inl (i : Int), v5] ∧ hS w w' ∧ w'.1 13 2 ≤ w.1 13 2 + cn U i ∧ cR (w'.1 13 2) (w'.2 13) (fW w') (n_clos E (u_U U) i) x) ?_ 10 _ _ ⟨0, 20003, am_X, by decide, rfl, rfl, rfl, hS_rf w, by show w.1 13 2 ≤ w.1 13 2 + ((0 : Nat) : Int); omega, rfl⟩
  rintro m ls w' ⟨i, x, v5, i1, hm, h5, rfl, hS', hc, hr⟩ ih
  by_cases c : i < 10
  · have hci := cn_le U i
    have e42 : w'.2 42 = w.2 42 := hS'.2.1 42 (by decide)
    have e12 : w'.1 41 12 = w.1 41 12 := hS'.1 41 12 (by decide)
    have hc13 := hS'.2.2.1
    have hrow := hE i c
    have hb := bit_81 U hU i c
    rw [← bsh_e] at hb
    have h0 : 0 ≤ w'.1 13 2 := by omega
    have xx := cR_lt h0 hr
    have ey : w_g w' 42 (w'.1 41 12 * 10 + i) = w.2 42 ((w.1 41 12).toNat * 10 + i) := by
      rw [wg_w, e42, e12]
      unfold wg
      have et : (w.1 41 12 * 10 + (i : Int)).toNat = (w.1 41 12).toNat * 10 + i := by omega
      rw [if_neg (by omega), et]
    have hX := hS_x hS' ho
    generalize hyy : w.2 42 ((w.1 41 12).toNat * 10 + i) = y at hrow ey
    have hv : E i = none ∧ y = 20005 ∨ ∃ v, E i = some v ∧ vW_ w v y := by
      cases q : E i with
      | none => rw [q] at hrow; exact Or.inl ⟨rfl, hrow⟩
      | some v => rw [q] at hrow; exact Or.inr ⟨v, rfl, hrow⟩
    have yr : am_rg y := by
      rcases hv with ⟨_, q⟩ | ⟨v, _, q⟩
      · rw [q]; unfold am_rg; omega
      · exact (vW_rg hn.1 (by omega) q).1
    have eb : U >>> i % 2 = 0 ∨ U >>> i % 2 = 1 := Nat.mod_two_eq_zero_or_one _
    generalize hbt : U >>> i % 2 = bt at hb eb
    have ecn : cn U (i + 1) = cn U i + (if bt = 1 then 1 else 0) := by rw [← hbt]; rfl
    have eu : u_U U i = (bt == 1) := by rw [← hbt]
    have enc : n_clos E (u_U U) (i + 1) = match u_U U i, E i with
      | true, some v => .append (.tag i v) (n_clos E (u_U U) i)
      | _, _ => n_clos E (u_U U) i := rfl
    refine lk_81s (y := y) ⟨by omega, by omega⟩ h5 (by rw [e12]; exact hs) ey (lk_81t (bt := (bt : Int)) ⟨by omega, by omega⟩ (by omega) hb ⟨h0, by omega⟩ (by unfold am_rg; omega) yr (fun q1 q2 => ?_) (fun q => ?_))
    · have hb1 : bt = 1 := by omega
      obtain ⟨v, ev, vv⟩ : ∃ v, E i = some v ∧ vW_ w v y := by
        rcases hv with ⟨_, q⟩ | q
        · exact absurd q q2
        · exact q
      have HM : hS w' (w_mk w' 14 y x i 0) := hS_mk h0 (cpx_of h0 (vW_x hX hn.1 vv).1) (cpx_of h0 hr) (fun q => absurd q (by decide))
      obtain ⟨k1, k2⟩ := new_mk (W := w') (k := 14) (b := y) (c := x) (d := i) (e := 0) h0 (by unfold am_rg; omega) (by unfold am_rg; omega) (gN_h hS' hg)
      have km := mk_f (w := w') (a := 14) (b := y) (c := x) (d := i) (e := 0) h0
      have oK' := oK_x hX ho
      have xM := hS_x HM oK'
      have vM := vW_x xM h0 (vW_x hX hn.1 vv)
      refine ih (10 - (i + 1)) _ _ (by omega) ⟨i + 1, _, _, by omega, rfl, rfl, rfl, hS_tr hS' HM, ?_, ?_⟩
      · rw [k1, ecn, if_pos hb1]; omega
      · rw [enc, eu, hb1, ev]
        exact ⟨k2, km.2.2.2.1, c, by rw [km.2.1]; exact vM.1, by rw [km.2.1]; exact vM.2, by rw [km.2.2.1]; exact cW_x xM hr⟩
    · refine ih (10 - (i + 1)) _ _ (by omega) ⟨i + 1, _, _, by omega, rfl, rfl, rfl, hS', ?_, ?_⟩
      · rw [ecn]; split <;> omega
      · have e2 : n_clos E (u_U U) (i + 1) = n_clos E (u_U U) i := by
          rw [enc, eu]
          rcases hv with ⟨q1, _⟩ | ⟨v, q1, q2⟩
          · rw [q1]; split <;> first | rfl | (next h => cases h)
          · have hy : y ≠ 20005 := by
              exact vW_un q2
            have hb0 : bt = 0 := by omega
            rw [hb0]; rfl
        rw [e2]; exact hr
  · have ei : i = 10 := by omega
    subst ei
    refine ww_go1 ctL_nil 100 [16] ?_
    simp only [ww_S, ww_1, wr_0, wr_1, wr_2, wr_3, wr_4, wr_5, wr_6, wr_7, wr_8, wr_9, wr_10, wr_11, wr_12, wr_13, wr_14, wr_15, wr_16, wr_17, wr_18, wr_19, wr_20, wr_21, wr_22, wr_23, wr_24, wr_25, wr_26, wr_27, wr_28, wr_29, wr_30, wr_31, wr_32, wr_33, wr_34, wr_35, wr_36, wr_37, wr_38, wr_39, wr_40, wr_41, wr_42, wr_43, wr_44, wr_45, wr_46, wr_47, wr_48, wr_49, wr_50, wr_51, wr_52, wr_53, wr_54, wr_55, wr_56, wr_57, wr_58, wr_59, wr_60, wr_61, wr_62, wr_63, wr_64, wr_65, wr_66, wr_67, wr_68, wr_69, wr_70, wr_71, wr_72, wr_73, wr_74, wr_75, wr_76, wr_77, wr_78, wr_79, wr_80, wr_81, wr_82, wr_83, wr_84, wr_85, wr_86, wr_87, ww_v1, ww_v2, ww_v3, ww_v4, ww_g0, ww_gS, ww_t0, ww_tS, ww_s0, ww_sS, ww_s2, ww_w1, ww_w2, ww_w3, ww_b, ww_tg, ww_p1, ww_p2, ww_q0, ww_qS, ww_k1, ww_k2, ww_k3, ww_w0, ww_wS, ww_i1, ww_i2, ww_f0, ww_f1, ww_f2, ww_f4, ww_fd, ww_cl, ww_mc, ww_tk, ww_ci, ww_ak, ww_gv, ww_g1, ww_kcs, w_f1, w_f2, w_a1, w_a2, w_u_at, dm_81, List.elem_nil, List.elem_cons, List.map_nil, List.map_cons, List.sum_nil, List.sum_cons, Option.toList_none, Option.toList_some, List.nil_append, List.cons_append, true_and, and_true, implies_true, false_implies, if_true, if_false, reduceIte, reduceCtorEq, Bool.false_eq_true, Bool.and_false, Bool.false_and, Bool.and_self, Bool.and_true, Bool.true_and, Nat.reduceAdd, Nat.reduceBEq, Nat.reduceEqDiff, Nat.reduceLT, Nat.reduceLeDiff, Int.reduceAdd, Int.reduceNeg, Int.reduceToNat, Int.reduceLE, Int.reduceLT, Int.reduceSub, Int.cast_ofNat_Int, Int.reduceNatCast', Int.reduceNatCast, Nat.zero_add, Int.zero_add, and_self, false_and, and_false, or_false, false_or, true_or, or_true, not_true_eq_false, not_false_eq_true, ctL_n]
    have z : ∃ x_1, some (Sum.inl x : am_V) = some (Sum.inl x_1) ∧ hS w w' ∧ w'.1 13 2 ≤ w.1 13 2 + cn U 10 ∧ cR (w'.1 13 2) (w'.2 13) (fW w') (n_clos E (u_U U) 10) x_1 := ⟨x, rfl, hS', hc, hr⟩
    (repeat' (first | (with_reducible exact z) | (with_reducible exact trivial) | (with_reducible assumption) | refine And.intro ?_ ?_ | intro _)) <;> first | omega | (unfold am_rg at *; omega) | (exfalso; omega) | skip
