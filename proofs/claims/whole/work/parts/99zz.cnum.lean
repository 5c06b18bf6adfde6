/-! ===== the class: the numbers that a function looks at ===== -/
theorem k_fit_iff {e cl : T_} : k_fit e cl = true ↔ e_imp (e_part e) = false ∧ ∀ m, m < 10 → e_use e m = true → (k_nums e cl m).isSome = true := by
  unfold k_fit
  rw [Bool.and_eq_true, List.all_eq_true]
  constructor
  · rintro ⟨h1, h2⟩
    refine ⟨?_, fun m hm hu => ?_⟩
    · cases q : e_imp (e_part e) with
      | false => rfl
      | true => rw [q] at h1; cases h1
    · have := h2 m (List.mem_range.mpr hm)
      rw [hu] at this
      exact this
  · rintro ⟨h1, h2⟩
    refine ⟨by rw [h1]; rfl, fun m hm => ?_⟩
    cases q : e_use e m with
    | false => rfl
    | true => exact h2 m (List.mem_range.mp hm) q
/-- nothing but the row of numbers is another -/
def n48 (w w' : W_) : Prop := w'.1 = w.1 ∧ ∀ b, b ≠ 48 → w'.2 b = w.2 b
/-- the row of numbers as a function looks at it -/
def rK (row : Nat → Int) (e cl : T_) : Prop := ∀ k, k < 10 → (e_use e k = true → match k_nums e cl k with
  | some y => row k = y ∧ -9999 ≤ y ∧ y ≤ 9999
  | none => ¬ (-9999 ≤ row k ∧ row k ≤ 9999)) ∧ (e_use e k = false → row k = 20005)
theorem rK_of {w : W_} {e : T_} {E0 : N_} {row : Nat → Int} (h0 : 0 ≤ w.1 13 2) (h : ∀ k, k < 10 → (∀ v, e_use e k = true → E0 k = some v → vW_ w v (row k)) ∧ ((e_use e k = true → E0 k = none) → row k = 20005)) : rK row e (n_clos E0 (e_use e) 10) := by
  intro k hk
  obtain ⟨a, b⟩ := h k hk
  refine ⟨fun hu => ?_, fun hu => b fun q => by rw [hu] at q; cases q⟩
  have g : n_get (n_clos E0 (e_use e) 10) k = E0 k := by rw [n_get_clos, if_pos ⟨hk, hu⟩]
  have e1 : k_nums e (n_clos E0 (e_use e) 10) k = match E0 k with
    | some v => v_num v
    | none => none := by
    unfold k_nums
    rw [if_pos hu, g]
    cases E0 k <;> rfl
  rw [e1]
  cases q : E0 k with
  | none =>
    have := b fun _ => q
    show ¬ _
    omega
  | some v =>
    have z := vW_num h0 (a v hu q)
    show match v_num v with
      | some y => row k = y ∧ -9999 ≤ y ∧ y ≤ 9999
      | none => ¬ (-9999 ≤ row k ∧ row k ≤ 9999)
    cases y : v_num v with
    | none => rw [y] at z; exact z
    | some x =>
      rw [y] at z
      have z : row k = x ∧ -9999 ≤ row k ∧ row k ≤ 9999 := z
      exact ⟨z.1, by omega, by omega⟩
theorem rK_fit {row : Nat → Int} {e cl : T_} (h : rK row e cl) (hf : k_fit e cl = true) : ∀ m : Nat, m < 10 → row m = (k_nums e cl m).getD 20005 := by
  intro m hm
  obtain ⟨-, f⟩ := k_fit_iff.mp hf
  cases q : e_use e m with
  | false =>
    rw [(h m hm).2 q]
    unfold k_nums
    rw [q]
    rfl
  | true =>
    have a := (h m hm).1 q
    have b := f m hm q
    cases y : k_nums e cl m with
    | none => rw [y] at b; cases b
    | some x => rw [y] at a; exact a.1
set_option maxRecDepth 100000 in
set_option maxHeartbeats 2000000 in
theorem lk_96b {Q : Option am_V → W_ → Prop} {w : W_} {x id bb u j : Int} (j0 : 0 ≤ j ∧ j < 10) (hb : (Int32.ofInt (bsh u j) &&& Int32.ofInt 1).toInt = 0) (K : ww_Z 8 6 4 2 cX8_findNumbers none Q 116 [.inr (.inr (.inl 41)), .inl x, .inl id, .inl bb, .inl u, .inl (j + 1)] [] w) : ww_Z 8 6 4 2 cX8_findNumbers none Q 127 [.inr (.inr (.inl 41)), .inl x, .inl id, .inl bb, .inl u, .inl j] [.inl j, .inl u] w := by
  have z := K
  refine ww_go1 ctL_nil 60 [116] ?_
  simp only [ww_S, ww_1, wr_0, wr_1, wr_2, wr_3, wr_4, wr_5, wr_6, wr_7, wr_8, wr_9, wr_10, wr_11, wr_12, wr_13, wr_14, wr_15, wr_16, wr_17, wr_18, wr_19, wr_20, wr_21, wr_22, wr_23, wr_24, wr_25, wr_26, wr_27, wr_28, wr_29, wr_30, wr_31, wr_32, wr_33, wr_34, wr_35, wr_36, wr_37, wr_38, wr_39, wr_40, wr_41, wr_42, wr_43, wr_44, wr_45, wr_46s, wr_47, wr_48, wr_49, wr_50, wr_51, wr_52, wr_53, wr_54, wr_55, wr_56, wr_57, wr_58, wr_59, wr_60, wr_61, wr_62, wr_63, wr_64, wr_65, wr_66, wr_67, wr_68, wr_69, wr_70, wr_71, wr_72, wr_73, wr_74, wr_75, wr_76, wr_77, wr_78, wr_79, wr_80, wr_81, wr_82, wr_83, wr_84, wr_85, wr_86, wr_87, ww_v1, ww_v2, ww_v3, ww_v4, ww_g0, ww_gS, ww_t0, ww_tS, ww_s0, ww_sS, ww_s2, ww_w1, ww_w2, ww_w3, ww_b, ww_tg, ww_p1, ww_p2, ww_q0, ww_qS, ww_k1, ww_k2, ww_k3, ww_w0, ww_wS, ww_i1, ww_i2, ww_f0, ww_f1, ww_f2, ww_f4, ww_fd, ww_cl, ww_mc, ww_tk, ww_ci, ww_ak, ww_gv, ww_g1, ww_kcs, w_f1, w_f2, w_a1, w_a2, w_u_at, dm_96, List.elem_nil, List.elem_cons, List.map_nil, List.map_cons, List.sum_nil, List.sum_cons, Option.toList_none, Option.toList_some, List.nil_append, List.cons_append, true_and, and_true, implies_true, false_implies, if_true, if_false, reduceIte, reduceCtorEq, Bool.false_eq_true, Bool.and_false, Bool.false_and, Bool.and_self, Bool.and_true, Bool.true_and, Nat.reduceAdd, Nat.reduceBEq, Nat.reduceEqDiff, Nat.reduceLT, Nat.reduceLeDiff, Int.reduceAdd, Int.reduceNeg, Int.reduceToNat, Int.reduceLE, Int.reduceLT, Int.reduceSub, Int.cast_ofNat_Int, Int.reduceNatCast', Int.reduceNatCast, Nat.zero_add, Int.zero_add, and_self, false_and, and_false, or_false, false_or, true_or, or_true, not_true_eq_false, not_false_eq_true, ctL_n, hb]
  (repeat' (first | (with_reducible assumption) | (with_reducible exact trivial) | (with_reducible exact z) | refine And.intro ?_ ?_ | intro _)) <;> first | omega | (unfold am_rg at *; omega) | (with_reducible rfl) | (exfalso; omega) | decide | skip
set_option maxRecDepth 100000 in
set_option maxHeartbeats 2000000 in
theorem lk_96c {Q : Option am_V → W_ → Prop} {w : W_} {x id bb u j y : Int} (j0 : 0 ≤ j ∧ j < 10) (hb : (Int32.ofInt (bsh u j) &&& Int32.ofInt 1).toInt = 1) (hy : w_g w 48 j = y) (y0 : -9999 ≤ y ∧ y ≤ 9999) (K : ww_Z 8 6 4 2 cX8_findNumbers none Q 116 [.inr (.inr (.inl 41)), .inl x, .inl id, .inl bb, .inl u, .inl (j + 1)] [] w) : ww_Z 8 6 4 2 cX8_findNumbers none Q 127 [.inr (.inr (.inl 41)), .inl x, .inl id, .inl bb, .inl u, .inl j] [.inl j, .inl u] w := by
  have z := K
  refine ww_go1 (ctL_cons ok_68 (ctL_cons ok_161 ctL_nil)) 60 [116] ?_
  simp only [ww_S, ww_1, wr_0, wr_1, wr_2, wr_3, wr_4, wr_5, wr_6, wr_7, wr_8, wr_9, wr_10, wr_11, wr_12, wr_13, wr_14, wr_15, wr_16, wr_17, wr_18, wr_19, wr_20, wr_21, wr_22, wr_23, wr_24, wr_25, wr_26, wr_27, wr_28, wr_29, wr_30, wr_31, wr_32, wr_33, wr_34, wr_35, wr_36, wr_37, wr_38, wr_39, wr_40, wr_41, wr_42, wr_43, wr_44, wr_45, wr_46s, wr_47, wr_48, wr_49, wr_50, wr_51, wr_52, wr_53, wr_54, wr_55, wr_56, wr_57, wr_58, wr_59, wr_60, wr_61, wr_62, wr_63, wr_64, wr_65, wr_66, wr_67, wr_68, wr_69, wr_70, wr_71, wr_72, wr_73, wr_74, wr_75, wr_76, wr_77, wr_78, wr_79, wr_80, wr_81, wr_82, wr_83, wr_84, wr_85, wr_86, wr_87, ww_v1, ww_v2, ww_v3, ww_v4, ww_g0, ww_gS, ww_t0, ww_tS, ww_s0, ww_sS, ww_s2, ww_w1, ww_w2, ww_w3, ww_b, ww_tg, ww_p1, ww_p2, ww_q0, ww_qS, ww_k1, ww_k2, ww_k3, ww_w0, ww_wS, ww_i1, ww_i2, ww_f0, ww_f1, ww_f2, ww_f4, ww_fd, ww_cl, ww_mc, ww_tk, ww_ci, ww_ak, ww_gv, ww_g1, ww_kcs, w_f1, w_f2, w_a1, w_a2, w_u_at, dm_96, List.elem_nil, List.elem_cons, List.map_nil, List.map_cons, List.sum_nil, List.sum_cons, Option.toList_none, Option.toList_some, List.nil_append, List.cons_append, true_and, and_true, implies_true, false_implies, if_true, if_false, reduceIte, reduceCtorEq, Bool.false_eq_true, Bool.and_false, Bool.false_and, Bool.and_self, Bool.and_true, Bool.true_and, Nat.reduceAdd, Nat.reduceBEq, Nat.reduceEqDiff, Nat.reduceLT, Nat.reduceLeDiff, Int.reduceAdd, Int.reduceNeg, Int.reduceToNat, Int.reduceLE, Int.reduceLT, Int.reduceSub, Int.cast_ofNat_Int, Int.reduceNatCast', Int.reduceNatCast, Nat.zero_add, Int.zero_add, and_self, false_and, and_false, or_false, false_or, true_or, or_true, not_true_eq_false, not_false_eq_true, at_68, at_161, ctL_c, ctL_n, w_isRs, hb, hy, w_i0, w_i1, w_i2]
  (repeat' (first | (with_reducible assumption) | (with_reducible exact trivial) | (with_reducible exact z) | refine And.intro ?_ ?_ | intro _)) <;> first | omega | (unfold am_rg at *; omega) | (with_reducible rfl) | (exfalso; omega) | decide | skip
set_option maxRecDepth 100000 in
set_option maxHeartbeats 2000000 in
theorem lk_96d {Q : Option am_V → W_ → Prop} {w : W_} {x id bb u j y : Int} (j0 : 0 ≤ j ∧ j < 10) (hb : (Int32.ofInt (bsh u j) &&& Int32.ofInt 1).toInt = 1) (hy : w_g w 48 j = y) (yr : am_rg y) (y0 : ¬ (-9999 ≤ y ∧ y ≤ 9999)) (K : Q (some (.inl 0)) w) : ww_Z 8 6 4 2 cX8_findNumbers none Q 127 [.inr (.inr (.inl 41)), .inl x, .inl id, .inl bb, .inl u, .inl j] [.inl j, .inl u] w := by
  have z := K
  refine ww_go1 (ctL_cons ok_68 (ctL_cons ok_161 ctL_nil)) 60 [116] ?_
  simp only [ww_S, ww_1, wr_0, wr_1, wr_2, wr_3, wr_4, wr_5, wr_6, wr_7, wr_8, wr_9, wr_10, wr_11, wr_12, wr_13, wr_14, wr_15, wr_16, wr_17, wr_18, wr_19, wr_20, wr_21, wr_22, wr_23, wr_24, wr_25, wr_26, wr_27, wr_28, wr_29, wr_30, wr_31, wr_32, wr_33, wr_34, wr_35, wr_36, wr_37, wr_38, wr_39, wr_40, wr_41, wr_42, wr_43, wr_44, wr_45, wr_46s, wr_47, wr_48, wr_49, wr_50, wr_51, wr_52, wr_53, wr_54, wr_55, wr_56, wr_57, wr_58, wr_59, wr_60, wr_61, wr_62, wr_63, wr_64, wr_65, wr_66, wr_67, wr_68, wr_69, wr_70, wr_71, wr_72, wr_73, wr_74, wr_75, wr_76, wr_77, wr_78, wr_79, wr_80, wr_81, wr_82, wr_83, wr_84, wr_85, wr_86, wr_87, ww_v1, ww_v2, ww_v3, ww_v4, ww_g0, ww_gS, ww_t0, ww_tS, ww_s0, ww_sS, ww_s2, ww_w1, ww_w2, ww_w3, ww_b, ww_tg, ww_p1, ww_p2, ww_q0, ww_qS, ww_k1, ww_k2, ww_k3, ww_w0, ww_wS, ww_i1, ww_i2, ww_f0, ww_f1, ww_f2, ww_f4, ww_fd, ww_cl, ww_mc, ww_tk, ww_ci, ww_ak, ww_gv, ww_g1, ww_kcs, w_f1, w_f2, w_a1, w_a2, w_u_at, dm_96, List.elem_nil, List.elem_cons, List.map_nil, List.map_cons, List.sum_nil, List.sum_cons, Option.toList_none, Option.toList_some, List.nil_append, List.cons_append, true_and, and_true, implies_true, false_implies, if_true, if_false, reduceIte, reduceCtorEq, Bool.false_eq_true, Bool.and_false, Bool.false_and, Bool.and_self, Bool.and_true, Bool.true_and, Nat.reduceAdd, Nat.reduceBEq, Nat.reduceEqDiff, Nat.reduceLT, Nat.reduceLeDiff, Int.reduceAdd, Int.reduceNeg, Int.reduceToNat, Int.reduceLE, Int.reduceLT, Int.reduceSub, Int.cast_ofNat_Int, Int.reduceNatCast', Int.reduceNatCast, Nat.zero_add, Int.zero_add, and_self, false_and, and_false, or_false, false_or, true_or, or_true, not_true_eq_false, not_false_eq_true, at_68, at_161, ctL_c, ctL_n, w_isRs, hb, hy, w_i0, w_i1, w_i2]
  (repeat' (first | (with_reducible assumption) | (with_reducible exact trivial) | (with_reducible exact z) | refine And.intro ?_ ?_ | intro _)) <;> first | omega | (unfold am_rg at *; omega) | (with_reducible rfl) | (exfalso; omega) | decide | skip
set_option maxRecDepth 100000 in
set_option maxHeartbeats 2000000 in
theorem lk_96u {Q : Option am_V → W_ → Prop} {w : W_} {x id bb ll : Int} {v5 : am_V} {U : Nat} (hU : U < 1024) (e37 : w_g w 37 (id * 9 + 4) = (U : Int)) (i0 : 0 ≤ id ∧ id < 1000) (h5 : am_two v5 = false) (hrg : ∀ k : Nat, k < 10 → am_rg (w.2 48 k)) (Y : (∀ k : Nat, k < 10 → U >>> k % 2 = 1 → -9999 ≤ w.2 48 k ∧ w.2 48 k ≤ 9999) → Q (some (.inl 1)) w) (N : ∀ k : Nat, k < 10 → U >>> k % 2 = 1 → ¬ (-9999 ≤ w.2 48 k ∧ w.2 48 k ≤ 9999) → Q (some (.inl 0)) w) : ww_Z 8 6 4 2 cX8_findNumbers none Q 103 [.inr (.inr (.inl 41)), .inl x, .inl id, .inl bb, .inl ll, v5] [] w := by
  have L : ww_Z 8 6 4 2 cX8_findNumbers none Q 116 [.inr (.inr (.inl 41)), .inl x, .inl id, .inl bb, .inl (U : Int), .inl 0] [] w := by
    refine ww_loop (P := fun m ls w' => ∃ j : Nat, j ≤ 10 ∧ m = 10 - j ∧ ls = [.inr (.inr (.inl 41)), .inl x, .inl id, .inl bb, .inl (U : Int), .inl (j : Int)] ∧ w = w' ∧ ∀ k : Nat, k < j → U >>> k % 2 = 1 → -9999 ≤ w.2 48 k ∧ w.2 48 k ≤ 9999) ?_ 10 _ _ ⟨0, by decide, rfl, rfl, rfl, fun k hk => absurd hk (Nat.not_lt_zero _)⟩
    rintro m ls w' ⟨j, j1, hm, rfl, rfl, hj⟩ ih
    by_cases cj : j < 10
    · have hbit := bit_81 U hU j cj
      rw [← bsh_e] at hbit
      have eb : U >>> j % 2 = 0 ∨ U >>> j % 2 = 1 := Nat.mod_two_eq_zero_or_one _
      have kr := hrg j cj
      have N1 : (U >>> j % 2 = 1 → -9999 ≤ w.2 48 j ∧ w.2 48 j ≤ 9999) → ww_Z 8 6 4 2 cX8_findNumbers none Q 116 [.inr (.inr (.inl 41)), .inl x, .inl id, .inl bb, .inl (U : Int), .inl ((j : Int) + 1)] [] w := fun q => ih (10 - (j + 1)) _ _ (by omega) ⟨j + 1, by omega, rfl, rfl, rfl, fun k k1 k2 => by
        by_cases c : k = j
        · rw [c] at k2 ⊢; exact q k2
        · exact hj k (by omega) k2⟩
      have Nj := N j cj
      have eg : w_g w 48 (j : Int) = w.2 48 j := by
        rw [wg_w]
        unfold wg
        rw [if_neg (by omega), Int.toNat_natCast]
      generalize w.2 48 j = y at kr N1 Nj eg
      generalize U >>> j % 2 = bt at hbit eb N1 Nj
      have Lb : ww_Z 8 6 4 2 cX8_findNumbers none Q 127 [.inr (.inr (.inl 41)), .inl x, .inl id, .inl bb, .inl (U : Int), .inl (j : Int)] [.inl (j : Int), .inl (U : Int)] w := by
        rcases eb with rfl | rfl
        · exact lk_96b ⟨by omega, by omega⟩ hbit (N1 fun q => by cases q)
        · by_cases cy : -9999 ≤ y ∧ y ≤ 9999
          · exact lk_96c ⟨by omega, by omega⟩ hbit eg cy (N1 fun _ => cy)
          · exact lk_96d ⟨by omega, by omega⟩ hbit eg kr cy (Nj rfl cy)
      have j0 : 0 ≤ (j : Int) ∧ (j : Int) < 10 := ⟨by omega, by omega⟩
      generalize (j : Int) = J at Lb j0
      generalize (U : Int) = UU at Lb
      refine ww_go1 ctL_nil 60 [116, 127] ?_
      simp only [ww_S, ww_1, wr_0, wr_1, wr_2, wr_3, wr_4, wr_5, wr_6, wr_7, wr_8, wr_9, wr_10, wr_11, wr_12, wr_13, wr_14, wr_15, wr_16, wr_17, wr_18, wr_19, wr_20, wr_21, wr_22, wr_23, wr_24, wr_25, wr_26, wr_27, wr_28, wr_29, wr_30, wr_31, wr_32, wr_33, wr_34, wr_35, wr_36, wr_37, wr_38, wr_39, wr_40, wr_41, wr_42, wr_43, wr_44, wr_45, wr_46, wr_47, wr_48, wr_49, wr_50, wr_51, wr_52, wr_53, wr_54, wr_55, wr_56, wr_57, wr_58, wr_59, wr_60, wr_61, wr_62, wr_63, wr_64, wr_65, wr_66, wr_67, wr_68, wr_69, wr_70, wr_71, wr_72, wr_73, wr_74, wr_75, wr_76, wr_77, wr_78, wr_79, wr_80, wr_81, wr_82, wr_83, wr_84, wr_85, wr_86, wr_87, ww_v1, ww_v2, ww_v3, ww_v4, ww_g0, ww_gS, ww_t0, ww_tS, ww_s0, ww_sS, ww_s2, ww_w1, ww_w2, ww_w3, ww_b, ww_tg, ww_p1, ww_p2, ww_q0, ww_qS, ww_k1, ww_k2, ww_k3, ww_w0, ww_wS, ww_i1, ww_i2, ww_f0, ww_f1, ww_f2, ww_f4, ww_fd, ww_cl, ww_mc, ww_tk, ww_ci, ww_ak, ww_gv, ww_g1, ww_kcs, w_f1, w_f2, w_a1, w_a2, w_u_at, dm_96, List.elem_nil, List.elem_cons, List.map_nil, List.map_cons, List.sum_nil, List.sum_cons, Option.toList_none, Option.toList_some, List.nil_append, List.cons_append, true_and, and_true, implies_true, false_implies, if_true, if_false, reduceIte, reduceCtorEq, Bool.false_eq_true, Bool.and_false, Bool.false_and, Bool.and_self, Bool.and_true, Bool.true_and, Nat.reduceAdd, Nat.reduceBEq, Nat.reduceEqDiff, Nat.reduceLT, Nat.reduceLeDiff, Int.reduceAdd, Int.reduceNeg, Int.reduceToNat, Int.reduceLE, Int.reduceLT, Int.reduceSub, Int.cast_ofNat_Int, Int.reduceNatCast', Int.reduceNatCast, Nat.zero_add, Int.zero_add, and_self, false_and, and_false, or_false, false_or, true_or, or_true, not_true_eq_false, not_false_eq_true, ctL_n]
      (repeat' (first | (with_reducible assumption) | (with_reducible exact trivial) | (with_reducible exact Lb) | refine And.intro ?_ ?_ | intro _)) <;> first | omega | (unfold am_rg at *; omega) | (with_reducible rfl) | (exfalso; omega) | decide | skip
    · have ej : j = 10 := by omega
      subst ej
      have z := Y fun k hk => hj k hk
      generalize (U : Int) = UU
      have e10 : ((10 : Nat) : Int) = 10 := rfl
      rw [e10]
      refine ww_go1 ctL_nil 60 [116, 127] ?_
      simp only [ww_S, ww_1, wr_0, wr_1, wr_2, wr_3, wr_4, wr_5, wr_6, wr_7, wr_8, wr_9, wr_10, wr_11, wr_12, wr_13, wr_14, wr_15, wr_16, wr_17, wr_18, wr_19, wr_20, wr_21, wr_22, wr_23, wr_24, wr_25, wr_26, wr_27, wr_28, wr_29, wr_30, wr_31, wr_32, wr_33, wr_34, wr_35, wr_36, wr_37, wr_38, wr_39, wr_40, wr_41, wr_42, wr_43, wr_44, wr_45, wr_46, wr_47, wr_48, wr_49, wr_50, wr_51, wr_52, wr_53, wr_54, wr_55, wr_56, wr_57, wr_58, wr_59, wr_60, wr_61, wr_62, wr_63, wr_64, wr_65, wr_66, wr_67, wr_68, wr_69, wr_70, wr_71, wr_72, wr_73, wr_74, wr_75, wr_76, wr_77, wr_78, wr_79, wr_80, wr_81, wr_82, wr_83, wr_84, wr_85, wr_86, wr_87, ww_v1, ww_v2, ww_v3, ww_v4, ww_g0, ww_gS, ww_t0, ww_tS, ww_s0, ww_sS, ww_s2, ww_w1, ww_w2, ww_w3, ww_b, ww_tg, ww_p1, ww_p2, ww_q0, ww_qS, ww_k1, ww_k2, ww_k3, ww_w0, ww_wS, ww_i1, ww_i2, ww_f0, ww_f1, ww_f2, ww_f4, ww_fd, ww_cl, ww_mc, ww_tk, ww_ci, ww_ak, ww_gv, ww_g1, ww_kcs, w_f1, w_f2, w_a1, w_a2, w_u_at, dm_96, List.elem_nil, List.elem_cons, List.map_nil, List.map_cons, List.sum_nil, List.sum_cons, Option.toList_none, Option.toList_some, List.nil_append, List.cons_append, true_and, and_true, implies_true, false_implies, if_true, if_false, reduceIte, reduceCtorEq, Bool.false_eq_true, Bool.and_false, Bool.false_and, Bool.and_self, Bool.and_true, Bool.true_and, Nat.reduceAdd, Nat.reduceBEq, Nat.reduceEqDiff, Nat.reduceLT, Nat.reduceLeDiff, Int.reduceAdd, Int.reduceNeg, Int.reduceToNat, Int.reduceLE, Int.reduceLT, Int.reduceSub, Int.cast_ofNat_Int, Int.reduceNatCast', Int.reduceNatCast, Nat.zero_add, Int.zero_add, and_self, false_and, and_false, or_false, false_or, true_or, or_true, not_true_eq_false, not_false_eq_true, ctL_n]
      (repeat' (first | (with_reducible assumption) | (with_reducible exact trivial) | (with_reducible exact z) | refine And.intro ?_ ?_ | intro _)) <;> first | omega | (unfold am_rg at *; omega) | (with_reducible rfl) | (exfalso; omega) | decide | skip
  generalize (U : Int) = UU at L e37
  refine ww_go1 (ctL_cons ok_131 ctL_nil) 60 [116] ?_
  simp only [ww_S, ww_1, wr_0, wr_1, wr_2, wr_3, wr_4, wr_5, wr_6, wr_7, wr_8, wr_9, wr_10, wr_11, wr_12, wr_13, wr_14, wr_15, wr_16, wr_17, wr_18, wr_19, wr_20, wr_21, wr_22, wr_23, wr_24, wr_25, wr_26, wr_27, wr_28, wr_29, wr_30, wr_31, wr_32, wr_33, wr_34, wr_35, wr_36, wr_37, wr_38, wr_39, wr_40, wr_41, wr_42, wr_43, wr_44, wr_45, wr_46, wr_47, wr_48, wr_49, wr_50, wr_51, wr_52, wr_53, wr_54, wr_55, wr_56, wr_57, wr_58, wr_59, wr_60, wr_61, wr_62, wr_63, wr_64, wr_65, wr_66, wr_67, wr_68, wr_69, wr_70, wr_71, wr_72, wr_73, wr_74, wr_75, wr_76, wr_77, wr_78, wr_79, wr_80, wr_81, wr_82, wr_83, wr_84, wr_85, wr_86, wr_87, ww_v1, ww_v2, ww_v3, ww_v4, ww_g0, ww_gS, ww_t0, ww_tS, ww_s0, ww_sS, ww_s2, ww_w1, ww_w2, ww_w3, ww_b, ww_tg, ww_p1, ww_p2, ww_q0, ww_qS, ww_k1, ww_k2, ww_k3, ww_w0, ww_wS, ww_i1, ww_i2, ww_f0, ww_f1, ww_f2, ww_f4, ww_fd, ww_cl, ww_mc, ww_tk, ww_ci, ww_ak, ww_gv, ww_g1, ww_kcs, w_f1, w_f2, w_a1, w_a2, w_u_at, dm_96, List.elem_nil, List.elem_cons, List.map_nil, List.map_cons, List.sum_nil, List.sum_cons, Option.toList_none, Option.toList_some, List.nil_append, List.cons_append, true_and, and_true, implies_true, false_implies, if_true, if_false, reduceIte, reduceCtorEq, Bool.false_eq_true, Bool.and_false, Bool.false_and, Bool.and_self, Bool.and_true, Bool.true_and, Nat.reduceAdd, Nat.reduceBEq, Nat.reduceEqDiff, Nat.reduceLT, Nat.reduceLeDiff, Int.reduceAdd, Int.reduceNeg, Int.reduceToNat, Int.reduceLE, Int.reduceLT, Int.reduceSub, Int.cast_ofNat_Int, Int.reduceNatCast', Int.reduceNatCast, Nat.zero_add, Int.zero_add, and_self, false_and, and_false, or_false, false_or, true_or, or_true, not_true_eq_false, not_false_eq_true, at_131, ctL_c, ctL_n, e37]
  (repeat' (first | (with_reducible assumption) | (with_reducible exact trivial) | (with_reducible exact L) | refine And.intro ?_ ?_ | intro _)) <;> first | omega | (unfold am_rg at *; omega) | (with_reducible rfl) | (exfalso; omega) | decide | skip
set_option maxRecDepth 100000 in
set_option maxHeartbeats 2000000 in
theorem lk_96w {Q : Option am_V → W_ → Prop} {w : W_} {x id bb l i b1 b2 : Int} {v5 : am_V} (hb : 30000 ≤ bb ∧ bb < 10000000) (hl : 1 ≤ l ∧ l ≤ 10) (e3 : w_h w bb 3 = i) (e1 : w_h w bb 1 = b1) (e2 : w_h w bb 2 = b2) (i0 : 0 ≤ i ∧ i < 10) (r1 : am_rg b1) (r2 : am_rg b2) (K : ww_Z 8 6 4 2 cX8_findNumbers none Q 50 [.inr (.inr (.inl 41)), .inl x, .inl id, .inl b2, .inl (l - 1), v5] [] (w_a w 48 i.toNat b1)) : ww_Z 8 6 4 2 cX8_findNumbers none Q 50 [.inr (.inr (.inl 41)), .inl x, .inl id, .inl bb, .inl l, v5] [] w := by
  have eh : w_h (w_a w 48 i.toNat b1) bb 2 = b2 := by
    rw [← e2, pH_w, pH_w, w_a_2ne _ _ _ (by decide)]
  have z := K
  have z' : ww_Z 8 6 4 2 cX8_findNumbers none Q 50 [.inr (.inr (.inl 41)), .inl x, .inl id, .inl b2, .inl (l + -1), v5] [] (w_a w 48 i.toNat b1) := K
  refine ww_go1 (ctL_cons ok_18 (ctL_cons ok_69 ctL_nil)) 60 [50, 103] ?_
  simp only [ww_S, ww_1, wr_0, wr_1, wr_2, wr_3, wr_4, wr_5, wr_6, wr_7, wr_8, wr_9, wr_10, wr_11, wr_12, wr_13, wr_14, wr_15, wr_16, wr_17, wr_18, wr_19, wr_20, wr_21, wr_22, wr_23, wr_24, wr_25, wr_26, wr_27, wr_28, wr_29, wr_30, wr_31, wr_32, wr_33, wr_34, wr_35, wr_36, wr_37, wr_38, wr_39, wr_40, wr_41, wr_42, wr_43, wr_44, wr_45, wr_46, wr_47, wr_48, wr_49, wr_50, wr_51, wr_52, wr_53, wr_54, wr_55, wr_56, wr_57, wr_58, wr_59, wr_60, wr_61, wr_62, wr_63, wr_64, wr_65, wr_66, wr_67, wr_68, wr_69, wr_70, wr_71, wr_72, wr_73, wr_74, wr_75, wr_76, wr_77, wr_78, wr_79, wr_80, wr_81, wr_82, wr_83, wr_84, wr_85, wr_86, wr_87, ww_v1, ww_v2, ww_v3, ww_v4, ww_g0, ww_gS, ww_t0, ww_tS, ww_s0, ww_sS, ww_s2, ww_w1, ww_w2, ww_w3, ww_b, ww_tg, ww_p1, ww_p2, ww_q0, ww_qS, ww_k1, ww_k2, ww_k3, ww_w0, ww_wS, ww_i1, ww_i2, ww_f0, ww_f1, ww_f2, ww_f4, ww_fd, ww_cl, ww_mc, ww_tk, ww_ci, ww_ak, ww_gv, ww_g1, ww_kcs, w_f1, w_f2, w_a1, w_a2, w_u_at, dm_96, List.elem_nil, List.elem_cons, List.map_nil, List.map_cons, List.sum_nil, List.sum_cons, Option.toList_none, Option.toList_some, List.nil_append, List.cons_append, true_and, and_true, implies_true, false_implies, if_true, if_false, reduceIte, reduceCtorEq, Bool.false_eq_true, Bool.and_false, Bool.false_and, Bool.and_self, Bool.and_true, Bool.true_and, Nat.reduceAdd, Nat.reduceBEq, Nat.reduceEqDiff, Nat.reduceLT, Nat.reduceLeDiff, Int.reduceAdd, Int.reduceNeg, Int.reduceToNat, Int.reduceLE, Int.reduceLT, Int.reduceSub, Int.cast_ofNat_Int, Int.reduceNatCast', Int.reduceNatCast, Nat.zero_add, Int.zero_add, and_self, false_and, and_false, or_false, false_or, true_or, or_true, not_true_eq_false, not_false_eq_true, at_18, at_69, ctL_c, ctL_n, w_isRs, w_bds, e3, e1, eh]
  (repeat' (first | (with_reducible assumption) | (with_reducible exact trivial) | (with_reducible exact z) | (with_reducible exact z') | refine And.intro ?_ ?_ | intro _)) <;> first | omega | (unfold am_rg at *; omega) | (with_reducible rfl) | (exfalso; omega) | decide | skip
set_option maxRecDepth 100000 in
set_option maxHeartbeats 2000000 in
theorem lk_96x {Q : Option am_V → W_ → Prop} {w : W_} {x id bb l : Int} {v5 : am_V} (hb : -100000 ≤ bb ∧ bb < 10000000) (hl : 0 ≤ l ∧ l ≤ 10) (hn : bb < 30000 ∨ l = 0) (K : ww_Z 8 6 4 2 cX8_findNumbers none Q 103 [.inr (.inr (.inl 41)), .inl x, .inl id, .inl bb, .inl l, v5] [] w) : ww_Z 8 6 4 2 cX8_findNumbers none Q 50 [.inr (.inr (.inl 41)), .inl x, .inl id, .inl bb, .inl l, v5] [] w := by
  have z := K
  refine ww_go1 ctL_nil 60 [50, 103] ?_
  simp only [ww_S, ww_1, wr_0, wr_1, wr_2, wr_3, wr_4, wr_5, wr_6, wr_7, wr_8, wr_9, wr_10, wr_11, wr_12, wr_13, wr_14, wr_15, wr_16, wr_17, wr_18, wr_19, wr_20, wr_21, wr_22, wr_23, wr_24, wr_25, wr_26, wr_27, wr_28, wr_29, wr_30, wr_31, wr_32, wr_33, wr_34, wr_35, wr_36, wr_37, wr_38, wr_39, wr_40, wr_41, wr_42, wr_43, wr_44, wr_45, wr_46, wr_47, wr_48, wr_49, wr_50, wr_51, wr_52, wr_53, wr_54, wr_55, wr_56, wr_57, wr_58, wr_59, wr_60, wr_61, wr_62, wr_63, wr_64, wr_65, wr_66, wr_67, wr_68, wr_69, wr_70, wr_71, wr_72, wr_73, wr_74, wr_75, wr_76, wr_77, wr_78, wr_79, wr_80, wr_81, wr_82, wr_83, wr_84, wr_85, wr_86, wr_87, ww_v1, ww_v2, ww_v3, ww_v4, ww_g0, ww_gS, ww_t0, ww_tS, ww_s0, ww_sS, ww_s2, ww_w1, ww_w2, ww_w3, ww_b, ww_tg, ww_p1, ww_p2, ww_q0, ww_qS, ww_k1, ww_k2, ww_k3, ww_w0, ww_wS, ww_i1, ww_i2, ww_f0, ww_f1, ww_f2, ww_f4, ww_fd, ww_cl, ww_mc, ww_tk, ww_ci, ww_ak, ww_gv, ww_g1, ww_kcs, w_f1, w_f2, w_a1, w_a2, w_u_at, dm_96, List.elem_nil, List.elem_cons, List.map_nil, List.map_cons, List.sum_nil, List.sum_cons, Option.toList_none, Option.toList_some, List.nil_append, List.cons_append, true_and, and_true, implies_true, false_implies, if_true, if_false, reduceIte, reduceCtorEq, Bool.false_eq_true, Bool.and_false, Bool.false_and, Bool.and_self, Bool.and_true, Bool.true_and, Nat.reduceAdd, Nat.reduceBEq, Nat.reduceEqDiff, Nat.reduceLT, Nat.reduceLeDiff, Int.reduceAdd, Int.reduceNeg, Int.reduceToNat, Int.reduceLE, Int.reduceLT, Int.reduceSub, Int.cast_ofNat_Int, Int.reduceNatCast', Int.reduceNatCast, Nat.zero_add, Int.zero_add, and_self, false_and, and_false, or_false, false_or, true_or, or_true, not_true_eq_false, not_false_eq_true, ctL_n]
  (repeat' (first | (with_reducible assumption) | (with_reducible exact trivial) | (with_reducible exact z) | refine And.intro ?_ ?_ | intro _)) <;> first | omega | (unfold am_rg at *; omega) | (with_reducible rfl) | (exfalso; omega) | decide | skip
theorem lk_96v {Q : Option am_V → W_ → Prop} {w : W_} {E0 : N_} {u : Nat → Bool} {x id b0 : Int} (h13 : 0 ≤ w.1 13 2 ∧ w.1 13 2 ≤ 262000) (hcl : cR (w.1 13 2) (w.2 13) (fW w) (n_clos E0 u 10) b0) (K : ∀ (w' : W_) (bb l : Int) (v5 : am_V), am_two v5 = false → n48 w w' → (∀ k, k < 10 → (∀ v, u k = true → E0 k = some v → vW_ w v (w'.2 48 k)) ∧ ((u k = true → E0 k = none) → w'.2 48 k = 20005)) → ww_Z 8 6 4 2 cX8_findNumbers none Q 103 [.inr (.inr (.inl 41)), .inl x, .inl id, .inl bb, .inl l, v5] [] w') : ww_Z 8 6 4 2 cX8_findNumbers none Q 50 [.inr (.inr (.inl 41)), .inl x, .inl id, .inl b0, .inl 10, am_X] [] (w_fill w 48 0 10 20005) := by
  refine ww_loop (P := fun m ls w' => ∃ (l j : Nat) (bb : Int) (v5 : am_V), m = l ∧ l ≤ 10 ∧ j ≤ l ∧ am_two v5 = false ∧ ls = [.inr (.inr (.inl 41)), .inl x, .inl id, .inl bb, .inl (l : Int), v5] ∧ n48 w w' ∧ cR (w.1 13 2) (w.2 13) (fW w) (n_clos E0 u j) bb ∧ ∀ k, k < 10 → (∀ v, j ≤ k → u k = true → E0 k = some v → vW_ w v (w'.2 48 k)) ∧ ((j ≤ k → u k = true → E0 k = none) → w'.2 48 k = 20005)) ?_ 10 _ _ ?_
  · rintro m ls w' ⟨l, j, bb, v5, rfl, l10, jl, h5, rfl, hn, hcl, hrow⟩ ih
    have hbb := cR_lt h13.1 hcl
    have eh : ∀ v f, w_h w' v f = w_h w v f := fun v f => by rw [pH_w, pH_w, hn.2 13 (by decide)]
    by_cases cbm : 30000 ≤ bb ∧ 1 ≤ m
    · rcases clos_top E0 u j with ⟨e, -⟩ | ⟨i, v, j1, j2, j3, e, g⟩
      · rw [e] at hcl
        have hcl : bb = 20003 := hcl
        omega
      · rw [e] at hcl
        obtain ⟨q1, q2, q3, q4, q5, q6⟩ := hcl
        have e3' : w_h w' bb 3 = (i : Int) := (eh bb 3).trans q2
        have y1 := cR_lt h13.1 q4
        have y2 := cR_lt h13.1 q6
        have y1 : -9999 ≤ w_h w bb 1 ∧ w_h w bb 1 < 30000 + w.1 13 2 := y1
        have y2 : -9999 ≤ w_h w bb 2 ∧ w_h w bb 2 < 30000 + w.1 13 2 := y2
        have er : ∀ k : Nat, (w_a w' 48 ((i : Int)).toNat (w_h w bb 1)).2 48 k = if k = i then w_h w bb 1 else w'.2 48 k := fun k => by
          show w_u w'.2 48 _ _ 48 k = _
          rw [w_u_at, Int.toNat_natCast]
          by_cases c : k = i
          · rw [if_pos ⟨rfl, c⟩, if_pos c]
          · rw [if_neg (fun q => c q.2), if_neg c]
        have el : ((m - 1 : Nat) : Int) = (m : Int) - 1 := by omega
        refine lk_96w (i := (i : Int)) (b1 := w_h w bb 1) (b2 := w_h w bb 2) ⟨cbm.1, by omega⟩ ⟨by omega, by omega⟩ e3' (eh bb 1) (eh bb 2) ⟨by omega, by omega⟩ ⟨by omega, by omega⟩ ⟨by omega, by omega⟩ (ih (m - 1) _ _ (by omega) ⟨m - 1, i, w_h w bb 2, v5, rfl, by omega, by omega, h5, by rw [el], ⟨hn.1, fun b' hb' => (w_a_2ne _ _ _ hb').trans (hn.2 b' hb')⟩, q6, fun k hk => ?_⟩)
        rw [er]
        obtain ⟨A, B⟩ := hrow k hk
        by_cases ck : k = i
        · rw [if_pos ck, ck]
          refine ⟨fun v' _ _ k3 => ?_, fun q => ?_⟩
          · rw [j3] at k3
            cases k3
            exact ⟨q4, q5⟩
          · have := q (Nat.le_refl _) j2
            rw [this] at j3
            cases j3
        · rw [if_neg ck]
          refine ⟨fun v' k1 k2 k3 => ?_, fun q => B fun k1 k2 => q (by omega) k2⟩
          by_cases cj : j ≤ k
          · exact A v' cj k2 k3
          · rw [g k (by omega) (by omega) k2] at k3
            cases k3
    · refine lk_96x ⟨by omega, by omega⟩ ⟨by omega, by omega⟩ (by omega) (K w' bb m v5 h5 hn fun k hk => ?_)
      obtain ⟨A, B⟩ := hrow k hk
      have hno : k < j → u k = true → E0 k = none := fun kj ku => by
        rcases clos_top E0 u j with ⟨-, g⟩ | ⟨i, v, j1, j2, j3, e, g⟩
        · exact g k kj ku
        · rw [e] at hcl
          have := hcl.1.1
          omega
      refine ⟨fun v ku kE => ?_, fun q => B fun _ => q⟩
      by_cases cj : j ≤ k
      · exact A v cj ku kE
      · rw [hno (by omega) ku] at kE
        cases kE
  · refine ⟨10, 10, b0, am_X, rfl, by decide, by decide, rfl, rfl, ⟨rfl, fun b' hb' => w_fill_2ne w _ _ _ hb'⟩, hcl, fun k hk => ⟨fun v k10 => by omega, fun _ => ?_⟩⟩
    show (if 48 = 48 ∧ _ ≤ k ∧ k < _ then (20005 : Int) else w.2 48 k) = 20005
    rw [if_pos ⟨rfl, by omega, by omega⟩]
set_option maxRecDepth 100000 in
set_option maxHeartbeats 2000000 in
theorem lk_96i {Q : Option am_V → W_ → Prop} {w : W_} {x id : Int} (hx : -100000 ≤ x ∧ x < 10000000) (e3 : w_h w x 3 = id) (i0 : 0 ≤ id ∧ id < 1000) (him : w_g w 37 (id * 9 + 5) = 1) (z : Q (some (.inl 0)) w) : ww_Ct 96 4 [.inr (.inr (.inl 41)), .inl x] w Q := by
  refine of_96 (ww_go (ctL_cons ok_18 (ctL_cons ok_132 ctL_nil)) 100 [23] ?_)
  simp only [ww_S, ww_1, wr_0, wr_1, wr_2, wr_3, wr_4, wr_5, wr_6, wr_7, wr_8, wr_9, wr_10, wr_11, wr_12, wr_13, wr_14, wr_15, wr_16, wr_17, wr_18, wr_19, wr_20, wr_21, wr_22, wr_23, wr_24, wr_25, wr_26, wr_27, wr_28, wr_29, wr_30, wr_31, wr_32, wr_33, wr_34, wr_35, wr_36, wr_37, wr_38, wr_39, wr_40, wr_41, wr_42, wr_43, wr_44, wr_45, wr_46, wr_47, wr_48, wr_49, wr_50, wr_51, wr_52, wr_53, wr_54, wr_55, wr_56, wr_57, wr_58, wr_59, wr_60, wr_61, wr_62, wr_63, wr_64, wr_65, wr_66, wr_67, wr_68, wr_69, wr_70, wr_71, wr_72, wr_73, wr_74, wr_75, wr_76, wr_77, wr_78, wr_79, wr_80, wr_81, wr_82, wr_83, wr_84, wr_85, wr_86, wr_87, ww_v1, ww_v2, ww_v3, ww_v4, ww_g0, ww_gS, ww_t0, ww_tS, ww_s0, ww_sS, ww_s2, ww_w1, ww_w2, ww_w3, ww_b, ww_tg, ww_p1, ww_p2, ww_q0, ww_qS, ww_k1, ww_k2, ww_k3, ww_w0, ww_wS, ww_i1, ww_i2, ww_f0, ww_f1, ww_f2, ww_f4, ww_fd, ww_cl, ww_mc, ww_tk, ww_ci, ww_ak, ww_gv, ww_g1, ww_kcs, w_f1, w_f2, w_a1, w_a2, w_u_at, dm_96, List.elem_nil, List.elem_cons, List.map_nil, List.map_cons, List.sum_nil, List.sum_cons, Option.toList_none, Option.toList_some, List.nil_append, List.cons_append, true_and, and_true, implies_true, false_implies, if_true, if_false, reduceIte, reduceCtorEq, Bool.false_eq_true, Bool.and_false, Bool.false_and, Bool.and_self, Bool.and_true, Bool.true_and, Nat.reduceAdd, Nat.reduceBEq, Nat.reduceEqDiff, Nat.reduceLT, Nat.reduceLeDiff, Int.reduceAdd, Int.reduceNeg, Int.reduceToNat, Int.reduceLE, Int.reduceLT, Int.reduceSub, Int.cast_ofNat_Int, Int.reduceNatCast', Int.reduceNatCast, Nat.zero_add, Int.zero_add, and_self, false_and, and_false, or_false, false_or, true_or, or_true, not_true_eq_false, not_false_eq_true, at_18, at_132, ctL_c, ctL_n, e3, him, w_i0, w_i1, w_i2]
  (repeat' (first | (with_reducible assumption) | (with_reducible exact trivial) | (with_reducible exact z) | refine And.intro ?_ ?_ | intro _)) <;> first | omega | (unfold am_rg at *; omega) | (with_reducible rfl) | (exfalso; omega) | decide | skip
set_option maxRecDepth 100000 in
set_option maxHeartbeats 2000000 in
theorem lk_96j {Q : Option am_V → W_ → Prop} {w : W_} {x id : Int} (hx : -100000 ≤ x ∧ x < 10000000) (e3 : w_h w x 3 = id) (i0 : 0 ≤ id ∧ id < 1000) (him : w_g w 37 (id * 9 + 5) = 0) (L : ww_Z 8 6 4 2 cX8_findNumbers none Q 50 [.inr (.inr (.inl 41)), .inl x, .inl id, .inl (w_h w x 1), .inl 10, am_X] [] (w_fill w 48 0 10 20005)) : ww_Ct 96 4 [.inr (.inr (.inl 41)), .inl x] w Q := by
  have ef : w_h (w_fill w 48 0 10 20005) x 1 = w_h w x 1 := by
    rw [pH_w, pH_w, w_fill_2ne _ _ _ _ (by decide)]
  refine of_96 (ww_go (ctL_cons ok_18 (ctL_cons ok_70 (ctL_cons ok_132 ctL_nil))) 100 [50] ?_)
  simp only [ww_S, ww_1, wr_0, wr_1, wr_2, wr_3, wr_4, wr_5, wr_6, wr_7, wr_8, wr_9, wr_10, wr_11, wr_12, wr_13, wr_14, wr_15, wr_16, wr_17, wr_18, wr_19, wr_20, wr_21, wr_22, wr_23, wr_24, wr_25, wr_26, wr_27, wr_28, wr_29, wr_30, wr_31, wr_32, wr_33, wr_34, wr_35, wr_36, wr_37, wr_38, wr_39, wr_40, wr_41, wr_42, wr_43, wr_44, wr_45, wr_46, wr_47, wr_48, wr_49, wr_50, wr_51, wr_52, wr_53, wr_54, wr_55, wr_56, wr_57, wr_58, wr_59, wr_60, wr_61, wr_62, wr_63, wr_64, wr_65, wr_66, wr_67, wr_68, wr_69, wr_70, wr_71, wr_72, wr_73, wr_74, wr_75, wr_76, wr_77, wr_78, wr_79, wr_80, wr_81, wr_82, wr_83, wr_84, wr_85, wr_86, wr_87, ww_v1, ww_v2, ww_v3, ww_v4, ww_g0, ww_gS, ww_t0, ww_tS, ww_s0, ww_sS, ww_s2, ww_w1, ww_w2, ww_w3, ww_b, ww_tg, ww_p1, ww_p2, ww_q0, ww_qS, ww_k1, ww_k2, ww_k3, ww_w0, ww_wS, ww_i1, ww_i2, ww_f0, ww_f1, ww_f2, ww_f4, ww_fd, ww_cl, ww_mc, ww_tk, ww_ci, ww_ak, ww_gv, ww_g1, ww_kcs, w_f1, w_f2, w_a1, w_a2, w_u_at, dm_96, List.elem_nil, List.elem_cons, List.map_nil, List.map_cons, List.sum_nil, List.sum_cons, Option.toList_none, Option.toList_some, List.nil_append, List.cons_append, true_and, and_true, implies_true, false_implies, if_true, if_false, reduceIte, reduceCtorEq, Bool.false_eq_true, Bool.and_false, Bool.false_and, Bool.and_self, Bool.and_true, Bool.true_and, Nat.reduceAdd, Nat.reduceBEq, Nat.reduceEqDiff, Nat.reduceLT, Nat.reduceLeDiff, Int.reduceAdd, Int.reduceNeg, Int.reduceToNat, Int.reduceLE, Int.reduceLT, Int.reduceSub, Int.cast_ofNat_Int, Int.reduceNatCast', Int.reduceNatCast, Nat.zero_add, Int.zero_add, and_self, false_and, and_false, or_false, false_or, true_or, or_true, not_true_eq_false, not_false_eq_true, at_18, at_70, at_132, ctL_c, ctL_n, w_isRs, w_bds, e3, him, w_i0, w_i1, w_i2, ef]
  (repeat' (first | (with_reducible assumption) | (with_reducible exact trivial) | (with_reducible exact L) | refine And.intro ?_ ?_ | intro _)) <;> first | omega | (unfold am_rg at *; omega) | (with_reducible rfl) | (exfalso; omega) | decide | skip
theorem lk_96 {w : W_} {e cl : T_} {x : Int} (hx : vW_ w (.tag 12 (.append e cl)) x) (h13 : 0 ≤ w.1 13 2 ∧ w.1 13 2 ≤ 262000) : ww_Ct 96 4 [.inr (.inr (.inl 41)), .inl x] w fun r w' => r = some (.inl (if k_fit e cl = true then 1 else 0)) ∧ n48 w w' ∧ (k_fit e cl = true → ∀ m : Nat, m < 10 → w'.2 48 m = (k_nums e cl m).getD 20005) := by
  obtain ⟨⟨hN1, p3, ⟨⟨kk, n, id, a, b, c, hb, he0, hk, eRx⟩, tIx⟩, pc, ⟨E0, hcl⟩, -⟩, -⟩ := hx
  have he : eW w 0 hb e := ⟨eRx, tIx⟩
  rw [he0] at he
  obtain ⟨⟨i1, i2, i3, i4, i5, i6⟩, -, -, -, -, -, hu⟩ := eW_ce he
  obtain ⟨⟨u0, u1, u2⟩, hi, -⟩ := hu hk
  rw [← he0] at u2
  obtain ⟨U, eU⟩ : ∃ U : Nat, w_g w 37 (id * 9 + 4) = (U : Int) := ⟨(w_g w 37 (id * 9 + 4)).toNat, by omega⟩
  rw [eU] at u1 u2
  have u2 : ∀ m, m < 10 → (U >>> m % 2 = 1 ↔ e_use e m = true) := u2
  have hU : U < 1024 := by omega
  have hx0 := hN1.1
  have e3 : w_h w x 3 = (id : Int) := by
    rw [he0] at p3
    exact p3
  have epart : e_part e = a := by rw [he0]; rfl
  by_cases hia : e_imp a = true
  · have him : w_g w 37 ((id : Int) * 9 + 5) = 1 := by rw [hi, if_pos hia]
    have hf : k_fit e cl = false := by
      cases q : k_fit e cl with
      | false => rfl
      | true =>
        have := (k_fit_iff.mp q).1
        rw [epart, hia] at this
        cases this
    refine lk_96i ⟨by omega, by omega⟩ e3 ⟨by omega, by omega⟩ him ?_
    rw [hf]
    exact ⟨rfl, ⟨rfl, fun _ _ => rfl⟩, fun q => by cases q⟩
  · have him : w_g w 37 ((id : Int) * 9 + 5) = 0 := by rw [hi, if_neg hia]
    have hia : e_imp a = false := Bool.eq_false_iff.mpr hia
    rw [hcl] at pc
    refine lk_96j ⟨by omega, by omega⟩ e3 ⟨by omega, by omega⟩ him (lk_96v h13 pc fun w' bb l v5 h5 hn hrow => ?_)
    have hK := rK_of h13.1 hrow
    rw [← hcl] at hK
    refine lk_96u hU (by rw [wg_w, hn.2 37 (by decide), ← wg_w]; exact eU) ⟨by omega, by omega⟩ h5 (fun k hk => ?_) (fun hY => ?_) (fun k hk hk1 hk2 => ?_)
    · obtain ⟨A, B⟩ := hrow k hk
      by_cases c2 : e_use e k = true ∧ ∃ v, E0 k = some v
      · obtain ⟨y2, v, y3⟩ := c2
        exact (vW_rg h13.1 (by omega) (A v y2 y3)).1
      · rw [B fun y2 => by
          cases y3 : E0 k with
          | none => rfl
          | some v => exact absurd ⟨y2, v, y3⟩ c2]
        unfold am_rg
        omega
    · have hf : k_fit e cl = true := k_fit_iff.mpr ⟨by rw [epart]; exact hia, fun m hm hu1 => by
        have z := (hK m hm).1 hu1
        have y := hY m hm ((u2 m hm).mpr hu1)
        cases q : k_nums e cl m with
        | none => rw [q] at z; exact absurd y z
        | some _ => rfl⟩
      rw [hf]
      exact ⟨rfl, hn, fun _ => rK_fit hK hf⟩
    · have hf : k_fit e cl = false := by
        cases q : k_fit e cl with
        | false => rfl
        | true =>
          have hu1 := (u2 k hk).mp hk1
          have z := (k_fit_iff.mp q).2 k hk hu1
          have y := (hK k hk).1 hu1
          cases r : k_nums e cl k with
          | none => rw [r] at z; cases z
          | some v =>
            rw [r] at y
            have y : w'.2 48 k = v ∧ -9999 ≤ v ∧ v ≤ 9999 := y
            exact absurd ⟨by omega, by omega⟩ hk2
      rw [hf]
      exact ⟨rfl, hn, fun q => by cases q⟩
