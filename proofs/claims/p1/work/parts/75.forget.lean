/-! ===== what was kept of a file's functions is forgotten ===== -/
/-- how many of the first records stay -/
def k_n (w : W_) (file : Int) : Nat → Nat
  | 0 => 0
  | i + 1 => k_n w file i + if w.2 11 (61 * i) / 60 = file then 0 else 1
theorem k_n_le (w : W_) (file : Int) : ∀ i, k_n w file i ≤ i
  | 0 => Nat.le_refl _
  | i + 1 => by
    have := k_n_le w file i
    unfold k_n
    split <;> omega
theorem k_n_mono (w : W_) (file : Int) {i : Nat} : ∀ {j : Nat}, i ≤ j → k_n w file i ≤ k_n w file j
  | 0, h => by
    have e : i = 0 := by omega
    rw [e]
    exact Nat.le_refl _
  | j + 1, h => by
    by_cases c : i = j + 1
    · rw [c]
      exact Nat.le_refl _
    · have := k_n_mono w file (i := i) (j := j) (by omega)
      show _ ≤ k_n w file j + (if w.2 11 (61 * j) / 60 = file then 0 else 1)
      omega
theorem k_n_lt {w : W_} {file : Int} {r i : Nat} (h : w.2 11 (61 * r) / 60 ≠ file) (hi : r < i) : k_n w file r < k_n w file i := by
  have := k_n_mono w file (i := r + 1) (j := i) (by omega)
  have e : k_n w file (r + 1) = k_n w file r + 1 := by
    show k_n w file r + (if w.2 11 (61 * r) / 60 = file then 0 else 1) = _
    rw [if_neg h]
  omega
/-- a record goes to another place; f of its numbers are there -/
def w_cp (w : W_) (c i : Nat) (f : Int) : W_ := (w.1, fun b k => if b = 11 ∧ 61 * c ≤ k ∧ (k : Int) < 61 * (c : Int) + f then w.2 11 (k - 61 * c + 61 * i) else w.2 b k)
theorem w_cp_S (w : W_) {c i : Nat} {f : Int} (h0 : 0 ≤ f) (hc : c ≤ i) : w_a (w_cp w c i f) 11 ((c : Int) * 61 + f).toNat (w_g (w_cp w c i f) 11 ((i : Int) * 61 + f)) = w_cp w c i (f + 1) := by
  have hg : w_g (w_cp w c i f) 11 ((i : Int) * 61 + f) = w.2 11 (61 * i + f.toNat) := by
    rw [w_g_pos (by omega)]
    unfold w_cp
    dsimp only
    rw [if_neg (by omega)]
    have e : ((i : Int) * 61 + f).toNat = 61 * i + f.toNat := by omega
    rw [e]
  rw [hg]
  refine Prod.ext rfl ?_
  funext b k
  show (if b = 11 ∧ k = ((c : Int) * 61 + f).toNat then w.2 11 (61 * i + f.toNat) else if b = 11 ∧ 61 * c ≤ k ∧ (k : Int) < 61 * (c : Int) + f then w.2 11 (k - 61 * c + 61 * i) else w.2 b k) = if b = 11 ∧ 61 * c ≤ k ∧ (k : Int) < 61 * (c : Int) + (f + 1) then w.2 11 (k - 61 * c + 61 * i) else w.2 b k
  by_cases c1 : b = 11 ∧ k = ((c : Int) * 61 + f).toNat
  · have e : k - 61 * c + 61 * i = 61 * i + f.toNat := by omega
    rw [if_pos c1, if_pos ⟨c1.1, by omega, by omega⟩, e]
  · rw [if_neg c1]
    by_cases c2 : b = 11 ∧ 61 * c ≤ k ∧ (k : Int) < 61 * (c : Int) + f
    · rw [if_pos c2, if_pos ⟨c2.1, c2.2.1, by omega⟩]
    · rw [if_neg c2, if_neg (fun q => c2 ⟨q.1, q.2.1, by
        apply Int.lt_of_not_ge
        intro z
        exact c1 ⟨q.1, by omega⟩⟩)]
/-- the first i records are looked at -/
def k_I (w : W_) (file : Int) (i : Nat) (w' : W_) : Prop :=
  w'.1 = (w_f w 10 1 (k_n w file i)).1 ∧ (∀ b : Nat, b ≠ 11 → w'.2 b = w.2 b) ∧ (∀ k : Nat, 61 * i ≤ k → w'.2 11 k = w.2 11 k) ∧
  ∀ r : Nat, r < i → w.2 11 (61 * r) / 60 ≠ file → ∀ f : Nat, f < 61 → w'.2 11 (61 * k_n w file r + f) = w.2 11 (61 * r + f)
set_option maxRecDepth 100000 in
set_option maxHeartbeats 4000000 in
theorem lk_54 {w : W_} {file : Int} (f0 : 0 ≤ file) (f1 : file < 3) (n0 : 0 ≤ w.1 10 1) (n1 : w.1 10 1 ≤ 60) (hr : ∀ r : Nat, (r : Int) < w.1 10 1 → 0 ≤ w.2 11 (61 * r) ∧ w.2 11 (61 * r) < 180) : ww_Ct 54 3 [.inr (.inr (.inl 10)), .inl file] w fun r w' => r = some (.inl (if (k_n w file (w.1 10 1).toNat : Int) < w.1 10 1 then 1 else 0)) ∧ k_I w file (w.1 10 1).toNat w' := by
  refine of_54 (ww_go (ctL_cons ok_68 (ctL_cons ok_69 ctL_nil)) 100 [12] ?_)
  simp only [ww_S, ww_1, wr_0, wr_1, wr_2, wr_3, wr_4, wr_5, wr_6, wr_7, wr_8, wr_9, wr_10, wr_11, wr_12, wr_13, wr_14, wr_15, wr_16, wr_17, wr_18, wr_19, wr_20, wr_21, wr_22, wr_23, wr_24, wr_25, wr_26, wr_27, wr_28, wr_29, wr_30, wr_31, wr_32, wr_33, wr_34, wr_35, wr_36, wr_37, wr_38, wr_39, wr_40, wr_41, wr_42, wr_43, wr_44, wr_45, wr_46, wr_47, wr_48, wr_49, wr_50, wr_51, wr_52, wr_53, wr_54, wr_55, wr_56, wr_57, wr_58, wr_59, wr_60, wr_61, wr_62, wr_63, wr_64, wr_65, wr_66, wr_67, wr_68, wr_69, wr_70, wr_71, wr_72, wr_73, wr_74, wr_75, wr_76, wr_77, wr_78, wr_79, wr_80, wr_81, wr_82, wr_83, wr_84, wr_85, wr_86, wr_87, ww_v1, ww_v2, ww_v3, ww_v4, ww_g0, ww_gS, ww_t0, ww_tS, ww_s0, ww_sS, ww_s2, ww_w1, ww_w2, ww_w3, ww_b, ww_tg, ww_p1, ww_p2, ww_q0, ww_qS, ww_k1, ww_k2, ww_k3, ww_w0, ww_wS, ww_i1, ww_i2, ww_f0, ww_f1, ww_f2, ww_f4, ww_fd, ww_cl, ww_mc, ww_tk, ww_ci, ww_ak, ww_gv, ww_g1, ww_kcs, w_f1, w_f2, w_a1, w_a2, w_u_at, dm_54, List.elem_nil, List.elem_cons, List.map_nil, List.map_cons, List.sum_nil, List.sum_cons, Option.toList_none, Option.toList_some, List.nil_append, List.cons_append, true_and, and_true, implies_true, false_implies, if_true, if_false, reduceIte, reduceCtorEq, Bool.false_eq_true, Bool.and_false, Bool.false_and, Bool.and_self, Bool.and_true, Bool.true_and, Nat.reduceAdd, Nat.reduceBEq, Nat.reduceEqDiff, Nat.reduceLT, Nat.reduceLeDiff, Int.reduceAdd, Int.reduceNeg, Int.reduceToNat, Int.reduceLE, Int.reduceLT, Int.reduceSub, Int.cast_ofNat_Int, Int.reduceNatCast', Int.reduceNatCast, Nat.zero_add, Int.zero_add, and_self, false_and, and_false, or_false, false_or, true_or, or_true, not_true_eq_false, not_false_eq_true, at_68, at_69, ctL_c, ctL_n]
  refine ww_loop (P := fun n ls w' => ∃ (i : Nat) (v : am_V), (i : Int) ≤ w.1 10 1 ∧ n = (w.1 10 1 - i).toNat ∧ k_I w file i w' ∧ am_two v = false ∧ ls = [.inr (.inr (.inl 10)), .inl file, .inl (w.1 10 1), .inl i, v]) ?_ (w.1 10 1).toNat _ _ ⟨0, am_X, n0, by omega, ⟨rfl, fun _ _ => rfl, fun _ _ => rfl, fun r h => by omega⟩, rfl, rfl⟩
  rintro n ls w' ⟨i, v, i0, hn, hI, hv, rfl⟩ ih
  have hI' := hI
  obtain ⟨h1, h2, h3, h4⟩ := hI'
  have hc := k_n_le w file i
  have e10 : w'.1 10 1 = (k_n w file i : Int) := by
    rw [h1]
    rfl
  have ef : w_g w' 11 ((i : Int) * 61 + 0) = w.2 11 (61 * i) := by
    have e : ((i : Int) * 61 + 0).toNat = 61 * i := by omega
    rw [w_g_pos (by omega), e, h3 _ (Nat.le_refl _)]
  refine ww_go1 (ctL_cons ok_68 (ctL_cons ok_69 ctL_nil)) 100 [12, 40] ?_
  simp only [ww_S, ww_1, wr_0, wr_1, wr_2, wr_3, wr_4, wr_5, wr_6, wr_7, wr_8, wr_9, wr_10, wr_11, wr_12, wr_13, wr_14, wr_15, wr_16, wr_17, wr_18, wr_19, wr_20, wr_21, wr_22, wr_23, wr_24, wr_25, wr_26, wr_27, wr_28, wr_29, wr_30, wr_31, wr_32, wr_33, wr_34, wr_35, wr_36, wr_37, wr_38, wr_39, wr_40, wr_41, wr_42, wr_43, wr_44, wr_45, wr_46, wr_47, wr_48, wr_49, wr_50, wr_51, wr_52, wr_53, wr_54, wr_55, wr_56, wr_57, wr_58, wr_59, wr_60, wr_61, wr_62, wr_63, wr_64, wr_65, wr_66, wr_67, wr_68, wr_69, wr_70, wr_71, wr_72, wr_73, wr_74, wr_75, wr_76, wr_77, wr_78, wr_79, wr_80, wr_81, wr_82, wr_83, wr_84, wr_85, wr_86, wr_87, ww_v1, ww_v2, ww_v3, ww_v4, ww_g0, ww_gS, ww_t0, ww_tS, ww_s0, ww_sS, ww_s2, ww_w1, ww_w2, ww_w3, ww_b, ww_tg, ww_p1, ww_p2, ww_q0, ww_qS, ww_k1, ww_k2, ww_k3, ww_w0, ww_wS, ww_i1, ww_i2, ww_f0, ww_f1, ww_f2, ww_f4, ww_fd, ww_cl, ww_mc, ww_tk, ww_ci, ww_ak, ww_gv, ww_g1, ww_kcs, w_f1, w_f2, w_a1, w_a2, w_u_at, dm_54, List.elem_nil, List.elem_cons, List.map_nil, List.map_cons, List.sum_nil, List.sum_cons, Option.toList_none, Option.toList_some, List.nil_append, List.cons_append, true_and, and_true, implies_true, false_implies, if_true, if_false, reduceIte, reduceCtorEq, Bool.false_eq_true, Bool.and_false, Bool.false_and, Bool.and_self, Bool.and_true, Bool.true_and, Nat.reduceAdd, Nat.reduceBEq, Nat.reduceEqDiff, Nat.reduceLT, Nat.reduceLeDiff, Int.reduceAdd, Int.reduceNeg, Int.reduceToNat, Int.reduceLE, Int.reduceLT, Int.reduceSub, Int.cast_ofNat_Int, Int.reduceNatCast', Int.reduceNatCast, Nat.zero_add, Int.zero_add, and_self, false_and, and_false, or_false, false_or, true_or, or_true, not_true_eq_false, not_false_eq_true, at_68, at_69, ctL_c, ctL_n, hv, e10, ef, w_isRs, w_bds]
  refine ⟨⟨by omega, by omega⟩, ⟨by omega, by omega⟩, fun q => ?_, fun q => ?_⟩
  · have e : i = (w.1 10 1).toNat := by omega
    subst e
    refine ⟨⟨by omega, by omega⟩, ⟨by omega, by omega⟩, fun q1 => ⟨?_, hI⟩, fun q1 => ⟨?_, hI⟩⟩
    · rw [if_neg (by omega)]
    · rw [if_pos (by omega)]
  · have hri := hr i (by omega)
    refine ⟨⟨by omega, by omega⟩, ⟨hri.1, by omega⟩, ⟨by omega, by omega⟩, ⟨by omega, by omega⟩, fun q1 => ?_, fun q1 => ?_⟩
    · have ek : k_n w file (i + 1) = k_n w file i := by
        show k_n w file i + (if w.2 11 (61 * i) / 60 = file then 0 else 1) = _
        rw [if_pos q1]
        rfl
      have es : (i : Int) + 1 = ((i + 1 : Nat) : Int) := by omega
      rw [es]
      refine ih (w.1 10 1 - ((i + 1 : Nat) : Int)).toNat _ _ (by omega) ⟨i + 1, v, by omega, rfl, ⟨by rw [ek]; exact h1, h2, fun k hk => h3 k (by omega), fun r r0 r1 f f0 => ?_⟩, hv, rfl⟩
      by_cases c : r = i
      · rw [c] at r1
        exact absurd q1 r1
      · exact h4 r (by omega) r1 f f0
    · have ek : k_n w file (i + 1) = k_n w file i + 1 := by
        show k_n w file i + (if w.2 11 (61 * i) / 60 = file then 0 else 1) = _
        rw [if_neg q1]
      refine ww_loop (P := fun n ls w2 => ∃ f : Int, (0 ≤ f ∧ f ≤ 61) ∧ n = (61 - f).toNat ∧ w2 = w_cp w' (k_n w file i) i f ∧ ls = [.inr (.inr (.inl 10)), .inl file, .inl (w.1 10 1), .inl i, .inl f]) ?_ 61 _ _ ⟨0, ⟨by omega, by omega⟩, rfl, ?_, rfl⟩
      · rintro n2 ls2 w2 ⟨f, ⟨g0, g1⟩, hn2, rfl, rfl⟩ ih2
        have e11 : (w_cp w' (k_n w file i) i f).1 10 1 = (k_n w file i : Int) := e10
        refine ww_go1 (ctL_cons ok_68 (ctL_cons ok_69 ctL_nil)) 100 [12, 40] ?_
        simp only [ww_S, ww_1, wr_0, wr_1, wr_2, wr_3, wr_4, wr_5, wr_6, wr_7, wr_8, wr_9, wr_10, wr_11, wr_12, wr_13, wr_14, wr_15, wr_16, wr_17, wr_18, wr_19, wr_20, wr_21, wr_22, wr_23, wr_24, wr_25, wr_26, wr_27, wr_28, wr_29, wr_30, wr_31, wr_32, wr_33, wr_34, wr_35, wr_36, wr_37, wr_38, wr_39, wr_40, wr_41, wr_42, wr_43, wr_44, wr_45, wr_46, wr_47, wr_48, wr_49, wr_50, wr_51, wr_52, wr_53, wr_54, wr_55, wr_56, wr_57, wr_58, wr_59, wr_60, wr_61, wr_62, wr_63, wr_64, wr_65, wr_66, wr_67, wr_68, wr_69, wr_70, wr_71, wr_72, wr_73, wr_74, wr_75, wr_76, wr_77, wr_78, wr_79, wr_80, wr_81, wr_82, wr_83, wr_84, wr_85, wr_86, wr_87, ww_v1, ww_v2, ww_v3, ww_v4, ww_g0, ww_gS, ww_t0, ww_tS, ww_s0, ww_sS, ww_s2, ww_w1, ww_w2, ww_w3, ww_b, ww_tg, ww_p1, ww_p2, ww_q0, ww_qS, ww_k1, ww_k2, ww_k3, ww_w0, ww_wS, ww_i1, ww_i2, ww_f0, ww_f1, ww_f2, ww_f4, ww_fd, ww_cl, ww_mc, ww_tk, ww_ci, ww_ak, ww_gv, ww_g1, ww_kcs, w_f1, w_f2, w_a1, w_a2, w_u_at, dm_54, List.elem_nil, List.elem_cons, List.map_nil, List.map_cons, List.sum_nil, List.sum_cons, Option.toList_none, Option.toList_some, List.nil_append, List.cons_append, true_and, and_true, implies_true, false_implies, if_true, if_false, reduceIte, reduceCtorEq, Bool.false_eq_true, Bool.and_false, Bool.false_and, Bool.and_self, Bool.and_true, Bool.true_and, Nat.reduceAdd, Nat.reduceBEq, Nat.reduceEqDiff, Nat.reduceLT, Nat.reduceLeDiff, Int.reduceAdd, Int.reduceNeg, Int.reduceToNat, Int.reduceLE, Int.reduceLT, Int.reduceSub, Int.cast_ofNat_Int, Int.reduceNatCast', Int.reduceNatCast, Nat.zero_add, Int.zero_add, and_self, false_and, and_false, or_false, false_or, true_or, or_true, not_true_eq_false, not_false_eq_true, at_68, at_69, ctL_c, ctL_n, e11, w_isRs, w_bds, w_cp_S w' g0 hc]
        refine ⟨⟨by omega, by omega⟩, ⟨by decide, by decide⟩, fun q2 => ?_, fun q2 => ⟨⟨by omega, by omega⟩, ?_⟩⟩
        · have e : f = 61 := by omega
          subst e
          have es : (i : Int) + 1 = ((i + 1 : Nat) : Int) := by omega
          rw [es]
          refine ih (w.1 10 1 - ((i + 1 : Nat) : Int)).toNat _ _ (by omega) ⟨i + 1, _, by omega, rfl, ⟨?_, fun b hb => ?_, fun k hk => ?_, fun r r0 r1 f f0 => ?_⟩, rfl, rfl⟩
          · show w_u w'.1 10 1 ((k_n w file i : Int) + 1) = w_u w.1 10 1 (k_n w file (i + 1) : Int)
            rw [h1, ek]
            funext a j
            show (if a = 10 ∧ j = 1 then (k_n w file i : Int) + 1 else if a = 10 ∧ j = 1 then (k_n w file i : Int) else w.1 a j) = if a = 10 ∧ j = 1 then ((k_n w file i + 1 : Nat) : Int) else w.1 a j
            by_cases c : a = 10 ∧ j = 1
            · rw [if_pos c, if_pos c]
              rfl
            · rw [if_neg c, if_neg c, if_neg c]
          · rw [← h2 b hb]
            funext k
            show (w_cp w' (k_n w file i) i 61).2 b k = w'.2 b k
            unfold w_cp
            dsimp only
            rw [if_neg (fun q => hb q.1)]
          · show (w_cp w' (k_n w file i) i 61).2 11 k = w.2 11 k
            unfold w_cp
            dsimp only
            rw [if_neg (by omega), h3 k (by omega)]
          · show (w_cp w' (k_n w file i) i 61).2 11 (61 * k_n w file r + f) = _
            unfold w_cp
            dsimp only
            by_cases c : r = i
            · subst c
              have e : 61 * k_n w file r + f - 61 * k_n w file r + 61 * r = 61 * r + f := by omega
              rw [if_pos ⟨rfl, by omega, by omega⟩, e, h3 _ (by omega)]
            · have hlt : k_n w file r < k_n w file i := k_n_lt r1 (by omega)
              rw [if_neg (by omega)]
              exact h4 r (by omega) r1 f f0
        · refine ⟨⟨by omega, by omega⟩, ?_⟩
          exact ih2 (61 - (f + 1)).toNat _ _ (by omega) ⟨f + 1, ⟨by omega, by omega⟩, rfl, rfl, rfl⟩
      · refine Prod.ext rfl ?_
        funext b k
        show w'.2 b k = if b = 11 ∧ 61 * k_n w file i ≤ k ∧ (k : Int) < 61 * (k_n w file i : Int) + 0 then _ else w'.2 b k
        rw [if_neg (by omega)]
theorem k_n_on (w : W_) (file : Int) : ∀ {i r' : Nat}, r' < k_n w file i → ∃ r : Nat, r < i ∧ w.2 11 (61 * r) / 60 ≠ file ∧ k_n w file r = r'
  | 0, r', h => by
    have : k_n w file 0 = 0 := rfl
    omega
  | i + 1, r', h => by
    by_cases c : r' < k_n w file i
    · obtain ⟨r, h1, h2⟩ := k_n_on w file c
      exact ⟨r, by omega, h2⟩
    · have e : k_n w file (i + 1) = k_n w file i + (if w.2 11 (61 * i) / 60 = file then 0 else 1) := rfl
      by_cases d : w.2 11 (61 * i) / 60 = file
      · rw [if_pos d] at e
        omega
      · rw [if_neg d] at e
        exact ⟨i, by omega, d, by omega⟩
theorem k_I.pre {w w1 : W_} {file : Int} (h : k_I w file (w.1 10 1).toNat w1) (hp : h_pre w 0) : h_pre w1 0 := by
  obtain ⟨h1, h2, h3, h4⟩ := h
  obtain ⟨⟨a0, a1, a2⟩, ⟨b0, b1⟩, hr, hc⟩ := hp
  have e13 : w1.1 13 2 = w.1 13 2 := by
    rw [h1]
    rfl
  have e10 : w1.1 10 1 = (k_n w file (w.1 10 1).toNat : Int) := by
    rw [h1]
    rfl
  have hle := k_n_le w file (w.1 10 1).toNat
  have eh : ∀ v f, w_h w1 v f = w_h w v f := fun v f => by
    unfold w_h
    rw [h2 13 (by decide)]
  refine ⟨⟨a0, by rw [e13]; exact a1, by rw [e13]; exact a2⟩, ⟨by omega, by omega⟩, fun r r0 r1 => ?_, fun i i0 i1 => ?_⟩
  · rw [e10] at r1
    obtain ⟨q, q0, q1, q2⟩ := k_n_on w file (i := (w.1 10 1).toNat) (r' := r.toNat) (by omega)
    have e := h4 q q0 q1 2 (by decide)
    have g := hr q (by omega) (by omega)
    have e2 : (r * 61 + 2).toNat = 61 * k_n w file q + 2 := by omega
    have e3 : ((q : Int) * 61 + 2).toNat = 61 * q + 2 := by omega
    rw [w_g_pos (by omega), e3] at g
    rw [w_g_pos (by omega), e2, e, e13]
    exact g
  · rw [eh, eh]
    exact hc i i0 (by omega)
set_option maxRecDepth 100000 in
set_option maxHeartbeats 4000000 in
theorem lk_58 {w : W_} {file : Int} (f0 : 0 ≤ file) (f1 : file < 3) (hp : h_pre w 0) (hr : ∀ r : Nat, (r : Int) < w.1 10 1 → 0 ≤ w.2 11 (61 * r) ∧ w.2 11 (61 * r) < 180) : ww_Ct 58 5 [.inr (.inr (.inl 9)), .inl file] w fun r w' => r = none ∧ ∃ w1, k_I w file (w.1 10 1).toNat w1 ∧ (if (k_n w file (w.1 10 1).toNat : Int) < w.1 10 1 then h_sw w1 0 w' else w' = w1) := by
  refine of_58 (ww_go (ctL_cons ok_70 ctL_nil) 100 [] ?_)
  simp only [ww_S, ww_1, wr_0, wr_1, wr_2, wr_3, wr_4, wr_5, wr_6, wr_7, wr_8, wr_9, wr_10, wr_11, wr_12, wr_13, wr_14, wr_15, wr_16, wr_17, wr_18, wr_19, wr_20, wr_21, wr_22, wr_23, wr_24, wr_25, wr_26, wr_27, wr_28, wr_29, wr_30, wr_31, wr_32, wr_33, wr_34, wr_35, wr_36, wr_37, wr_38, wr_39, wr_40, wr_41, wr_42, wr_43, wr_44, wr_45, wr_46, wr_47, wr_48, wr_49, wr_50, wr_51, wr_52, wr_53, wr_54, wr_55, wr_56, wr_57, wr_58, wr_59, wr_60, wr_61, wr_62, wr_63, wr_64, wr_65, wr_66, wr_67, wr_68, wr_69, wr_70, wr_71, wr_72, wr_73, wr_74, wr_75, wr_76, wr_77, wr_78, wr_79, wr_80, wr_81, wr_82, wr_83, wr_84, wr_85, wr_86, wr_87, ww_v1, ww_v2, ww_v3, ww_v4, ww_g0, ww_gS, ww_t0, ww_tS, ww_s0, ww_sS, ww_s2, ww_w1, ww_w2, ww_w3, ww_b, ww_tg, ww_p1, ww_p2, ww_q0, ww_qS, ww_k1, ww_k2, ww_k3, ww_w0, ww_wS, ww_i1, ww_i2, ww_f0, ww_f1, ww_f2, ww_f4, ww_fd, ww_cl, ww_mc, ww_tk, ww_ci, ww_ak, ww_gv, ww_g1, ww_kcs, w_f1, w_f2, w_a1, w_a2, w_u_at, dm_58, List.elem_nil, List.elem_cons, List.map_nil, List.map_cons, List.sum_nil, List.sum_cons, Option.toList_none, Option.toList_some, List.nil_append, List.cons_append, true_and, and_true, implies_true, false_implies, if_true, if_false, reduceIte, reduceCtorEq, Bool.false_eq_true, Bool.and_false, Bool.false_and, Bool.and_self, Bool.and_true, Bool.true_and, Nat.reduceAdd, Nat.reduceBEq, Nat.reduceEqDiff, Nat.reduceLT, Nat.reduceLeDiff, Int.reduceAdd, Int.reduceNeg, Int.reduceToNat, Int.reduceLE, Int.reduceLT, Int.reduceSub, Int.cast_ofNat_Int, Int.reduceNatCast', Int.reduceNatCast, Nat.zero_add, Int.zero_add, and_self, false_and, and_false, or_false, false_or, true_or, or_true, not_true_eq_false, not_false_eq_true, at_70, ctL_c, ctL_n]
  refine ww_Cn_of (lk_54 f0 f1 hp.2.1.1 hp.2.1.2 hr) (by omega) ?_
  rintro r w1 ⟨rfl, hI⟩
  refine ww_go1 (ctL_cons ok_70 ctL_nil) 100 [] ?_
  simp only [ww_S, ww_1, wr_0, wr_1, wr_2, wr_3, wr_4, wr_5, wr_6, wr_7, wr_8, wr_9, wr_10, wr_11, wr_12, wr_13, wr_14, wr_15, wr_16, wr_17, wr_18, wr_19, wr_20, wr_21, wr_22, wr_23, wr_24, wr_25, wr_26, wr_27, wr_28, wr_29, wr_30, wr_31, wr_32, wr_33, wr_34, wr_35, wr_36, wr_37, wr_38, wr_39, wr_40, wr_41, wr_42, wr_43, wr_44, wr_45, wr_46, wr_47, wr_48, wr_49, wr_50, wr_51, wr_52, wr_53, wr_54, wr_55, wr_56, wr_57, wr_58, wr_59, wr_60, wr_61, wr_62, wr_63, wr_64, wr_65, wr_66, wr_67, wr_68, wr_69, wr_70, wr_71, wr_72, wr_73, wr_74, wr_75, wr_76, wr_77, wr_78, wr_79, wr_80, wr_81, wr_82, wr_83, wr_84, wr_85, wr_86, wr_87, ww_v1, ww_v2, ww_v3, ww_v4, ww_g0, ww_gS, ww_t0, ww_tS, ww_s0, ww_sS, ww_s2, ww_w1, ww_w2, ww_w3, ww_b, ww_tg, ww_p1, ww_p2, ww_q0, ww_qS, ww_k1, ww_k2, ww_k3, ww_w0, ww_wS, ww_i1, ww_i2, ww_f0, ww_f1, ww_f2, ww_f4, ww_fd, ww_cl, ww_mc, ww_tk, ww_ci, ww_ak, ww_gv, ww_g1, ww_kcs, w_f1, w_f2, w_a1, w_a2, w_u_at, dm_58, List.elem_nil, List.elem_cons, List.map_nil, List.map_cons, List.sum_nil, List.sum_cons, Option.toList_none, Option.toList_some, List.nil_append, List.cons_append, true_and, and_true, implies_true, false_implies, if_true, if_false, reduceIte, reduceCtorEq, Bool.false_eq_true, Bool.and_false, Bool.false_and, Bool.and_self, Bool.and_true, Bool.true_and, Nat.reduceAdd, Nat.reduceBEq, Nat.reduceEqDiff, Nat.reduceLT, Nat.reduceLeDiff, Int.reduceAdd, Int.reduceNeg, Int.reduceToNat, Int.reduceLE, Int.reduceLT, Int.reduceSub, Int.cast_ofNat_Int, Int.reduceNatCast', Int.reduceNatCast, Nat.zero_add, Int.zero_add, and_self, false_and, and_false, or_false, false_or, true_or, or_true, not_true_eq_false, not_false_eq_true, at_70, ctL_c, ctL_n, Option.toList, List.nil_append, List.cons_append]
  by_cases c : (k_n w file (w.1 10 1).toNat : Int) < w.1 10 1
  · rw [if_pos c]
    refine ⟨⟨by decide, by decide⟩, fun q => absurd q (by decide), fun _ => ?_⟩
    refine ww_Cn_of (lk_34 (hI.pre hp)) (Nat.le_refl _) ?_
    rintro r w2 ⟨rfl, h⟩
    refine ww_go1 (ctL_cons ok_70 ctL_nil) 100 [] ?_
    simp only [ww_S, ww_1, wr_0, wr_1, wr_2, wr_3, wr_4, wr_5, wr_6, wr_7, wr_8, wr_9, wr_10, wr_11, wr_12, wr_13, wr_14, wr_15, wr_16, wr_17, wr_18, wr_19, wr_20, wr_21, wr_22, wr_23, wr_24, wr_25, wr_26, wr_27, wr_28, wr_29, wr_30, wr_31, wr_32, wr_33, wr_34, wr_35, wr_36, wr_37, wr_38, wr_39, wr_40, wr_41, wr_42, wr_43, wr_44, wr_45, wr_46, wr_47, wr_48, wr_49, wr_50, wr_51, wr_52, wr_53, wr_54, wr_55, wr_56, wr_57, wr_58, wr_59, wr_60, wr_61, wr_62, wr_63, wr_64, wr_65, wr_66, wr_67, wr_68, wr_69, wr_70, wr_71, wr_72, wr_73, wr_74, wr_75, wr_76, wr_77, wr_78, wr_79, wr_80, wr_81, wr_82, wr_83, wr_84, wr_85, wr_86, wr_87, ww_v1, ww_v2, ww_v3, ww_v4, ww_g0, ww_gS, ww_t0, ww_tS, ww_s0, ww_sS, ww_s2, ww_w1, ww_w2, ww_w3, ww_b, ww_tg, ww_p1, ww_p2, ww_q0, ww_qS, ww_k1, ww_k2, ww_k3, ww_w0, ww_wS, ww_i1, ww_i2, ww_f0, ww_f1, ww_f2, ww_f4, ww_fd, ww_cl, ww_mc, ww_tk, ww_ci, ww_ak, ww_gv, ww_g1, ww_kcs, w_f1, w_f2, w_a1, w_a2, w_u_at, dm_58, List.elem_nil, List.elem_cons, List.map_nil, List.map_cons, List.sum_nil, List.sum_cons, Option.toList_none, Option.toList_some, List.nil_append, List.cons_append, true_and, and_true, implies_true, false_implies, if_true, if_false, reduceIte, reduceCtorEq, Bool.false_eq_true, Bool.and_false, Bool.false_and, Bool.and_self, Bool.and_true, Bool.true_and, Nat.reduceAdd, Nat.reduceBEq, Nat.reduceEqDiff, Nat.reduceLT, Nat.reduceLeDiff, Int.reduceAdd, Int.reduceNeg, Int.reduceToNat, Int.reduceLE, Int.reduceLT, Int.reduceSub, Int.cast_ofNat_Int, Int.reduceNatCast', Int.reduceNatCast, Nat.zero_add, Int.zero_add, and_self, false_and, and_false, or_false, false_or, true_or, or_true, not_true_eq_false, not_false_eq_true, at_70, ctL_c, ctL_n, Option.toList, List.nil_append]
    exact ⟨w1, hI, by rw [if_pos c]; exact h⟩
  · rw [if_neg c]
    exact ⟨⟨by decide, by decide⟩, fun _ => ⟨w1, hI, by rw [if_neg c]⟩, fun q => absurd rfl q⟩
