/-! ===== the reference forgets ===== -/
/-- how many of the first stay -/
def g_n (g : Nat → Int) (file : Int) : Nat → Nat
  | 0 => 0
  | i + 1 => g_n g file i + if g i = file then 0 else 1
theorem g_n_le (g : Nat → Int) (file : Int) : ∀ i, g_n g file i ≤ i
  | 0 => Nat.le_refl _
  | i + 1 => by
    have := g_n_le g file i
    unfold g_n
    split <;> omega
theorem g_n_mono (g : Nat → Int) (file : Int) {i : Nat} : ∀ {j : Nat}, i ≤ j → g_n g file i ≤ g_n g file j
  | 0, h => by
    have e : i = 0 := by omega
    rw [e]
    exact Nat.le_refl _
  | j + 1, h => by
    by_cases c : i = j + 1
    · rw [c]
      exact Nat.le_refl _
    · have := g_n_mono g file (i := i) (j := j) (by omega)
      show _ ≤ g_n g file j + (if g j = file then 0 else 1)
      omega
theorem g_n_lt {g : Nat → Int} {file : Int} {r i : Nat} (h : g r ≠ file) (hi : r < i) : g_n g file r < g_n g file i := by
  have := g_n_mono g file (i := r + 1) (j := i) (by omega)
  have e : g_n g file (r + 1) = g_n g file r + 1 := by
    show g_n g file r + (if g r = file then 0 else 1) = _
    rw [if_neg h]
  omega
theorem g_n_k (w : W_) (file : Int) : ∀ i, k_n w file i = g_n (fun r => w.2 11 (61 * r) / 60) file i
  | 0 => rfl
  | i + 1 => by
    show k_n w file i + _ = g_n _ file i + _
    rw [g_n_k w file i]
theorem g_n_congr {g g' : Nat → Int} {file : Int} : ∀ {i : Nat}, (∀ r, r < i → g r = g' r) → g_n g file i = g_n g' file i
  | 0, _ => rfl
  | i + 1, h => by
    show g_n g file i + _ = g_n g' file i + _
    rw [g_n_congr (i := i) (fun r hr => h r (by omega)), h i (by omega)]
/-- a row of n numbers goes to another place; f of them are there -/
def w_cq (w : W_) (b n c i : Nat) (f : Int) : W_ := (w.1, fun b' k => if b' = b ∧ n * c ≤ k ∧ (k : Int) < (n * c : Nat) + f then w.2 b (k - n * c + n * i) else w.2 b' k)
theorem w_cq_117 (w : W_) {c i : Nat} {f : Int} (h0 : 0 ≤ f) (hc : c ≤ i) : w_a (w_cq w 117 10 c i f) 117 (10 * (c : Int) + f).toNat ((w_cq w 117 10 c i f).2 117 (10 * (i : Int) + f).toNat) = w_cq w 117 10 c i (f + 1) := by
  have hg : (w_cq w 117 10 c i f).2 117 (10 * (i : Int) + f).toNat = w.2 117 (10 * i + f.toNat) := by
    unfold w_cq
    dsimp only
    rw [if_neg (by omega)]
    have e : (10 * (i : Int) + f).toNat = 10 * i + f.toNat := by omega
    rw [e]
  rw [hg]
  refine Prod.ext rfl ?_
  funext b k
  show (if b = 117 ∧ k = (10 * (c : Int) + f).toNat then w.2 117 (10 * i + f.toNat) else if b = 117 ∧ 10 * c ≤ k ∧ (k : Int) < (10 * c : Nat) + f then w.2 117 (k - 10 * c + 10 * i) else w.2 b k) = if b = 117 ∧ 10 * c ≤ k ∧ (k : Int) < (10 * c : Nat) + (f + 1) then w.2 117 (k - 10 * c + 10 * i) else w.2 b k
  by_cases c1 : b = 117 ∧ k = (10 * (c : Int) + f).toNat
  · have e : k - 10 * c + 10 * i = 10 * i + f.toNat := by omega
    rw [if_pos c1, if_pos ⟨c1.1, by omega, by omega⟩, e]
  · rw [if_neg c1]
    by_cases c2 : b = 117 ∧ 10 * c ≤ k ∧ (k : Int) < (10 * c : Nat) + f
    · rw [if_pos c2, if_pos ⟨c2.1, c2.2.1, by omega⟩]
    · rw [if_neg c2, if_neg (fun q => c2 ⟨q.1, q.2.1, by
        apply Int.lt_of_not_ge
        intro z
        exact c1 ⟨q.1, by omega⟩⟩)]
set_option maxRecDepth 100000 in
set_option maxHeartbeats 4000000 in
theorem z170_87 {w : W_} {file : Int} {c i : Nat} {Q : Option am_V → W_ → Prop} (hc : c ≤ i) (hi : i < 60)
    (K : ww_Z 12 5 1 0 cX12_forgets none Q 127 [.inr (.inr (.inl 73)), .inl file, .inl c, .inl i, .inl 0] [] (w_cq w 117 10 c i 10)) :
    ww_Z 12 5 1 0 cX12_forgets none Q 87 [.inr (.inr (.inl 73)), .inl file, .inl c, .inl i, .inl 0] [] w := by
  refine ww_loop (P := fun n ls w' => ∃ f : Int, (0 ≤ f ∧ f ≤ 10) ∧ n = (10 - f).toNat ∧ w' = w_cq w 117 10 c i f ∧ ls = [.inr (.inr (.inl 73)), .inl file, .inl c, .inl i, .inl f]) ?_ 10 _ _ ⟨0, ⟨by omega, by omega⟩, rfl, ?_, rfl⟩
  · rintro n ls w' ⟨f, ⟨f0, f1⟩, hn, rfl, rfl⟩ ih
    refine ww_go1 (ctL_cons ok_167 ctL_nil) 100 [87, 127] ?_
    simp only [ww_S, ww_1, wr_0, wr_1, wr_2, wr_3, wr_4, wr_5, wr_6, wr_7, wr_8, wr_9, wr_10, wr_11, wr_12, wr_13, wr_14, wr_15, wr_16, wr_17, wr_18, wr_19, wr_20, wr_21, wr_22, wr_23, wr_24, wr_25, wr_26, wr_27, wr_28, wr_29, wr_30, wr_31, wr_32, wr_33, wr_34, wr_35, wr_36, wr_37, wr_38, wr_39, wr_40, wr_41, wr_42, wr_43, wr_44, wr_45, wr_46, wr_47, wr_48, wr_49, wr_50, wr_51, wr_52, wr_53, wr_54, wr_55, wr_56, wr_57, wr_58, wr_59, wr_60, wr_61, wr_62, wr_63, wr_64, wr_65, wr_66, wr_67, wr_68, wr_69, wr_70, wr_71, wr_72, wr_73, wr_74, wr_75, wr_76, wr_77, wr_78, wr_79, wr_80, wr_81, wr_82, wr_83, wr_84, wr_85, wr_86, wr_87, ww_v1, ww_v2, ww_v3, ww_v4, ww_g0, ww_gS, ww_t0, ww_tS, ww_s0, ww_sS, ww_s2, ww_w1, ww_w2, ww_w3, ww_b, ww_tg, ww_p1, ww_p2, ww_q0, ww_qS, ww_k1, ww_k2, ww_k3, ww_w0, ww_wS, ww_i1, ww_i2, ww_f0, ww_f1, ww_f2, ww_f4, ww_fd, ww_cl, ww_mc, ww_tk, ww_ci, ww_ak, ww_gv, ww_g1, ww_kcs, w_f1, w_f2, w_a1, w_a2, w_u_at, dm_170, List.elem_nil, List.elem_cons, List.map_nil, List.map_cons, List.sum_nil, List.sum_cons, Option.toList_none, Option.toList_some, List.nil_append, List.cons_append, true_and, and_true, implies_true, false_implies, if_true, if_false, reduceIte, reduceCtorEq, Bool.false_eq_true, Bool.and_false, Bool.false_and, Bool.and_self, Bool.and_true, Bool.true_and, Nat.reduceAdd, Nat.reduceBEq, Nat.reduceEqDiff, Nat.reduceLT, Nat.reduceLeDiff, Int.reduceAdd, Int.reduceNeg, Int.reduceToNat, Int.reduceLE, Int.reduceLT, Int.reduceSub, Int.cast_ofNat_Int, Int.reduceNatCast', Int.reduceNatCast, Nat.zero_add, Int.zero_add, and_self, false_and, and_false, or_false, false_or, true_or, or_true, not_true_eq_false, not_false_eq_true, at_167, ctL_c, ctL_n]
    refine ⟨⟨by omega, by omega⟩, ⟨by decide, by decide⟩, fun q => ?_, fun q => ?_⟩
    · have e : f = 10 := by omega
      subst e
      exact K
    · refine ⟨by omega, by omega, by omega, by omega, ?_⟩
      rw [w_cq_117 w f0 hc]
      exact ih (10 - (f + 1)).toNat _ _ (by omega) ⟨f + 1, ⟨by omega, by omega⟩, rfl, rfl, rfl⟩
  · refine Prod.ext rfl ?_
    funext b k
    show w.2 b k = if b = 117 ∧ 10 * c ≤ k ∧ (k : Int) < (10 * c : Nat) + 0 then _ else w.2 b k
    rw [if_neg (by omega)]
theorem w_cq_121 (w : W_) {c i : Nat} {f : Int} (h0 : 0 ≤ f) (hc : c ≤ i) : w_a (w_cq w 121 45 c i f) 121 (45 * (c : Int) + f).toNat ((w_cq w 121 45 c i f).2 121 (45 * (i : Int) + f).toNat) = w_cq w 121 45 c i (f + 1) := by
  have hg : (w_cq w 121 45 c i f).2 121 (45 * (i : Int) + f).toNat = w.2 121 (45 * i + f.toNat) := by
    unfold w_cq
    dsimp only
    rw [if_neg (by omega)]
    have e : (45 * (i : Int) + f).toNat = 45 * i + f.toNat := by omega
    rw [e]
  rw [hg]
  refine Prod.ext rfl ?_
  funext b k
  show (if b = 121 ∧ k = (45 * (c : Int) + f).toNat then w.2 121 (45 * i + f.toNat) else if b = 121 ∧ 45 * c ≤ k ∧ (k : Int) < (45 * c : Nat) + f then w.2 121 (k - 45 * c + 45 * i) else w.2 b k) = if b = 121 ∧ 45 * c ≤ k ∧ (k : Int) < (45 * c : Nat) + (f + 1) then w.2 121 (k - 45 * c + 45 * i) else w.2 b k
  by_cases c1 : b = 121 ∧ k = (45 * (c : Int) + f).toNat
  · have e : k - 45 * c + 45 * i = 45 * i + f.toNat := by omega
    rw [if_pos c1, if_pos ⟨c1.1, by omega, by omega⟩, e]
  · rw [if_neg c1]
    by_cases c2 : b = 121 ∧ 45 * c ≤ k ∧ (k : Int) < (45 * c : Nat) + f
    · rw [if_pos c2, if_pos ⟨c2.1, c2.2.1, by omega⟩]
    · rw [if_neg c2, if_neg (fun q => c2 ⟨q.1, q.2.1, by
        apply Int.lt_of_not_ge
        intro z
        exact c1 ⟨q.1, by omega⟩⟩)]
set_option maxRecDepth 100000 in
set_option maxHeartbeats 4000000 in
theorem z170_127 {w : W_} {file : Int} {c i : Nat} {Q : Option am_V → W_ → Prop} (hc : c ≤ i) (hi : i < 60)
    (K : ww_Z 12 5 1 0 cX12_forgets none Q 164 [.inr (.inr (.inl 73)), .inl file, .inl c, .inl i, .inl 45] [] (w_cq w 121 45 c i 45)) :
    ww_Z 12 5 1 0 cX12_forgets none Q 127 [.inr (.inr (.inl 73)), .inl file, .inl c, .inl i, .inl 0] [] w := by
  refine ww_loop (P := fun n ls w' => ∃ f : Int, (0 ≤ f ∧ f ≤ 45) ∧ n = (45 - f).toNat ∧ w' = w_cq w 121 45 c i f ∧ ls = [.inr (.inr (.inl 73)), .inl file, .inl c, .inl i, .inl f]) ?_ 45 _ _ ⟨0, ⟨by omega, by omega⟩, rfl, ?_, rfl⟩
  · rintro n ls w' ⟨f, ⟨f0, f1⟩, hn, rfl, rfl⟩ ih
    refine ww_go1 (ctL_cons ok_167 ctL_nil) 100 [127, 164] ?_
    simp only [ww_S, ww_1, wr_0, wr_1, wr_2, wr_3, wr_4, wr_5, wr_6, wr_7, wr_8, wr_9, wr_10, wr_11, wr_12, wr_13, wr_14, wr_15, wr_16, wr_17, wr_18, wr_19, wr_20, wr_21, wr_22, wr_23, wr_24, wr_25, wr_26, wr_27, wr_28, wr_29, wr_30, wr_31, wr_32, wr_33, wr_34, wr_35, wr_36, wr_37, wr_38, wr_39, wr_40, wr_41, wr_42, wr_43, wr_44, wr_45, wr_46, wr_47, wr_48, wr_49, wr_50, wr_51, wr_52, wr_53, wr_54, wr_55, wr_56, wr_57, wr_58, wr_59, wr_60, wr_61, wr_62, wr_63, wr_64, wr_65, wr_66, wr_67, wr_68, wr_69, wr_70, wr_71, wr_72, wr_73, wr_74, wr_75, wr_76, wr_77, wr_78, wr_79, wr_80, wr_81, wr_82, wr_83, wr_84, wr_85, wr_86, wr_87, ww_v1, ww_v2, ww_v3, ww_v4, ww_g0, ww_gS, ww_t0, ww_tS, ww_s0, ww_sS, ww_s2, ww_w1, ww_w2, ww_w3, ww_b, ww_tg, ww_p1, ww_p2, ww_q0, ww_qS, ww_k1, ww_k2, ww_k3, ww_w0, ww_wS, ww_i1, ww_i2, ww_f0, ww_f1, ww_f2, ww_f4, ww_fd, ww_cl, ww_mc, ww_tk, ww_ci, ww_ak, ww_gv, ww_g1, ww_kcs, w_f1, w_f2, w_a1, w_a2, w_u_at, dm_170, List.elem_nil, List.elem_cons, List.map_nil, List.map_cons, List.sum_nil, List.sum_cons, Option.toList_none, Option.toList_some, List.nil_append, List.cons_append, true_and, and_true, implies_true, false_implies, if_true, if_false, reduceIte, reduceCtorEq, Bool.false_eq_true, Bool.and_false, Bool.false_and, Bool.and_self, Bool.and_true, Bool.true_and, Nat.reduceAdd, Nat.reduceBEq, Nat.reduceEqDiff, Nat.reduceLT, Nat.reduceLeDiff, Int.reduceAdd, Int.reduceNeg, Int.reduceToNat, Int.reduceLE, Int.reduceLT, Int.reduceSub, Int.cast_ofNat_Int, Int.reduceNatCast', Int.reduceNatCast, Nat.zero_add, Int.zero_add, and_self, false_and, and_false, or_false, false_or, true_or, or_true, not_true_eq_false, not_false_eq_true, at_167, ctL_c, ctL_n]
    refine ⟨⟨by omega, by omega⟩, ⟨by decide, by decide⟩, fun q => ?_, fun q => ?_⟩
    · have e : f = 45 := by omega
      subst e
      exact K
    · refine ⟨by omega, by omega, by omega, by omega, ?_⟩
      rw [w_cq_121 w f0 hc]
      exact ih (45 - (f + 1)).toNat _ _ (by omega) ⟨f + 1, ⟨by omega, by omega⟩, rfl, rfl, rfl⟩
  · refine Prod.ext rfl ?_
    funext b k
    show w.2 b k = if b = 121 ∧ 45 * c ≤ k ∧ (k : Int) < (45 * c : Nat) + 0 then _ else w.2 b k
    rw [if_neg (by omega)]
