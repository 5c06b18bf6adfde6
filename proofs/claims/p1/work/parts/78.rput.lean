/-! ===== put and cut, of the reference ===== -/
def q_shr (w : W_) (lo hi : Nat) : W_ := (w.1, fun b k => if (b = 74 ∨ b = 75) ∧ lo < k ∧ k ≤ hi then w.2 b (k - 1) else w.2 b k)
def q_shl (w : W_) (lo hi : Nat) : W_ := (w.1, fun b k => if (b = 74 ∨ b = 75) ∧ lo ≤ k ∧ k < hi then w.2 b (k + 1) else w.2 b k)
theorem q_shr_0 {w : W_} {lo hi : Nat} (h : hi ≤ lo) : q_shr w lo hi = w := by
  refine Prod.ext rfl ?_
  funext b k
  show (if (b = 74 ∨ b = 75) ∧ lo < k ∧ k ≤ hi then w.2 b (k - 1) else w.2 b k) = _
  rw [if_neg (by omega)]
theorem q_shl_0 {w : W_} {lo hi : Nat} (h : hi ≤ lo) : q_shl w lo hi = w := by
  refine Prod.ext rfl ?_
  funext b k
  show (if (b = 74 ∨ b = 75) ∧ lo ≤ k ∧ k < hi then w.2 b (k + 1) else w.2 b k) = _
  rw [if_neg (by omega)]
theorem q_shr_S {w : W_} {lo hi : Nat} (h : lo ≤ hi) (h0 : 0 < lo) : w_a (w_a (q_shr w lo hi) 74 lo (w.2 74 (lo - 1))) 75 lo (w.2 75 (lo - 1)) = q_shr w (lo - 1) hi := by
  refine Prod.ext rfl ?_
  funext b k
  show (if b = 75 ∧ k = lo then w.2 75 (lo - 1) else if b = 74 ∧ k = lo then w.2 74 (lo - 1) else if (b = 74 ∨ b = 75) ∧ lo < k ∧ k ≤ hi then w.2 b (k - 1) else w.2 b k) = if (b = 74 ∨ b = 75) ∧ lo - 1 < k ∧ k ≤ hi then w.2 b (k - 1) else w.2 b k
  by_cases c5 : b = 75 ∧ k = lo
  · rw [if_pos c5, if_pos (by omega), c5.1, c5.2]
  · rw [if_neg c5]
    by_cases c3 : b = 74 ∧ k = lo
    · rw [if_pos c3, if_pos (by omega), c3.1, c3.2]
    · rw [if_neg c3]
      by_cases c : (b = 74 ∨ b = 75) ∧ lo < k ∧ k ≤ hi
      · rw [if_pos c, if_pos (by omega)]
      · rw [if_neg c, if_neg (by omega)]
theorem q_shl_S {w : W_} {lo hi : Nat} (h : lo ≤ hi) : w_a (w_a (q_shl w lo hi) 74 hi (w.2 74 (hi + 1))) 75 hi (w.2 75 (hi + 1)) = q_shl w lo (hi + 1) := by
  refine Prod.ext rfl ?_
  funext b k
  show (if b = 75 ∧ k = hi then w.2 75 (hi + 1) else if b = 74 ∧ k = hi then w.2 74 (hi + 1) else if (b = 74 ∨ b = 75) ∧ lo ≤ k ∧ k < hi then w.2 b (k + 1) else w.2 b k) = if (b = 74 ∨ b = 75) ∧ lo ≤ k ∧ k < hi + 1 then w.2 b (k + 1) else w.2 b k
  by_cases c5 : b = 75 ∧ k = hi
  · rw [if_pos c5, if_pos (by omega), c5.1, c5.2]
  · rw [if_neg c5]
    by_cases c3 : b = 74 ∧ k = hi
    · rw [if_pos c3, if_pos (by omega), c3.1, c3.2]
    · rw [if_neg c3]
      by_cases c : (b = 74 ∨ b = 75) ∧ lo ≤ k ∧ k < hi
      · rw [if_pos c, if_pos (by omega)]
      · rw [if_neg c, if_neg (by omega)]
/-- what insert makes -/
def q_ins (w : W_) (f p : Nat) (k n : Int) : W_ := w_a (w_a (w_a (q_shr w (60 * f + p) (60 * f + (w.2 76 f).toNat)) 74 (60 * f + p) k) 75 (60 * f + p) n) 76 f (w.2 76 f + 1)
def q_rem (w : W_) (f p : Nat) : W_ := w_a (q_shl w (60 * f + p) (60 * f + (w.2 76 f).toNat - 1)) 76 f (w.2 76 f - 1)
/-- what put answers of a fault -/
def q_put (w : W_) (f p k n : Int) : Int := if (0 ≤ f ∧ f ≤ 2) ∧ 0 ≤ p ∧ p ≤ w.2 76 f.toNat then (if (0 ≤ k ∧ k ≤ 31) ∧ 0 ≤ n ∧ n ≤ 99 then (if w.2 76 f.toNat = 60 then 3 else 0) else 2) else 1
set_option maxRecDepth 100000 in
set_option maxHeartbeats 4000000 in
theorem lk_171t {f p k n : Int} {w : W_} (hf : am_rg f) (hp : am_rg p) (hk : am_rg k) (hn : am_rg n) (h0 : am_rg (w.2 76 0)) (hs : 0 ≤ f → f ≤ 2 → am_rg (w.2 76 f.toNat)) (hc : q_put w f p k n ≠ 0) :
    ww_Ct 171 2 [.inr (.inr (.inl 73)), .inl f, .inl p, .inl k, .inl n] w fun r w' => r = some (.inl 0) ∧ w' = w_f w 73 93 (q_put w f p k n) := by
  unfold q_put at hc ⊢
  refine of_171 (ww_go (ctL_cons ok_167 (ctL_cons ok_168 (ctL_cons ok_169 ctL_nil))) 100 [98] ?_)
  simp only [ww_S, ww_1, wr_0, wr_1, wr_2, wr_3, wr_4, wr_5, wr_6, wr_7, wr_8, wr_9, wr_10, wr_11, wr_12, wr_13, wr_14, wr_15, wr_16, wr_17, wr_18, wr_19, wr_20, wr_21, wr_22, wr_23, wr_24, wr_25, wr_26, wr_27, wr_28, wr_29, wr_30, wr_31, wr_32, wr_33, wr_34, wr_35, wr_36, wr_37, wr_38, wr_39, wr_40, wr_41, wr_42, wr_43, wr_44, wr_45, wr_46, wr_47, wr_48, wr_49, wr_50, wr_51, wr_52, wr_53, wr_54, wr_55, wr_56, wr_57, wr_58, wr_59, wr_60, wr_61, wr_62, wr_63, wr_64, wr_65, wr_66, wr_67, wr_68, wr_69, wr_70, wr_71, wr_72, wr_73, wr_74, wr_75, wr_76, wr_77, wr_78, wr_79, wr_80, wr_81, wr_82, wr_83, wr_84, wr_85, wr_86, wr_87, ww_v1, ww_v2, ww_v3, ww_v4, ww_g0, ww_gS, ww_t0, ww_tS, ww_s0, ww_sS, ww_s2, ww_w1, ww_w2, ww_w3, ww_b, ww_tg, ww_p1, ww_p2, ww_q0, ww_qS, ww_k1, ww_k2, ww_k3, ww_w0, ww_wS, ww_i1, ww_i2, ww_f0, ww_f1, ww_f2, ww_f4, ww_fd, ww_cl, ww_mc, ww_tk, ww_ci, ww_ak, ww_gv, ww_g1, ww_kcs, w_f1, w_f2, w_a1, w_a2, w_u_at, dm_171, List.elem_nil, List.elem_cons, List.map_nil, List.map_cons, List.sum_nil, List.sum_cons, Option.toList_none, Option.toList_some, List.nil_append, List.cons_append, true_and, and_true, implies_true, false_implies, if_true, if_false, reduceIte, reduceCtorEq, Bool.false_eq_true, Bool.and_false, Bool.false_and, Bool.and_self, Bool.and_true, Bool.true_and, Nat.reduceAdd, Nat.reduceBEq, Nat.reduceEqDiff, Nat.reduceLT, Nat.reduceLeDiff, Int.reduceAdd, Int.reduceNeg, Int.reduceToNat, Int.reduceLE, Int.reduceLT, Int.reduceSub, Int.cast_ofNat_Int, Int.reduceNatCast', Int.reduceNatCast, Nat.zero_add, Int.zero_add, and_self, false_and, and_false, or_false, false_or, true_or, or_true, not_true_eq_false, not_false_eq_true, at_167, at_168, at_169, ctL_c, ctL_n]
  unfold am_rg at *
  (repeat' (first | refine And.intro ?_ ?_ | intro _)) <;> first | assumption | (with_reducible rfl) | omega | (exfalso; omega) | (refine congrArg (w_f w 73 93) ?_; (repeat' split) <;> first | rfl | omega) | skip
def r_fg (w : W_) (file : Int) (w' : W_) : Prop := ∃ w1, r_J w file (w.1 73 70).toNat w1 ∧ w' = w_f w1 73 70 (g_n (w.2 114) file (w.1 73 70).toNat)
theorem r_fg.keep {w w' : W_} {file : Int} (h : r_fg w file w') {b : Nat} (hb : ¬ r_kb b) : w'.2 b = w.2 b := by
  obtain ⟨w1, hJ, rfl⟩ := h
  exact hJ.2.1 b hb
theorem q_ins_ne (w : W_) (f p : Nat) (k n : Int) {b : Nat} (h3 : b ≠ 74) (h5 : b ≠ 75) (h7 : b ≠ 76) : (q_ins w f p k n).2 b = w.2 b := by
  funext i
  show (if b = 76 ∧ i = f then _ else if b = 75 ∧ i = 60 * f + p then n else if b = 74 ∧ i = 60 * f + p then k else if (b = 74 ∨ b = 75) ∧ 60 * f + p < i ∧ i ≤ 60 * f + (w.2 76 f).toNat then w.2 b (i - 1) else w.2 b i) = _
  rw [if_neg (fun q => h7 q.1), if_neg (fun q => h5 q.1), if_neg (fun q => h3 q.1), if_neg (by omega)]
theorem q_rem_ne (w : W_) (f p : Nat) {b : Nat} (h3 : b ≠ 74) (h5 : b ≠ 75) (h7 : b ≠ 76) : (q_rem w f p).2 b = w.2 b := by
  funext i
  show (if b = 76 ∧ i = f then _ else if (b = 74 ∨ b = 75) ∧ 60 * f + p ≤ i ∧ i < 60 * f + (w.2 76 f).toNat - 1 then w.2 b (i + 1) else w.2 b i) = _
  rw [if_neg (fun q => h7 q.1), if_neg (by omega)]
set_option maxRecDepth 100000 in
set_option maxHeartbeats 4000000 in
theorem z171_115 {f p k n : Int} {v5 : am_V} {w : W_} {Q : Option am_V → W_ → Prop} (f0 : 0 ≤ f) (f1 : f < 3) (p0 : 0 ≤ p) (p1 : p ≤ w.2 76 f.toNat) (s1 : w.2 76 f.toNat < 60) (hv : am_two v5 = false)
    (hr : 0 ≤ w.1 73 70 ∧ w.1 73 70 ≤ 60 ∧ ∀ r : Nat, (r : Int) < w.1 73 70 → am_rg (w.2 114 r))
    (K : ∀ w', r_fg (q_ins w f.toNat p.toNat k n) f w' → Q (some (.inl (w.2 76 f.toNat + 1))) w') :
    ww_Z 12 8 2 1 cX12_put none Q 115 [.inr (.inr (.inl 73)), .inl f, .inl p, .inl k, .inl n, v5, .inl (60 * f), .inl (60 * f + w.2 76 f.toNat)] [] w := by
  refine ww_loop (P := fun m ls w' => ∃ i : Int, p ≤ i ∧ i ≤ w.2 76 f.toNat ∧ m = (i - p).toNat ∧ ls = [.inr (.inr (.inl 73)), .inl f, .inl p, .inl k, .inl n, v5, .inl (60 * f), .inl (60 * f + i)] ∧ w' = q_shr w (60 * f + i).toNat (60 * f.toNat + (w.2 76 f.toNat).toNat)) ?_ (w.2 76 f.toNat - p).toNat _ _ ⟨w.2 76 f.toNat, p1, Int.le_refl _, rfl, rfl, by rw [q_shr_0 (by omega)]⟩
  rintro m ls w' ⟨i, i0, i1, hm, rfl, rfl⟩ ih
  have hsh : ∀ (b lo hi : Nat) (k : Nat), k ≤ lo → (q_shr w lo hi).2 b k = w.2 b k := by
    intro b lo hi k kl
    show (if (b = 74 ∨ b = 75) ∧ lo < k ∧ k ≤ hi then w.2 b (k - 1) else w.2 b k) = _
    rw [if_neg (by omega)]
  have h7 : ∀ (lo hi : Nat) (k : Nat), (q_shr w lo hi).2 76 k = w.2 76 k := by
    intro lo hi k
    show (if ((76 : Nat) = 74 ∨ (76 : Nat) = 75) ∧ lo < k ∧ k ≤ hi then w.2 76 (k - 1) else w.2 76 k) = _
    rw [if_neg (by omega)]
  refine ww_go1 (ctL_cons ok_167 ctL_nil) 100 [115] ?_
  simp only [ww_S, ww_1, wr_0, wr_1, wr_2, wr_3, wr_4, wr_5, wr_6, wr_7, wr_8, wr_9, wr_10, wr_11, wr_12, wr_13, wr_14, wr_15, wr_16, wr_17, wr_18, wr_19, wr_20, wr_21, wr_22, wr_23, wr_24, wr_25, wr_26, wr_27, wr_28, wr_29, wr_30, wr_31, wr_32, wr_33, wr_34, wr_35, wr_36, wr_37, wr_38, wr_39, wr_40, wr_41, wr_42, wr_43, wr_44, wr_45, wr_46, wr_47, wr_48, wr_49, wr_50, wr_51, wr_52, wr_53, wr_54, wr_55, wr_56, wr_57, wr_58, wr_59, wr_60, wr_61, wr_62, wr_63, wr_64, wr_65, wr_66, wr_67, wr_68, wr_69, wr_70, wr_71, wr_72, wr_73, wr_74, wr_75, wr_76, wr_77, wr_78, wr_79, wr_80, wr_81, wr_82, wr_83, wr_84, wr_85, wr_86, wr_87, ww_v1, ww_v2, ww_v3, ww_v4, ww_g0, ww_gS, ww_t0, ww_tS, ww_s0, ww_sS, ww_s2, ww_w1, ww_w2, ww_w3, ww_b, ww_tg, ww_p1, ww_p2, ww_q0, ww_qS, ww_k1, ww_k2, ww_k3, ww_w0, ww_wS, ww_i1, ww_i2, ww_f0, ww_f1, ww_f2, ww_f4, ww_fd, ww_cl, ww_mc, ww_tk, ww_ci, ww_ak, ww_gv, ww_g1, ww_kcs, w_f1, w_f2, w_a1, w_a2, w_u_at, dm_171, List.elem_nil, List.elem_cons, List.map_nil, List.map_cons, List.sum_nil, List.sum_cons, Option.toList_none, Option.toList_some, List.nil_append, List.cons_append, true_and, and_true, implies_true, false_implies, if_true, if_false, reduceIte, reduceCtorEq, Bool.false_eq_true, Bool.and_false, Bool.false_and, Bool.and_self, Bool.and_true, Bool.true_and, Nat.reduceAdd, Nat.reduceBEq, Nat.reduceEqDiff, Nat.reduceLT, Nat.reduceLeDiff, Int.reduceAdd, Int.reduceNeg, Int.reduceToNat, Int.reduceLE, Int.reduceLT, Int.reduceSub, Int.cast_ofNat_Int, Int.reduceNatCast', Int.reduceNatCast, Nat.zero_add, Int.zero_add, and_self, false_and, and_false, or_false, false_or, true_or, or_true, not_true_eq_false, not_false_eq_true, at_167, ctL_c, ctL_n, hv, h7]
  refine ⟨⟨by omega, by omega⟩, ⟨by omega, by omega⟩, fun q => ?_, fun q => ?_⟩
  · repeat (refine And.intro (by omega) ?_)
    clear ih
    have e : i = p := by omega
    have e1 : (60 * f + p).toNat = 60 * f.toNat + p.toNat := by omega
    have ew : w_a (w_a (w_a (q_shr w (60 * f + i).toNat (60 * f.toNat + (w.2 76 f.toNat).toNat)) 74 (60 * f + p).toNat k) 75 (60 * f + p).toNat n) 76 f.toNat (w.2 76 f.toNat + 1) = q_ins w f.toNat p.toNat k n := by
      rw [e, e1]
      rfl
    rw [ew]
    have e114 := q_ins_ne w f.toNat p.toNat k n (b := 114) (by decide) (by decide) (by decide)
    refine ww_Cn_of (lk_170 (w := q_ins w f.toNat p.toNat k n) f0 f1 hr.1 hr.2.1 (by rw [e114]; exact hr.2.2)) (by omega) ?_
    rintro r w1 ⟨rfl, h⟩
    have h : r_fg (q_ins w f.toNat p.toNat k n) f w1 := h
    have e7 : w1.2 76 f.toNat = w.2 76 f.toNat + 1 := by
      rw [h.keep (by decide)]
      exact if_pos ⟨rfl, rfl⟩
    refine ww_go1 (ctL_cons ok_167 ctL_nil) 100 [] ?_
    simp only [ww_S, ww_1, wr_0, wr_1, wr_2, wr_3, wr_4, wr_5, wr_6, wr_7, wr_8, wr_9, wr_10, wr_11, wr_12, wr_13, wr_14, wr_15, wr_16, wr_17, wr_18, wr_19, wr_20, wr_21, wr_22, wr_23, wr_24, wr_25, wr_26, wr_27, wr_28, wr_29, wr_30, wr_31, wr_32, wr_33, wr_34, wr_35, wr_36, wr_37, wr_38, wr_39, wr_40, wr_41, wr_42, wr_43, wr_44, wr_45, wr_46, wr_47, wr_48, wr_49, wr_50, wr_51, wr_52, wr_53, wr_54, wr_55, wr_56, wr_57, wr_58, wr_59, wr_60, wr_61, wr_62, wr_63, wr_64, wr_65, wr_66, wr_67, wr_68, wr_69, wr_70, wr_71, wr_72, wr_73, wr_74, wr_75, wr_76, wr_77, wr_78, wr_79, wr_80, wr_81, wr_82, wr_83, wr_84, wr_85, wr_86, wr_87, ww_v1, ww_v2, ww_v3, ww_v4, ww_g0, ww_gS, ww_t0, ww_tS, ww_s0, ww_sS, ww_s2, ww_w1, ww_w2, ww_w3, ww_b, ww_tg, ww_p1, ww_p2, ww_q0, ww_qS, ww_k1, ww_k2, ww_k3, ww_w0, ww_wS, ww_i1, ww_i2, ww_f0, ww_f1, ww_f2, ww_f4, ww_fd, ww_cl, ww_mc, ww_tk, ww_ci, ww_ak, ww_gv, ww_g1, ww_kcs, w_f1, w_f2, w_a1, w_a2, w_u_at, dm_171, List.elem_nil, List.elem_cons, List.map_nil, List.map_cons, List.sum_nil, List.sum_cons, Option.toList_none, Option.toList_some, List.nil_append, List.cons_append, true_and, and_true, implies_true, false_implies, if_true, if_false, reduceIte, reduceCtorEq, Bool.false_eq_true, Bool.and_false, Bool.false_and, Bool.and_self, Bool.and_true, Bool.true_and, Nat.reduceAdd, Nat.reduceBEq, Nat.reduceEqDiff, Nat.reduceLT, Nat.reduceLeDiff, Int.reduceAdd, Int.reduceNeg, Int.reduceToNat, Int.reduceLE, Int.reduceLT, Int.reduceSub, Int.cast_ofNat_Int, Int.reduceNatCast', Int.reduceNatCast, Nat.zero_add, Int.zero_add, and_self, false_and, and_false, or_false, false_or, true_or, or_true, not_true_eq_false, not_false_eq_true, at_167, ctL_c, ctL_n, Option.toList, List.nil_append, e7]
    exact ⟨f0, f1, K w1 h⟩
  · repeat (refine And.intro (by omega) ?_)
    have e2 : (60 * f + i - 1).toNat = (60 * f + i).toNat - 1 := by omega
    rw [e2, hsh 74 _ _ _ (by omega), hsh 75 _ _ _ (by omega), q_shr_S (by omega) (by omega)]
    refine ih (i - 1 - p).toNat _ _ (by omega) ⟨i - 1, by omega, by omega, rfl, ?_, ?_⟩
    · have e3 : 60 * f + i + -1 = 60 * f + (i - 1) := by omega
      rw [e3]
    · have e3 : (60 * f + (i - 1)).toNat = (60 * f + i).toNat - 1 := by omega
      rw [e3]
set_option maxRecDepth 100000 in
set_option maxHeartbeats 4000000 in
theorem lk_171 {f p k n : Int} {w : W_} (f0 : 0 ≤ f) (f1 : f < 3) (p0 : 0 ≤ p) (p1 : p ≤ w.2 76 f.toNat) (s1 : w.2 76 f.toNat < 60) (k0 : 0 ≤ k) (k1 : k ≤ 31) (n0 : 0 ≤ n) (n1 : n ≤ 99)
    (hr : 0 ≤ w.1 73 70 ∧ w.1 73 70 ≤ 60 ∧ ∀ r : Nat, (r : Int) < w.1 73 70 → am_rg (w.2 114 r)) :
    ww_Ct 171 2 [.inr (.inr (.inl 73)), .inl f, .inl p, .inl k, .inl n] w fun r w' => r = some (.inl (w.2 76 f.toNat + 1)) ∧ r_fg (q_ins (w_f w 73 93 0) f.toNat p.toNat k n) f w' := by
  refine of_171 (ww_go (ctL_cons ok_167 (ctL_cons ok_168 (ctL_cons ok_169 ctL_nil))) 100 [115] ?_)
  simp only [ww_S, ww_1, wr_0, wr_1, wr_2, wr_3, wr_4, wr_5, wr_6, wr_7, wr_8, wr_9, wr_10, wr_11, wr_12, wr_13, wr_14, wr_15, wr_16, wr_17, wr_18, wr_19, wr_20, wr_21, wr_22, wr_23, wr_24, wr_25, wr_26, wr_27, wr_28, wr_29, wr_30, wr_31, wr_32, wr_33, wr_34, wr_35, wr_36, wr_37, wr_38, wr_39, wr_40, wr_41, wr_42, wr_43, wr_44, wr_45, wr_46, wr_47, wr_48, wr_49, wr_50, wr_51, wr_52, wr_53, wr_54, wr_55, wr_56, wr_57, wr_58, wr_59, wr_60, wr_61, wr_62, wr_63, wr_64, wr_65, wr_66, wr_67, wr_68, wr_69, wr_70, wr_71, wr_72, wr_73, wr_74, wr_75, wr_76, wr_77, wr_78, wr_79, wr_80, wr_81, wr_82, wr_83, wr_84, wr_85, wr_86, wr_87, ww_v1, ww_v2, ww_v3, ww_v4, ww_g0, ww_gS, ww_t0, ww_tS, ww_s0, ww_sS, ww_s2, ww_w1, ww_w2, ww_w3, ww_b, ww_tg, ww_p1, ww_p2, ww_q0, ww_qS, ww_k1, ww_k2, ww_k3, ww_w0, ww_wS, ww_i1, ww_i2, ww_f0, ww_f1, ww_f2, ww_f4, ww_fd, ww_cl, ww_mc, ww_tk, ww_ci, ww_ak, ww_gv, ww_g1, ww_kcs, w_f1, w_f2, w_a1, w_a2, w_u_at, dm_171, List.elem_nil, List.elem_cons, List.map_nil, List.map_cons, List.sum_nil, List.sum_cons, Option.toList_none, Option.toList_some, List.nil_append, List.cons_append, true_and, and_true, implies_true, false_implies, if_true, if_false, reduceIte, reduceCtorEq, Bool.false_eq_true, Bool.and_false, Bool.false_and, Bool.and_self, Bool.and_true, Bool.true_and, Nat.reduceAdd, Nat.reduceBEq, Nat.reduceEqDiff, Nat.reduceLT, Nat.reduceLeDiff, Int.reduceAdd, Int.reduceNeg, Int.reduceToNat, Int.reduceLE, Int.reduceLT, Int.reduceSub, Int.cast_ofNat_Int, Int.reduceNatCast', Int.reduceNatCast, Nat.zero_add, Int.zero_add, and_self, false_and, and_false, or_false, false_or, true_or, or_true, not_true_eq_false, not_false_eq_true, at_167, at_168, at_169, ctL_c, ctL_n]
  have z := z171_115 (v5 := .inl 1) (w := w_f w 73 93 0) (k := k) (n := n) (Q := fun r w' => r = some (.inl (w.2 76 f.toNat + 1)) ∧ r_fg (q_ins (w_f w 73 93 0) f.toNat p.toNat k n) f w') f0 f1 p0 p1 s1 rfl hr (fun w' h => ⟨rfl, h⟩)
  have g1 : (if 0 ≤ f ∧ f ≤ 2 then (1 : Int) else 0) = 1 := if_pos ⟨f0, by omega⟩
  have g2 : (if 0 ≤ p ∧ p ≤ w.2 76 f.toNat then (1 : Int) else 0) = 1 := if_pos ⟨p0, p1⟩
  have g3 : (if 0 ≤ k ∧ k ≤ 31 then (1 : Int) else 0) = 1 := if_pos ⟨k0, k1⟩
  have g4 : (if 0 ≤ n ∧ n ≤ 99 then (1 : Int) else 0) = 1 := if_pos ⟨n0, n1⟩
  simp only [g1, g2, g3, g4]
  (repeat' (first | exact z | refine And.intro ?_ ?_ | intro _)) <;> first | omega | (exfalso; omega) | skip
