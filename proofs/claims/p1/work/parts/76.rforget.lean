/-! ===== the reference forgets ===== -/
/-- how many of the first stay -/
def g_n (g : Nat → Int) (file : Int) : Nat → Nat
  | 0 => 0
  | i + 1 => g_n g file i + if g i = file then 0 else 1
theorem g_n_le (g : Nat → Int) (file : Int) : ∀ i, g_n g file i ≤ i
  | 0 => Nat.le_refl _
  | i + 1 => by
    have := g_n_le g file i
    unfold g_n
    split <;> omega
theorem g_n_mono (g : Nat → Int) (file : Int) {i : Nat} : ∀ {j : Nat}, i ≤ j → g_n g file i ≤ g_n g file j
  | 0, h => by
    have e : i = 0 := by omega
    rw [e]
    exact Nat.le_refl _
  | j + 1, h => by
    by_cases c : i = j + 1
    · rw [c]
      exact Nat.le_refl _
    · have := g_n_mono g file (i := i) (j := j) (by omega)
      show _ ≤ g_n g file j + (if g j = file then 0 else 1)
      omega
theorem g_n_lt {g : Nat → Int} {file : Int} {r i : Nat} (h : g r ≠ file) (hi : r < i) : g_n g file r < g_n g file i := by
  have := g_n_mono g file (i := r + 1) (j := i) (by omega)
  have e : g_n g file (r + 1) = g_n g file r + 1 := by
    show g_n g file r + (if g r = file then 0 else 1) = _
    rw [if_neg h]
  omega
theorem g_n_k (w : W_) (file : Int) : ∀ i, k_n w file i = g_n (fun r => w.2 11 (61 * r) / 60) file i
  | 0 => rfl
  | i + 1 => by
    show k_n w file i + _ = g_n _ file i + _
    rw [g_n_k w file i]
theorem g_n_congr {g g' : Nat → Int} {file : Int} : ∀ {i : Nat}, (∀ r, r < i → g r = g' r) → g_n g file i = g_n g' file i
  | 0, _ => rfl
  | i + 1, h => by
    show g_n g file i + _ = g_n g' file i + _
    rw [g_n_congr (i := i) (fun r hr => h r (by omega)), h i (by omega)]
/-- a row of n numbers goes to another place; f of them are there -/
def w_cq (w : W_) (b n c i : Nat) (f : Int) : W_ := (w.1, fun b' k => if b' = b ∧ n * c ≤ k ∧ (k : Int) < (n * c : Nat) + f then w.2 b (k - n * c + n * i) else w.2 b' k)
theorem w_cq_117 (w : W_) {c i : Nat} {f : Int} (h0 : 0 ≤ f) (hc : c ≤ i) : w_a (w_cq w 117 10 c i f) 117 (10 * (c : Int) + f).toNat ((w_cq w 117 10 c i f).2 117 (10 * (i : Int) + f).toNat) = w_cq w 117 10 c i (f + 1) := by
  have hg : (w_cq w 117 10 c i f).2 117 (10 * (i : Int) + f).toNat = w.2 117 (10 * i + f.toNat) := by
    unfold w_cq
    dsimp only
    rw [if_neg (by omega)]
    have e : (10 * (i : Int) + f).toNat = 10 * i + f.toNat := by omega
    rw [e]
  rw [hg]
  refine Prod.ext rfl ?_
  funext b k
  show (if b = 117 ∧ k = (10 * (c : Int) + f).toNat then w.2 117 (10 * i + f.toNat) else if b = 117 ∧ 10 * c ≤ k ∧ (k : Int) < (10 * c : Nat) + f then w.2 117 (k - 10 * c + 10 * i) else w.2 b k) = if b = 117 ∧ 10 * c ≤ k ∧ (k : Int) < (10 * c : Nat) + (f + 1) then w.2 117 (k - 10 * c + 10 * i) else w.2 b k
  by_cases c1 : b = 117 ∧ k = (10 * (c : Int) + f).toNat
  · have e : k - 10 * c + 10 * i = 10 * i + f.toNat := by omega
    rw [if_pos c1, if_pos ⟨c1.1, by omega, by omega⟩, e]
  · rw [if_neg c1]
    by_cases c2 : b = 117 ∧ 10 * c ≤ k ∧ (k : Int) < (10 * c : Nat) + f
    · rw [if_pos c2, if_pos ⟨c2.1, c2.2.1, by omega⟩]
    · rw [if_neg c2, if_neg (fun q => c2 ⟨q.1, q.2.1, by
        apply Int.lt_of_not_ge
        intro z
        exact c1 ⟨q.1, by omega⟩⟩)]
set_option maxRecDepth 100000 in
set_option maxHeartbeats 4000000 in
theorem z170_87 {w : W_} {file : Int} {c i : Nat} {Q : Option am_V → W_ → Prop} (hc : c ≤ i) (hi : i < 60)
    (K : ww_Z 12 5 1 0 cX12_forgets none Q 127 [.inr (.inr (.inl 73)), .inl file, .inl c, .inl i, .inl 0] [] (w_cq w 117 10 c i 10)) :
    ww_Z 12 5 1 0 cX12_forgets none Q 87 [.inr (.inr (.inl 73)), .inl file, .inl c, .inl i, .inl 0] [] w := by
  refine ww_loop (P := fun n ls w' => ∃ f : Int, (0 ≤ f ∧ f ≤ 10) ∧ n = (10 - f).toNat ∧ w' = w_cq w 117 10 c i f ∧ ls = [.inr (.inr (.inl 73)), .inl file, .inl c, .inl i, .inl f]) ?_ 10 _ _ ⟨0, ⟨by omega, by omega⟩, rfl, ?_, rfl⟩
  · rintro n ls w' ⟨f, ⟨f0, f1⟩, hn, rfl, rfl⟩ ih
    refine ww_go1 (ctL_cons ok_167 ctL_nil) 100 [87, 127] ?_
    simp only [ww_S, ww_1, wr_0, wr_1, wr_2, wr_3, wr_4, wr_5, wr_6, wr_7, wr_8, wr_9, wr_10, wr_11, wr_12, wr_13, wr_14, wr_15, wr_16, wr_17, wr_18, wr_19, wr_20, wr_21, wr_22, wr_23, wr_24, wr_25, wr_26, wr_27, wr_28, wr_29, wr_30, wr_31, wr_32, wr_33, wr_34, wr_35, wr_36, wr_37, wr_38, wr_39, wr_40, wr_41, wr_42, wr_43, wr_44, wr_45, wr_46, wr_47, wr_48, wr_49, wr_50, wr_51, wr_52, wr_53, wr_54, wr_55, wr_56, wr_57, wr_58, wr_59, wr_60, wr_61, wr_62, wr_63, wr_64, wr_65, wr_66, wr_67, wr_68, wr_69, wr_70, wr_71, wr_72, wr_73, wr_74, wr_75, wr_76, wr_77, wr_78, wr_79, wr_80, wr_81, wr_82, wr_83, wr_84, wr_85, wr_86, wr_87, ww_v1, ww_v2, ww_v3, ww_v4, ww_g0, ww_gS, ww_t0, ww_tS, ww_s0, ww_sS, ww_s2, ww_w1, ww_w2, ww_w3, ww_b, ww_tg, ww_p1, ww_p2, ww_q0, ww_qS, ww_k1, ww_k2, ww_k3, ww_w0, ww_wS, ww_i1, ww_i2, ww_f0, ww_f1, ww_f2, ww_f4, ww_fd, ww_cl, ww_mc, ww_tk, ww_ci, ww_ak, ww_gv, ww_g1, ww_kcs, w_f1, w_f2, w_a1, w_a2, w_u_at, dm_170, List.elem_nil, List.elem_cons, List.map_nil, List.map_cons, List.sum_nil, List.sum_cons, Option.toList_none, Option.toList_some, List.nil_append, List.cons_append, true_and, and_true, implies_true, false_implies, if_true, if_false, reduceIte, reduceCtorEq, Bool.false_eq_true, Bool.and_false, Bool.false_and, Bool.and_self, Bool.and_true, Bool.true_and, Nat.reduceAdd, Nat.reduceBEq, Nat.reduceEqDiff, Nat.reduceLT, Nat.reduceLeDiff, Int.reduceAdd, Int.reduceNeg, Int.reduceToNat, Int.reduceLE, Int.reduceLT, Int.reduceSub, Int.cast_ofNat_Int, Int.reduceNatCast', Int.reduceNatCast, Nat.zero_add, Int.zero_add, and_self, false_and, and_false, or_false, false_or, true_or, or_true, not_true_eq_false, not_false_eq_true, at_167, ctL_c, ctL_n]
    refine ⟨⟨by omega, by omega⟩, ⟨by decide, by decide⟩, fun q => ?_, fun q => ?_⟩
    · have e : f = 10 := by omega
      subst e
      exact K
    · refine ⟨by omega, by omega, by omega, by omega, ?_⟩
      rw [w_cq_117 w f0 hc]
      exact ih (10 - (f + 1)).toNat _ _ (by omega) ⟨f + 1, ⟨by omega, by omega⟩, rfl, rfl, rfl⟩
  · refine Prod.ext rfl ?_
    funext b k
    show w.2 b k = if b = 117 ∧ 10 * c ≤ k ∧ (k : Int) < (10 * c : Nat) + 0 then _ else w.2 b k
    rw [if_neg (by omega)]
theorem w_cq_121 (w : W_) {c i : Nat} {f : Int} (h0 : 0 ≤ f) (hc : c ≤ i) : w_a (w_cq w 121 45 c i f) 121 (45 * (c : Int) + f).toNat ((w_cq w 121 45 c i f).2 121 (45 * (i : Int) + f).toNat) = w_cq w 121 45 c i (f + 1) := by
  have hg : (w_cq w 121 45 c i f).2 121 (45 * (i : Int) + f).toNat = w.2 121 (45 * i + f.toNat) := by
    unfold w_cq
    dsimp only
    rw [if_neg (by omega)]
    have e : (45 * (i : Int) + f).toNat = 45 * i + f.toNat := by omega
    rw [e]
  rw [hg]
  refine Prod.ext rfl ?_
  funext b k
  show (if b = 121 ∧ k = (45 * (c : Int) + f).toNat then w.2 121 (45 * i + f.toNat) else if b = 121 ∧ 45 * c ≤ k ∧ (k : Int) < (45 * c : Nat) + f then w.2 121 (k - 45 * c + 45 * i) else w.2 b k) = if b = 121 ∧ 45 * c ≤ k ∧ (k : Int) < (45 * c : Nat) + (f + 1) then w.2 121 (k - 45 * c + 45 * i) else w.2 b k
  by_cases c1 : b = 121 ∧ k = (45 * (c : Int) + f).toNat
  · have e : k - 45 * c + 45 * i = 45 * i + f.toNat := by omega
    rw [if_pos c1, if_pos ⟨c1.1, by omega, by omega⟩, e]
  · rw [if_neg c1]
    by_cases c2 : b = 121 ∧ 45 * c ≤ k ∧ (k : Int) < (45 * c : Nat) + f
    · rw [if_pos c2, if_pos ⟨c2.1, c2.2.1, by omega⟩]
    · rw [if_neg c2, if_neg (fun q => c2 ⟨q.1, q.2.1, by
        apply Int.lt_of_not_ge
        intro z
        exact c1 ⟨q.1, by omega⟩⟩)]
set_option maxRecDepth 100000 in
set_option maxHeartbeats 4000000 in
theorem z170_127 {w : W_} {file : Int} {c i : Nat} {Q : Option am_V → W_ → Prop} (hc : c ≤ i) (hi : i < 60)
    (K : ww_Z 12 5 1 0 cX12_forgets none Q 164 [.inr (.inr (.inl 73)), .inl file, .inl c, .inl i, .inl 45] [] (w_cq w 121 45 c i 45)) :
    ww_Z 12 5 1 0 cX12_forgets none Q 127 [.inr (.inr (.inl 73)), .inl file, .inl c, .inl i, .inl 0] [] w := by
  refine ww_loop (P := fun n ls w' => ∃ f : Int, (0 ≤ f ∧ f ≤ 45) ∧ n = (45 - f).toNat ∧ w' = w_cq w 121 45 c i f ∧ ls = [.inr (.inr (.inl 73)), .inl file, .inl c, .inl i, .inl f]) ?_ 45 _ _ ⟨0, ⟨by omega, by omega⟩, rfl, ?_, rfl⟩
  · rintro n ls w' ⟨f, ⟨f0, f1⟩, hn, rfl, rfl⟩ ih
    refine ww_go1 (ctL_cons ok_167 ctL_nil) 100 [127, 164] ?_
    simp only [ww_S, ww_1, wr_0, wr_1, wr_2, wr_3, wr_4, wr_5, wr_6, wr_7, wr_8, wr_9, wr_10, wr_11, wr_12, wr_13, wr_14, wr_15, wr_16, wr_17, wr_18, wr_19, wr_20, wr_21, wr_22, wr_23, wr_24, wr_25, wr_26, wr_27, wr_28, wr_29, wr_30, wr_31, wr_32, wr_33, wr_34, wr_35, wr_36, wr_37, wr_38, wr_39, wr_40, wr_41, wr_42, wr_43, wr_44, wr_45, wr_46, wr_47, wr_48, wr_49, wr_50, wr_51, wr_52, wr_53, wr_54, wr_55, wr_56, wr_57, wr_58, wr_59, wr_60, wr_61, wr_62, wr_63, wr_64, wr_65, wr_66, wr_67, wr_68, wr_69, wr_70, wr_71, wr_72, wr_73, wr_74, wr_75, wr_76, wr_77, wr_78, wr_79, wr_80, wr_81, wr_82, wr_83, wr_84, wr_85, wr_86, wr_87, ww_v1, ww_v2, ww_v3, ww_v4, ww_g0, ww_gS, ww_t0, ww_tS, ww_s0, ww_sS, ww_s2, ww_w1, ww_w2, ww_w3, ww_b, ww_tg, ww_p1, ww_p2, ww_q0, ww_qS, ww_k1, ww_k2, ww_k3, ww_w0, ww_wS, ww_i1, ww_i2, ww_f0, ww_f1, ww_f2, ww_f4, ww_fd, ww_cl, ww_mc, ww_tk, ww_ci, ww_ak, ww_gv, ww_g1, ww_kcs, w_f1, w_f2, w_a1, w_a2, w_u_at, dm_170, List.elem_nil, List.elem_cons, List.map_nil, List.map_cons, List.sum_nil, List.sum_cons, Option.toList_none, Option.toList_some, List.nil_append, List.cons_append, true_and, and_true, implies_true, false_implies, if_true, if_false, reduceIte, reduceCtorEq, Bool.false_eq_true, Bool.and_false, Bool.false_and, Bool.and_self, Bool.and_true, Bool.true_and, Nat.reduceAdd, Nat.reduceBEq, Nat.reduceEqDiff, Nat.reduceLT, Nat.reduceLeDiff, Int.reduceAdd, Int.reduceNeg, Int.reduceToNat, Int.reduceLE, Int.reduceLT, Int.reduceSub, Int.cast_ofNat_Int, Int.reduceNatCast', Int.reduceNatCast, Nat.zero_add, Int.zero_add, and_self, false_and, and_false, or_false, false_or, true_or, or_true, not_true_eq_false, not_false_eq_true, at_167, ctL_c, ctL_n]
    refine ⟨⟨by omega, by omega⟩, ⟨by decide, by decide⟩, fun q => ?_, fun q => ?_⟩
    · have e : f = 45 := by omega
      subst e
      exact K
    · refine ⟨by omega, by omega, by omega, by omega, ?_⟩
      rw [w_cq_121 w f0 hc]
      exact ih (45 - (f + 1)).toNat _ _ (by omega) ⟨f + 1, ⟨by omega, by omega⟩, rfl, rfl, rfl⟩
  · refine Prod.ext rfl ?_
    funext b k
    show w.2 b k = if b = 121 ∧ 45 * c ≤ k ∧ (k : Int) < (45 * c : Nat) + 0 then _ else w.2 b k
    rw [if_neg (by omega)]
/-- six single numbers of a record go to another place -/
def r_six (b : Nat) : Bool := b == 114 || b == 115 || b == 116 || b == 118 || b == 119 || b == 120
def w_c6 (w : W_) (c i : Nat) : W_ := (w.1, fun b k => if r_six b = true ∧ k = c then w.2 b i else w.2 b k)
theorem w_c6_eq (w : W_) (c i : Nat) : w_a (w_a (w_a (w_a (w_a (w_a w 114 c (w.2 114 i)) 115 c (w.2 115 i)) 116 c (w.2 116 i)) 118 c (w.2 118 i)) 119 c (w.2 119 i)) 120 c (w.2 120 i) = w_c6 w c i := by
  refine Prod.ext rfl ?_
  funext b k
  show (if b = 120 ∧ k = c then w.2 120 i else if b = 119 ∧ k = c then w.2 119 i else if b = 118 ∧ k = c then w.2 118 i else if b = 116 ∧ k = c then w.2 116 i else if b = 115 ∧ k = c then w.2 115 i else if b = 114 ∧ k = c then w.2 114 i else w.2 b k) = if r_six b = true ∧ k = c then w.2 b i else w.2 b k
  by_cases hk : k = c
  · by_cases h1 : b = 114
    · subst h1; rw [if_pos (c := r_six 114 = true ∧ k = c) ⟨rfl, hk⟩]; rw [if_neg (by omega), if_neg (by omega), if_neg (by omega), if_neg (by omega), if_neg (by omega), if_pos ⟨rfl, hk⟩]
    by_cases h2 : b = 115
    · subst h2; rw [if_pos (c := r_six 115 = true ∧ k = c) ⟨rfl, hk⟩]; rw [if_neg (by omega), if_neg (by omega), if_neg (by omega), if_neg (by omega), if_pos ⟨rfl, hk⟩]
    by_cases h3 : b = 116
    · subst h3; rw [if_pos (c := r_six 116 = true ∧ k = c) ⟨rfl, hk⟩]; rw [if_neg (by omega), if_neg (by omega), if_neg (by omega), if_pos ⟨rfl, hk⟩]
    by_cases h4 : b = 118
    · subst h4; rw [if_pos (c := r_six 118 = true ∧ k = c) ⟨rfl, hk⟩]; rw [if_neg (by omega), if_neg (by omega), if_pos ⟨rfl, hk⟩]
    by_cases h5 : b = 119
    · subst h5; rw [if_pos (c := r_six 119 = true ∧ k = c) ⟨rfl, hk⟩]; rw [if_neg (by omega), if_pos ⟨rfl, hk⟩]
    by_cases h6 : b = 120
    · subst h6; rw [if_pos (c := r_six 120 = true ∧ k = c) ⟨rfl, hk⟩]; rw [if_pos ⟨rfl, hk⟩]
    rw [if_neg (by omega), if_neg (by omega), if_neg (by omega), if_neg (by omega), if_neg (by omega), if_neg (by omega), if_neg]
    intro q
    have q1 := q.1
    unfold r_six at q1
    simp [h1, h2, h3, h4, h5, h6] at q1
  · rw [if_neg (by omega), if_neg (by omega), if_neg (by omega), if_neg (by omega), if_neg (by omega), if_neg (by omega), if_neg (fun q => hk q.2)]
/-- numbers of a kept call in an array -/
def r_kw (b : Nat) : Nat := if b = 117 then 10 else if b = 121 then 45 else 1
abbrev r_kb (b : Nat) : Prop := 114 ≤ b ∧ b ≤ 121
/-- the first i kept calls are looked at -/
def r_J (w : W_) (file : Int) (i : Nat) (w' : W_) : Prop :=
  w'.1 = w.1 ∧ (∀ b : Nat, ¬ r_kb b → w'.2 b = w.2 b) ∧ (∀ b : Nat, r_kb b → ∀ k : Nat, r_kw b * i ≤ k → w'.2 b k = w.2 b k) ∧
  ∀ r : Nat, r < i → w.2 114 r ≠ file → ∀ b : Nat, r_kb b → ∀ f : Nat, f < r_kw b → w'.2 b (r_kw b * g_n (w.2 114) file r + f) = w.2 b (r_kw b * r + f)
theorem r_six_iff {b : Nat} (h1 : b ≠ 117) (h2 : b ≠ 121) : r_six b = true ↔ r_kb b := by
  unfold r_six r_kb
  simp only [Bool.or_eq_true, beq_iff_eq]
  omega
theorem w_c8 (w : W_) {c i : Nat} (b k : Nat) : (w_cq (w_cq (w_c6 w c i) 117 10 c i 10) 121 45 c i 45).2 b k = if r_kb b ∧ r_kw b * c ≤ k ∧ k < r_kw b * c + r_kw b then w.2 b (k - r_kw b * c + r_kw b * i) else w.2 b k := by
  have n117 : ∀ k, (w_c6 w c i).2 117 k = w.2 117 k := fun k => by
    unfold w_c6
    dsimp only
    rw [if_neg (fun q => absurd q.1 (by decide))]
  have n121 : ∀ k, (w_cq (w_c6 w c i) 117 10 c i 10).2 121 k = w.2 121 k := fun k => by
    unfold w_cq w_c6
    dsimp only
    rw [if_neg (by omega), if_neg (fun q => absurd q.1 (by decide))]
  show (if b = 121 ∧ 45 * c ≤ k ∧ (k : Int) < (45 * c : Nat) + 45 then (w_cq (w_c6 w c i) 117 10 c i 10).2 121 (k - 45 * c + 45 * i) else (if b = 117 ∧ 10 * c ≤ k ∧ (k : Int) < (10 * c : Nat) + 10 then (w_c6 w c i).2 117 (k - 10 * c + 10 * i) else (if r_six b = true ∧ k = c then w.2 b i else w.2 b k))) = _
  by_cases h1 : b = 121
  · subst h1
    show _ = if r_kb 121 ∧ 45 * c ≤ k ∧ k < 45 * c + 45 then w.2 121 (k - 45 * c + 45 * i) else w.2 121 k
    by_cases d : 45 * c ≤ k ∧ k < 45 * c + 45
    · rw [if_pos (by omega), if_pos ⟨by decide, d⟩, n121]
    · rw [if_neg (by omega), if_neg (by omega), if_neg (fun q => absurd q.1 (by decide)), if_neg (fun q => d q.2)]
  · rw [if_neg (fun q => h1 q.1)]
    by_cases h2 : b = 117
    · subst h2
      show _ = if r_kb 117 ∧ 10 * c ≤ k ∧ k < 10 * c + 10 then w.2 117 (k - 10 * c + 10 * i) else w.2 117 k
      by_cases d : 10 * c ≤ k ∧ k < 10 * c + 10
      · rw [if_pos (by omega), if_pos ⟨by decide, d⟩, n117]
      · rw [if_neg (by omega), if_neg (fun q => absurd q.1 (by decide)), if_neg (fun q => d q.2)]
    · have ew : r_kw b = 1 := by
        unfold r_kw
        rw [if_neg h2, if_neg h1]
      rw [if_neg (fun q => h2 q.1), ew]
      by_cases d : r_kb b ∧ k = c
      · have e : k - 1 * c + 1 * i = i := by omega
        rw [if_pos ⟨(r_six_iff h2 h1).mpr d.1, d.2⟩, if_pos ⟨d.1, by omega, by omega⟩, e]
      · rw [if_neg (fun q => d ⟨(r_six_iff h2 h1).mp q.1, q.2⟩), if_neg (fun q => d ⟨q.1, by omega⟩)]
set_option maxRecDepth 100000 in
set_option maxHeartbeats 4000000 in
theorem lk_170 {w : W_} {file : Int} (f0 : 0 ≤ file) (f1 : file < 3) (n0 : 0 ≤ w.1 73 70) (n1 : w.1 73 70 ≤ 60) (hr : ∀ r : Nat, (r : Int) < w.1 73 70 → am_rg (w.2 114 r)) : ww_Ct 170 1 [.inr (.inr (.inl 73)), .inl file] w fun r w' => r = none ∧ ∃ w1, r_J w file (w.1 73 70).toNat w1 ∧ w' = w_f w1 73 70 (g_n (w.2 114) file (w.1 73 70).toNat) := by
  refine of_170 (ww_go (ctL_cons ok_167 ctL_nil) 100 [4] ?_)
  simp only [ww_S, ww_1, wr_0, wr_1, wr_2, wr_3, wr_4, wr_5, wr_6, wr_7, wr_8, wr_9, wr_10, wr_11, wr_12, wr_13, wr_14, wr_15, wr_16, wr_17, wr_18, wr_19, wr_20, wr_21, wr_22, wr_23, wr_24, wr_25, wr_26, wr_27, wr_28, wr_29, wr_30, wr_31, wr_32, wr_33, wr_34, wr_35, wr_36, wr_37, wr_38, wr_39, wr_40, wr_41, wr_42, wr_43, wr_44, wr_45, wr_46, wr_47, wr_48, wr_49, wr_50, wr_51, wr_52, wr_53, wr_54, wr_55, wr_56, wr_57, wr_58, wr_59, wr_60, wr_61, wr_62, wr_63, wr_64, wr_65, wr_66, wr_67, wr_68, wr_69, wr_70, wr_71, wr_72, wr_73, wr_74, wr_75, wr_76, wr_77, wr_78, wr_79, wr_80, wr_81, wr_82, wr_83, wr_84, wr_85, wr_86, wr_87, ww_v1, ww_v2, ww_v3, ww_v4, ww_g0, ww_gS, ww_t0, ww_tS, ww_s0, ww_sS, ww_s2, ww_w1, ww_w2, ww_w3, ww_b, ww_tg, ww_p1, ww_p2, ww_q0, ww_qS, ww_k1, ww_k2, ww_k3, ww_w0, ww_wS, ww_i1, ww_i2, ww_f0, ww_f1, ww_f2, ww_f4, ww_fd, ww_cl, ww_mc, ww_tk, ww_ci, ww_ak, ww_gv, ww_g1, ww_kcs, w_f1, w_f2, w_a1, w_a2, w_u_at, dm_170, List.elem_nil, List.elem_cons, List.map_nil, List.map_cons, List.sum_nil, List.sum_cons, Option.toList_none, Option.toList_some, List.nil_append, List.cons_append, true_and, and_true, implies_true, false_implies, if_true, if_false, reduceIte, reduceCtorEq, Bool.false_eq_true, Bool.and_false, Bool.false_and, Bool.and_self, Bool.and_true, Bool.true_and, Nat.reduceAdd, Nat.reduceBEq, Nat.reduceEqDiff, Nat.reduceLT, Nat.reduceLeDiff, Int.reduceAdd, Int.reduceNeg, Int.reduceToNat, Int.reduceLE, Int.reduceLT, Int.reduceSub, Int.cast_ofNat_Int, Int.reduceNatCast', Int.reduceNatCast, Nat.zero_add, Int.zero_add, and_self, false_and, and_false, or_false, false_or, true_or, or_true, not_true_eq_false, not_false_eq_true, at_167, ctL_c, ctL_n]
  refine ww_loop (P := fun n ls w' => ∃ (i : Nat) (v : am_V), (i : Int) ≤ w.1 73 70 ∧ n = (w.1 73 70 - i).toNat ∧ r_J w file i w' ∧ am_two v = false ∧ ls = [.inr (.inr (.inl 73)), .inl file, .inl (g_n (w.2 114) file i : Int), .inl i, v]) ?_ (w.1 73 70).toNat _ _ ⟨0, am_X, n0, by omega, ⟨rfl, fun _ _ => rfl, fun _ _ _ _ => rfl, fun r h => by omega⟩, rfl, rfl⟩
  rintro n ls w' ⟨i, v, i0, hn, hI, hv, rfl⟩ ih
  have hI' := hI
  obtain ⟨h1, h2, h3, h4⟩ := hI'
  have hc := g_n_le (w.2 114) file i
  have e70 : w'.1 73 70 = w.1 73 70 := by rw [h1]
  refine ww_go1 (ctL_cons ok_167 ctL_nil) 100 [4, 87] ?_
  simp only [ww_S, ww_1, wr_0, wr_1, wr_2, wr_3, wr_4, wr_5, wr_6, wr_7, wr_8, wr_9, wr_10, wr_11, wr_12, wr_13, wr_14, wr_15, wr_16, wr_17, wr_18, wr_19, wr_20, wr_21, wr_22, wr_23, wr_24, wr_25, wr_26, wr_27, wr_28, wr_29, wr_30, wr_31, wr_32, wr_33, wr_34, wr_35, wr_36, wr_37, wr_38, wr_39, wr_40, wr_41, wr_42, wr_43, wr_44, wr_45, wr_46, wr_47, wr_48, wr_49, wr_50, wr_51, wr_52, wr_53, wr_54, wr_55, wr_56, wr_57, wr_58, wr_59, wr_60, wr_61, wr_62, wr_63, wr_64, wr_65, wr_66, wr_67, wr_68, wr_69, wr_70, wr_71, wr_72, wr_73, wr_74, wr_75, wr_76, wr_77, wr_78, wr_79, wr_80, wr_81, wr_82, wr_83, wr_84, wr_85, wr_86, wr_87, ww_v1, ww_v2, ww_v3, ww_v4, ww_g0, ww_gS, ww_t0, ww_tS, ww_s0, ww_sS, ww_s2, ww_w1, ww_w2, ww_w3, ww_b, ww_tg, ww_p1, ww_p2, ww_q0, ww_qS, ww_k1, ww_k2, ww_k3, ww_w0, ww_wS, ww_i1, ww_i2, ww_f0, ww_f1, ww_f2, ww_f4, ww_fd, ww_cl, ww_mc, ww_tk, ww_ci, ww_ak, ww_gv, ww_g1, ww_kcs, w_f1, w_f2, w_a1, w_a2, w_u_at, dm_170, List.elem_nil, List.elem_cons, List.map_nil, List.map_cons, List.sum_nil, List.sum_cons, Option.toList_none, Option.toList_some, List.nil_append, List.cons_append, true_and, and_true, implies_true, false_implies, if_true, if_false, reduceIte, reduceCtorEq, Bool.false_eq_true, Bool.and_false, Bool.false_and, Bool.and_self, Bool.and_true, Bool.true_and, Nat.reduceAdd, Nat.reduceBEq, Nat.reduceEqDiff, Nat.reduceLT, Nat.reduceLeDiff, Int.reduceAdd, Int.reduceNeg, Int.reduceToNat, Int.reduceLE, Int.reduceLT, Int.reduceSub, Int.cast_ofNat_Int, Int.reduceNatCast', Int.reduceNatCast, Nat.zero_add, Int.zero_add, and_self, false_and, and_false, or_false, false_or, true_or, or_true, not_true_eq_false, not_false_eq_true, at_167, ctL_c, ctL_n, hv, e70]
  refine ⟨⟨by omega, by omega⟩, ⟨by omega, by omega⟩, fun q => ?_, fun q => ?_⟩
  · have e : i = (w.1 73 70).toNat := by omega
    rw [← e]
    exact ⟨w', hI, rfl⟩
  · repeat (refine ⟨by omega, ?_⟩)
    rw [Int.toNat_natCast, Int.toNat_natCast, w_c6_eq]
    refine z170_87 hc (by omega) (z170_127 hc (by omega) ?_)
    have e8 := w_c8 w' (c := g_n (w.2 114) file i) (i := i)
    generalize hw3 : w_cq (w_cq (w_c6 w' (g_n (w.2 114) file i) i) 117 10 (g_n (w.2 114) file i) i 10) 121 45 (g_n (w.2 114) file i) i 45 = w3 at e8 ⊢
    have e31 : w3.1 = w.1 := by
      rw [← hw3]
      exact h1
    have e114 : w3.2 114 i = w.2 114 i := by
      rw [e8, ← h3 114 (by decide) i (by show 1 * i ≤ i; omega)]
      by_cases c : r_kb 114 ∧ r_kw 114 * g_n (w.2 114) file i ≤ i ∧ i < r_kw 114 * g_n (w.2 114) file i + r_kw 114
      · have c2 : 1 * g_n (w.2 114) file i ≤ i ∧ i < 1 * g_n (w.2 114) file i + 1 := c.2
        have e : i - 1 * g_n (w.2 114) file i + 1 * i = i := by omega
        rw [if_pos c]
        show w'.2 114 (i - 1 * g_n (w.2 114) file i + 1 * i) = _
        rw [e]
      · rw [if_neg c]
    have hri := hr i (by omega)
    have step : ∀ c' : Nat, c' = g_n (w.2 114) file (i + 1) → ww_Z 12 5 1 0 cX12_forgets none (fun r w' => r = none ∧ ∃ w1, r_J w file (w.1 73 70).toNat w1 ∧ w' = w_f w1 73 70 (g_n (w.2 114) file (w.1 73 70).toNat)) 4 [.inr (.inr (.inl 73)), .inl file, .inl c', .inl ((i : Int) + 1), .inl 45] [] w3 := by
      rintro c' rfl
      have es : (i : Int) + 1 = ((i + 1 : Nat) : Int) := by omega
      rw [es]
      refine ih (w.1 73 70 - ((i + 1 : Nat) : Int)).toNat _ _ (by omega) ⟨i + 1, _, by omega, rfl, ⟨e31, fun b hb => ?_, fun b hb k hk => ?_, fun r r0 r1 b hb f f0 => ?_⟩, rfl, rfl⟩
      · funext k
        rw [e8, if_neg (fun q => hb q.1), h2 b hb]
      · have hk2 : r_kw b * (i + 1) = r_kw b * i + r_kw b := Nat.mul_succ _ _
        have hk3 : r_kw b * g_n (w.2 114) file i ≤ r_kw b * i := Nat.mul_le_mul_left _ hc
        rw [e8, if_neg (by omega), h3 b hb k (by omega)]
      · rw [e8]
        by_cases c : r = i
        · rw [c]
          have e : r_kw b * g_n (w.2 114) file i + f - r_kw b * g_n (w.2 114) file i + r_kw b * i = r_kw b * i + f := by omega
          rw [if_pos ⟨hb, by omega, by omega⟩, e, h3 b hb _ (by omega)]
        · have hlt : g_n (w.2 114) file r + 1 ≤ g_n (w.2 114) file i := g_n_lt r1 (by omega)
          have hm : r_kw b * (g_n (w.2 114) file r + 1) ≤ r_kw b * g_n (w.2 114) file i := Nat.mul_le_mul_left _ hlt
          have hm2 : r_kw b * (g_n (w.2 114) file r + 1) = r_kw b * g_n (w.2 114) file r + r_kw b := Nat.mul_succ _ _
          rw [if_neg (by omega)]
          exact h4 r (by omega) r1 b hb f f0
    refine ww_go1 (ctL_cons ok_167 ctL_nil) 100 [4] ?_
    simp only [ww_S, ww_1, wr_0, wr_1, wr_2, wr_3, wr_4, wr_5, wr_6, wr_7, wr_8, wr_9, wr_10, wr_11, wr_12, wr_13, wr_14, wr_15, wr_16, wr_17, wr_18, wr_19, wr_20, wr_21, wr_22, wr_23, wr_24, wr_25, wr_26, wr_27, wr_28, wr_29, wr_30, wr_31, wr_32, wr_33, wr_34, wr_35, wr_36, wr_37, wr_38, wr_39, wr_40, wr_41, wr_42, wr_43, wr_44, wr_45, wr_46, wr_47, wr_48, wr_49, wr_50, wr_51, wr_52, wr_53, wr_54, wr_55, wr_56, wr_57, wr_58, wr_59, wr_60, wr_61, wr_62, wr_63, wr_64, wr_65, wr_66, wr_67, wr_68, wr_69, wr_70, wr_71, wr_72, wr_73, wr_74, wr_75, wr_76, wr_77, wr_78, wr_79, wr_80, wr_81, wr_82, wr_83, wr_84, wr_85, wr_86, wr_87, ww_v1, ww_v2, ww_v3, ww_v4, ww_g0, ww_gS, ww_t0, ww_tS, ww_s0, ww_sS, ww_s2, ww_w1, ww_w2, ww_w3, ww_b, ww_tg, ww_p1, ww_p2, ww_q0, ww_qS, ww_k1, ww_k2, ww_k3, ww_w0, ww_wS, ww_i1, ww_i2, ww_f0, ww_f1, ww_f2, ww_f4, ww_fd, ww_cl, ww_mc, ww_tk, ww_ci, ww_ak, ww_gv, ww_g1, ww_kcs, w_f1, w_f2, w_a1, w_a2, w_u_at, dm_170, List.elem_nil, List.elem_cons, List.map_nil, List.map_cons, List.sum_nil, List.sum_cons, Option.toList_none, Option.toList_some, List.nil_append, List.cons_append, true_and, and_true, implies_true, false_implies, if_true, if_false, reduceIte, reduceCtorEq, Bool.false_eq_true, Bool.and_false, Bool.false_and, Bool.and_self, Bool.and_true, Bool.true_and, Nat.reduceAdd, Nat.reduceBEq, Nat.reduceEqDiff, Nat.reduceLT, Nat.reduceLeDiff, Int.reduceAdd, Int.reduceNeg, Int.reduceToNat, Int.reduceLE, Int.reduceLT, Int.reduceSub, Int.cast_ofNat_Int, Int.reduceNatCast', Int.reduceNatCast, Nat.zero_add, Int.zero_add, and_self, false_and, and_false, or_false, false_or, true_or, or_true, not_true_eq_false, not_false_eq_true, at_167, ctL_c, ctL_n, e31, Int.toNat_natCast, e114]
    have eg : g_n (w.2 114) file (i + 1) = g_n (w.2 114) file i + (if w.2 114 i = file then 0 else 1) := rfl
    refine ⟨by omega, by omega, hri, ⟨by omega, by omega⟩, fun q1 => ?_, fun q1 => ?_⟩
    · rw [if_neg q1] at eg
      have ez : (g_n (w.2 114) file i : Int) + 1 = ((g_n (w.2 114) file i + 1 : Nat) : Int) := rfl
      rw [ez]
      exact step _ eg.symm
    · rw [if_pos (Classical.byContradiction q1)] at eg
      rw [Int.add_zero]
      exact step _ eg.symm
