/-! ===== Row.get, set, fill; Heap.get, set, make ===== -/
theorem aw_gv3 (h : am_H) (a k : Nat) : am_gv h a k 3 = am_fv h a k := rfl
theorem aw_gv0 (h : am_H) (a k : Nat) : am_gv h a k 0 = .inl (am_fi h a k) := rfl
/-- a row's number at a place; 0 where none was put -/
def w_g (w : W_) (a : Nat) (i : Int) : Int := if i < 0 then 0 else w.2 a i.toNat
theorem w_key10 : ∀ a, a ∈ w_keys → w_ci a = 10 → am_nf 10 = 1 ∧ w_g1 a 0 = true ∧ w_bd a ≤ 320000 := by decide +kernel
theorem w_RP.fv0 {P L : Nat → Nat} {w : W_} {h : am_H} (R : w_RP P L w h) {a : Nat} (ha : a ∈ w_keys) (hc : w_ci a = 10) : am_oc h a = 10 ∧ am_fv h a 0 = .inr (.inr (.inl (P a))) := by
  obtain ⟨k1, k2, -⟩ := w_key10 a ha hc
  have h2 := R.2.1 a (by rw [hc]; decide)
  rw [hc, k1] at h2
  refine ⟨h2.1, ?_⟩
  rw [h2.2 0 (by decide)]
  unfold w_fv
  rw [hc, k2, if_pos rfl]
  rfl
set_option maxRecDepth 100000 in
theorem rw_get {w : W_} {a fr : Nat} {i : Int} (ha : a ∈ w_keys) (hc : w_ci a = 10) (h1 : -2147483648 ≤ i) (h2 : i < 2147483648) : ww_Ct 68 fr [.inr (.inr (.inl a)), .inl i] w fun r w' => r = some (.inl (w_g w a i)) ∧ w' = w := by
  intro h hR
  obtain ⟨P, L, R⟩ := w_R_iff.mp hR
  obtain ⟨f1, f2⟩ := R.fv0 ha hc
  obtain ⟨q1, q2, q3, q4, q5, q6, q7⟩ := R.2.2.2.1 a ha
  have hb := (w_key10 a ha hc).2.2
  unfold w_cap at q7
  refine am_CT_of ml_68 mk_68 (by decide +kernel) rfl rfl (fun q => by cases q) (Nat.le_of_ble_eq_true rfl) (am_go 100 (aw_c []) ?_)
  have e0 : am_loc0 2 [.inr (.inr (.inl a)), .inl i] = [.inr (.inr (.inl a)), .inl i] := rfl
  rw [e0]
  simp only [aw_S, aw_1, aw_cat, ar_0, ar_1, ar_2, ar_3, ar_4, ar_5, ar_6, ar_7, ar_8, ar_9, ar_10, ar_11, ar_12, ar_13, ar_14, ar_15, ar_16, ar_17, ar_18, ar_19, ar_20, ar_21, ar_22, ar_23, ar_24, ar_25, ar_26, ar_27, ar_28, ar_29, ar_30, ar_31, ar_32, ar_33, ar_34, ar_35, ar_36, ar_37, ar_38, ar_39, ar_40, ar_41, ar_42, ar_43, ar_44, ar_45, ar_46, ar_47, ar_48, ar_49, ar_50, ar_51, ww_v1, ww_v2, ww_v3, ww_v4, ww_g0, ww_gS, ww_t0, ww_tS, ww_s0, ww_sS, ww_s2, ww_w1, ww_w2, ww_w3, ww_b, ww_tg, ww_fd, ww_tk, dm_68, List.elem_nil, List.elem_cons, List.map_nil, List.map_cons, List.sum_nil, List.sum_cons, Option.toList_none, Option.toList_some, List.nil_append, List.cons_append, true_and, and_true, implies_true, false_implies, if_true, if_false, reduceIte, reduceCtorEq, Bool.false_eq_true, Bool.and_false, Bool.false_and, Bool.and_self, Bool.and_true, Bool.true_and, Nat.reduceAdd, Nat.reduceBEq, Nat.reduceEqDiff, Nat.reduceLT, Nat.reduceLeDiff, Int.reduceAdd, Int.reduceNeg, Int.reduceToNat, Int.reduceLE, Int.reduceLT, Int.reduceSub, Int.cast_ofNat_Int, Int.reduceNatCast', Int.reduceNatCast, Nat.zero_add, Int.zero_add, and_self, false_and, and_false, or_false, false_or, true_or, or_true, not_true_eq_false, not_false_eq_true, f1, f2, q2, q3, aw_gv3, ne_eq]
  unfold w_g
  refine ⟨⟨h1, h2⟩, fun z => ?_, fun z => ⟨⟨h1, h2⟩, ⟨by omega, by omega⟩, fun y => ⟨by omega, y, by omega, ?_⟩, fun y => ?_⟩⟩
  · exact ⟨w, ⟨by rw [if_pos z], rfl⟩, hR⟩
  · exact ⟨w, ⟨by rw [if_neg z, q4 _ (by omega)], rfl⟩, hR⟩
  · exact ⟨w, ⟨by rw [if_neg z, q5 _ (by omega) (by omega)], rfl⟩, hR⟩
theorem ar_ldc (own nL fr rk : Nat) (ini : Bool) (sc : am_Sc) (Q : Option am_V → am_H → Prop) (Kz k : am_KT) (pc j : Nat) (ls st : List am_V) (h : am_H) : am_stp own nL fr rk ini sc Q Kz k pc (.ldc j) 2 ls st h = Kz pc ls st h := rfl
theorem am_oc_add {h : am_H} {C : am_C} {n b : Nat} (hb : b ≤ h.2.1) : am_oc (am_add h C n) b = am_oc h b := by
  unfold am_oc am_add
  dsimp only
  rw [am_up_ne _ _ (by omega)]
/-- a row that grows: the call of Arrays.copyOf and the new array's place -/
theorem am_growCall {w : W_} {P L : Nat → Nat} {h : am_H} (R : w_RP P L w h) {own nL fr rk : Nat} {bytes : ByteArray} {Q : Option am_V → am_H → Prop} {pc idx idx2 a j : Nat} {n : Int} {ls st : List am_V} (ha : a ∈ w_keys) (hc : w_ci a ≠ 0) (hj : w_g1 a j = true)
    (hd : decode bytes pc = .ok (.invokestatic idx, 3)) (hcl : am_cl own idx = some (1, 253, 2)) (hd2 : decode bytes (pc + 3) = .ok (.putfield idx2, 3)) (hf : am_fd own idx2 = some (w_ci a, j, false)) (ht : am_tk (w_ci a) j = 3)
    (hn : 2 * (L a : Int) ≤ n) (hcap : n ≤ w_cap a) (h13 : a = 13 → n = 2 * (L a : Int)) (hcap2 : (w_cap a : Int) < 67108864) (hr8 : (st.map am_cat).sum + 1 ≤ 8) (hfr : 2 ≤ fr)
    (k : ∀ (P' L' : Nat → Nat) (h' : am_H), w_RP P' L' w h' → (L' a : Int) = n → am_Z own nL fr rk bytes false none Q (pc + 3 + 3) ls st h') : am_Z own nL fr rk bytes false none Q pc ls (.inl n :: .inr (.inr (.inl (P a))) :: .inr (.inr (.inl a)) :: st) h := by
  have ho := (R.2.1 a hc).1
  obtain ⟨q1, q2, q3, q4, q5, q6, q7⟩ := R.2.2.2.1 a ha
  have hal : a ≤ h.2.1 := by have := w_ci_le hc; have := R.1.1; omega
  obtain ⟨r, h', ⟨rfl, e1⟩, hct⟩ := am_copyOf (fr := 1) (n := n) q2 (by rw [q3]; omega) (by omega) (Nat.le_refl _) q1.2.2.2
  rw [e1] at hct
  refine am_callS (as := [.inr (.inr (.inl (P a))), .inl n]) (rest := .inr (.inr (.inl a)) :: st) hd hcl rfl rfl ?_ hfr hct ?_
  · show 1 + (st.map am_cat).sum ≤ 8
    omega
  refine am_putf (a := a) (k := j) (v := .inr (.inr (.inl (h.2.1 + 1)))) hd2 hf (by rw [am_oc_add hal, ho]) (fun q => by cases q) ?_ ?_
  · rw [ht]
    exact ⟨Nat.succ_pos _, Nat.le_refl _⟩
  · have := R.grow (n := n.toNat) ha hc hj (by omega) (by omega) (fun q => by have := h13 q; omega)
    rw [q3]
    exact k _ _ _ this (by rw [am_up_same]; omega)
set_option maxRecDepth 100000 in
theorem rw_set {w : W_} {a fr : Nat} {i x : Int} (ha : a ∈ w_keys) (hc : w_ci a = 10) (h0 : 0 ≤ i) (h1 : i < w_bd a) (hfr : 2 ≤ fr) : ww_Ct 69 fr [.inr (.inr (.inl a)), .inl i, .inl x] w fun r w' => r = none ∧ w' = w_a w a i.toNat x := by
  intro h hR
  obtain ⟨P, L, R⟩ := w_R_iff.mp hR
  obtain ⟨f1, f2⟩ := R.fv0 ha hc
  obtain ⟨q1, q2, q3, q4, q5, q6, q7⟩ := R.2.2.2.1 a ha
  have hb := (w_key10 a ha hc).2.2
  have hcapd : w_cap a = 2 * w_bd a + 1024 := rfl
  have tail : ∀ (P L : Nat → Nat) (h : am_H) (v : am_V), w_RP P L w h → i.toNat < L a → am_Z 7 4 fr 0 cX7_set false none (fun r h' => ∃ w', (r = none ∧ w' = w_a w a i.toNat x) ∧ w_R w' h') 51 [.inr (.inr (.inl a)), .inl i, .inl x, v] [] h := by
    intro P L h v R hi
    obtain ⟨f1, f2⟩ := R.fv0 ha hc
    obtain ⟨q1, q2, q3, -⟩ := R.2.2.2.1 a ha
    refine am_go 20 (aw_c []) ?_
    simp only [aw_S, aw_1, aw_cat, ar_0, ar_1, ar_2, ar_3, ar_4, ar_5, ar_6, ar_7, ar_8, ar_9, ar_10, ar_11, ar_12, ar_13, ar_14, ar_15, ar_16, ar_17, ar_18, ar_19, ar_20, ar_21, ar_22, ar_23, ar_24, ar_25, ar_26, ar_27, ar_28, ar_29, ar_30, ar_31, ar_32, ar_33, ar_34, ar_35, ar_36, ar_37, ar_38, ar_39, ar_40, ar_41, ar_42, ar_43, ar_44, ar_45, ar_46, ar_47, ar_48, ar_49, ar_50, ar_51, ww_v1, ww_v2, ww_v3, ww_v4, ww_g0, ww_gS, ww_t0, ww_tS, ww_s0, ww_sS, ww_s2, ww_w1, ww_w2, ww_w3, ww_b, ww_tg, ww_fd, ww_tk, dm_69, List.elem_nil, List.elem_cons, List.map_nil, List.map_cons, List.sum_nil, List.sum_cons, Option.toList_none, Option.toList_some, List.nil_append, List.cons_append, true_and, and_true, implies_true, false_implies, if_true, if_false, reduceIte, reduceCtorEq, Bool.false_eq_true, Bool.and_false, Bool.false_and, Bool.and_self, Bool.and_true, Bool.true_and, Nat.reduceAdd, Nat.reduceBEq, Nat.reduceEqDiff, Nat.reduceLT, Nat.reduceLeDiff, Int.reduceAdd, Int.reduceNeg, Int.reduceToNat, Int.reduceLE, Int.reduceLT, Int.reduceSub, Int.cast_ofNat_Int, Int.reduceNatCast', Int.reduceNatCast, Nat.zero_add, Int.zero_add, and_self, false_and, and_false, or_false, false_or, true_or, or_true, not_true_eq_false, not_false_eq_true, f1, f2, q2, q3, aw_gv3]
    exact ⟨h0, by omega, by omega, _, rfl, w_R_iff.mpr ⟨P, L, R.pe ha hi⟩⟩
  refine am_CT_of ml_69 mk_69 (by decide +kernel) rfl rfl (fun q => by cases q) (Nat.le_of_ble_eq_true rfl) (am_go 100 (aw_c [5]) ?_)
  have e0 : am_loc0 4 [.inr (.inr (.inl a)), .inl i, .inl x] = [.inr (.inr (.inl a)), .inl i, .inl x, am_X] := rfl
  rw [e0]
  simp only [aw_S, aw_1, aw_cat, ar_0, ar_1, ar_2, ar_3, ar_4, ar_5, ar_6, ar_7, ar_8, ar_9, ar_10, ar_11, ar_12, ar_13, ar_14, ar_15, ar_16, ar_17, ar_18, ar_19, ar_20, ar_21, ar_22, ar_23, ar_24, ar_25, ar_26, ar_27, ar_28, ar_29, ar_30, ar_31, ar_32, ar_33, ar_34, ar_35, ar_36, ar_37, ar_38, ar_39, ar_40, ar_41, ar_42, ar_43, ar_44, ar_45, ar_46, ar_47, ar_48, ar_49, ar_50, ar_51, ww_v1, ww_v2, ww_v3, ww_v4, ww_g0, ww_gS, ww_t0, ww_tS, ww_s0, ww_sS, ww_s2, ww_w1, ww_w2, ww_w3, ww_b, ww_tg, ww_fd, ww_tk, dm_69, List.elem_nil, List.elem_cons, List.map_nil, List.map_cons, List.sum_nil, List.sum_cons, Option.toList_none, Option.toList_some, List.nil_append, List.cons_append, true_and, and_true, implies_true, false_implies, if_true, if_false, reduceIte, reduceCtorEq, Bool.false_eq_true, Bool.and_false, Bool.false_and, Bool.and_self, Bool.and_true, Bool.true_and, Nat.reduceAdd, Nat.reduceBEq, Nat.reduceEqDiff, Nat.reduceLT, Nat.reduceLeDiff, Int.reduceAdd, Int.reduceNeg, Int.reduceToNat, Int.reduceLE, Int.reduceLT, Int.reduceSub, Int.cast_ofNat_Int, Int.reduceNatCast', Int.reduceNatCast, Nat.zero_add, Int.zero_add, and_self, false_and, and_false, or_false, false_or, true_or, or_true, not_true_eq_false, not_false_eq_true, f1, f2, q2, q3, aw_gv3]
  refine ⟨⟨by omega, by omega⟩, fun z => absurd h0 (by omega), fun _ => ?_⟩
  refine am_ldc dX7_set_5 ld_7_13 (am_go 100 (aw_c [45, 51]) ?_)
  simp only [aw_S, aw_1, aw_cat, ar_0, ar_1, ar_2, ar_3, ar_4, ar_5, ar_6, ar_7, ar_8, ar_9, ar_10, ar_11, ar_12, ar_13, ar_14, ar_15, ar_16, ar_17, ar_18, ar_19, ar_20, ar_21, ar_22, ar_23, ar_24, ar_25, ar_26, ar_27, ar_28, ar_29, ar_30, ar_31, ar_32, ar_33, ar_34, ar_35, ar_36, ar_37, ar_38, ar_39, ar_40, ar_41, ar_42, ar_43, ar_44, ar_45, ar_46, ar_47, ar_48, ar_49, ar_50, ar_51, ww_v1, ww_v2, ww_v3, ww_v4, ww_g0, ww_gS, ww_t0, ww_tS, ww_s0, ww_sS, ww_s2, ww_w1, ww_w2, ww_w3, ww_b, ww_tg, ww_fd, ww_tk, dm_69, List.elem_nil, List.elem_cons, List.map_nil, List.map_cons, List.sum_nil, List.sum_cons, Option.toList_none, Option.toList_some, List.nil_append, List.cons_append, true_and, and_true, implies_true, false_implies, if_true, if_false, reduceIte, reduceCtorEq, Bool.false_eq_true, Bool.and_false, Bool.false_and, Bool.and_self, Bool.and_true, Bool.true_and, Nat.reduceAdd, Nat.reduceBEq, Nat.reduceEqDiff, Nat.reduceLT, Nat.reduceLeDiff, Int.reduceAdd, Int.reduceNeg, Int.reduceToNat, Int.reduceLE, Int.reduceLT, Int.reduceSub, Int.cast_ofNat_Int, Int.reduceNatCast', Int.reduceNatCast, Nat.zero_add, Int.zero_add, and_self, false_and, and_false, or_false, false_or, true_or, or_true, not_true_eq_false, not_false_eq_true, f1, f2, q2, q3, aw_gv3, ne_eq]
  have grow : ∀ n tw : Int, 2 * (L a : Int) ≤ n → n ≤ w_cap a → i < n → am_Z 7 4 fr 0 cX7_set false none (fun r h' => ∃ w', (r = none ∧ w' = w_a w a i.toNat x) ∧ w_R w' h') 45 [.inr (.inr (.inl a)), .inl i, .inl x, .inl tw] [.inl n, .inr (.inr (.inl (P a))), .inr (.inr (.inl a))] h := by
    intro n tw hn hcap hin
    refine am_growCall (st := []) (j := 0) R ha (by rw [hc]; decide) (w_key10 a ha hc).2.1 dX7_set_45 cl_7_14 dX7_set_48 (by rw [hc]; exact fd_7_7) (by rw [hc]; exact tk_10_0) hn hcap (fun q => by rw [q] at hc; exact absurd hc (by decide)) (by omega) (by decide) hfr (fun P' L' h' R' e => ?_)
    exact tail P' L' h' _ R' (by omega)
  refine ⟨⟨by omega, by omega⟩, ⟨by omega, by omega⟩, fun _ => ⟨⟨by omega, by omega⟩, ⟨by omega, by omega⟩, fun z => tail P L h _ R (by omega), fun z => ⟨⟨by omega, by omega⟩, ⟨by omega, by omega⟩, fun y => ?_, fun y => ?_⟩⟩, fun z => absurd (by omega) z⟩
  · exact grow _ _ (by omega) (by omega) (by omega)
  · exact grow _ _ (by omega) (by omega) (by omega)
theorem w_fill_0 {w : W_} {a i j : Nat} {x : Int} (h : j ≤ i) : w_fill w a i j x = w := by
  refine Prod.ext rfl ?_
  funext b k
  show (if b = a ∧ i ≤ k ∧ k < j then x else w.2 b k) = w.2 b k
  rw [if_neg (by omega)]
set_option maxRecDepth 100000 in
theorem rw_fill {w : W_} {a fr : Nat} {i n x : Int} (ha : a ∈ w_keys) (hc : w_ci a = 10) (h0 : 0 ≤ i) (hn0 : 0 ≤ n) (h1 : i + n ≤ w_bd a) (hfr : 2 ≤ fr) : ww_Ct 70 fr [.inr (.inr (.inl a)), .inl i, .inl n, .inl x] w fun r w' => r = none ∧ w' = w_fill w a i.toNat (i + n).toNat x := by
  intro h hR
  obtain ⟨P, L, R⟩ := w_R_iff.mp hR
  obtain ⟨f1, f2⟩ := R.fv0 ha hc
  obtain ⟨q1, q2, q3, q4, q5, q6, q7⟩ := R.2.2.2.1 a ha
  have hb := (w_key10 a ha hc).2.2
  have hcapd : w_cap a = 2 * w_bd a + 1024 := rfl
  have tail : ∀ (P L : Nat → Nat) (h : am_H) (v : am_V), w_RP P L w h → i + n ≤ L a → am_Z 7 6 fr 0 cX7_fill false none (fun r h' => ∃ w', (r = none ∧ w' = w_fill w a i.toNat (i + n).toNat x) ∧ w_R w' h') 72 [.inr (.inr (.inl a)), .inl i, .inl n, .inl x, .inl (i + n), v] [] h := by
    intro P L h v R hi
    obtain ⟨f1, f2⟩ := R.fv0 ha hc
    obtain ⟨q1, q2, q3, q4, q5, q6, q7⟩ := R.2.2.2.1 a ha
    refine am_go 20 (aw_c [80]) ?_
    simp only [aw_S, aw_1, aw_cat, ar_0, ar_1, ar_2, ar_3, ar_4, ar_5, ar_6, ar_7, ar_8, ar_9, ar_10, ar_11, ar_12, ar_13, ar_14, ar_15, ar_16, ar_17, ar_18, ar_19, ar_20, ar_21, ar_22, ar_23, ar_24, ar_25, ar_26, ar_27, ar_28, ar_29, ar_30, ar_31, ar_32, ar_33, ar_34, ar_35, ar_36, ar_37, ar_38, ar_39, ar_40, ar_41, ar_42, ar_43, ar_44, ar_45, ar_46, ar_47, ar_48, ar_49, ar_50, ar_51, ww_v1, ww_v2, ww_v3, ww_v4, ww_g0, ww_gS, ww_t0, ww_tS, ww_s0, ww_sS, ww_s2, ww_w1, ww_w2, ww_w3, ww_b, ww_tg, ww_fd, ww_tk, dm_70, List.elem_nil, List.elem_cons, List.map_nil, List.map_cons, List.sum_nil, List.sum_cons, Option.toList_none, Option.toList_some, List.nil_append, List.cons_append, true_and, and_true, implies_true, false_implies, if_true, if_false, reduceIte, reduceCtorEq, Bool.false_eq_true, Bool.and_false, Bool.false_and, Bool.and_self, Bool.and_true, Bool.true_and, Nat.reduceAdd, Nat.reduceBEq, Nat.reduceEqDiff, Nat.reduceLT, Nat.reduceLeDiff, Int.reduceAdd, Int.reduceNeg, Int.reduceToNat, Int.reduceLE, Int.reduceLT, Int.reduceSub, Int.cast_ofNat_Int, Int.reduceNatCast', Int.reduceNatCast, Nat.zero_add, Int.zero_add, and_self, false_and, and_false, or_false, false_or, true_or, or_true, not_true_eq_false, not_false_eq_true, f1, f2, q2, q3, aw_gv3]
    obtain ⟨r, h', ⟨rfl, e1⟩, hct⟩ := am_fill (fr := 1) (i := i) (j := i + n) (x := x) q2 h0 (by omega) (by rw [q3]; omega) (by rw [q3]; omega) (Nat.le_refl _)
    refine am_callS (as := [.inr (.inr (.inl (P a))), .inl i, .inl (i + n), .inl x]) (rest := []) dX7_fill_80 cl_7_20 rfl rfl (Nat.zero_le _) hfr hct ?_
    refine am_go 20 (aw_c []) ?_
    simp only [aw_S, aw_1, aw_cat, ar_0, ar_1, ar_2, ar_3, ar_4, ar_5, ar_6, ar_7, ar_8, ar_9, ar_10, ar_11, ar_12, ar_13, ar_14, ar_15, ar_16, ar_17, ar_18, ar_19, ar_20, ar_21, ar_22, ar_23, ar_24, ar_25, ar_26, ar_27, ar_28, ar_29, ar_30, ar_31, ar_32, ar_33, ar_34, ar_35, ar_36, ar_37, ar_38, ar_39, ar_40, ar_41, ar_42, ar_43, ar_44, ar_45, ar_46, ar_47, ar_48, ar_49, ar_50, ar_51, ww_v1, ww_v2, ww_v3, ww_v4, ww_g0, ww_gS, ww_t0, ww_tS, ww_s0, ww_sS, ww_s2, ww_w1, ww_w2, ww_w3, ww_b, ww_tg, ww_fd, ww_tk, dm_70, List.elem_nil, List.elem_cons, List.map_nil, List.map_cons, List.sum_nil, List.sum_cons, Option.toList_none, Option.toList_some, List.nil_append, List.cons_append, true_and, and_true, implies_true, false_implies, if_true, if_false, reduceIte, reduceCtorEq, Bool.false_eq_true, Bool.and_false, Bool.false_and, Bool.and_self, Bool.and_true, Bool.true_and, Nat.reduceAdd, Nat.reduceBEq, Nat.reduceEqDiff, Nat.reduceLT, Nat.reduceLeDiff, Int.reduceAdd, Int.reduceNeg, Int.reduceToNat, Int.reduceLE, Int.reduceLT, Int.reduceSub, Int.cast_ofNat_Int, Int.reduceNatCast', Int.reduceNatCast, Nat.zero_add, Int.zero_add, and_self, false_and, and_false, or_false, false_or, true_or, or_true, not_true_eq_false, not_false_eq_true]
    refine ⟨_, rfl, w_R_iff.mpr ⟨P, L, ?_⟩⟩
    have := R.fl (i := i.toNat) (j := (i + n).toNat) (x := x) ha (by omega)
    rw [Int.toNat_of_nonneg h0, Int.toNat_of_nonneg (by omega)] at this
    rw [e1]
    exact this
  refine am_CT_of ml_70 mk_70 (by decide +kernel) rfl rfl (fun q => by cases q) (Nat.le_of_ble_eq_true rfl) (am_go 100 (aw_c [9]) ?_)
  have e0 : am_loc0 6 [.inr (.inr (.inl a)), .inl i, .inl n, .inl x] = [.inr (.inr (.inl a)), .inl i, .inl n, .inl x, am_X, am_X] := rfl
  rw [e0]
  simp only [aw_S, aw_1, aw_cat, ar_0, ar_1, ar_2, ar_3, ar_4, ar_5, ar_6, ar_7, ar_8, ar_9, ar_10, ar_11, ar_12, ar_13, ar_14, ar_15, ar_16, ar_17, ar_18, ar_19, ar_20, ar_21, ar_22, ar_23, ar_24, ar_25, ar_26, ar_27, ar_28, ar_29, ar_30, ar_31, ar_32, ar_33, ar_34, ar_35, ar_36, ar_37, ar_38, ar_39, ar_40, ar_41, ar_42, ar_43, ar_44, ar_45, ar_46, ar_47, ar_48, ar_49, ar_50, ar_51, ww_v1, ww_v2, ww_v3, ww_v4, ww_g0, ww_gS, ww_t0, ww_tS, ww_s0, ww_sS, ww_s2, ww_w1, ww_w2, ww_w3, ww_b, ww_tg, ww_fd, ww_tk, dm_70, List.elem_nil, List.elem_cons, List.map_nil, List.map_cons, List.sum_nil, List.sum_cons, Option.toList_none, Option.toList_some, List.nil_append, List.cons_append, true_and, and_true, implies_true, false_implies, if_true, if_false, reduceIte, reduceCtorEq, Bool.false_eq_true, Bool.and_false, Bool.false_and, Bool.and_self, Bool.and_true, Bool.true_and, Nat.reduceAdd, Nat.reduceBEq, Nat.reduceEqDiff, Nat.reduceLT, Nat.reduceLeDiff, Int.reduceAdd, Int.reduceNeg, Int.reduceToNat, Int.reduceLE, Int.reduceLT, Int.reduceSub, Int.cast_ofNat_Int, Int.reduceNatCast', Int.reduceNatCast, Nat.zero_add, Int.zero_add, and_self, false_and, and_false, or_false, false_or, true_or, or_true, not_true_eq_false, not_false_eq_true, f1, f2, q2, q3, aw_gv3]
  refine ⟨⟨by omega, by omega⟩, fun z => absurd h0 (by omega), fun _ => ⟨⟨by omega, by omega⟩, fun z => ?_, fun z => ?_⟩⟩
  · exact ⟨_, rfl, by rw [w_fill_0 (by omega)]; exact hR⟩
  refine am_ldc dX7_fill_9 ld_7_13 (am_go 100 (aw_c [15]) ?_)
  simp only [aw_S, aw_1, aw_cat, ar_0, ar_1, ar_2, ar_3, ar_4, ar_5, ar_6, ar_7, ar_8, ar_9, ar_10, ar_11, ar_12, ar_13, ar_14, ar_15, ar_16, ar_17, ar_18, ar_19, ar_20, ar_21, ar_22, ar_23, ar_24, ar_25, ar_26, ar_27, ar_28, ar_29, ar_30, ar_31, ar_32, ar_33, ar_34, ar_35, ar_36, ar_37, ar_38, ar_39, ar_40, ar_41, ar_42, ar_43, ar_44, ar_45, ar_46, ar_47, ar_48, ar_49, ar_50, ar_51, ww_v1, ww_v2, ww_v3, ww_v4, ww_g0, ww_gS, ww_t0, ww_tS, ww_s0, ww_sS, ww_s2, ww_w1, ww_w2, ww_w3, ww_b, ww_tg, ww_fd, ww_tk, dm_70, List.elem_nil, List.elem_cons, List.map_nil, List.map_cons, List.sum_nil, List.sum_cons, Option.toList_none, Option.toList_some, List.nil_append, List.cons_append, true_and, and_true, implies_true, false_implies, if_true, if_false, reduceIte, reduceCtorEq, Bool.false_eq_true, Bool.and_false, Bool.false_and, Bool.and_self, Bool.and_true, Bool.true_and, Nat.reduceAdd, Nat.reduceBEq, Nat.reduceEqDiff, Nat.reduceLT, Nat.reduceLeDiff, Int.reduceAdd, Int.reduceNeg, Int.reduceToNat, Int.reduceLE, Int.reduceLT, Int.reduceSub, Int.cast_ofNat_Int, Int.reduceNatCast', Int.reduceNatCast, Nat.zero_add, Int.zero_add, and_self, false_and, and_false, or_false, false_or, true_or, or_true, not_true_eq_false, not_false_eq_true, f1, f2, q2, q3, aw_gv3]
  refine ⟨⟨by omega, by omega⟩, ⟨by omega, by omega⟩, fun y => absurd y (by omega), fun _ => ?_⟩
  refine am_ldc dX7_fill_15 ld_7_13 (am_go 100 (aw_c [66, 72]) ?_)
  simp only [aw_S, aw_1, aw_cat, ar_0, ar_1, ar_2, ar_3, ar_4, ar_5, ar_6, ar_7, ar_8, ar_9, ar_10, ar_11, ar_12, ar_13, ar_14, ar_15, ar_16, ar_17, ar_18, ar_19, ar_20, ar_21, ar_22, ar_23, ar_24, ar_25, ar_26, ar_27, ar_28, ar_29, ar_30, ar_31, ar_32, ar_33, ar_34, ar_35, ar_36, ar_37, ar_38, ar_39, ar_40, ar_41, ar_42, ar_43, ar_44, ar_45, ar_46, ar_47, ar_48, ar_49, ar_50, ar_51, ww_v1, ww_v2, ww_v3, ww_v4, ww_g0, ww_gS, ww_t0, ww_tS, ww_s0, ww_sS, ww_s2, ww_w1, ww_w2, ww_w3, ww_b, ww_tg, ww_fd, ww_tk, dm_70, List.elem_nil, List.elem_cons, List.map_nil, List.map_cons, List.sum_nil, List.sum_cons, Option.toList_none, Option.toList_some, List.nil_append, List.cons_append, true_and, and_true, implies_true, false_implies, if_true, if_false, reduceIte, reduceCtorEq, Bool.false_eq_true, Bool.and_false, Bool.false_and, Bool.and_self, Bool.and_true, Bool.true_and, Nat.reduceAdd, Nat.reduceBEq, Nat.reduceEqDiff, Nat.reduceLT, Nat.reduceLeDiff, Int.reduceAdd, Int.reduceNeg, Int.reduceToNat, Int.reduceLE, Int.reduceLT, Int.reduceSub, Int.cast_ofNat_Int, Int.reduceNatCast', Int.reduceNatCast, Nat.zero_add, Int.zero_add, and_self, false_and, and_false, or_false, false_or, true_or, or_true, not_true_eq_false, not_false_eq_true, f1, f2, q2, q3, aw_gv3, ne_eq]
  have grow : ∀ n' tw : Int, 2 * (L a : Int) ≤ n' → n' ≤ w_cap a → i + n ≤ n' → am_Z 7 6 fr 0 cX7_fill false none (fun r h' => ∃ w', (r = none ∧ w' = w_fill w a i.toNat (i + n).toNat x) ∧ w_R w' h') 66 [.inr (.inr (.inl a)), .inl i, .inl n, .inl x, .inl (i + n), .inl tw] [.inl n', .inr (.inr (.inl (P a))), .inr (.inr (.inl a))] h := by
    intro n' tw hn hcap hin
    refine am_growCall (st := []) (j := 0) R ha (by rw [hc]; decide) (w_key10 a ha hc).2.1 dX7_fill_66 cl_7_14 dX7_fill_69 (by rw [hc]; exact fd_7_7) (by rw [hc]; exact tk_10_0) hn hcap (fun q => by rw [q] at hc; exact absurd hc (by decide)) (by omega) (by decide) hfr (fun P' L' h' R' e => ?_)
    exact tail P' L' h' _ R' (by omega)
  refine ⟨⟨by omega, by omega⟩, ⟨by omega, by omega⟩, fun _ => ⟨⟨by omega, by omega⟩, ⟨by omega, by omega⟩, fun y => tail P L h _ R (by omega), fun y => ⟨⟨by omega, by omega⟩, ⟨by omega, by omega⟩, fun u => ?_, fun u => ?_⟩⟩, fun y => absurd (by omega) y⟩
  · exact grow _ _ (by omega) (by omega) (by omega)
  · exact grow _ _ (by omega) (by omega) (by omega)
/-! the heap of the class -/
/-- a field of a node -/
def w_h (w : W_) (v : Int) (f : Nat) : Int := if v < 30000 then 0 else w.2 13 ((v - 30000) * 8 + f).toNat
theorem w_RP.fvh {P L : Nat → Nat} {w : W_} {h : am_H} (R : w_RP P L w h) : am_oc h 13 = 5 ∧ am_fv h 13 1 = .inr (.inr (.inl (P 13))) ∧ am_fv h 13 2 = .inl (w.1 13 2) := by
  have h2 := R.2.1 13 (by decide)
  exact ⟨h2.1, h2.2 1 (by decide), h2.2 2 (by decide)⟩
set_option maxRecDepth 100000 in
theorem rw_hget {w : W_} {fr : Nat} {v f : Int} (h1 : -100000 ≤ v) (h2 : v < 10000000) (h3 : 0 ≤ f) (h4 : f < 8) : ww_Ct 18 fr [.inr (.inr (.inl 13)), .inl v, .inl f] w fun r w' => r = some (.inl (w_h w v f.toNat)) ∧ w' = w := by
  intro h hR
  obtain ⟨P, L, R⟩ := w_R_iff.mp hR
  obtain ⟨f1, f2, -⟩ := R.fvh
  obtain ⟨q1, q2, q3, q4, q5, q6, q7⟩ := R.2.2.2.1 13 (by decide)
  have hcap : w_cap 13 = 2098176 := rfl
  refine am_CT_of ml_18 mk_18 (by decide +kernel) rfl rfl (fun q => by cases q) (Nat.le_of_ble_eq_true rfl) (am_go 100 (aw_c []) ?_)
  have e0 : am_loc0 4 [.inr (.inr (.inl 13)), .inl v, .inl f] = [.inr (.inr (.inl 13)), .inl v, .inl f, am_X] := rfl
  rw [e0]
  simp only [aw_S, aw_1, aw_cat, ar_0, ar_1, ar_2, ar_3, ar_4, ar_5, ar_6, ar_7, ar_8, ar_9, ar_10, ar_11, ar_12, ar_13, ar_14, ar_15, ar_16, ar_17, ar_18, ar_19, ar_20, ar_21, ar_22, ar_23, ar_24, ar_25, ar_26, ar_27, ar_28, ar_29, ar_30, ar_31, ar_32, ar_33, ar_34, ar_35, ar_36, ar_37, ar_38, ar_39, ar_40, ar_41, ar_42, ar_43, ar_44, ar_45, ar_46, ar_47, ar_48, ar_49, ar_50, ar_51, ww_v1, ww_v2, ww_v3, ww_v4, ww_g0, ww_gS, ww_t0, ww_tS, ww_s0, ww_sS, ww_s2, ww_w1, ww_w2, ww_w3, ww_b, ww_tg, ww_fd, ww_tk, dm_18, List.elem_nil, List.elem_cons, List.map_nil, List.map_cons, List.sum_nil, List.sum_cons, Option.toList_none, Option.toList_some, List.nil_append, List.cons_append, true_and, and_true, implies_true, false_implies, if_true, if_false, reduceIte, reduceCtorEq, Bool.false_eq_true, Bool.and_false, Bool.false_and, Bool.and_self, Bool.and_true, Bool.true_and, Nat.reduceAdd, Nat.reduceBEq, Nat.reduceEqDiff, Nat.reduceLT, Nat.reduceLeDiff, Int.reduceAdd, Int.reduceNeg, Int.reduceToNat, Int.reduceLE, Int.reduceLT, Int.reduceSub, Int.cast_ofNat_Int, Int.reduceNatCast', Int.reduceNatCast, Nat.zero_add, Int.zero_add, and_self, false_and, and_false, or_false, false_or, true_or, or_true, not_true_eq_false, not_false_eq_true, f1, f2, q2, q3, aw_gv3, ne_eq]
  unfold w_h
  refine ⟨⟨by omega, by omega⟩, ⟨by omega, by omega⟩, fun z => ⟨w, ⟨by rw [if_pos z], rfl⟩, hR⟩, fun z => ⟨⟨by omega, by omega⟩, fun y => absurd y (by omega), fun _ => ⟨⟨by omega, by omega⟩, ⟨by omega, by omega⟩, fun y => ⟨by omega, y, by omega, ?_⟩, fun y => ?_⟩⟩⟩
  · exact ⟨w, ⟨by rw [if_neg z, q4 _ (by omega), Int.toNat_of_nonneg h3], rfl⟩, hR⟩
  · exact ⟨w, ⟨by rw [if_neg z, q5 _ (by omega) (by omega)], rfl⟩, hR⟩
set_option maxRecDepth 100000 in
theorem rw_hset {w : W_} {fr : Nat} {v f x : Int} (h1 : 30000 ≤ v) (h2 : v - 30000 < w.1 13 2) (h3 : 0 ≤ f) (h4 : f < 8) : ww_Ct 19 fr [.inr (.inr (.inl 13)), .inl v, .inl f, .inl x] w fun r w' => r = none ∧ w' = w_a w 13 ((v - 30000) * 8 + f).toNat x := by
  intro h hR
  obtain ⟨P, L, R⟩ := w_R_iff.mp hR
  obtain ⟨f1, f2, -⟩ := R.fvh
  obtain ⟨q1, q2, q3, q4, q5, q6, q7⟩ := R.2.2.2.1 13 (by decide)
  have hcap : w_cap 13 = 2098176 := rfl
  have h7 := R.2.2.2.2.2.2.1
  refine am_CT_of ml_19 mk_19 (by decide +kernel) rfl rfl (fun q => by cases q) (Nat.le_of_ble_eq_true rfl) (am_go 100 (aw_c []) ?_)
  have e0 : am_loc0 5 [.inr (.inr (.inl 13)), .inl v, .inl f, .inl x] = [.inr (.inr (.inl 13)), .inl v, .inl f, .inl x, am_X] := rfl
  rw [e0]
  simp only [aw_S, aw_1, aw_cat, ar_0, ar_1, ar_2, ar_3, ar_4, ar_5, ar_6, ar_7, ar_8, ar_9, ar_10, ar_11, ar_12, ar_13, ar_14, ar_15, ar_16, ar_17, ar_18, ar_19, ar_20, ar_21, ar_22, ar_23, ar_24, ar_25, ar_26, ar_27, ar_28, ar_29, ar_30, ar_31, ar_32, ar_33, ar_34, ar_35, ar_36, ar_37, ar_38, ar_39, ar_40, ar_41, ar_42, ar_43, ar_44, ar_45, ar_46, ar_47, ar_48, ar_49, ar_50, ar_51, ww_v1, ww_v2, ww_v3, ww_v4, ww_g0, ww_gS, ww_t0, ww_tS, ww_s0, ww_sS, ww_s2, ww_w1, ww_w2, ww_w3, ww_b, ww_tg, ww_fd, ww_tk, dm_19, List.elem_nil, List.elem_cons, List.map_nil, List.map_cons, List.sum_nil, List.sum_cons, Option.toList_none, Option.toList_some, List.nil_append, List.cons_append, true_and, and_true, implies_true, false_implies, if_true, if_false, reduceIte, reduceCtorEq, Bool.false_eq_true, Bool.and_false, Bool.false_and, Bool.and_self, Bool.and_true, Bool.true_and, Nat.reduceAdd, Nat.reduceBEq, Nat.reduceEqDiff, Nat.reduceLT, Nat.reduceLeDiff, Int.reduceAdd, Int.reduceNeg, Int.reduceToNat, Int.reduceLE, Int.reduceLT, Int.reduceSub, Int.cast_ofNat_Int, Int.reduceNatCast', Int.reduceNatCast, Nat.zero_add, Int.zero_add, and_self, false_and, and_false, or_false, false_or, true_or, or_true, not_true_eq_false, not_false_eq_true, f1, f2, q2, q3, aw_gv3, ne_eq]
  exact ⟨⟨by omega, by omega⟩, ⟨by omega, by omega⟩, fun z => absurd z (by omega), fun _ => ⟨⟨by omega, by omega⟩, fun y => absurd y (by omega), fun _ => ⟨⟨by omega, by omega⟩, ⟨by omega, by omega⟩, fun y => absurd y (by omega), fun y => ⟨by omega, by omega, by omega, _, rfl, w_R_iff.mpr ⟨P, L, R.pe (by decide) (by omega)⟩⟩⟩⟩⟩
/-- a new node -/
def w_mk (w : W_) (a b c d e : Int) : W_ := (w_u w.1 13 2 (w.1 13 2 + 1), fun o k => if o = 13 ∧ (w.1 13 2 * 8).toNat ≤ k ∧ k < (w.1 13 2 * 8).toNat + 8 then
  (match k - (w.1 13 2 * 8).toNat with
  | 0 => a
  | 1 => b
  | 2 => c
  | 3 => d
  | 4 => e
  | _ => 0) else w.2 o k)
theorem w_RP.count {P L : Nat → Nat} {w : W_} {h : am_H} (R : w_RP P L w h) {x : Int} (hx : 8 * x ≤ L 13) : w_RP P L (w_f w 13 2 x) (am_sf h 13 2 (.inl x)) := by
  obtain ⟨h1, h2, h3, h4, h5, h6, h7⟩ := R
  have ho : am_oc h 13 ≠ 0 := by rw [(h2 13 (by decide)).1]; decide
  have e00 : (w_f w 13 2 x).1 0 0 = w.1 0 0 := by
    rw [w_f1, w_u_at, if_neg (by decide)]
  refine ⟨by rw [e00]; exact h1, fun b hb => ?_, fun b hb => ?_, fun b hb => ?_, h5, ?_, ?_, h7.2⟩
  · refine ⟨by rw [am_oc_sf]; exact (h2 b hb).1, fun k hk => ?_⟩
    rw [am_fv_sf ho]
    have h2 := (h2 b hb).2 k hk
    have hpv : w_pv (w_f w 13 2 x) b k = w_pv w b k := by
      have e17 : (w_f w 13 2 x).1 17 7 = w.1 17 7 := by rw [w_f1, w_u_at, if_neg (by decide)]
      unfold w_pv
      rw [e17]
    by_cases e : b = 13 ∧ k = 2
    · obtain ⟨rfl, rfl⟩ := e
      rw [if_pos ⟨rfl, rfl⟩]
      show _ = Sum.inl ((w_f w 13 2 x).1 13 2)
      rw [w_f1, w_u_at, if_pos ⟨rfl, rfl⟩]
    · rw [if_neg e, h2]
      unfold w_fv
      rw [w_f1, w_u_at, if_neg e, hpv]
  · rw [am_ak_sf, am_ln_sf]
    refine ⟨(h3 b hb).1, (h3 b hb).2.1, fun i hi => ?_⟩
    rw [am_el_sf]
    exact (h3 b hb).2.2 i hi
  · obtain ⟨q1, q2, q3, q4, q5⟩ := h4 b hb
    rw [am_ak_sf, am_ln_sf]
    refine ⟨q1, q2, q3, fun i hi => ?_, q5⟩
    rw [am_el_sf]
    exact q4 i hi
  · rw [w_f1, w_u_at, if_neg (by decide)]
    exact h6
  · rw [w_f1, w_u_at, if_pos ⟨rfl, rfl⟩]
    exact hx
theorem am_fi_of {h : am_H} {a k : Nat} {x : Int} (e : am_fv h a k = .inl x) : am_fi h a k = x := by
  unfold am_fi
  rw [e]
theorem am_fi_se (h : am_H) (a k : Nat) (x : Int) (b j : Nat) : am_fi (am_se h a k x) b j = am_fi h b j := by
  unfold am_fi
  rw [am_fv_se]
theorem am_fi_sf {h : am_H} {a k : Nat} {x : Int} (ho : am_oc h a ≠ 0) : am_fi (am_sf h a k (.inl x)) a k = x := am_fi_of (by rw [am_fv_sf ho, if_pos ⟨rfl, rfl⟩])
theorem w_mk_eq {w : W_} {a b c d e : Int} (h0 : 0 ≤ w.1 13 2) : w_f (w_a (w_a (w_a (w_a (w_a (w_a (w_a (w_a w 13 (w.1 13 2 * 8).toNat a) 13 (w.1 13 2 * 8 + 1).toNat b) 13 (w.1 13 2 * 8 + 2).toNat c) 13 (w.1 13 2 * 8 + 3).toNat d) 13 (w.1 13 2 * 8 + 4).toNat e) 13 (w.1 13 2 * 8 + 4 + 1).toNat 0) 13 (w.1 13 2 * 8 + 4 + 2).toNat 0) 13 (w.1 13 2 * 8 + 4 + 3).toNat 0) 13 2 (w.1 13 2 + 1) = w_mk w a b c d e := by
  have n1 : (w.1 13 2 * 8 + 1).toNat = (w.1 13 2 * 8).toNat + 1 := by omega
  have n2 : (w.1 13 2 * 8 + 2).toNat = (w.1 13 2 * 8).toNat + 2 := by omega
  have n3 : (w.1 13 2 * 8 + 3).toNat = (w.1 13 2 * 8).toNat + 3 := by omega
  have n4 : (w.1 13 2 * 8 + 4).toNat = (w.1 13 2 * 8).toNat + 4 := by omega
  have n5 : (w.1 13 2 * 8 + 4 + 1).toNat = (w.1 13 2 * 8).toNat + 5 := by omega
  have n6 : (w.1 13 2 * 8 + 4 + 2).toNat = (w.1 13 2 * 8).toNat + 6 := by omega
  have n7 : (w.1 13 2 * 8 + 4 + 3).toNat = (w.1 13 2 * 8).toNat + 7 := by omega
  rw [n1, n2, n3, n4, n5, n6, n7]
  refine Prod.ext rfl ?_
  funext o k
  unfold w_mk
  simp only [w_f2, w_a2, w_u_at]
  generalize (w.1 13 2 * 8).toNat = N
  by_cases ho : o = 13
  · subst ho
    by_cases hk : N ≤ k ∧ k < N + 8
    · obtain ⟨j, rfl⟩ : ∃ j, k = N + j := ⟨k - N, by omega⟩
      have hj : j = 0 ∨ j = 1 ∨ j = 2 ∨ j = 3 ∨ j = 4 ∨ j = 5 ∨ j = 6 ∨ j = 7 := by omega
      rcases hj with rfl | rfl | rfl | rfl | rfl | rfl | rfl | rfl <;> simp
    · have k0 : ¬ k = N := by omega
      have k1 : ¬ k = N + 1 := by omega
      have k2 : ¬ k = N + 2 := by omega
      have k3 : ¬ k = N + 3 := by omega
      have k4 : ¬ k = N + 4 := by omega
      have k5 : ¬ k = N + 5 := by omega
      have k6 : ¬ k = N + 6 := by omega
      have k7 : ¬ k = N + 7 := by omega
      simp only [k0, k1, k2, k3, k4, k5, k6, k7, hk, and_false, if_false]
  · simp only [ho, false_and, if_false]
set_option maxRecDepth 100000 in
theorem rw_make {w : W_} {fr : Nat} {a b c d e : Int} (h0 : 0 ≤ w.1 13 2) (h1 : w.1 13 2 < 262144) (hfr : 2 ≤ fr) : ww_Ct 20 fr [.inr (.inr (.inl 13)), .inl a, .inl b, .inl c, .inl d, .inl e] w fun r w' => r = some (.inl (30000 + w.1 13 2)) ∧ w' = w_mk w a b c d e := by
  intro h hR
  obtain ⟨P, L, R⟩ := w_R_iff.mp hR
  obtain ⟨f1, f2, f3⟩ := R.fvh
  have f4 := am_fi_of f3
  obtain ⟨q1, q2, q3, q4, q5, q6, q7⟩ := R.2.2.2.1 13 (by decide)
  have hcap : w_cap 13 = 2098176 := rfl
  have tail : ∀ (P L : Nat → Nat) (h : am_H), w_RP P L w h → w.1 13 2 * 8 + 8 ≤ L 13 → am_Z 2 7 fr 1 cX2_make false none (fun r h' => ∃ w', (r = some (.inl (30000 + w.1 13 2)) ∧ w' = w_mk w a b c d e) ∧ w_R w' h') 61 [.inr (.inr (.inl 13)), .inl a, .inl b, .inl c, .inl d, .inl e, .inl (w.1 13 2 * 8)] [] h := by
    intro P L h R hi
    obtain ⟨f1, f2, f3⟩ := R.fvh
    have f4 := am_fi_of f3
    obtain ⟨q1, q2, q3, q4, q5, q6, q7⟩ := R.2.2.2.1 13 (by decide)
    refine am_go 100 (aw_c []) ?_
    simp only [aw_S, aw_1, aw_cat, ar_0, ar_1, ar_2, ar_3, ar_4, ar_5, ar_6, ar_7, ar_8, ar_9, ar_10, ar_11, ar_12, ar_13, ar_14, ar_15, ar_16, ar_17, ar_18, ar_19, ar_20, ar_21, ar_22, ar_23, ar_24, ar_25, ar_26, ar_27, ar_28, ar_29, ar_30, ar_31, ar_32, ar_33, ar_34, ar_35, ar_36, ar_37, ar_38, ar_39, ar_40, ar_41, ar_42, ar_43, ar_44, ar_45, ar_46, ar_47, ar_48, ar_49, ar_50, ar_51, ww_v1, ww_v2, ww_v3, ww_v4, ww_g0, ww_gS, ww_t0, ww_tS, ww_s0, ww_sS, ww_s2, ww_w1, ww_w2, ww_w3, ww_b, ww_tg, ww_fd, ww_tk, dm_20, List.elem_nil, List.elem_cons, List.map_nil, List.map_cons, List.sum_nil, List.sum_cons, Option.toList_none, Option.toList_some, List.nil_append, List.cons_append, true_and, and_true, implies_true, false_implies, if_true, if_false, reduceIte, reduceCtorEq, Bool.false_eq_true, Bool.and_false, Bool.false_and, Bool.and_self, Bool.and_true, Bool.true_and, Nat.reduceAdd, Nat.reduceBEq, Nat.reduceEqDiff, Nat.reduceLT, Nat.reduceLeDiff, Int.reduceAdd, Int.reduceNeg, Int.reduceToNat, Int.reduceLE, Int.reduceLT, Int.reduceSub, Int.cast_ofNat_Int, Int.reduceNatCast', Int.reduceNatCast, Nat.zero_add, Int.zero_add, and_self, false_and, and_false, or_false, false_or, true_or, or_true, not_true_eq_false, not_false_eq_true, f1, f2, f4, q2, q3, aw_gv3, aw_gv0, am_fv_se, am_oc_sf, am_oc_se, am_ak_se, am_ln_se, am_fi_se, am_fi_sf, ne_eq, Int.add_zero, am_pv]
    refine ⟨by omega, by omega, by omega, by omega, by omega, by omega, by omega, by omega, by omega, by omega, by omega, by omega, by omega, by omega, by omega, by omega, by omega, by omega, by omega, by omega, by omega, by omega, by omega, by omega, ?_⟩
    refine ⟨_, ⟨?_, rfl⟩, w_R_iff.mpr ⟨P, L, ?_⟩⟩
    · congr 2
      omega
    rw [← w_mk_eq h0]
    exact ((((((((R.pe (by decide) (by omega)).pe (by decide) (by omega)).pe (by decide) (by omega)).pe (by decide) (by omega)).pe (by decide) (by omega)).pe (by decide) (by omega)).pe (by decide) (by omega)).pe (by decide) (by omega)).count (by omega)
  refine am_CT_of ml_20 mk_20 (by decide +kernel) rfl rfl (fun q => by cases q) (Nat.le_of_ble_eq_true rfl) (am_go 100 (aw_c [4]) ?_)
  have e0 : am_loc0 7 [.inr (.inr (.inl 13)), .inl a, .inl b, .inl c, .inl d, .inl e] = [.inr (.inr (.inl 13)), .inl a, .inl b, .inl c, .inl d, .inl e, am_X] := rfl
  rw [e0]
  simp only [aw_S, aw_1, aw_cat, ar_0, ar_1, ar_2, ar_3, ar_4, ar_5, ar_6, ar_7, ar_8, ar_9, ar_10, ar_11, ar_12, ar_13, ar_14, ar_15, ar_16, ar_17, ar_18, ar_19, ar_20, ar_21, ar_22, ar_23, ar_24, ar_25, ar_26, ar_27, ar_28, ar_29, ar_30, ar_31, ar_32, ar_33, ar_34, ar_35, ar_36, ar_37, ar_38, ar_39, ar_40, ar_41, ar_42, ar_43, ar_44, ar_45, ar_46, ar_47, ar_48, ar_49, ar_50, ar_51, ww_v1, ww_v2, ww_v3, ww_v4, ww_g0, ww_gS, ww_t0, ww_tS, ww_s0, ww_sS, ww_s2, ww_w1, ww_w2, ww_w3, ww_b, ww_tg, ww_fd, ww_tk, dm_20, List.elem_nil, List.elem_cons, List.map_nil, List.map_cons, List.sum_nil, List.sum_cons, Option.toList_none, Option.toList_some, List.nil_append, List.cons_append, true_and, and_true, implies_true, false_implies, if_true, if_false, reduceIte, reduceCtorEq, Bool.false_eq_true, Bool.and_false, Bool.false_and, Bool.and_self, Bool.and_true, Bool.true_and, Nat.reduceAdd, Nat.reduceBEq, Nat.reduceEqDiff, Nat.reduceLT, Nat.reduceLeDiff, Int.reduceAdd, Int.reduceNeg, Int.reduceToNat, Int.reduceLE, Int.reduceLT, Int.reduceSub, Int.cast_ofNat_Int, Int.reduceNatCast', Int.reduceNatCast, Nat.zero_add, Int.zero_add, and_self, false_and, and_false, or_false, false_or, true_or, or_true, not_true_eq_false, not_false_eq_true, f1, f2, f4, q2, q3, aw_gv3, aw_gv0]
  refine am_ldc dX2_make_4 ld_2_26 (am_go 100 (aw_c [52, 61]) ?_)
  simp only [aw_S, aw_1, aw_cat, ar_0, ar_1, ar_2, ar_3, ar_4, ar_5, ar_6, ar_7, ar_8, ar_9, ar_10, ar_11, ar_12, ar_13, ar_14, ar_15, ar_16, ar_17, ar_18, ar_19, ar_20, ar_21, ar_22, ar_23, ar_24, ar_25, ar_26, ar_27, ar_28, ar_29, ar_30, ar_31, ar_32, ar_33, ar_34, ar_35, ar_36, ar_37, ar_38, ar_39, ar_40, ar_41, ar_42, ar_43, ar_44, ar_45, ar_46, ar_47, ar_48, ar_49, ar_50, ar_51, ww_v1, ww_v2, ww_v3, ww_v4, ww_g0, ww_gS, ww_t0, ww_tS, ww_s0, ww_sS, ww_s2, ww_w1, ww_w2, ww_w3, ww_b, ww_tg, ww_fd, ww_tk, dm_20, List.elem_nil, List.elem_cons, List.map_nil, List.map_cons, List.sum_nil, List.sum_cons, Option.toList_none, Option.toList_some, List.nil_append, List.cons_append, true_and, and_true, implies_true, false_implies, if_true, if_false, reduceIte, reduceCtorEq, Bool.false_eq_true, Bool.and_false, Bool.false_and, Bool.and_self, Bool.and_true, Bool.true_and, Nat.reduceAdd, Nat.reduceBEq, Nat.reduceEqDiff, Nat.reduceLT, Nat.reduceLeDiff, Int.reduceAdd, Int.reduceNeg, Int.reduceToNat, Int.reduceLE, Int.reduceLT, Int.reduceSub, Int.cast_ofNat_Int, Int.reduceNatCast', Int.reduceNatCast, Nat.zero_add, Int.zero_add, and_self, false_and, and_false, or_false, false_or, true_or, or_true, not_true_eq_false, not_false_eq_true, f1, f2, f4, q2, q3, aw_gv3, aw_gv0, ne_eq]
  refine ⟨⟨by omega, by omega⟩, ⟨by omega, by omega⟩, fun _ => ⟨⟨by omega, by omega⟩, ⟨by omega, by omega⟩, fun y => tail P L h R (by omega), fun y => ?_⟩, fun z => absurd h1 (by omega)⟩
  refine am_mmax dX2_make_52 cl_2_27 ⟨by omega, by omega⟩ ⟨by omega, by omega⟩ (Nat.le_of_ble_eq_true rfl) (by omega) ?_
  have grow : ∀ n : Int, n = 2 * (L 13 : Int) → 2 * (L 13 : Int) ≤ n → n ≤ w_cap 13 → w.1 13 2 * 8 + 8 ≤ n → am_Z 2 7 fr 1 cX2_make false none (fun r h' => ∃ w', (r = some (.inl (30000 + w.1 13 2)) ∧ w' = w_mk w a b c d e) ∧ w_R w' h') 55 [.inr (.inr (.inl 13)), .inl a, .inl b, .inl c, .inl d, .inl e, .inl (w.1 13 2 * 8)] [.inl n, .inr (.inr (.inl (P 13))), .inr (.inr (.inl 13))] h := by
    intro n h2n hn hcap2 hin
    refine am_growCall (st := []) (j := 1) R (by decide) (by decide) rfl dX2_make_55 cl_2_33 dX2_make_58 fd_2_18 tk_5_1 hn hcap2 (fun _ => h2n) (by omega) (by decide) hfr (fun P' L' h' R' e => ?_)
    exact tail P' L' h' R' (by omega)
  obtain ⟨h7a, q, hq⟩ := R.2.2.2.2.2.2
  have h2l : 2 * (L 13 : Int) ≤ 2097152 := by
    have hq11 : q < 11 := by
      apply Nat.lt_of_not_le
      intro z
      have : 2 ^ 11 ≤ 2 ^ q := Nat.pow_le_pow_right (by decide) z
      omega
    have : 2 ^ q ≤ 2 ^ 10 := Nat.pow_le_pow_right (by decide) (by omega)
    omega
  by_cases c1 : w.1 13 2 * 8 + 8 < 2 * (L 13 : Int)
  · rw [if_pos c1]
    exact grow _ rfl (by omega) (by omega) (by omega)
  · rw [if_neg c1]
    exact grow _ (by omega) (by omega) (by omega) (by omega)
