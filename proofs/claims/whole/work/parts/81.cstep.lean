/-! ===== the class: frames, names, faults of functions ===== -/
/-- a frame is pushed; a field of the innermost frame is set; a frame is popped -/
def w_pu (w : W_) (x y : Int) : W_ := w_f (w_a (w_a (w_fill w 34 (w.1 33 1 * 13).toNat (w.1 33 1 * 13 + 13).toNat 0) 34 (w.1 33 1 * 13 + 0).toNat x) 34 (w.1 33 1 * 13 + 1).toNat y) 33 1 (w.1 33 1 + 1)
def w_fs (w : W_) (f x : Int) : W_ := w_a w 34 ((w.1 33 1 - 1) * 13 + f).toNat x
def w_po (w : W_) : W_ := w_f w 33 1 (if 0 < w.1 33 1 - 1 then w.1 33 1 - 1 else 0)
theorem at_11p (x0 x1 : Int) (w : W_) : sp_11 [.inr (.inr (.inl 33)), .inl x0, .inl x1] w = some (3, 0 ≤ w.1 33 1 ∧ w.1 33 1 < 24000, none, w_pu w x0 x1) := rfl
theorem at_14s (x0 x1 : Int) (w : W_) : sp_14 [.inr (.inr (.inl 33)), .inl x0, .inl x1] w = some (3, (1 ≤ w.1 33 1 ∧ w.1 33 1 < 24000) ∧ 0 ≤ x0 ∧ x0 < 13, none, w_fs w x0 x1) := rfl
theorem at_12p (w : W_) : sp_12 [.inr (.inr (.inl 33))] w = some (1, 0 ≤ w.1 33 1 ∧ w.1 33 1 < 24000, none, w_po w) := rfl
theorem w_fs1 (w : W_) (f x : Int) : (w_fs w f x).1 = w.1 := rfl
theorem w_pu1 (w : W_) (x y : Int) (a j : Nat) : (w_pu w x y).1 a j = if a = 33 ∧ j = 1 then w.1 33 1 + 1 else w.1 a j := rfl
theorem w_po1 (w : W_) (a j : Nat) : (w_po w).1 a j = if a = 33 ∧ j = 1 then (if 0 < w.1 33 1 - 1 then w.1 33 1 - 1 else 0) else w.1 a j := rfl
theorem w_po2 (w : W_) : (w_po w).2 = w.2 := rfl
theorem w_pu2 (w : W_) (x y : Int) {b : Nat} (h : b ≠ 34) : (w_pu w x y).2 b = w.2 b := by
  funext k
  show (if b = 34 ∧ k = _ then y else if b = 34 ∧ k = _ then x else if b = 34 ∧ _ ∧ _ then 0 else w.2 b k) = w.2 b k
  rw [if_neg (fun q => h q.1), if_neg (fun q => h q.1), if_neg (fun q => h q.1)]
theorem w_fs2 (w : W_) (f x : Int) {b : Nat} (h : b ≠ 34) : (w_fs w f x).2 b = w.2 b := by
  funext k
  show (if b = 34 ∧ k = _ then x else w.2 b k) = w.2 b k
  rw [if_neg (fun q => h q.1)]
theorem w_a_2ne (w : W_) {a b : Nat} (i : Nat) (x : Int) (h : b ≠ a) : (w_a w a i x).2 b = w.2 b := by
  funext k
  show (if b = a ∧ k = i then x else w.2 b k) = _
  rw [if_neg (fun q => h q.1)]
theorem w_fill_2ne (w : W_) {a b : Nat} (i j : Nat) (x : Int) (h : b ≠ a) : (w_fill w a i j x).2 b = w.2 b := by
  funext k
  show (if b = a ∧ i ≤ k ∧ k < j then x else w.2 b k) = _
  rw [if_neg (fun q => h q.1)]
theorem w_g_ne {w w' : W_} {b : Nat} (h : w'.2 b = w.2 b) (k : Int) : w_g w' b k = w_g w b k := by
  unfold w_g
  rw [h]
theorem w_g_pu (w : W_) (x y : Int) (b : Nat) (k : Int) (h : b ≠ 34) : w_g (w_pu w x y) b k = w_g w b k := w_g_ne (w_pu2 w x y h) k
theorem w_g_fs (w : W_) (f x : Int) (b : Nat) (k : Int) (h : b ≠ 34) : w_g (w_fs w f x) b k = w_g w b k := w_g_ne (w_fs2 w f x h) k
theorem w_g_po (w : W_) (b : Nat) (k : Int) : w_g (w_po w) b k = w_g w b k := rfl
theorem w_h_pu (w : W_) (x y v : Int) (f : Nat) : w_h (w_pu w x y) v f = w_h w v f := by
  unfold w_h
  rw [w_pu2 w x y (by decide)]
theorem w_h_fs (w : W_) (g x v : Int) (f : Nat) : w_h (w_fs w g x) v f = w_h w v f := by
  unfold w_h
  rw [w_fs2 w g x (by decide)]
theorem w_h_po (w : W_) (v : Int) (f : Nat) : w_h (w_po w) v f = w_h w v f := rfl
theorem w_h_f (w : W_) (a j : Nat) (x v : Int) (f : Nat) : w_h (w_f w a j x) v f = w_h w v f := rfl
theorem w_h_ne (w : W_) {a i : Nat} {x v : Int} {f : Nat} (h : a ≠ 13) : w_h (w_a w a i x) v f = w_h w v f := by
  have e : (w_a w a i x).2 13 = w.2 13 := by
    funext k
    show (if 13 = a ∧ k = i then x else w.2 13 k) = _
    rw [if_neg (fun q => h q.1.symm)]
  unfold w_h
  rw [e]
def sp_114 : List am_V → W_ → Option (Nat × Prop × Option am_V × W_)
  | [.inr (.inr (.inl 50)), .inl x0], w => some (4, (-100000 ≤ x0 ∧ x0 < 10000000) ∧ (0 ≤ w.1 33 1 ∧ w.1 33 1 < 23999), none, w_pu (w_pu w 7 (w_h w x0 2)) 7 (w_h w x0 1))
  | _, _ => none
theorem at_114 (x0 : Int) (w : W_) : sp_114 [.inr (.inr (.inl 50)), .inl x0] w = some (4, (-100000 ≤ x0 ∧ x0 < 10000000) ∧ (0 ≤ w.1 33 1 ∧ w.1 33 1 < 23999), none, w_pu (w_pu w 7 (w_h w x0 2)) 7 (w_h w x0 1)) := rfl
set_option maxRecDepth 100000 in
set_option maxHeartbeats 4000000 in
theorem lk_114 {x0 : Int} {w : W_} (hp : (-100000 ≤ x0 ∧ x0 < 10000000) ∧ (0 ≤ w.1 33 1 ∧ w.1 33 1 < 23999)) : ww_Ct 114 4 [.inr (.inr (.inl 50)), .inl x0] w fun r w' => r = none ∧ w' = w_pu (w_pu w 7 (w_h w x0 2)) 7 (w_h w x0 1) := by
  obtain ⟨h0, h1, h2⟩ := hp
  refine of_114 (ww_go (ctL_cons ok_11 (ctL_cons ok_18 ctL_nil)) 200 [] ?_)
  simp only [ww_S, ww_1, wr_0, wr_1, wr_2, wr_3, wr_4, wr_5, wr_6, wr_7, wr_8, wr_9, wr_10, wr_11, wr_12, wr_13, wr_14, wr_15, wr_16, wr_17, wr_18, wr_19, wr_20, wr_21, wr_22, wr_23, wr_24, wr_25, wr_26, wr_27, wr_28, wr_29, wr_30, wr_31, wr_32, wr_33, wr_34, wr_35, wr_36, wr_37, wr_38, wr_39, wr_40, wr_41, wr_42, wr_43, wr_44, wr_45, wr_46, wr_47, wr_48, wr_49, wr_50, wr_51, wr_52, wr_53, wr_54, wr_55, wr_56, wr_57, wr_58, wr_59, wr_60, wr_61, wr_62, wr_63, wr_64, wr_65, wr_66, wr_67, wr_68, wr_69, wr_70, wr_71, wr_72, wr_73, wr_74, wr_75, wr_76, wr_77, wr_78, wr_79, wr_80, wr_81, wr_82, wr_83, wr_84, wr_85, wr_86, wr_87, ww_v1, ww_v2, ww_v3, ww_v4, ww_g0, ww_gS, ww_t0, ww_tS, ww_s0, ww_sS, ww_s2, ww_w1, ww_w2, ww_w3, ww_b, ww_tg, ww_p1, ww_p2, ww_q0, ww_qS, ww_k1, ww_k2, ww_k3, ww_w0, ww_wS, ww_i1, ww_i2, ww_f0, ww_f1, ww_f2, ww_f4, ww_fd, ww_cl, ww_mc, ww_tk, ww_ci, ww_ak, ww_gv, ww_g1, ww_kcs, w_f1, w_f2, w_a1, w_a2, w_u_at, dm_114, List.elem_nil, List.elem_cons, List.map_nil, List.map_cons, List.sum_nil, List.sum_cons, Option.toList_none, Option.toList_some, List.nil_append, List.cons_append, true_and, and_true, implies_true, false_implies, if_true, if_false, reduceIte, reduceCtorEq, Bool.false_eq_true, Bool.and_false, Bool.false_and, Bool.and_self, Bool.and_true, Bool.true_and, Nat.reduceAdd, Nat.reduceBEq, Nat.reduceEqDiff, Nat.reduceLT, Nat.reduceLeDiff, Int.reduceAdd, Int.reduceNeg, Int.reduceToNat, Int.reduceLE, Int.reduceLT, Int.reduceSub, Int.cast_ofNat_Int, Int.reduceNatCast', Int.reduceNatCast, Nat.zero_add, Int.zero_add, and_self, false_and, and_false, or_false, false_or, true_or, or_true, not_true_eq_false, not_false_eq_true, at_11p, at_18, ctL_c, ctL_n, w_pu1, w_h_pu]
  (repeat' (first | refine And.intro ?_ ?_ | intro _)) <;> first | assumption | trivial | omega
theorem ok_114 : ww_cOk1 114 sp_114 := by
  intro as w fr pre r w1 e hp
  unfold sp_114 at e
  split at e
  · cases e
    exact lk_114 hp
  · cases e

theorem w_kn_nt {w : W_} {x : Int} (h : w_kn w) : w_kn (w_nt w x) := by
  have ho := h.2
  have e7 : (w_nt w x).1 17 7 = w.1 17 7 := by
    unfold w_nt
    rw [w_f1, w_u_at, if_neg (fun q => absurd q.2 (by decide)), w_f1, w_u_at, if_neg (fun q => absurd q.2 (by decide))]
    rfl
  have eo : w_o (w_nt w x) = w_o w := by unfold w_o; rw [e7]
  have e5 : (w_nt w x).1 (w_o w) 5 = if w.1 (w_o w) 5 < 60 then w.1 (w_o w) 5 + 1 else w.1 (w_o w) 5 := by
    unfold w_nt
    rw [w_f1, w_u_at, if_pos ⟨rfl, rfl⟩]
  have h1 := h.1
  unfold w_kn
  rw [eo, e5, e7]
  refine ⟨?_, ho⟩
  split <;> omega
/-- so many faults are noted -/
def w_ntn : Nat → W_ → Int → W_
  | 0, w, _ => w
  | n + 1, w, x => w_ntn n (w_nt w x) x
def sp_77 : List am_V → W_ → Option (Nat × Prop × Option am_V × W_)
  | [.inr (.inr (.inl 41)), .inl x0], w => some (4, w_kn w ∧ h_ok w (w.1 41 11) ∧ (0 ≤ x0 ∧ x0 < 100000) ∧ 0 ≤ h_nf w (w.1 41 11) ∧ h_nf w (w.1 41 11) ≤ 1000, none, w_ntn (h_nf w (w.1 41 11)).toNat w (100000 * 3 + w_spot x0))
  | _, _ => none
theorem at_77 (x0 : Int) (w : W_) : sp_77 [.inr (.inr (.inl 41)), .inl x0] w = some (4, w_kn w ∧ h_ok w (w.1 41 11) ∧ (0 ≤ x0 ∧ x0 < 100000) ∧ 0 ≤ h_nf w (w.1 41 11) ∧ h_nf w (w.1 41 11) ≤ 1000, none, w_ntn (h_nf w (w.1 41 11)).toNat w (100000 * 3 + w_spot x0)) := rfl
set_option maxRecDepth 100000 in
set_option maxHeartbeats 4000000 in
theorem lk_77 {x0 : Int} {w : W_} (hp : w_kn w ∧ h_ok w (w.1 41 11) ∧ (0 ≤ x0 ∧ x0 < 100000) ∧ 0 ≤ h_nf w (w.1 41 11) ∧ h_nf w (w.1 41 11) ≤ 1000) : ww_Ct 77 4 [.inr (.inr (.inl 41)), .inl x0] w fun r w' => r = none ∧ w' = w_ntn (h_nf w (w.1 41 11)).toNat w (100000 * 3 + w_spot x0) := by
  obtain ⟨hk, ho, ⟨x0a, x0b⟩, n0, n1⟩ := hp
  obtain ⟨N, hN⟩ : ∃ N, N = h_nf w (w.1 41 11) := ⟨_, rfl⟩
  rw [← hN] at n0 n1 ⊢
  refine of_77 (ww_go (ctL_cons ok_30 (ctL_cons ok_65 (ctL_cons ok_163 ctL_nil))) 100 [14] ?_)
  simp only [ww_S, ww_1, wr_0, wr_1, wr_2, wr_3, wr_4, wr_5, wr_6, wr_7, wr_8, wr_9, wr_10, wr_11, wr_12, wr_13, wr_14, wr_15, wr_16, wr_17, wr_18, wr_19, wr_20, wr_21, wr_22, wr_23, wr_24, wr_25, wr_26, wr_27, wr_28, wr_29, wr_30, wr_31, wr_32, wr_33, wr_34, wr_35, wr_36, wr_37, wr_38, wr_39, wr_40, wr_41, wr_42, wr_43, wr_44, wr_45, wr_46, wr_47, wr_48, wr_49, wr_50, wr_51, wr_52, wr_53, wr_54, wr_55, wr_56, wr_57, wr_58, wr_59, wr_60, wr_61, wr_62, wr_63, wr_64, wr_65, wr_66, wr_67, wr_68, wr_69, wr_70, wr_71, wr_72, wr_73, wr_74, wr_75, wr_76, wr_77, wr_78, wr_79, wr_80, wr_81, wr_82, wr_83, wr_84, wr_85, wr_86, wr_87, ww_v1, ww_v2, ww_v3, ww_v4, ww_g0, ww_gS, ww_t0, ww_tS, ww_s0, ww_sS, ww_s2, ww_w1, ww_w2, ww_w3, ww_b, ww_tg, ww_p1, ww_p2, ww_q0, ww_qS, ww_k1, ww_k2, ww_k3, ww_w0, ww_wS, ww_i1, ww_i2, ww_f0, ww_f1, ww_f2, ww_f4, ww_fd, ww_cl, ww_mc, ww_tk, ww_ci, ww_ak, ww_gv, ww_g1, ww_kcs, w_f1, w_f2, w_a1, w_a2, w_u_at, dm_77, List.elem_nil, List.elem_cons, List.map_nil, List.map_cons, List.sum_nil, List.sum_cons, Option.toList_none, Option.toList_some, List.nil_append, List.cons_append, true_and, and_true, implies_true, false_implies, if_true, if_false, reduceIte, reduceCtorEq, Bool.false_eq_true, Bool.and_false, Bool.false_and, Bool.and_self, Bool.and_true, Bool.true_and, Nat.reduceAdd, Nat.reduceBEq, Nat.reduceEqDiff, Nat.reduceLT, Nat.reduceLeDiff, Int.reduceAdd, Int.reduceNeg, Int.reduceToNat, Int.reduceLE, Int.reduceLT, Int.reduceSub, Int.cast_ofNat_Int, Int.reduceNatCast', Int.reduceNatCast, Nat.zero_add, Int.zero_add, and_self, false_and, and_false, or_false, false_or, true_or, or_true, not_true_eq_false, not_false_eq_true, at_30, at_163, ctL_c, ctL_n]
  refine ⟨ho, ?_⟩
  rw [← hN]
  refine ww_loop (P := fun m ls w' => ∃ i : Int, 0 ≤ i ∧ i ≤ N ∧ m = (N - i).toNat ∧ ls = [.inr (.inr (.inl 41)), .inl x0, .inl N, .inl i] ∧ w_kn w' ∧ w_ntn (N - i).toNat w' (100000 * 3 + w_spot x0) = w_ntn N.toNat w (100000 * 3 + w_spot x0)) ?_ N.toNat _ _ ⟨0, by omega, n0, by omega, rfl, hk, by rw [Int.sub_zero]⟩
  rintro m ls w' ⟨i, i0, i1, hm, rfl, hk', he⟩ ih
  refine ww_go1 (ctL_cons ok_30 (ctL_cons ok_65 (ctL_cons ok_163 ctL_nil))) 100 [14] ?_
  simp only [ww_S, ww_1, wr_0, wr_1, wr_2, wr_3, wr_4, wr_5, wr_6, wr_7, wr_8, wr_9, wr_10, wr_11, wr_12, wr_13, wr_14, wr_15, wr_16, wr_17, wr_18, wr_19, wr_20, wr_21, wr_22, wr_23, wr_24, wr_25, wr_26, wr_27, wr_28, wr_29, wr_30, wr_31, wr_32, wr_33, wr_34, wr_35, wr_36, wr_37, wr_38, wr_39, wr_40, wr_41, wr_42, wr_43, wr_44, wr_45, wr_46, wr_47, wr_48, wr_49, wr_50, wr_51, wr_52, wr_53, wr_54, wr_55, wr_56, wr_57, wr_58, wr_59, wr_60, wr_61, wr_62, wr_63, wr_64, wr_65, wr_66, wr_67, wr_68, wr_69, wr_70, wr_71, wr_72, wr_73, wr_74, wr_75, wr_76, wr_77, wr_78, wr_79, wr_80, wr_81, wr_82, wr_83, wr_84, wr_85, wr_86, wr_87, ww_v1, ww_v2, ww_v3, ww_v4, ww_g0, ww_gS, ww_t0, ww_tS, ww_s0, ww_sS, ww_s2, ww_w1, ww_w2, ww_w3, ww_b, ww_tg, ww_p1, ww_p2, ww_q0, ww_qS, ww_k1, ww_k2, ww_k3, ww_w0, ww_wS, ww_i1, ww_i2, ww_f0, ww_f1, ww_f2, ww_f4, ww_fd, ww_cl, ww_mc, ww_tk, ww_ci, ww_ak, ww_gv, ww_g1, ww_kcs, w_f1, w_f2, w_a1, w_a2, w_u_at, dm_77, List.elem_nil, List.elem_cons, List.map_nil, List.map_cons, List.sum_nil, List.sum_cons, Option.toList_none, Option.toList_some, List.nil_append, List.cons_append, true_and, and_true, implies_true, false_implies, if_true, if_false, reduceIte, reduceCtorEq, Bool.false_eq_true, Bool.and_false, Bool.false_and, Bool.and_self, Bool.and_true, Bool.true_and, Nat.reduceAdd, Nat.reduceBEq, Nat.reduceEqDiff, Nat.reduceLT, Nat.reduceLeDiff, Int.reduceAdd, Int.reduceNeg, Int.reduceToNat, Int.reduceLE, Int.reduceLT, Int.reduceSub, Int.cast_ofNat_Int, Int.reduceNatCast', Int.reduceNatCast, Nat.zero_add, Int.zero_add, and_self, false_and, and_false, or_false, false_or, true_or, or_true, not_true_eq_false, not_false_eq_true, at_163, ctL_c, ctL_n, at_65n _ _ _ hk']
  refine ⟨⟨by omega, by omega⟩, ⟨by omega, by omega⟩, fun q => ?_, fun q => ⟨⟨x0a, x0b⟩, hk', ?_⟩⟩
  · have e : (N - i).toNat = 0 := by omega
    rw [e] at he
    exact he
  · refine ih (N - (i + 1)).toNat _ _ (by omega) ⟨i + 1, by omega, by omega, rfl, rfl, w_kn_nt hk', ?_⟩
    rw [← he]
    have e : (N - i).toNat = (N - (i + 1)).toNat + 1 := by omega
    rw [e]
    rfl
theorem ok_77 : ww_cOk1 77 sp_77 := by
  intro as w fr pre r w1 e hp
  unfold sp_77 at e
  split at e
  · cases e
    exact lk_77 hp
  · cases e

/-- names out of a chain, into the row of names s -/
def w_bind : Nat → W_ → Int → Int → W_
  | 0, w, _, _ => w
  | n + 1, w, s, b => if b < 30000 then w else w_bind n (w_a w 42 (s * 10 + w_h w b 3).toNat (w_h w b 1)) s (w_h w b 2)
/-- a chain of names -/
def h_cn : Nat → W_ → Int → Prop
  | 0, _, b => am_rg b
  | n + 1, w, b => (-100000 ≤ b ∧ b < 10000000) ∧ (30000 ≤ b → (0 ≤ w_h w b 3 ∧ w_h w b 3 < 10) ∧ h_cn n w (w_h w b 2))
theorem h_cn_rg {n : Nat} {w : W_} {b : Int} (h : h_cn n w b) : am_rg b := by
  cases n with
  | zero => exact h
  | succ n => exact ⟨by have := h.1; omega, by have := h.1; omega⟩
theorem h_cn_ne {w w' : W_} (h : w'.2 13 = w.2 13) : ∀ {n : Nat} {b : Int}, h_cn n w b → h_cn n w' b := by
  have e : ∀ v f, w_h w' v f = w_h w v f := fun v f => by
    unfold w_h
    rw [h]
  intro n
  induction n with
  | zero => exact fun h => h
  | succ n ih =>
    intro b hb
    refine ⟨hb.1, fun q => ?_⟩
    rw [e, e]
    exact ⟨(hb.2 q).1, ih (hb.2 q).2⟩
theorem w_bind_1 : ∀ (n : Nat) (w : W_) (s b : Int), (w_bind n w s b).1 = w.1
  | 0, _, _, _ => rfl
  | n + 1, w, s, b => by
    unfold w_bind
    split
    · rfl
    · rw [w_bind_1 n]
      rfl
def sp_78 : List am_V → W_ → Option (Nat × Prop × Option am_V × W_)
  | [.inr (.inr (.inl 41)), .inl x0], w => some (4, (-1 ≤ w.1 41 12 ∧ w.1 41 12 < 2299) ∧ h_cn 10 w x0, none, w_bind 10 (w_fill (w_f w 41 12 (w.1 41 12 + 1)) 42 ((w.1 41 12 + 1) * 10).toNat ((w.1 41 12 + 1) * 10 + 10).toNat 20005) (w.1 41 12 + 1) x0)
  | _, _ => none
theorem at_78 (x0 : Int) (w : W_) : sp_78 [.inr (.inr (.inl 41)), .inl x0] w = some (4, (-1 ≤ w.1 41 12 ∧ w.1 41 12 < 2299) ∧ h_cn 10 w x0, none, w_bind 10 (w_fill (w_f w 41 12 (w.1 41 12 + 1)) 42 ((w.1 41 12 + 1) * 10).toNat ((w.1 41 12 + 1) * 10 + 10).toNat 20005) (w.1 41 12 + 1) x0) := rfl
set_option maxRecDepth 100000 in
set_option maxHeartbeats 4000000 in
theorem lk_78 {x0 : Int} {w : W_} (hp : (-1 ≤ w.1 41 12 ∧ w.1 41 12 < 2299) ∧ h_cn 10 w x0) : ww_Ct 78 4 [.inr (.inr (.inl 41)), .inl x0] w fun r w' => r = none ∧ w' = w_bind 10 (w_fill (w_f w 41 12 (w.1 41 12 + 1)) 42 ((w.1 41 12 + 1) * 10).toNat ((w.1 41 12 + 1) * 10 + 10).toNat 20005) (w.1 41 12 + 1) x0 := by
  obtain ⟨⟨s0, s1⟩, hc⟩ := hp
  refine of_78 (ww_go (ctL_cons ok_18 (ctL_cons ok_69 (ctL_cons ok_70 ctL_nil))) 100 [34] ?_)
  simp only [ww_S, ww_1, wr_0, wr_1, wr_2, wr_3, wr_4, wr_5, wr_6, wr_7, wr_8, wr_9, wr_10, wr_11, wr_12, wr_13, wr_14, wr_15, wr_16, wr_17, wr_18, wr_19, wr_20, wr_21, wr_22, wr_23, wr_24, wr_25, wr_26, wr_27, wr_28, wr_29, wr_30, wr_31, wr_32, wr_33, wr_34, wr_35, wr_36, wr_37, wr_38, wr_39, wr_40, wr_41, wr_42, wr_43, wr_44, wr_45, wr_46, wr_47, wr_48, wr_49, wr_50, wr_51, wr_52, wr_53, wr_54, wr_55, wr_56, wr_57, wr_58, wr_59, wr_60, wr_61, wr_62, wr_63, wr_64, wr_65, wr_66, wr_67, wr_68, wr_69, wr_70, wr_71, wr_72, wr_73, wr_74, wr_75, wr_76, wr_77, wr_78, wr_79, wr_80, wr_81, wr_82, wr_83, wr_84, wr_85, wr_86, wr_87, ww_v1, ww_v2, ww_v3, ww_v4, ww_g0, ww_gS, ww_t0, ww_tS, ww_s0, ww_sS, ww_s2, ww_w1, ww_w2, ww_w3, ww_b, ww_tg, ww_p1, ww_p2, ww_q0, ww_qS, ww_k1, ww_k2, ww_k3, ww_w0, ww_wS, ww_i1, ww_i2, ww_f0, ww_f1, ww_f2, ww_f4, ww_fd, ww_cl, ww_mc, ww_tk, ww_ci, ww_ak, ww_gv, ww_g1, ww_kcs, w_f1, w_f2, w_a1, w_a2, w_u_at, dm_78, List.elem_nil, List.elem_cons, List.map_nil, List.map_cons, List.sum_nil, List.sum_cons, Option.toList_none, Option.toList_some, List.nil_append, List.cons_append, true_and, and_true, implies_true, false_implies, if_true, if_false, reduceIte, reduceCtorEq, Bool.false_eq_true, Bool.and_false, Bool.false_and, Bool.and_self, Bool.and_true, Bool.true_and, Nat.reduceAdd, Nat.reduceBEq, Nat.reduceEqDiff, Nat.reduceLT, Nat.reduceLeDiff, Int.reduceAdd, Int.reduceNeg, Int.reduceToNat, Int.reduceLE, Int.reduceLT, Int.reduceSub, Int.cast_ofNat_Int, Int.reduceNatCast', Int.reduceNatCast, Nat.zero_add, Int.zero_add, and_self, false_and, and_false, or_false, false_or, true_or, or_true, not_true_eq_false, not_false_eq_true, at_18, at_69, at_70, ctL_c, ctL_n, w_isRs, w_bds, w_fill1]
  have h42 : ∀ (W : W_) (i : Nat) (x v : Int) (f : Nat), w_h (w_a W 42 i x) v f = w_h W v f := fun W i x v f => w_h_ne W (by decide)
  have gen : ∀ (j : Nat) (x : Int) (W : W_) (b : Int), x = j → j ≤ 10 → W.1 41 12 = w.1 41 12 + 1 → h_cn j W b → ∀ F, w_bind j W (w.1 41 12 + 1) b = F → ww_Z 8 4 4 0 cX8_openScope none (fun r w' => r = none ∧ w' = F) 34 [.inr (.inr (.inl 41)), .inl x0, .inl b, .inl x] [] W := by
    intro j
    induction j with
    | zero =>
      intro x W b hx _ hW hb F hF
      subst hx
      refine ww_go1 (ctL_cons ok_18 (ctL_cons ok_69 (ctL_cons ok_70 ctL_nil))) 100 [34] ?_
      simp only [ww_S, ww_1, wr_0, wr_1, wr_2, wr_3, wr_4, wr_5, wr_6, wr_7, wr_8, wr_9, wr_10, wr_11, wr_12, wr_13, wr_14, wr_15, wr_16, wr_17, wr_18, wr_19, wr_20, wr_21, wr_22, wr_23, wr_24, wr_25, wr_26, wr_27, wr_28, wr_29, wr_30, wr_31, wr_32, wr_33, wr_34, wr_35, wr_36, wr_37, wr_38, wr_39, wr_40, wr_41, wr_42, wr_43, wr_44, wr_45, wr_46, wr_47, wr_48, wr_49, wr_50, wr_51, wr_52, wr_53, wr_54, wr_55, wr_56, wr_57, wr_58, wr_59, wr_60, wr_61, wr_62, wr_63, wr_64, wr_65, wr_66, wr_67, wr_68, wr_69, wr_70, wr_71, wr_72, wr_73, wr_74, wr_75, wr_76, wr_77, wr_78, wr_79, wr_80, wr_81, wr_82, wr_83, wr_84, wr_85, wr_86, wr_87, ww_v1, ww_v2, ww_v3, ww_v4, ww_g0, ww_gS, ww_t0, ww_tS, ww_s0, ww_sS, ww_s2, ww_w1, ww_w2, ww_w3, ww_b, ww_tg, ww_p1, ww_p2, ww_q0, ww_qS, ww_k1, ww_k2, ww_k3, ww_w0, ww_wS, ww_i1, ww_i2, ww_f0, ww_f1, ww_f2, ww_f4, ww_fd, ww_cl, ww_mc, ww_tk, ww_ci, ww_ak, ww_gv, ww_g1, ww_kcs, w_f1, w_f2, w_a1, w_a2, w_u_at, dm_78, List.elem_nil, List.elem_cons, List.map_nil, List.map_cons, List.sum_nil, List.sum_cons, Option.toList_none, Option.toList_some, List.nil_append, List.cons_append, true_and, and_true, implies_true, false_implies, if_true, if_false, reduceIte, reduceCtorEq, Bool.false_eq_true, Bool.and_false, Bool.false_and, Bool.and_self, Bool.and_true, Bool.true_and, Nat.reduceAdd, Nat.reduceBEq, Nat.reduceEqDiff, Nat.reduceLT, Nat.reduceLeDiff, Int.reduceAdd, Int.reduceNeg, Int.reduceToNat, Int.reduceLE, Int.reduceLT, Int.reduceSub, Int.cast_ofNat_Int, Int.reduceNatCast', Int.reduceNatCast, Nat.zero_add, Int.zero_add, and_self, false_and, and_false, or_false, false_or, true_or, or_true, not_true_eq_false, not_false_eq_true, at_18, at_69, at_70, ctL_c, ctL_n, w_isRs, w_bds, Int.ofNat_zero]
      have hF : W = F := hF
      (repeat' (first | refine And.intro ?_ ?_ | intro _)) <;> first | omega | assumption | contradiction
    | succ j ih =>
      intro x W b hx hj hW hb F hF
      have hr := h_cn_rg hb
      refine ww_go1 (ctL_cons ok_18 (ctL_cons ok_69 (ctL_cons ok_70 ctL_nil))) 100 [34] ?_
      simp only [ww_S, ww_1, wr_0, wr_1, wr_2, wr_3, wr_4, wr_5, wr_6, wr_7, wr_8, wr_9, wr_10, wr_11, wr_12, wr_13, wr_14, wr_15, wr_16, wr_17, wr_18, wr_19, wr_20, wr_21, wr_22, wr_23, wr_24, wr_25, wr_26, wr_27, wr_28, wr_29, wr_30, wr_31, wr_32, wr_33, wr_34, wr_35, wr_36, wr_37, wr_38, wr_39, wr_40, wr_41, wr_42, wr_43, wr_44, wr_45, wr_46, wr_47, wr_48, wr_49, wr_50, wr_51, wr_52, wr_53, wr_54, wr_55, wr_56, wr_57, wr_58, wr_59, wr_60, wr_61, wr_62, wr_63, wr_64, wr_65, wr_66, wr_67, wr_68, wr_69, wr_70, wr_71, wr_72, wr_73, wr_74, wr_75, wr_76, wr_77, wr_78, wr_79, wr_80, wr_81, wr_82, wr_83, wr_84, wr_85, wr_86, wr_87, ww_v1, ww_v2, ww_v3, ww_v4, ww_g0, ww_gS, ww_t0, ww_tS, ww_s0, ww_sS, ww_s2, ww_w1, ww_w2, ww_w3, ww_b, ww_tg, ww_p1, ww_p2, ww_q0, ww_qS, ww_k1, ww_k2, ww_k3, ww_w0, ww_wS, ww_i1, ww_i2, ww_f0, ww_f1, ww_f2, ww_f4, ww_fd, ww_cl, ww_mc, ww_tk, ww_ci, ww_ak, ww_gv, ww_g1, ww_kcs, w_f1, w_f2, w_a1, w_a2, w_u_at, dm_78, List.elem_nil, List.elem_cons, List.map_nil, List.map_cons, List.sum_nil, List.sum_cons, Option.toList_none, Option.toList_some, List.nil_append, List.cons_append, true_and, and_true, implies_true, false_implies, if_true, if_false, reduceIte, reduceCtorEq, Bool.false_eq_true, Bool.and_false, Bool.false_and, Bool.and_self, Bool.and_true, Bool.true_and, Nat.reduceAdd, Nat.reduceBEq, Nat.reduceEqDiff, Nat.reduceLT, Nat.reduceLeDiff, Int.reduceAdd, Int.reduceNeg, Int.reduceToNat, Int.reduceLE, Int.reduceLT, Int.reduceSub, Int.cast_ofNat_Int, Int.reduceNatCast', Int.reduceNatCast, Nat.zero_add, Int.zero_add, and_self, false_and, and_false, or_false, false_or, true_or, or_true, not_true_eq_false, not_false_eq_true, at_18, at_69, at_70, ctL_c, ctL_n, w_isRs, w_bds, hW, w_h_f, h42]
      refine ⟨⟨by omega, by omega⟩, fun q => absurd q (by omega), fun _ => ⟨hr, ⟨by decide, by decide⟩, fun q => ?_, fun q => ?_⟩⟩
      · unfold w_bind at hF
        rw [if_pos (by omega)] at hF
        exact hF
      · have hq : 30000 ≤ b := by omega
        have h3 := (hb.2 hq).1
        have hb1 := hb.1
        unfold w_bind at hF
        rw [if_neg (by omega)] at hF
        have K := ih (x + -1) (w_a W 42 ((w.1 41 12 + 1) * 10 + w_h W b 3).toNat (w_h W b 1)) (w_h W b 2) (by omega) (by omega) hW (h_cn_ne (w := W) (w_a_2ne W _ _ (by decide)) (hb.2 hq).2) F hF
        refine ⟨hb1, hb1, ⟨by omega, by omega⟩, hb1, ?_⟩
        exact K
  refine ⟨⟨by omega, by omega⟩, ?_⟩
  exact gen 10 10 (w_fill (w_f w 41 12 (w.1 41 12 + 1)) 42 ((w.1 41 12 + 1) * 10).toNat ((w.1 41 12 + 1) * 10 + 10).toNat 20005) x0 rfl (by omega) (by rw [w_fill1, w_f1, w_u_at, if_pos ⟨rfl, rfl⟩]) (h_cn_ne (w := w) (w_fill_2ne (w_f w 41 12 (w.1 41 12 + 1)) _ _ _ (by decide)) hc) _ rfl
theorem ok_78 : ww_cOk1 78 sp_78 := by
  intro as w fr pre r w1 e hp
  unfold sp_78 at e
  split at e
  · cases e
    exact lk_78 hp
  · cases e

/-- the names of the innermost row, from the row around: the first n of them -/
def w_inn (w : W_) (n : Int) : W_ := (w.1, fun b k => if b = 42 ∧ w.1 41 12 * 10 ≤ (k : Int) ∧ (k : Int) < w.1 41 12 * 10 + n then w.2 42 (k - 10) else w.2 b k)
def sp_79 : List am_V → W_ → Option (Nat × Prop × Option am_V × W_)
  | [.inr (.inr (.inl 41))], w => some (4, 0 ≤ w.1 41 12 ∧ w.1 41 12 < 2299, none, w_inn (w_f w 41 12 (w.1 41 12 + 1)) 10)
  | _, _ => none
theorem at_79 (w : W_) : sp_79 [.inr (.inr (.inl 41))] w = some (4, 0 ≤ w.1 41 12 ∧ w.1 41 12 < 2299, none, w_inn (w_f w 41 12 (w.1 41 12 + 1)) 10) := rfl
set_option maxRecDepth 100000 in
set_option maxHeartbeats 4000000 in
theorem lk_79 {w : W_} (hp : 0 ≤ w.1 41 12 ∧ w.1 41 12 < 2299) : ww_Ct 79 4 [.inr (.inr (.inl 41))] w fun r w' => r = none ∧ w' = w_inn (w_f w 41 12 (w.1 41 12 + 1)) 10 := by
  obtain ⟨s0, s1⟩ := hp
  refine of_79 (ww_go (ctL_cons ok_68 (ctL_cons ok_80 ctL_nil)) 100 [12] ?_)
  simp only [ww_S, ww_1, wr_0, wr_1, wr_2, wr_3, wr_4, wr_5, wr_6, wr_7, wr_8, wr_9, wr_10, wr_11, wr_12, wr_13, wr_14, wr_15, wr_16, wr_17, wr_18, wr_19, wr_20, wr_21, wr_22, wr_23, wr_24, wr_25, wr_26, wr_27, wr_28, wr_29, wr_30, wr_31, wr_32, wr_33, wr_34, wr_35, wr_36, wr_37, wr_38, wr_39, wr_40, wr_41, wr_42, wr_43, wr_44, wr_45, wr_46, wr_47, wr_48, wr_49, wr_50, wr_51, wr_52, wr_53, wr_54, wr_55, wr_56, wr_57, wr_58, wr_59, wr_60, wr_61, wr_62, wr_63, wr_64, wr_65, wr_66, wr_67, wr_68, wr_69, wr_70, wr_71, wr_72, wr_73, wr_74, wr_75, wr_76, wr_77, wr_78, wr_79, wr_80, wr_81, wr_82, wr_83, wr_84, wr_85, wr_86, wr_87, ww_v1, ww_v2, ww_v3, ww_v4, ww_g0, ww_gS, ww_t0, ww_tS, ww_s0, ww_sS, ww_s2, ww_w1, ww_w2, ww_w3, ww_b, ww_tg, ww_p1, ww_p2, ww_q0, ww_qS, ww_k1, ww_k2, ww_k3, ww_w0, ww_wS, ww_i1, ww_i2, ww_f0, ww_f1, ww_f2, ww_f4, ww_fd, ww_cl, ww_mc, ww_tk, ww_ci, ww_ak, ww_gv, ww_g1, ww_kcs, w_f1, w_f2, w_a1, w_a2, w_u_at, dm_79, List.elem_nil, List.elem_cons, List.map_nil, List.map_cons, List.sum_nil, List.sum_cons, Option.toList_none, Option.toList_some, List.nil_append, List.cons_append, true_and, and_true, implies_true, false_implies, if_true, if_false, reduceIte, reduceCtorEq, Bool.false_eq_true, Bool.and_false, Bool.false_and, Bool.and_self, Bool.and_true, Bool.true_and, Nat.reduceAdd, Nat.reduceBEq, Nat.reduceEqDiff, Nat.reduceLT, Nat.reduceLeDiff, Int.reduceAdd, Int.reduceNeg, Int.reduceToNat, Int.reduceLE, Int.reduceLT, Int.reduceSub, Int.cast_ofNat_Int, Int.reduceNatCast', Int.reduceNatCast, Nat.zero_add, Int.zero_add, and_self, false_and, and_false, or_false, false_or, true_or, or_true, not_true_eq_false, not_false_eq_true, at_68, at_80, ctL_c, ctL_n]
  refine ww_loop (P := fun n ls w' => ∃ i : Int, 0 ≤ i ∧ i ≤ 10 ∧ n = (10 - i).toNat ∧ ls = [.inr (.inr (.inl 41)), .inl i] ∧ w' = w_inn (w_f w 41 12 (w.1 41 12 + 1)) i) ?_ 10 _ _ ⟨0, by omega, by omega, by omega, rfl, ?_⟩
  · rintro n ls w' ⟨i, i0, i1, hn, rfl, rfl⟩ ih
    have e12 : (w_inn (w_f w 41 12 (w.1 41 12 + 1)) i).1 41 12 = w.1 41 12 + 1 := rfl
    refine ww_go1 (ctL_cons ok_68 (ctL_cons ok_80 ctL_nil)) 100 [12] ?_
    simp only [ww_S, ww_1, wr_0, wr_1, wr_2, wr_3, wr_4, wr_5, wr_6, wr_7, wr_8, wr_9, wr_10, wr_11, wr_12, wr_13, wr_14, wr_15, wr_16, wr_17, wr_18, wr_19, wr_20, wr_21, wr_22, wr_23, wr_24, wr_25, wr_26, wr_27, wr_28, wr_29, wr_30, wr_31, wr_32, wr_33, wr_34, wr_35, wr_36, wr_37, wr_38, wr_39, wr_40, wr_41, wr_42, wr_43, wr_44, wr_45, wr_46, wr_47, wr_48, wr_49, wr_50, wr_51, wr_52, wr_53, wr_54, wr_55, wr_56, wr_57, wr_58, wr_59, wr_60, wr_61, wr_62, wr_63, wr_64, wr_65, wr_66, wr_67, wr_68, wr_69, wr_70, wr_71, wr_72, wr_73, wr_74, wr_75, wr_76, wr_77, wr_78, wr_79, wr_80, wr_81, wr_82, wr_83, wr_84, wr_85, wr_86, wr_87, ww_v1, ww_v2, ww_v3, ww_v4, ww_g0, ww_gS, ww_t0, ww_tS, ww_s0, ww_sS, ww_s2, ww_w1, ww_w2, ww_w3, ww_b, ww_tg, ww_p1, ww_p2, ww_q0, ww_qS, ww_k1, ww_k2, ww_k3, ww_w0, ww_wS, ww_i1, ww_i2, ww_f0, ww_f1, ww_f2, ww_f4, ww_fd, ww_cl, ww_mc, ww_tk, ww_ci, ww_ak, ww_gv, ww_g1, ww_kcs, w_f1, w_f2, w_a1, w_a2, w_u_at, dm_79, List.elem_nil, List.elem_cons, List.map_nil, List.map_cons, List.sum_nil, List.sum_cons, Option.toList_none, Option.toList_some, List.nil_append, List.cons_append, true_and, and_true, implies_true, false_implies, if_true, if_false, reduceIte, reduceCtorEq, Bool.false_eq_true, Bool.and_false, Bool.false_and, Bool.and_self, Bool.and_true, Bool.true_and, Nat.reduceAdd, Nat.reduceBEq, Nat.reduceEqDiff, Nat.reduceLT, Nat.reduceLeDiff, Int.reduceAdd, Int.reduceNeg, Int.reduceToNat, Int.reduceLE, Int.reduceLT, Int.reduceSub, Int.cast_ofNat_Int, Int.reduceNatCast', Int.reduceNatCast, Nat.zero_add, Int.zero_add, and_self, false_and, and_false, or_false, false_or, true_or, or_true, not_true_eq_false, not_false_eq_true, at_68, at_80, ctL_c, ctL_n, w_isRs, w_bds, e12]
    refine ⟨⟨by omega, by omega⟩, ⟨by omega, by omega⟩, fun q => ?_, fun q => ⟨⟨by omega, by omega⟩, ⟨⟨by omega, by omega⟩, by omega, by omega⟩, ?_⟩⟩
    · have e : i = 10 := by omega
      rw [e]
    · refine ih (10 - (i + 1)).toNat _ _ (by omega) ⟨i + 1, by omega, by omega, rfl, rfl, ?_⟩
      refine Prod.ext rfl ?_
      funext b k
      have hg : w_g (w_inn (w_f w 41 12 (w.1 41 12 + 1)) i) 42 ((w.1 41 12 + 1 - 1) * 10 + i) = w.2 42 (((w.1 41 12 + 1) * 10 + i).toNat - 10) := by
        rw [w_g_pos (by omega)]
        show (if (42 : Nat) = 42 ∧ (w.1 41 12 + 1) * 10 ≤ ((((w.1 41 12 + 1 - 1) * 10 + i).toNat : Nat) : Int) ∧ ((((w.1 41 12 + 1 - 1) * 10 + i).toNat : Nat) : Int) < (w.1 41 12 + 1) * 10 + i then _ else w.2 42 ((w.1 41 12 + 1 - 1) * 10 + i).toNat) = _
        have e : ((w.1 41 12 + 1 - 1) * 10 + i).toNat = ((w.1 41 12 + 1) * 10 + i).toNat - 10 := by omega
        rw [if_neg (by omega), e]
      show (if b = 42 ∧ k = ((w.1 41 12 + 1) * 10 + i).toNat then w_g (w_inn (w_f w 41 12 (w.1 41 12 + 1)) i) 42 ((w.1 41 12 + 1 - 1) * 10 + i) else if b = 42 ∧ (w.1 41 12 + 1) * 10 ≤ (k : Int) ∧ (k : Int) < (w.1 41 12 + 1) * 10 + i then w.2 42 (k - 10) else w.2 b k) = if b = 42 ∧ (w.1 41 12 + 1) * 10 ≤ (k : Int) ∧ (k : Int) < (w.1 41 12 + 1) * 10 + (i + 1) then w.2 42 (k - 10) else w.2 b k
      rw [hg]
      by_cases c1 : b = 42 ∧ k = ((w.1 41 12 + 1) * 10 + i).toNat
      · rw [if_pos c1, if_pos ⟨c1.1, by omega, by omega⟩, c1.2]
      · rw [if_neg c1]
        by_cases c2 : b = 42 ∧ (w.1 41 12 + 1) * 10 ≤ (k : Int) ∧ (k : Int) < (w.1 41 12 + 1) * 10 + i
        · rw [if_pos c2, if_pos ⟨c2.1, c2.2.1, by omega⟩]
        · rw [if_neg c2, if_neg (by omega)]
  · refine Prod.ext rfl ?_
    funext b k
    show w.2 b k = if b = 42 ∧ (w.1 41 12 + 1) * 10 ≤ (k : Int) ∧ (k : Int) < (w.1 41 12 + 1) * 10 + 0 then w.2 42 (k - 10) else w.2 b k
    rw [if_neg (by omega)]
theorem ok_79 : ww_cOk1 79 sp_79 := by
  intro as w fr pre r w1 e hp
  unfold sp_79 at e
  split at e
  · cases e
    exact lk_79 hp
  · cases e

/-- a text is opened -/
def w_opt (w : W_) (x : Int) : W_ := w_f (w_fs (w_fs (w_fs (w_fs (w_pu (if 180 ≤ x then w_a w 46 (x - 180).toNat 1 else w) 5 x) 3 (w_g w 37 (x * 9) - 1)) 4 20003) 5 20003) 9 (w.1 41 13)) 41 13 (w.1 33 1)
def sp_103 : List am_V → W_ → Option (Nat × Prop × Option am_V × W_)
  | [.inr (.inr (.inl 41)), .inl x0], w => some (4, (0 ≤ x0 ∧ x0 < 183) ∧ 0 ≤ w.1 33 1 ∧ w.1 33 1 < 23999, none, w_opt w x0)
  | _, _ => none
theorem at_103 (x0 : Int) (w : W_) : sp_103 [.inr (.inr (.inl 41)), .inl x0] w = some (4, (0 ≤ x0 ∧ x0 < 183) ∧ 0 ≤ w.1 33 1 ∧ w.1 33 1 < 23999, none, w_opt w x0) := rfl
set_option maxRecDepth 100000 in
set_option maxHeartbeats 4000000 in
theorem lk_103 {x0 : Int} {w : W_} (hp : (0 ≤ x0 ∧ x0 < 183) ∧ 0 ≤ w.1 33 1 ∧ w.1 33 1 < 23999) : ww_Ct 103 4 [.inr (.inr (.inl 41)), .inl x0] w fun r w' => r = none ∧ w' = w_opt w x0 := by
  obtain ⟨⟨h0, h1⟩, h2, h3⟩ := hp
  unfold w_opt
  refine of_103 (ww_go (ctL_cons ok_9 (ctL_cons ok_11 (ctL_cons ok_14 (ctL_cons ok_69 (ctL_cons ok_129 ctL_nil))))) 200 [] ?_)
  simp only [ww_S, ww_1, wr_0, wr_1, wr_2, wr_3, wr_4, wr_5, wr_6, wr_7, wr_8, wr_9, wr_10, wr_11, wr_12, wr_13, wr_14, wr_15, wr_16, wr_17, wr_18, wr_19, wr_20, wr_21, wr_22, wr_23, wr_24, wr_25, wr_26, wr_27, wr_28, wr_29, wr_30, wr_31, wr_32, wr_33, wr_34, wr_35, wr_36, wr_37, wr_38, wr_39, wr_40, wr_41, wr_42, wr_43, wr_44, wr_45, wr_46, wr_47, wr_48, wr_49, wr_50, wr_51, wr_52, wr_53, wr_54, wr_55, wr_56, wr_57, wr_58, wr_59, wr_60, wr_61, wr_62, wr_63, wr_64, wr_65, wr_66, wr_67, wr_68, wr_69, wr_70, wr_71, wr_72, wr_73, wr_74, wr_75, wr_76, wr_77, wr_78, wr_79, wr_80, wr_81, wr_82, wr_83, wr_84, wr_85, wr_86, wr_87, ww_v1, ww_v2, ww_v3, ww_v4, ww_g0, ww_gS, ww_t0, ww_tS, ww_s0, ww_sS, ww_s2, ww_w1, ww_w2, ww_w3, ww_b, ww_tg, ww_p1, ww_p2, ww_q0, ww_qS, ww_k1, ww_k2, ww_k3, ww_w0, ww_wS, ww_i1, ww_i2, ww_f0, ww_f1, ww_f2, ww_f4, ww_fd, ww_cl, ww_mc, ww_tk, ww_ci, ww_ak, ww_gv, ww_g1, ww_kcs, w_f1, w_f2, w_a1, w_a2, w_u_at, dm_103, List.elem_nil, List.elem_cons, List.map_nil, List.map_cons, List.sum_nil, List.sum_cons, Option.toList_none, Option.toList_some, List.nil_append, List.cons_append, true_and, and_true, implies_true, false_implies, if_true, if_false, reduceIte, reduceCtorEq, Bool.false_eq_true, Bool.and_false, Bool.false_and, Bool.and_self, Bool.and_true, Bool.true_and, Nat.reduceAdd, Nat.reduceBEq, Nat.reduceEqDiff, Nat.reduceLT, Nat.reduceLeDiff, Int.reduceAdd, Int.reduceNeg, Int.reduceToNat, Int.reduceLE, Int.reduceLT, Int.reduceSub, Int.cast_ofNat_Int, Int.reduceNatCast', Int.reduceNatCast, Nat.zero_add, Int.zero_add, and_self, false_and, and_false, or_false, false_or, true_or, or_true, not_true_eq_false, not_false_eq_true, at_9, at_69, at_129, at_11p, at_14s, ctL_c, ctL_n, w_isRs, w_bds, w_pu1, w_fs1]
  have g : ∀ W : W_, W.1 33 1 = w.1 33 1 → W.2 37 = w.2 37 → w_g (w_pu W 5 x0) 37 (x0 * 9) = w_g w 37 (x0 * 9) := fun W _ e => by
    rw [w_g_pu _ _ _ _ _ (by decide)]
    exact w_g_ne e _
  (repeat' (first | refine And.intro ?_ ?_ | intro _)) <;> first | assumption | (unfold am_rg; omega) | omega | skip
  · rename_i c
    rw [if_neg (by omega), w_g_pu _ _ _ _ _ (by decide), Int.add_sub_cancel]
  · rename_i c
    rw [if_pos (by omega), g (w_a w 46 (x0 - 180).toNat 1) rfl (w_a_2ne w _ _ (by decide)), Int.add_sub_cancel]
theorem ok_103 : ww_cOk1 103 sp_103 := by
  intro as w fr pre r w1 e hp
  unfold sp_103 at e
  split at e
  · cases e
    exact lk_103 hp
  · cases e

