/-! ===== a round of the class ===== -/
set_option maxRecDepth 100000 in
theorem lk_60 {w : W_} {fr : Nat} {Q : Option am_V → W_ → Prop} (h : dr fr Q 0 w) : ww_Ct 60 fr [.inr (.inr (.inl 9))] w Q := by
  refine of_60 (ww_go ctL_nil 20 [2] ?_)
  simp only [ww_S, ww_1, wr_0, wr_1, wr_2, wr_3, wr_4, wr_5, wr_6, wr_7, wr_8, wr_9, wr_10, wr_11, wr_12, wr_13, wr_14, wr_15, wr_16, wr_17, wr_18, wr_19, wr_20, wr_21, wr_22, wr_23, wr_24, wr_25, wr_26, wr_27, wr_28, wr_29, wr_30, wr_31, wr_32, wr_33, wr_34, wr_35, wr_36, wr_37, wr_38, wr_39, wr_40, wr_41, wr_42, wr_43, wr_44, wr_45, wr_46, wr_47, wr_48, wr_49, wr_50, wr_51, wr_52, wr_53, wr_54, wr_55, wr_56, wr_57, wr_58, wr_59, wr_60, wr_61, wr_62, wr_63, wr_64, wr_65, wr_66, wr_67, wr_68, wr_69, wr_70, wr_71, wr_72, wr_73, wr_74, wr_75, wr_76, wr_77, wr_78, wr_79, wr_80, wr_81, wr_82, wr_83, wr_84, wr_85, wr_86, wr_87, ww_v1, ww_v2, ww_v3, ww_v4, ww_g0, ww_gS, ww_t0, ww_tS, ww_s0, ww_sS, ww_s2, ww_w1, ww_w2, ww_w3, ww_b, ww_tg, ww_p1, ww_p2, ww_q0, ww_qS, ww_k1, ww_k2, ww_k3, ww_w0, ww_wS, ww_i1, ww_i2, ww_f0, ww_f1, ww_f2, ww_f4, ww_fd, ww_cl, ww_mc, ww_tk, ww_ci, ww_ak, ww_gv, ww_g1, ww_kcs, w_f1, w_f2, w_a1, w_a2, w_u_at, dm_60, List.elem_nil, List.elem_cons, List.map_nil, List.map_cons, List.sum_nil, List.sum_cons, Option.toList_none, Option.toList_some, List.nil_append, List.cons_append, true_and, and_true, implies_true, false_implies, if_true, if_false, reduceIte, reduceCtorEq, Bool.false_eq_true, Bool.and_false, Bool.false_and, Bool.and_self, Bool.and_true, Bool.true_and, Nat.reduceAdd, Nat.reduceBEq, Nat.reduceEqDiff, Nat.reduceLT, Nat.reduceLeDiff, Int.reduceAdd, Int.reduceNeg, Int.reduceToNat, Int.reduceLE, Int.reduceLT, Int.reduceSub, Int.cast_ofNat_Int, Int.reduceNatCast', Int.reduceNatCast, Nat.zero_add, Int.zero_add, and_self, false_and, and_false, or_false, false_or, true_or, or_true, not_true_eq_false, not_false_eq_true, ctL_n]
  exact h
/-- behind the round's start -/
def w_64 (w : W_) (o : Nat) : W_ := w_f (w_f (w_fill (w_fill (w_cpy (w_f (w_f (w_f (w_f w 17 3 0) 17 4 0) 17 5 0) 17 6 0) 18 20 42) 18 42 45 20005) 20 0 42 0) o 5 0) o 4 0
/-- ahead of a round -/
def BB (G : G_) (sil : Bool) (o : Nat) (K0 : Int) (m : List R_) (rn tk : Nat) (w : W_) : Prop := ((o = 24 ∨ o = 55 ∨ o = 64) ∧ w.1 17 7 = (o : Int)) ∧ (sil = false → w.1 o 7 = rn ∧ w.1 o 8 = tk) ∧ (∀ k, k < 42 → w.2 20 k = G.1 k ∧ -9999 ≤ G.1 k ∧ G.1 k ≤ 9999) ∧ ((w.1 50 15 = G.2.2.2.1 ∧ w.1 50 16 = G.2.2.2.2) ∧ 3 ≤ G.2.2.2.1 ∧ G.2.2.2.1 ≤ 30 ∧ 1 ≤ G.2.2.2.2 ∧ G.2.2.2.2 ≤ 10) ∧ (flO (g_C0 G) (w.2 3) (w.2 5) (w.2 7) ∧ w.2 3 183 = 0 ∧ g0 (w.2 7)) ∧ ((0 ≤ w.1 13 2 ∧ w.1 13 2 ≤ K0 ∧ K0 ≤ 238000) ∧ hI (w.1 13 2) (w.2 13) (w.2 7)) ∧ CRm sil (s_start m rn tk) w ∧ yG G o K0 w
theorem gN_g0 {n : Int} {g : Nat → Int} (h : g0 g) : gN n g := ⟨fun x _ => ⟨h _ (by omega), fun f _ => h _ (by omega)⟩, fun f _ _ x _ => ⟨fun _ => h _ (by omega), fun _ => h _ (by omega)⟩⟩
section
variable {G : G_} {sil : Bool} {o : Nat} {K0 : Int} {m : List R_} {rn tk : Nat} {w : W_}
theorem w_64_1 (w : W_) (o : Nat) {a j : Nat} (h1 : ¬ (a = 17 ∧ (j = 3 ∨ j = 4 ∨ j = 5 ∨ j = 6))) (h2 : ¬ (a = o ∧ (j = 4 ∨ j = 5))) : (w_64 w o).1 a j = w.1 a j := by
  unfold w_64
  rw [w_f1, w_u_at, if_neg (by omega), w_f1, w_u_at, if_neg (by omega)]
  show (w_f (w_f (w_f (w_f w 17 3 0) 17 4 0) 17 5 0) 17 6 0).1 a j = _
  rw [w_f1, w_u_at, if_neg (by omega), w_f1, w_u_at, if_neg (by omega), w_f1, w_u_at, if_neg (by omega), w_f1, w_u_at, if_neg (by omega)]
theorem w_64_2 (w : W_) (o : Nat) {b : Nat} (h1 : b ≠ 18) (h2 : b ≠ 20) : (w_64 w o).2 b = w.2 b := by
  show (w_fill (w_fill (w_cpy _ 18 20 42) 18 42 45 20005) 20 0 42 0).2 b = _
  rw [w_fill_2ne _ _ _ _ h2, w_fill_2ne _ _ _ _ h1]
  funext k
  show (if b = 18 ∧ (k : Int) < 42 then _ else w.2 b k) = _
  rw [if_neg (fun q => h1 q.1)]
theorem w_64_18 (w : W_) (o : Nat) (k : Nat) : (w_64 w o).2 18 k = if k < 42 then w.2 20 k else if k < 45 then 20005 else w.2 18 k := by
  show (w_fill (w_fill (w_cpy _ 18 20 42) 18 42 45 20005) 20 0 42 0).2 18 k = _
  rw [w_fill_2ne _ _ _ _ (by decide)]
  show (if 18 = 18 ∧ 42 ≤ k ∧ k < 45 then (20005 : Int) else if 18 = 18 ∧ (k : Int) < 42 then w.2 20 k else w.2 18 k) = _
  by_cases c : k < 42
  · rw [if_neg (by omega), if_pos ⟨rfl, by omega⟩, if_pos c]
  · rw [if_neg c]
    by_cases d : k < 45
    · rw [if_pos ⟨rfl, by omega, d⟩, if_pos d]
    · rw [if_neg (fun q => d q.2.2), if_neg (by omega), if_neg d]
theorem w_64_20 (w : W_) (o : Nat) {k : Nat} (h : k < 42) : (w_64 w o).2 20 k = 0 := by
  show (if 20 = 20 ∧ 0 ≤ k ∧ k < 42 then (0 : Int) else _) = 0
  rw [if_pos ⟨rfl, Nat.zero_le _, h⟩]
theorem rs_1 (w : W_) (r : Int) {a j : Nat} (h1 : ¬ (a = 33 ∧ j = 1)) (h2 : ¬ (a = 41 ∧ 10 ≤ j)) : (w_rs w r).1 a j = w.1 a j := by
  show (w_f (w_f (w_f (w_f (w_f (w_f (w_f (w_f (w_f w 41 17 r) 41 10 (-1)) 41 11 20003) 41 12 (-1)) 41 13 (-1)) 41 14 0) 41 15 0) 41 16 0) 33 1 0).1 a j = _
  rw [w_f1, w_u_at, if_neg (by omega), w_f1, w_u_at, if_neg (by omega), w_f1, w_u_at, if_neg (by omega), w_f1, w_u_at, if_neg (by omega), w_f1, w_u_at, if_neg (by omega), w_f1, w_u_at, if_neg (by omega), w_f1, w_u_at, if_neg (by omega), w_f1, w_u_at, if_neg (by omega), w_f1, w_u_at, if_neg (by omega)]
theorem rs_2 (w : W_) (r : Int) {b : Nat} (h : b ≠ 46) : (w_rs w r).2 b = w.2 b := by
  unfold w_rs
  rw [w_fill_2ne _ _ _ _ h]
  rfl
theorem rs_46 (w : W_) (r : Int) {k : Nat} (h : k < 3) : (w_rs w r).2 46 k = 0 := by
  show (if 46 = 46 ∧ 0 ≤ k ∧ k < 3 then (0 : Int) else _) = 0
  rw [if_pos ⟨rfl, Nat.zero_le _, h⟩]
theorem BB_rG (ho : o = 24 ∨ o = 55 ∨ o = 64) (H : yG G o K0 w) (r : Int) : yG G o K0 (w_rs (w_64 w o) r) := by
  have E1 : ∀ a j, ¬ (a = 33 ∧ j = 1) → ¬ (a = 41 ∧ 10 ≤ j) → ¬ (a = 17 ∧ (j = 3 ∨ j = 4 ∨ j = 5 ∨ j = 6)) → ¬ (a = o ∧ (j = 4 ∨ j = 5)) → (w_rs (w_64 w o) r).1 a j = w.1 a j := fun a j h1 h2 h3 h4 => (rs_1 _ _ h1 h2).trans (w_64_1 w o h3 h4)
  have E2 : ∀ b, b ≠ 46 → b ≠ 18 → b ≠ 20 → (w_rs (w_64 w o) r).2 b = w.2 b := fun b h1 h2 h3 => (rs_2 _ _ h1).trans (w_64_2 w o h2 h3)
  exact ⟨fun a j ha q => (E1 a j (by omega) (by omega) (by omega) (by omega)).trans (H.1 a j ha q), fun b hb q => (E2 b (by omega) (by omega) (by omega)).trans (H.2.1 b hb q), (E1 o 6 (by omega) (by omega) (by omega) (by omega)).trans H.2.2⟩
/-- the state ahead of reading the first file -/
theorem BB_CR (H : BB G sil o K0 m rn tk w) : CR (g_C0 G) sil o 0 False K0 (s_start m rn tk) (w_rs (w_64 w o) (if sil = true then 0 else 1)) := by
  obtain ⟨⟨ho, h17⟩, hc, hq, hp, ⟨hfl, h183, hg⟩, ⟨⟨n0, n1, n2⟩, hh⟩, ⟨m1, m2, m3, m4, m5⟩, -⟩ := H
  have E1 : ∀ a j, ¬ (a = 33 ∧ j = 1) → ¬ (a = 41 ∧ 10 ≤ j) → ¬ (a = 17 ∧ (j = 3 ∨ j = 4 ∨ j = 5 ∨ j = 6)) → ¬ (a = o ∧ (j = 4 ∨ j = 5)) → (w_rs (w_64 w o) (if sil = true then 0 else 1)).1 a j = w.1 a j := fun a j h1 h2 h3 h4 => (rs_1 _ _ h1 h2).trans (w_64_1 w o h3 h4)
  have E2 : ∀ b, b ≠ 46 → b ≠ 18 → b ≠ 20 → (w_rs (w_64 w o) (if sil = true then 0 else 1)).2 b = w.2 b := fun b h1 h2 h3 => (rs_2 _ _ h1).trans (w_64_2 w o h2 h3)
  have E18 : (w_rs (w_64 w o) (if sil = true then 0 else 1)).2 18 = (w_64 w o).2 18 := rs_2 _ _ (by decide)
  have z : ∀ j, 3 ≤ j → j < 7 → (w_rs (w_64 w o) (if sil = true then 0 else 1)).1 17 j = 0 := fun j j0 j1 => by
    rw [rs_1 _ _ (by omega) (by omega)]
    unfold w_64
    rw [w_f1, w_u_at, if_neg (by omega), w_f1, w_u_at, if_neg (by omega)]
    show (w_f (w_f (w_f (w_f w 17 3 0) 17 4 0) 17 5 0) 17 6 0).1 17 j = _
    rw [w_f1, w_u_at, w_f1, w_u_at, w_f1, w_u_at, w_f1, w_u_at]
    (repeat' split) <;> first | rfl | omega
  have z5 : (w_rs (w_64 w o) (if sil = true then 0 else 1)).1 o 5 = 0 := by
    rw [rs_1 _ _ (by omega) (by omega)]
    unfold w_64
    rw [w_f1, w_u_at, if_neg (by omega), w_f1, w_u_at, if_pos ⟨rfl, rfl⟩]
  have z14 : (w_rs (w_64 w o) (if sil = true then 0 else 1)).1 41 14 = 0 := rfl
  have z15 : (w_rs (w_64 w o) (if sil = true then 0 else 1)).1 41 15 = 0 := rfl
  have z16 : (w_rs (w_64 w o) (if sil = true then 0 else 1)).1 41 16 = 0 := rfl
  have z17 : (w_rs (w_64 w o) (if sil = true then 0 else 1)).1 41 17 = if sil = true then 0 else 1 := rfl
  have z46 : ∀ k, k < 3 → (w_rs (w_64 w o) (if sil = true then 0 else 1)).2 46 k = 0 := fun k hk => rs_46 _ _ hk
  generalize w_rs (w_64 w o) (if sil = true then 0 else 1) = W at *
  refine ⟨⟨⟨ho, ?_⟩, ⟨z 4 (by decide) (by decide), z 5 (by decide) (by decide), z 6 (by decide) (by decide), (show (0 : Int) ≤ 0 from Int.le_refl 0), (show (0 : Int) ≤ 12 from by decide)⟩, ⟨z5, Nat.zero_le _, fun i hi => absurd hi (Nat.not_lt_zero _)⟩, fun q hq' => ?_⟩, ⟨⟨0, z 3 (by decide) (by decide), Nat.le_refl _, Nat.zero_le _, fun i hi => absurd hi (Nat.not_lt_zero _), fun q hq' => ⟨fun y => (by cases y), fun ⟨i, _, i2, _⟩ => absurd i2 (Nat.not_lt_zero _)⟩⟩, ⟨z14, Nat.zero_le _⟩, by rw [z15]; decide, fun y => y.elim, by rw [z16]; unfold am_rg; omega, z17⟩, ⟨⟨fun y => ?_, ?_, ?_⟩, fun f hf => ⟨z46 f hf, Nat.zero_le _⟩, fun f hf y => (by cases y), ⟨?_, ?_, n2⟩, ⟨Nat.zero_le _, Nat.zero_le _, Nat.zero_le _, Nat.le_refl _, Nat.zero_le _, Nat.zero_le _⟩⟩, ?_⟩
  · rw [E1 17 7 (by omega) (by omega) (by omega) (by omega)]; exact h17
  · rw [E18, w_64_18]
    show match (if q < 42 then some (G.1 q) else none) with
      | some x => (if q < 42 then w.2 20 q else if q < 45 then 20005 else w.2 18 q) = x ∧ -9999 ≤ x ∧ x ≤ 9999
      | none => (if q < 42 then w.2 20 q else if q < 45 then 20005 else w.2 18 q) = 20005
    by_cases c : q < 42
    · rw [if_pos c, if_pos c]; exact hq q c
    · rw [if_neg c, if_neg c, if_pos hq']
  · have y' := hc y
    rw [E1 o 7 (by omega) (by omega) (by omega) (by omega), E1 o 8 (by omega) (by omega) (by omega) (by omega)]
    exact y'
  · rw [E1 13 2 (by omega) (by omega) (by omega) (by omega), E2 13 (by decide) (by decide) (by decide), E2 7 (by decide) (by decide) (by decide)]; exact hh
  · rw [E2 7 (by decide) (by decide) (by decide)]; exact gN_g0 hg
  · rw [E1 13 2 (by omega) (by omega) (by omega) (by omega)]; exact n0
  · rw [E1 13 2 (by omega) (by omega) (by omega) (by omega)]
    show w.1 13 2 ≤ K0 + ((0 : Nat) : Int)
    omega
  · unfold CRm
    rw [E1 10 1 (by omega) (by omega) (by omega) (by omega), E1 13 2 (by omega) (by omega) (by omega) (by omega), E1 13 3 (by omega) (by omega) (by omega) (by omega), E2 11 (by decide) (by decide) (by decide), E2 13 (by decide) (by decide) (by decide), E2 3 (by decide) (by decide) (by decide), E2 5 (by decide) (by decide) (by decide), E2 7 (by decide) (by decide) (by decide)]
    exact ⟨m1, m2, m3, m4, m5⟩
end
