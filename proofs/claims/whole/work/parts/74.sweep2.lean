/-! ===== the sweep itself ===== -/
/-- another row of marks -/
def w_r (w : W_) (m : Nat → Int) : W_ := (w.1, fun b k => if b = 14 then m k else w.2 b k)
theorem w_r1 (w : W_) (m : Nat → Int) : (w_r w m).1 = w.1 := rfl
theorem w_r2 (w : W_) (m : Nat → Int) {b : Nat} (h : b ≠ 14) : (w_r w m).2 b = w.2 b := by
  funext k
  exact if_neg h
theorem w_r14 (w : W_) (m : Nat → Int) (k : Nat) : (w_r w m).2 14 k = m k := rfl
theorem w_r_h (w : W_) (m : Nat → Int) (v : Int) (f : Nat) : w_h (w_r w m) v f = w_h w v f := by
  unfold w_h
  rw [w_r2 w m (by decide)]
theorem w_r_g (w : W_) (m : Nat → Int) (k : Int) : w_g (w_r w m) 11 k = w_g w 11 k := by
  unfold w_g
  rw [w_r2 w m (by decide)]
theorem w_r_fill (w : W_) (i j : Nat) (x : Int) : w_fill w 14 i j x = w_r w (fun k => if i ≤ k ∧ k < j then x else w.2 14 k) := by
  refine Prod.ext rfl ?_
  funext b k
  show (if b = 14 ∧ i ≤ k ∧ k < j then x else w.2 b k) = if b = 14 then (if i ≤ k ∧ k < j then x else w.2 14 k) else w.2 b k
  by_cases c : b = 14
  · subst c
    rw [if_pos rfl]
    by_cases d : i ≤ k ∧ k < j
    · rw [if_pos d, if_pos ⟨rfl, d⟩]
    · rw [if_neg d, if_neg (fun q => d q.2)]
  · rw [if_neg c, if_neg (fun q => c q.1)]
def h_mk1 (m : Nat → Int) (first x : Int) : Nat → Int := fun k => if 30000 + first ≤ x ∧ k = (x - 30000).toNat then 1 else m k
theorem w_r_mark (w : W_) (m : Nat → Int) (first x : Int) : (if 30000 + first ≤ x then w_a (w_r w m) 14 (x - 30000).toNat 1 else w_r w m) = w_r w (h_mk1 m first x) := by
  by_cases c : 30000 + first ≤ x
  · rw [if_pos c]
    refine Prod.ext rfl ?_
    funext b k
    show (if b = 14 ∧ k = (x - 30000).toNat then (1 : Int) else if b = 14 then m k else w.2 b k) = if b = 14 then (if 30000 + first ≤ x ∧ k = (x - 30000).toNat then 1 else m k) else w.2 b k
    by_cases d : b = 14
    · rw [if_pos d, if_pos d]
      by_cases e : k = (x - 30000).toNat
      · rw [if_pos ⟨d, e⟩, if_pos ⟨c, e⟩]
      · rw [if_neg (fun q => e q.2), if_neg (fun q => e q.2)]
    · rw [if_neg d, if_neg d, if_neg (fun q => d q.1)]
  · rw [if_neg c]
    have e : h_mk1 m first x = m := by
      funext k
      exact if_neg (fun q => c q.1)
    rw [e]
/-- the nodes that can be come to from the kept values -/
def h_rch (w : W_) (v : Int) : Prop := ∀ C : Int → Prop, (∀ r : Int, 0 ≤ r → r < w.1 10 1 → C (w_g w 11 (r * 61 + 2))) → (∀ i : Int, 0 ≤ i → i < w.1 13 2 → C (30000 + i) → C (w_h w (30000 + i) 1) ∧ C (w_h w (30000 + i) 2)) → C v
/-- before the sweep -/
def h_pre (w : W_) (first : Int) : Prop := (0 ≤ first ∧ first ≤ w.1 13 2 ∧ w.1 13 2 ≤ 262144) ∧ (0 ≤ w.1 10 1 ∧ w.1 10 1 ≤ 60) ∧
  (∀ r : Int, 0 ≤ r → r < w.1 10 1 → -2147483648 ≤ w_g w 11 (r * 61 + 2) ∧ w_g w 11 (r * 61 + 2) < 30000 + w.1 13 2) ∧
  (∀ i : Int, 0 ≤ i → i < w.1 13 2 → (-2147483648 ≤ w_h w (30000 + i) 1 ∧ w_h w (30000 + i) 1 < 30000 + i) ∧ -2147483648 ≤ w_h w (30000 + i) 2 ∧ w_h w (30000 + i) 2 < 30000 + i)
/-- what the marks are, at any time -/
def h_mf (w : W_) (first : Int) (m : Nat → Int) : Prop := ∀ k : Int, first ≤ k → k < w.1 13 2 → m k.toNat = 0 ∨ m k.toNat = 1 ∧ h_rch w (30000 + k)
/-- the value is marked, or needs no mark -/
def h_got (first : Int) (m : Nat → Int) (v : Int) : Prop := 30000 + first ≤ v → m (v - 30000).toNat = 1
theorem h_got_self (first : Int) (m : Nat → Int) (v : Int) : h_got first (h_mk1 m first v) v := fun c => if_pos ⟨c, rfl⟩
theorem h_mk1_keep {m : Nat → Int} {k : Nat} (h : m k = 1) (first x : Int) : h_mk1 m first x k = 1 := by
  unfold h_mk1
  split
  · rfl
  · exact h
theorem h_got.mk1 {first v : Int} {m : Nat → Int} (h : h_got first m v) (x : Int) : h_got first (h_mk1 m first x) v := fun c => h_mk1_keep (h c) first x
theorem h_mf.mk1 {w : W_} {first x : Int} {m : Nat → Int} (h : h_mf w first m) (f0 : 0 ≤ first) (hx : 30000 + first ≤ x → h_rch w x) : h_mf w first (h_mk1 m first x) := by
  intro k k0 k1
  unfold h_mk1
  by_cases c : 30000 + first ≤ x ∧ k.toNat = (x - 30000).toNat
  · rw [if_pos c]
    have e : 30000 + k = x := by omega
    rw [e]
    exact Or.inr ⟨rfl, hx c.1⟩
  · rw [if_neg c]
    exact h k k0 k1
/-- the row is marked: all that is kept, and all that is marked has its own marked -/
def h_mR (w : W_) (first : Int) (m : Nat → Int) (i : Int) : Prop := ∀ r : Int, 0 ≤ r → r < i → h_got first m (w_g w 11 (r * 61 + 2))
def h_mC (w : W_) (first : Int) (m : Nat → Int) (i : Int) : Prop := ∀ k : Int, first ≤ k → i < k → k < w.1 13 2 → m k.toNat = 1 → h_got first m (w_h w (30000 + k) 1) ∧ h_got first m (w_h w (30000 + k) 2)
set_option maxRecDepth 100000 in
set_option maxHeartbeats 4000000 in
theorem z34_17 {w : W_} {first : Int} {v3 v4 : am_V} {m0 : Nat → Int} {Q : Option am_V → W_ → Prop} (hp : h_pre w first) (hv : am_two v4 = false) (h0 : h_mf w first m0)
    (K : ∀ m, h_mf w first m → h_mR w first m (w.1 10 1) → ww_Z 2 5 4 0 cX2_sweep none Q 41 [.inr (.inr (.inl 13)), .inl first, .inr (.inr (.inl 10)), .inl (w.1 10 1), v4] [] (w_r w m)) :
    ww_Z 2 5 4 0 cX2_sweep none Q 17 [.inr (.inr (.inl 13)), .inl first, .inr (.inr (.inl 10)), .inl 0, v4] [] (w_r w m0) := by
  obtain ⟨⟨a0, a1, a2⟩, ⟨b0, b1⟩, hr, hc⟩ := hp
  refine ww_loop (P := fun n ls w' => ∃ (i : Int) (m : Nat → Int), (0 ≤ i ∧ i ≤ w.1 10 1) ∧ n = (w.1 10 1 - i).toNat ∧ h_mf w first m ∧ h_mR w first m i ∧ ls = [.inr (.inr (.inl 13)), .inl first, .inr (.inr (.inl 10)), .inl i, v4] ∧ w' = w_r w m) ?_ (w.1 10 1).toNat _ _ ⟨0, m0, ⟨by omega, b0⟩, by omega, h0, fun r r0 r1 => by omega, rfl, rfl⟩
  rintro n ls w' ⟨i, m, ⟨i0, i1⟩, hn, hm, hR, rfl, rfl⟩ ih
  refine ww_go1 (ctL_cons ok_36 (ctL_cons ok_40 (ctL_cons ok_41 ctL_nil))) 100 [17, 41] ?_
  simp only [ww_S, ww_1, wr_0, wr_1, wr_2, wr_3, wr_4, wr_5, wr_6, wr_7, wr_8, wr_9, wr_10, wr_11, wr_12, wr_13, wr_14, wr_15, wr_16, wr_17, wr_18, wr_19, wr_20, wr_21, wr_22, wr_23, wr_24, wr_25, wr_26, wr_27, wr_28, wr_29, wr_30, wr_31, wr_32, wr_33, wr_34, wr_35, wr_36, wr_37, wr_38, wr_39, wr_40, wr_41, wr_42, wr_43, wr_44, wr_45, wr_46, wr_47, wr_48, wr_49, wr_50, wr_51, wr_52, wr_53, wr_54, wr_55, wr_56, wr_57, wr_58, wr_59, wr_60, wr_61, wr_62, wr_63, wr_64, wr_65, wr_66, wr_67, wr_68, wr_69, wr_70, wr_71, wr_72, wr_73, wr_74, wr_75, wr_76, wr_77, wr_78, wr_79, wr_80, wr_81, wr_82, wr_83, wr_84, wr_85, wr_86, wr_87, ww_v1, ww_v2, ww_v3, ww_v4, ww_g0, ww_gS, ww_t0, ww_tS, ww_s0, ww_sS, ww_s2, ww_w1, ww_w2, ww_w3, ww_b, ww_tg, ww_p1, ww_p2, ww_q0, ww_qS, ww_k1, ww_k2, ww_k3, ww_w0, ww_wS, ww_i1, ww_i2, ww_f0, ww_f1, ww_f2, ww_f4, ww_fd, ww_cl, ww_mc, ww_tk, ww_ci, ww_ak, ww_gv, ww_g1, ww_kcs, w_f1, w_f2, w_a1, w_a2, w_u_at, dm_34, List.elem_nil, List.elem_cons, List.map_nil, List.map_cons, List.sum_nil, List.sum_cons, Option.toList_none, Option.toList_some, List.nil_append, List.cons_append, true_and, and_true, implies_true, false_implies, if_true, if_false, reduceIte, reduceCtorEq, Bool.false_eq_true, Bool.and_false, Bool.false_and, Bool.and_self, Bool.and_true, Bool.true_and, Nat.reduceAdd, Nat.reduceBEq, Nat.reduceEqDiff, Nat.reduceLT, Nat.reduceLeDiff, Int.reduceAdd, Int.reduceNeg, Int.reduceToNat, Int.reduceLE, Int.reduceLT, Int.reduceSub, Int.cast_ofNat_Int, Int.reduceNatCast', Int.reduceNatCast, Nat.zero_add, Int.zero_add, and_self, false_and, and_false, or_false, false_or, true_or, or_true, not_true_eq_false, not_false_eq_true, at_36, at_40, at_41, ctL_c, ctL_n, hv, w_r_g, w_r1]
  refine ⟨⟨by omega, by omega⟩, ⟨by omega, by omega⟩, fun q => ?_, fun q => ?_⟩
  · have e : i = w.1 10 1 := by omega
    subst e
    exact K m hm hR
  · have hv1 := hr i i0 (by omega)
    refine ⟨⟨i0, by omega⟩, ⟨⟨hv1.1, by omega⟩, ⟨a0, by omega⟩, by omega⟩, ?_⟩
    rw [w_r_mark]
    refine ih (w.1 10 1 - (i + 1)).toNat _ _ (by omega) ⟨i + 1, _, ⟨by omega, by omega⟩, rfl, hm.mk1 a0 (fun _ C C1 C2 => C1 i i0 (by omega)), fun r r0 r1 => ?_, rfl, rfl⟩
    by_cases c : r = i
    · rw [c]
      exact h_got_self _ _ _
    · exact (hR r r0 (by omega)).mk1 _
set_option maxRecDepth 100000 in
set_option maxHeartbeats 4000000 in
theorem z34_48 {w : W_} {first : Int} {v4 : am_V} {m0 : Nat → Int} {Q : Option am_V → W_ → Prop} (hp : h_pre w first) (hv : am_two v4 = false) (h0 : h_mf w first m0) (hR0 : h_mR w first m0 (w.1 10 1))
    (K : ∀ m, h_mf w first m → h_mR w first m (w.1 10 1) → h_mC w first m (first - 1) → ww_Z 2 5 4 0 cX2_sweep none Q 100 [.inr (.inr (.inl 13)), .inl first, .inr (.inr (.inl 10)), .inl (first - 1), v4] [] (w_r w m)) :
    ww_Z 2 5 4 0 cX2_sweep none Q 48 [.inr (.inr (.inl 13)), .inl first, .inr (.inr (.inl 10)), .inl (w.1 13 2 - 1), v4] [] (w_r w m0) := by
  obtain ⟨⟨a0, a1, a2⟩, ⟨b0, b1⟩, hr, hc⟩ := hp
  refine ww_loop (P := fun n ls w' => ∃ (i : Int) (m : Nat → Int), (first - 1 ≤ i ∧ i < w.1 13 2) ∧ n = (i + 1).toNat ∧ h_mf w first m ∧ h_mR w first m (w.1 10 1) ∧ h_mC w first m i ∧ ls = [.inr (.inr (.inl 13)), .inl first, .inr (.inr (.inl 10)), .inl i, v4] ∧ w' = w_r w m) ?_ (w.1 13 2 - 1 + 1).toNat _ _ ⟨w.1 13 2 - 1, m0, ⟨by omega, by omega⟩, rfl, h0, hR0, fun k k0 k1 k2 => by omega, rfl, rfl⟩
  rintro n ls w' ⟨i, m, ⟨i0, i1⟩, hn, hm, hR, hC, rfl, rfl⟩ ih
  refine ww_go1 (ctL_cons ok_36 (ctL_cons ok_18 (ctL_cons ok_68 ctL_nil))) 100 [48, 100] ?_
  simp only [ww_S, ww_1, wr_0, wr_1, wr_2, wr_3, wr_4, wr_5, wr_6, wr_7, wr_8, wr_9, wr_10, wr_11, wr_12, wr_13, wr_14, wr_15, wr_16, wr_17, wr_18, wr_19, wr_20, wr_21, wr_22, wr_23, wr_24, wr_25, wr_26, wr_27, wr_28, wr_29, wr_30, wr_31, wr_32, wr_33, wr_34, wr_35, wr_36, wr_37, wr_38, wr_39, wr_40, wr_41, wr_42, wr_43, wr_44, wr_45, wr_46, wr_47, wr_48, wr_49, wr_50, wr_51, wr_52, wr_53, wr_54, wr_55, wr_56, wr_57, wr_58, wr_59, wr_60, wr_61, wr_62, wr_63, wr_64, wr_65, wr_66, wr_67, wr_68, wr_69, wr_70, wr_71, wr_72, wr_73, wr_74, wr_75, wr_76, wr_77, wr_78, wr_79, wr_80, wr_81, wr_82, wr_83, wr_84, wr_85, wr_86, wr_87, ww_v1, ww_v2, ww_v3, ww_v4, ww_g0, ww_gS, ww_t0, ww_tS, ww_s0, ww_sS, ww_s2, ww_w1, ww_w2, ww_w3, ww_b, ww_tg, ww_p1, ww_p2, ww_q0, ww_qS, ww_k1, ww_k2, ww_k3, ww_w0, ww_wS, ww_i1, ww_i2, ww_f0, ww_f1, ww_f2, ww_f4, ww_fd, ww_cl, ww_mc, ww_tk, ww_ci, ww_ak, ww_gv, ww_g1, ww_kcs, w_f1, w_f2, w_a1, w_a2, w_u_at, dm_34, List.elem_nil, List.elem_cons, List.map_nil, List.map_cons, List.sum_nil, List.sum_cons, Option.toList_none, Option.toList_some, List.nil_append, List.cons_append, true_and, and_true, implies_true, false_implies, if_true, if_false, reduceIte, reduceCtorEq, Bool.false_eq_true, Bool.and_false, Bool.false_and, Bool.and_self, Bool.and_true, Bool.true_and, Nat.reduceAdd, Nat.reduceBEq, Nat.reduceEqDiff, Nat.reduceLT, Nat.reduceLeDiff, Int.reduceAdd, Int.reduceNeg, Int.reduceToNat, Int.reduceLE, Int.reduceLT, Int.reduceSub, Int.cast_ofNat_Int, Int.reduceNatCast', Int.reduceNatCast, Nat.zero_add, Int.zero_add, and_self, false_and, and_false, or_false, false_or, true_or, or_true, not_true_eq_false, not_false_eq_true, at_36, at_18, at_68, ctL_c, ctL_n, hv, w_r_h, w_r1, w_isRs, w_r_mark]
  refine ⟨⟨by omega, by omega⟩, ⟨by omega, by omega⟩, fun q => ?_, fun q => ⟨⟨by omega, by omega⟩, ?_⟩⟩
  · have e : i = first - 1 := by omega
    subst e
    exact K m hm hR hC
  · have i0' : first ≤ i := by omega
    have e14 : w_g (w_r w m) 14 i = m i.toNat := by
      rw [w_g_pos (by omega), w_r14]
    have hm1 := hm i i0' i1
    rw [e14]
    refine ⟨?_, fun q0 => ?_, fun q0 => ?_⟩
    · rcases hm1 with e | e
      · rw [e]
        exact ⟨by decide, by decide⟩
      · rw [e.1]
        exact ⟨by decide, by decide⟩
    · refine ih (i + -1 + 1).toNat _ _ (by omega) ⟨i + -1, m, ⟨by omega, by omega⟩, rfl, hm, hR, fun k k0 k1 k2 k3 => ?_, rfl, rfl⟩
      by_cases c : k = i
      · rw [c] at k3
        exact absurd k3 (by omega)
      · exact hC k k0 (by omega) k2 k3
    · have hm2 : m i.toNat = 1 ∧ h_rch w (30000 + i) := by
        rcases hm1 with e | e
        · exact absurd e q0
        · exact e
      have hci := hc i (by omega) i1
      obtain ⟨⟨l0, l1⟩, l2, l3⟩ := hci
      refine ⟨⟨by omega, by omega⟩, ⟨⟨l0, by omega⟩, ⟨a0, by omega⟩, by omega⟩, ?_⟩
      refine ⟨⟨by omega, by omega⟩, ⟨⟨l2, by omega⟩, ⟨a0, by omega⟩, by omega⟩, ?_⟩
      refine ih (i + -1 + 1).toNat _ _ (by omega) ⟨i + -1, _, ⟨by omega, by omega⟩, rfl, (hm.mk1 a0 (fun _ C C1 C2 => (C2 i (by omega) i1 (hm2.2 C C1 C2)).1)).mk1 a0 (fun _ C C1 C2 => (C2 i (by omega) i1 (hm2.2 C C1 C2)).2), fun r r0 r1 => ((hR r r0 r1).mk1 _).mk1 _, fun k k0 k1 k2 k3 => ?_, rfl, rfl⟩
      by_cases c : k = i
      · rw [c]
        exact ⟨(h_got_self _ _ _).mk1 _, h_got_self _ _ _⟩
      · have e1 : h_mk1 m first (w_h w (30000 + i) 1) k.toNat = m k.toNat := if_neg (by omega)
        have e2 : h_mk1 (h_mk1 m first (w_h w (30000 + i) 1)) first (w_h w (30000 + i) 2) k.toNat = h_mk1 m first (w_h w (30000 + i) 1) k.toNat := if_neg (by omega)
        have g := hC k k0 (by omega) k2 (by rw [← e1, ← e2]; exact k3)
        exact ⟨(g.1.mk1 _).mk1 _, (g.2.mk1 _).mk1 _⟩
