/-! ===== the sweep itself ===== -/
/-- another row of marks -/
def w_r (w : W_) (m : Nat → Int) : W_ := (w.1, fun b k => if b = 14 then m k else w.2 b k)
theorem w_r1 (w : W_) (m : Nat → Int) : (w_r w m).1 = w.1 := rfl
theorem w_r2 (w : W_) (m : Nat → Int) {b : Nat} (h : b ≠ 14) : (w_r w m).2 b = w.2 b := by
  funext k
  exact if_neg h
theorem w_r14 (w : W_) (m : Nat → Int) (k : Nat) : (w_r w m).2 14 k = m k := rfl
theorem w_r_h (w : W_) (m : Nat → Int) (v : Int) (f : Nat) : w_h (w_r w m) v f = w_h w v f := by
  unfold w_h
  rw [w_r2 w m (by decide)]
theorem w_r_g (w : W_) (m : Nat → Int) (k : Int) : w_g (w_r w m) 11 k = w_g w 11 k := by
  unfold w_g
  rw [w_r2 w m (by decide)]
theorem w_r_fill (w : W_) (i j : Nat) (x : Int) : w_fill w 14 i j x = w_r w (fun k => if i ≤ k ∧ k < j then x else w.2 14 k) := by
  refine Prod.ext rfl ?_
  funext b k
  show (if b = 14 ∧ i ≤ k ∧ k < j then x else w.2 b k) = if b = 14 then (if i ≤ k ∧ k < j then x else w.2 14 k) else w.2 b k
  by_cases c : b = 14
  · subst c
    rw [if_pos rfl]
    by_cases d : i ≤ k ∧ k < j
    · rw [if_pos d, if_pos ⟨rfl, d⟩]
    · rw [if_neg d, if_neg (fun q => d q.2)]
  · rw [if_neg c, if_neg (fun q => c q.1)]
def h_mk1 (m : Nat → Int) (first x : Int) : Nat → Int := fun k => if 30000 + first ≤ x ∧ k = (x - 30000).toNat then 1 else m k
theorem w_r_mark (w : W_) (m : Nat → Int) (first x : Int) : (if 30000 + first ≤ x then w_a (w_r w m) 14 (x - 30000).toNat 1 else w_r w m) = w_r w (h_mk1 m first x) := by
  by_cases c : 30000 + first ≤ x
  · rw [if_pos c]
    refine Prod.ext rfl ?_
    funext b k
    show (if b = 14 ∧ k = (x - 30000).toNat then (1 : Int) else if b = 14 then m k else w.2 b k) = if b = 14 then (if 30000 + first ≤ x ∧ k = (x - 30000).toNat then 1 else m k) else w.2 b k
    by_cases d : b = 14
    · rw [if_pos d, if_pos d]
      by_cases e : k = (x - 30000).toNat
      · rw [if_pos ⟨d, e⟩, if_pos ⟨c, e⟩]
      · rw [if_neg (fun q => e q.2), if_neg (fun q => e q.2)]
    · rw [if_neg d, if_neg d, if_neg (fun q => d q.1)]
  · rw [if_neg c]
    have e : h_mk1 m first x = m := by
      funext k
      exact if_neg (fun q => c q.1)
    rw [e]
/-- the nodes that can be come to from the kept values -/
def h_rch (w : W_) (v : Int) : Prop := ∀ C : Int → Prop, (∀ r : Int, 0 ≤ r → r < w.1 10 1 → C (w_g w 11 (r * 61 + 2))) → (∀ i : Int, 0 ≤ i → i < w.1 13 2 → C (30000 + i) → C (w_h w (30000 + i) 1) ∧ C (w_h w (30000 + i) 2)) → C v
/-- before the sweep -/
def h_pre (w : W_) (first : Int) : Prop := (0 ≤ first ∧ first ≤ w.1 13 2 ∧ w.1 13 2 ≤ 262144) ∧ (0 ≤ w.1 10 1 ∧ w.1 10 1 ≤ 60) ∧
  (∀ r : Int, 0 ≤ r → r < w.1 10 1 → -2147483648 ≤ w_g w 11 (r * 61 + 2) ∧ w_g w 11 (r * 61 + 2) < 30000 + w.1 13 2) ∧
  (∀ i : Int, 0 ≤ i → i < w.1 13 2 → (-2147483648 ≤ w_h w (30000 + i) 1 ∧ w_h w (30000 + i) 1 < 30000 + i) ∧ -2147483648 ≤ w_h w (30000 + i) 2 ∧ w_h w (30000 + i) 2 < 30000 + i)
/-- what the marks are, at any time -/
def h_mf (w : W_) (first : Int) (m : Nat → Int) : Prop := ∀ k : Int, first ≤ k → k < w.1 13 2 → m k.toNat = 0 ∨ m k.toNat = 1 ∧ h_rch w (30000 + k)
/-- the value is marked, or needs no mark -/
def h_got (first : Int) (m : Nat → Int) (v : Int) : Prop := 30000 + first ≤ v → m (v - 30000).toNat = 1
theorem h_got_self (first : Int) (m : Nat → Int) (v : Int) : h_got first (h_mk1 m first v) v := fun c => if_pos ⟨c, rfl⟩
theorem h_mk1_keep {m : Nat → Int} {k : Nat} (h : m k = 1) (first x : Int) : h_mk1 m first x k = 1 := by
  unfold h_mk1
  split
  · rfl
  · exact h
theorem h_got.mk1 {first v : Int} {m : Nat → Int} (h : h_got first m v) (x : Int) : h_got first (h_mk1 m first x) v := fun c => h_mk1_keep (h c) first x
theorem h_mf.mk1 {w : W_} {first x : Int} {m : Nat → Int} (h : h_mf w first m) (f0 : 0 ≤ first) (hx : 30000 + first ≤ x → h_rch w x) : h_mf w first (h_mk1 m first x) := by
  intro k k0 k1
  unfold h_mk1
  by_cases c : 30000 + first ≤ x ∧ k.toNat = (x - 30000).toNat
  · rw [if_pos c]
    have e : 30000 + k = x := by omega
    rw [e]
    exact Or.inr ⟨rfl, hx c.1⟩
  · rw [if_neg c]
    exact h k k0 k1
/-- the row is marked: all that is kept, and all that is marked has its own marked -/
def h_mR (w : W_) (first : Int) (m : Nat → Int) (i : Int) : Prop := ∀ r : Int, 0 ≤ r → r < i → h_got first m (w_g w 11 (r * 61 + 2))
def h_mC (w : W_) (first : Int) (m : Nat → Int) (i : Int) : Prop := ∀ k : Int, first ≤ k → i < k → k < w.1 13 2 → m k.toNat = 1 → h_got first m (w_h w (30000 + k) 1) ∧ h_got first m (w_h w (30000 + k) 2)
set_option maxRecDepth 100000 in
set_option maxHeartbeats 4000000 in
theorem z34_17 {w : W_} {first : Int} {v4 : am_V} {m0 : Nat → Int} {Q : Option am_V → W_ → Prop} (hp : h_pre w first) (hv : am_two v4 = false) (h0 : h_mf w first m0)
    (K : ∀ m, h_mf w first m → h_mR w first m (w.1 10 1) → ww_Z 2 5 4 0 cX2_sweep none Q 41 [.inr (.inr (.inl 13)), .inl first, .inr (.inr (.inl 10)), .inl (w.1 10 1), v4] [] (w_r w m)) :
    ww_Z 2 5 4 0 cX2_sweep none Q 17 [.inr (.inr (.inl 13)), .inl first, .inr (.inr (.inl 10)), .inl 0, v4] [] (w_r w m0) := by
  obtain ⟨⟨a0, a1, a2⟩, ⟨b0, b1⟩, hr, hc⟩ := hp
  refine ww_loop (P := fun n ls w' => ∃ (i : Int) (m : Nat → Int), (0 ≤ i ∧ i ≤ w.1 10 1) ∧ n = (w.1 10 1 - i).toNat ∧ h_mf w first m ∧ h_mR w first m i ∧ ls = [.inr (.inr (.inl 13)), .inl first, .inr (.inr (.inl 10)), .inl i, v4] ∧ w' = w_r w m) ?_ (w.1 10 1).toNat _ _ ⟨0, m0, ⟨by omega, b0⟩, by omega, h0, fun r r0 r1 => by omega, rfl, rfl⟩
  rintro n ls w' ⟨i, m, ⟨i0, i1⟩, hn, hm, hR, rfl, rfl⟩ ih
  refine ww_go1 (ctL_cons ok_36 (ctL_cons ok_40 (ctL_cons ok_41 ctL_nil))) 100 [17, 41] ?_
  simp only [ww_S, ww_1, wr_0, wr_1, wr_2, wr_3, wr_4, wr_5, wr_6, wr_7, wr_8, wr_9, wr_10, wr_11, wr_12, wr_13, wr_14, wr_15, wr_16, wr_17, wr_18, wr_19, wr_20, wr_21, wr_22, wr_23, wr_24, wr_25, wr_26, wr_27, wr_28, wr_29, wr_30, wr_31, wr_32, wr_33, wr_34, wr_35, wr_36, wr_37, wr_38, wr_39, wr_40, wr_41, wr_42, wr_43, wr_44, wr_45, wr_46, wr_47, wr_48, wr_49, wr_50, wr_51, wr_52, wr_53, wr_54, wr_55, wr_56, wr_57, wr_58, wr_59, wr_60, wr_61, wr_62, wr_63, wr_64, wr_65, wr_66, wr_67, wr_68, wr_69, wr_70, wr_71, wr_72, wr_73, wr_74, wr_75, wr_76, wr_77, wr_78, wr_79, wr_80, wr_81, wr_82, wr_83, wr_84, wr_85, wr_86, wr_87, ww_v1, ww_v2, ww_v3, ww_v4, ww_g0, ww_gS, ww_t0, ww_tS, ww_s0, ww_sS, ww_s2, ww_w1, ww_w2, ww_w3, ww_b, ww_tg, ww_p1, ww_p2, ww_q0, ww_qS, ww_k1, ww_k2, ww_k3, ww_w0, ww_wS, ww_i1, ww_i2, ww_f0, ww_f1, ww_f2, ww_f4, ww_fd, ww_cl, ww_mc, ww_tk, ww_ci, ww_ak, ww_gv, ww_g1, ww_kcs, w_f1, w_f2, w_a1, w_a2, w_u_at, dm_34, List.elem_nil, List.elem_cons, List.map_nil, List.map_cons, List.sum_nil, List.sum_cons, Option.toList_none, Option.toList_some, List.nil_append, List.cons_append, true_and, and_true, implies_true, false_implies, if_true, if_false, reduceIte, reduceCtorEq, Bool.false_eq_true, Bool.and_false, Bool.false_and, Bool.and_self, Bool.and_true, Bool.true_and, Nat.reduceAdd, Nat.reduceBEq, Nat.reduceEqDiff, Nat.reduceLT, Nat.reduceLeDiff, Int.reduceAdd, Int.reduceNeg, Int.reduceToNat, Int.reduceLE, Int.reduceLT, Int.reduceSub, Int.cast_ofNat_Int, Int.reduceNatCast', Int.reduceNatCast, Nat.zero_add, Int.zero_add, and_self, false_and, and_false, or_false, false_or, true_or, or_true, not_true_eq_false, not_false_eq_true, at_36, at_40, at_41, ctL_c, ctL_n, hv, w_r_g, w_r1]
  refine ⟨⟨by omega, by omega⟩, ⟨by omega, by omega⟩, fun q => ?_, fun q => ?_⟩
  · have e : i = w.1 10 1 := by omega
    subst e
    exact K m hm hR
  · have hv1 := hr i i0 (by omega)
    refine ⟨⟨i0, by omega⟩, ⟨⟨hv1.1, by omega⟩, ⟨a0, by omega⟩, by omega⟩, ?_⟩
    rw [w_r_mark]
    refine ih (w.1 10 1 - (i + 1)).toNat _ _ (by omega) ⟨i + 1, _, ⟨by omega, by omega⟩, rfl, hm.mk1 a0 (fun _ C C1 C2 => C1 i i0 (by omega)), fun r r0 r1 => ?_, rfl, rfl⟩
    by_cases c : r = i
    · rw [c]
      exact h_got_self _ _ _
    · exact (hR r r0 (by omega)).mk1 _
set_option maxRecDepth 100000 in
set_option maxHeartbeats 4000000 in
theorem z34_48 {w : W_} {first : Int} {v4 : am_V} {m0 : Nat → Int} {Q : Option am_V → W_ → Prop} (hp : h_pre w first) (hv : am_two v4 = false) (h0 : h_mf w first m0) (hR0 : h_mR w first m0 (w.1 10 1))
    (K : ∀ m, h_mf w first m → h_mR w first m (w.1 10 1) → h_mC w first m (first - 1) → ww_Z 2 5 4 0 cX2_sweep none Q 100 [.inr (.inr (.inl 13)), .inl first, .inr (.inr (.inl 10)), .inl (first - 1), v4] [] (w_r w m)) :
    ww_Z 2 5 4 0 cX2_sweep none Q 48 [.inr (.inr (.inl 13)), .inl first, .inr (.inr (.inl 10)), .inl (w.1 13 2 - 1), v4] [] (w_r w m0) := by
  obtain ⟨⟨a0, a1, a2⟩, ⟨b0, b1⟩, hr, hc⟩ := hp
  refine ww_loop (P := fun n ls w' => ∃ (i : Int) (m : Nat → Int), (first - 1 ≤ i ∧ i < w.1 13 2) ∧ n = (i + 1).toNat ∧ h_mf w first m ∧ h_mR w first m (w.1 10 1) ∧ h_mC w first m i ∧ ls = [.inr (.inr (.inl 13)), .inl first, .inr (.inr (.inl 10)), .inl i, v4] ∧ w' = w_r w m) ?_ (w.1 13 2 - 1 + 1).toNat _ _ ⟨w.1 13 2 - 1, m0, ⟨by omega, by omega⟩, rfl, h0, hR0, fun k k0 k1 k2 => by omega, rfl, rfl⟩
  rintro n ls w' ⟨i, m, ⟨i0, i1⟩, hn, hm, hR, hC, rfl, rfl⟩ ih
  refine ww_go1 (ctL_cons ok_36 (ctL_cons ok_18 (ctL_cons ok_68 ctL_nil))) 100 [48, 100] ?_
  simp only [ww_S, ww_1, wr_0, wr_1, wr_2, wr_3, wr_4, wr_5, wr_6, wr_7, wr_8, wr_9, wr_10, wr_11, wr_12, wr_13, wr_14, wr_15, wr_16, wr_17, wr_18, wr_19, wr_20, wr_21, wr_22, wr_23, wr_24, wr_25, wr_26, wr_27, wr_28, wr_29, wr_30, wr_31, wr_32, wr_33, wr_34, wr_35, wr_36, wr_37, wr_38, wr_39, wr_40, wr_41, wr_42, wr_43, wr_44, wr_45, wr_46, wr_47, wr_48, wr_49, wr_50, wr_51, wr_52, wr_53, wr_54, wr_55, wr_56, wr_57, wr_58, wr_59, wr_60, wr_61, wr_62, wr_63, wr_64, wr_65, wr_66, wr_67, wr_68, wr_69, wr_70, wr_71, wr_72, wr_73, wr_74, wr_75, wr_76, wr_77, wr_78, wr_79, wr_80, wr_81, wr_82, wr_83, wr_84, wr_85, wr_86, wr_87, ww_v1, ww_v2, ww_v3, ww_v4, ww_g0, ww_gS, ww_t0, ww_tS, ww_s0, ww_sS, ww_s2, ww_w1, ww_w2, ww_w3, ww_b, ww_tg, ww_p1, ww_p2, ww_q0, ww_qS, ww_k1, ww_k2, ww_k3, ww_w0, ww_wS, ww_i1, ww_i2, ww_f0, ww_f1, ww_f2, ww_f4, ww_fd, ww_cl, ww_mc, ww_tk, ww_ci, ww_ak, ww_gv, ww_g1, ww_kcs, w_f1, w_f2, w_a1, w_a2, w_u_at, dm_34, List.elem_nil, List.elem_cons, List.map_nil, List.map_cons, List.sum_nil, List.sum_cons, Option.toList_none, Option.toList_some, List.nil_append, List.cons_append, true_and, and_true, implies_true, false_implies, if_true, if_false, reduceIte, reduceCtorEq, Bool.false_eq_true, Bool.and_false, Bool.false_and, Bool.and_self, Bool.and_true, Bool.true_and, Nat.reduceAdd, Nat.reduceBEq, Nat.reduceEqDiff, Nat.reduceLT, Nat.reduceLeDiff, Int.reduceAdd, Int.reduceNeg, Int.reduceToNat, Int.reduceLE, Int.reduceLT, Int.reduceSub, Int.cast_ofNat_Int, Int.reduceNatCast', Int.reduceNatCast, Nat.zero_add, Int.zero_add, and_self, false_and, and_false, or_false, false_or, true_or, or_true, not_true_eq_false, not_false_eq_true, at_36, at_18, at_68, ctL_c, ctL_n, hv, w_r_h, w_r1, w_isRs, w_r_mark]
  refine ⟨⟨by omega, by omega⟩, ⟨by omega, by omega⟩, fun q => ?_, fun q => ⟨⟨by omega, by omega⟩, ?_⟩⟩
  · have e : i = first - 1 := by omega
    subst e
    exact K m hm hR hC
  · have i0' : first ≤ i := by omega
    have e14 : w_g (w_r w m) 14 i = m i.toNat := by
      rw [w_g_pos (by omega), w_r14]
    have hm1 := hm i i0' i1
    rw [e14]
    refine ⟨?_, fun q0 => ?_, fun q0 => ?_⟩
    · rcases hm1 with e | e
      · rw [e]
        exact ⟨by decide, by decide⟩
      · rw [e.1]
        exact ⟨by decide, by decide⟩
    · refine ih (i + -1 + 1).toNat _ _ (by omega) ⟨i + -1, m, ⟨by omega, by omega⟩, rfl, hm, hR, fun k k0 k1 k2 k3 => ?_, rfl, rfl⟩
      by_cases c : k = i
      · rw [c] at k3
        exact absurd k3 (by omega)
      · exact hC k k0 (by omega) k2 k3
    · have hm2 : m i.toNat = 1 ∧ h_rch w (30000 + i) := by
        rcases hm1 with e | e
        · exact absurd e q0
        · exact e
      have hci := hc i (by omega) i1
      obtain ⟨⟨l0, l1⟩, l2, l3⟩ := hci
      refine ⟨⟨by omega, by omega⟩, ⟨⟨l0, by omega⟩, ⟨a0, by omega⟩, by omega⟩, ?_⟩
      refine ⟨⟨by omega, by omega⟩, ⟨⟨l2, by omega⟩, ⟨a0, by omega⟩, by omega⟩, ?_⟩
      refine ih (i + -1 + 1).toNat _ _ (by omega) ⟨i + -1, _, ⟨by omega, by omega⟩, rfl, (hm.mk1 a0 (fun _ C C1 C2 => (C2 i (by omega) i1 (hm2.2 C C1 C2)).1)).mk1 a0 (fun _ C C1 C2 => (C2 i (by omega) i1 (hm2.2 C C1 C2)).2), fun r r0 r1 => ((hR r r0 r1).mk1 _).mk1 _, fun k k0 k1 k2 k3 => ?_, rfl, rfl⟩
      by_cases c : k = i
      · rw [c]
        exact ⟨(h_got_self _ _ _).mk1 _, h_got_self _ _ _⟩
      · have e1 : h_mk1 m first (w_h w (30000 + i) 1) k.toNat = m k.toNat := if_neg (by omega)
        have e2 : h_mk1 (h_mk1 m first (w_h w (30000 + i) 1)) first (w_h w (30000 + i) 2) k.toNat = h_mk1 m first (w_h w (30000 + i) 1) k.toNat := if_neg (by omega)
        have g := hC k k0 (by omega) k2 (by rw [← e1, ← e2]; exact k3)
        exact ⟨(g.1.mk1 _).mk1 _, (g.2.mk1 _).mk1 _⟩
/-- a node, and its place -/
def h_pl (w : W_) (first : Int) (m : Nat → Int) (w' : W_) (free k : Int) : Prop :=
  (m k.toNat = 0 ∧ w'.2 14 k.toNat = 0) ∨ (m k.toNat = 1 ∧ (first + 1 ≤ w'.2 14 k.toNat ∧ w'.2 14 k.toNat ≤ free ∧ w'.2 14 k.toNat ≤ k + 1) ∧ ∀ f : Int, 0 ≤ f → f < 8 → w'.2 13 (8 * (w'.2 14 k.toNat - 1) + f).toNat = (if f = 1 ∨ f = 2 then h_mvd w' first (w.2 13 (8 * k + f).toNat) else w.2 13 (8 * k + f).toNat))
/-- so far moved -/
def h_mI (w : W_) (first : Int) (m : Nat → Int) (i free : Int) (w' : W_) : Prop :=
  w'.1 = w.1 ∧ (∀ b : Nat, b ≠ 13 → b ≠ 14 → w'.2 b = w.2 b) ∧ (first ≤ free ∧ free ≤ i) ∧
  (∀ k : Int, first ≤ k → k < i → h_pl w first m w' free k) ∧
  (∀ k : Int, first ≤ k → i ≤ k → w'.2 14 k.toNat = m k.toNat) ∧
  (∀ k : Nat, (k : Int) < 8 * first ∨ 8 * i ≤ (k : Int) → w'.2 13 k = w.2 13 k) ∧
  ∀ p : Int, first ≤ p → p < free → ∃ k : Int, (first ≤ k ∧ k < i) ∧ m k.toNat = 1 ∧ w'.2 14 k.toNat = p + 1
theorem h_mI.zero {w w' : W_} {first i free : Int} {m : Nat → Int} (h : h_mI w first m i free w') (f0 : 0 ≤ first) (z : m i.toNat = 0) : h_mI w first m (i + 1) free w' := by
  obtain ⟨h1, h2, h3, h4, h5, h6, h7⟩ := h
  refine ⟨h1, h2, ⟨h3.1, by omega⟩, fun k k0 k1 => ?_, fun k k0 k1 => h5 k k0 (by omega), fun k hk => h6 k (by omega), fun p p0 p1 => ?_⟩
  · by_cases c : k = i
    · rw [c]
      exact Or.inl ⟨z, by rw [h5 i (by omega) (by omega)]; exact z⟩
    · exact h4 k k0 (by omega)
  · obtain ⟨k, k0, k1⟩ := h7 p p0 p1
    exact ⟨k, ⟨k0.1, by omega⟩, k1⟩
theorem h_mI.one {w w' : W_} {first i free : Int} {m : Nat → Int} (h : h_mI w first m i free w') (f0 : 0 ≤ first) (z : m i.toNat = 1)
    (hc : ∀ k : Int, first ≤ k → k ≤ i → ∀ f : Int, f = 1 ∨ f = 2 → w.2 13 (8 * k + f).toNat < 30000 + k) : h_mI w first m (i + 1) (free + 1) (w_a (w_mv w' i free first 8) 14 i.toNat (free + 1)) := by
  obtain ⟨h1, h2, h3, h4, h5, h6, h7⟩ := h
  have e14 : ∀ k : Nat, (w_a (w_mv w' i free first 8) 14 i.toNat (free + 1)).2 14 k = if k = i.toNat then free + 1 else w'.2 14 k := by
    intro k
    show (if (14 : Nat) = 14 ∧ k = i.toNat then free + 1 else (w_mv w' i free first 8).2 14 k) = _
    have e : (w_mv w' i free first 8).2 14 k = w'.2 14 k := by
      unfold w_mv
      dsimp only
      rw [if_neg (by omega)]
    rw [e]
    by_cases c : k = i.toNat
    · rw [if_pos c, if_pos ⟨rfl, c⟩]
    · rw [if_neg c, if_neg (fun q => c q.2)]
  have e13 : ∀ k : Nat, (w_a (w_mv w' i free first 8) 14 i.toNat (free + 1)).2 13 k = if 8 * free ≤ (k : Int) ∧ (k : Int) < 8 * free + 8 then (if (k : Int) - 8 * free = 1 ∨ (k : Int) - 8 * free = 2 then h_mvd w' first (w'.2 13 ((k : Int) - 8 * free + 8 * i).toNat) else w'.2 13 ((k : Int) - 8 * free + 8 * i).toNat) else w'.2 13 k := by
    intro k
    show (if (13 : Nat) = 14 ∧ k = i.toNat then free + 1 else (w_mv w' i free first 8).2 13 k) = _
    rw [if_neg (fun q => absurd q.1 (by decide))]
    show (if (13 : Nat) = 13 ∧ 8 * free ≤ (k : Int) ∧ (k : Int) < 8 * free + 8 then _ else _) = _
    by_cases c : 8 * free ≤ (k : Int) ∧ (k : Int) < 8 * free + 8
    · rw [if_pos c]
      exact if_pos ⟨rfl, c⟩
    · rw [if_neg c]
      exact if_neg (fun q => c q.2)
  have emv : ∀ x : Int, x < 30000 + i → h_mvd (w_a (w_mv w' i free first 8) 14 i.toNat (free + 1)) first x = h_mvd w' first x := by
    intro x hx
    unfold h_mvd
    by_cases c : x < 30000 + first
    · rw [if_pos c, if_pos c]
    · rw [if_neg c, if_neg c, e14, if_neg (by omega)]
  refine ⟨h1, fun b b1 b2 => ?_, ⟨by omega, by omega⟩, fun k k0 k1 => ?_, fun k k0 k1 => ?_, fun k hk => ?_, fun p p0 p1 => ?_⟩
  · rw [← h2 b b1 b2]
    funext k
    show (if b = 14 ∧ k = i.toNat then free + 1 else if b = 13 ∧ 8 * free ≤ (k : Int) ∧ (k : Int) < 8 * free + 8 then _ else w'.2 b k) = _
    rw [if_neg (fun q => b2 q.1), if_neg (fun q => b1 q.1)]
  · by_cases c : k = i
    · rw [c]
      refine Or.inr ⟨z, ?_, fun f g0 g1 => ?_⟩
      · rw [e14, if_pos rfl]
        exact ⟨by omega, by omega, by omega⟩
      · rw [e14, if_pos rfl, e13, if_pos (by omega)]
        have e1 : (((8 * (free + 1 - 1) + f).toNat : Int) - 8 * free + 8 * i).toNat = (8 * i + f).toNat := by omega
        have e2 : (((8 * (free + 1 - 1) + f).toNat : Int) - 8 * free) = f := by omega
        rw [e1, e2, h6 _ (Or.inr (by omega))]
        by_cases d : f = 1 ∨ f = 2
        · rw [if_pos d, if_pos d, emv _ (hc i (by omega) (by omega) f d)]
        · rw [if_neg d, if_neg d]
    · rcases h4 k k0 (by omega) with g | ⟨g1, g2, g3⟩
      · refine Or.inl ⟨g.1, ?_⟩
        rw [e14, if_neg (by omega)]
        exact g.2
      · refine Or.inr ⟨g1, ?_, fun f f1 f2 => ?_⟩
        · rw [e14, if_neg (by omega)]
          exact ⟨g2.1, by omega, g2.2.2⟩
        · rw [e14, if_neg (by omega), e13, if_neg (by omega), g3 f f1 f2]
          by_cases d : f = 1 ∨ f = 2
          · have hx := hc k k0 (by omega) f d
            rw [if_pos d, if_pos d, emv _ (by omega)]
          · rw [if_neg d, if_neg d]
  · rw [e14, if_neg (by omega)]
    exact h5 k k0 (by omega)
  · rw [e13, if_neg (by omega)]
    exact h6 k (by omega)
  · by_cases c : p = free
    · exact ⟨i, ⟨by omega, by omega⟩, z, by rw [e14, if_pos rfl, c]⟩
    · obtain ⟨k, k0, k1, k2⟩ := h7 p p0 (by omega)
      exact ⟨k, ⟨k0.1, by omega⟩, k1, by rw [e14, if_neg (by omega)]; exact k2⟩
def sp_37 : w_SP
  | [.inr (.inr (.inl 13)), .inl fr, .inl to, .inl first], w => some (3, 0 ≤ to ∧ to ≤ fr ∧ fr < w.1 13 2 ∧ w.1 13 2 ≤ 262144 ∧ 0 ≤ first ∧ first ≤ 262144 ∧ am_rg (w.2 13 (8 * fr + 1).toNat) ∧ am_rg (w.2 13 (8 * fr + 2).toNat), none, w_mv w fr to first 8)
  | _, _ => none
theorem at_37 (fr to first : Int) (w : W_) : sp_37 [.inr (.inr (.inl 13)), .inl fr, .inl to, .inl first] w = some (3, 0 ≤ to ∧ to ≤ fr ∧ fr < w.1 13 2 ∧ w.1 13 2 ≤ 262144 ∧ 0 ≤ first ∧ first ≤ 262144 ∧ am_rg (w.2 13 (8 * fr + 1).toNat) ∧ am_rg (w.2 13 (8 * fr + 2).toNat), none, w_mv w fr to first 8) := rfl
theorem ok_37 : ww_cOk1 37 sp_37 := by
  intro as w fr pre r w1 e hp
  unfold sp_37 at e
  split at e
  · cases e
    obtain ⟨p1, p2, p3, p4, p5, p6, p7, p8⟩ := hp
    exact lk_37 p1 p2 p3 p4 p5 p6 ⟨p7, p8⟩
  · cases e
set_option maxRecDepth 100000 in
set_option maxHeartbeats 4000000 in
theorem z34_105 {w w0 : W_} {first : Int} {m : Nat → Int} {Q : Option am_V → W_ → Prop} (hp : h_pre w first) (hm : h_mf w first m) (h0 : h_mI w first m first first w0)
    (K : ∀ free w', h_mI w first m (w.1 13 2) free w' → ww_Z 2 5 4 0 cX2_sweep none Q 153 [.inr (.inr (.inl 13)), .inl first, .inr (.inr (.inl 10)), .inl free, .inl (w.1 13 2)] [] w') :
    ww_Z 2 5 4 0 cX2_sweep none Q 105 [.inr (.inr (.inl 13)), .inl first, .inr (.inr (.inl 10)), .inl first, .inl first] [] w0 := by
  obtain ⟨⟨a0, a1, a2⟩, ⟨b0, b1⟩, hr, hc⟩ := hp
  refine ww_loop (P := fun n ls w' => ∃ (i free : Int), (first ≤ i ∧ i ≤ w.1 13 2) ∧ n = (w.1 13 2 - i).toNat ∧ h_mI w first m i free w' ∧ ls = [.inr (.inr (.inl 13)), .inl first, .inr (.inr (.inl 10)), .inl free, .inl i]) ?_ (w.1 13 2 - first).toNat _ _ ⟨first, first, ⟨by omega, by omega⟩, rfl, h0, rfl⟩
  rintro n ls w' ⟨i, free, ⟨i0, i1⟩, hn, hI, rfl⟩ ih
  have hI' := hI
  obtain ⟨h1, h2, h3, h4, h5, h6, h7⟩ := hI'
  have e132 : w'.1 13 2 = w.1 13 2 := by rw [h1]
  refine ww_go1 (ctL_cons ok_37 (ctL_cons ok_68 (ctL_cons ok_69 ctL_nil))) 100 [105, 153] ?_
  simp only [ww_S, ww_1, wr_0, wr_1, wr_2, wr_3, wr_4, wr_5, wr_6, wr_7, wr_8, wr_9, wr_10, wr_11, wr_12, wr_13, wr_14, wr_15, wr_16, wr_17, wr_18, wr_19, wr_20, wr_21, wr_22, wr_23, wr_24, wr_25, wr_26, wr_27, wr_28, wr_29, wr_30, wr_31, wr_32, wr_33, wr_34, wr_35, wr_36, wr_37, wr_38, wr_39, wr_40, wr_41, wr_42, wr_43, wr_44, wr_45, wr_46, wr_47, wr_48, wr_49, wr_50, wr_51, wr_52, wr_53, wr_54, wr_55, wr_56, wr_57, wr_58, wr_59, wr_60, wr_61, wr_62, wr_63, wr_64, wr_65, wr_66, wr_67, wr_68, wr_69, wr_70, wr_71, wr_72, wr_73, wr_74, wr_75, wr_76, wr_77, wr_78, wr_79, wr_80, wr_81, wr_82, wr_83, wr_84, wr_85, wr_86, wr_87, ww_v1, ww_v2, ww_v3, ww_v4, ww_g0, ww_gS, ww_t0, ww_tS, ww_s0, ww_sS, ww_s2, ww_w1, ww_w2, ww_w3, ww_b, ww_tg, ww_p1, ww_p2, ww_q0, ww_qS, ww_k1, ww_k2, ww_k3, ww_w0, ww_wS, ww_i1, ww_i2, ww_f0, ww_f1, ww_f2, ww_f4, ww_fd, ww_cl, ww_mc, ww_tk, ww_ci, ww_ak, ww_gv, ww_g1, ww_kcs, w_f1, w_f2, w_a1, w_a2, w_u_at, dm_34, List.elem_nil, List.elem_cons, List.map_nil, List.map_cons, List.sum_nil, List.sum_cons, Option.toList_none, Option.toList_some, List.nil_append, List.cons_append, true_and, and_true, implies_true, false_implies, if_true, if_false, reduceIte, reduceCtorEq, Bool.false_eq_true, Bool.and_false, Bool.false_and, Bool.and_self, Bool.and_true, Bool.true_and, Nat.reduceAdd, Nat.reduceBEq, Nat.reduceEqDiff, Nat.reduceLT, Nat.reduceLeDiff, Int.reduceAdd, Int.reduceNeg, Int.reduceToNat, Int.reduceLE, Int.reduceLT, Int.reduceSub, Int.cast_ofNat_Int, Int.reduceNatCast', Int.reduceNatCast, Nat.zero_add, Int.zero_add, and_self, false_and, and_false, or_false, false_or, true_or, or_true, not_true_eq_false, not_false_eq_true, at_37, at_68, at_69, ctL_c, ctL_n, w_isRs, w_bds, e132]
  have hh : ∀ k : Int, 0 ≤ k → w.2 13 (8 * k + 1).toNat = w_h w (30000 + k) 1 ∧ w.2 13 (8 * k + 2).toNat = w_h w (30000 + k) 2 := by
    intro k k0
    unfold w_h
    have e1 : ((30000 + k - 30000) * 8 + ((1 : Nat) : Int)).toNat = (8 * k + 1).toNat := by omega
    have e2 : ((30000 + k - 30000) * 8 + ((2 : Nat) : Int)).toNat = (8 * k + 2).toNat := by omega
    rw [if_neg (by omega), if_neg (by omega), e1, e2]
    exact ⟨rfl, rfl⟩
  refine ⟨⟨by omega, by omega⟩, ⟨by omega, by omega⟩, fun q => ?_, fun q => ⟨⟨by omega, by omega⟩, ?_⟩⟩
  · have e : i = w.1 13 2 := by omega
    subst e
    exact K free w' hI
  · have e14 : w_g w' 14 i = m i.toNat := by
      rw [w_g_pos (by omega), h5 i i0 (Int.le_refl _)]
    have hm1 := hm i i0 (by omega)
    rw [e14]
    refine ⟨?_, fun q0 => ?_, fun q0 => ?_⟩
    · rcases hm1 with e | e
      · rw [e]
        exact ⟨by decide, by decide⟩
      · rw [e.1]
        exact ⟨by decide, by decide⟩
    · exact ih (w.1 13 2 - (i + 1)).toNat _ _ (by omega) ⟨i + 1, free, ⟨by omega, by omega⟩, rfl, hI.zero a0 q0, rfl⟩
    · have hm2 : m i.toNat = 1 := by
        rcases hm1 with e | e
        · exact absurd e q0
        · exact e.1
      have hci := hc i (by omega) (by omega)
      have hhi := hh i (by omega)
      obtain ⟨⟨l0, l1⟩, l2, l3⟩ := hci
      rw [h6 _ (Or.inr (by omega)), h6 _ (Or.inr (by omega)), hhi.1, hhi.2]
      refine ⟨⟨by omega, by omega, by omega, by omega, by omega, by omega, ⟨l0, by omega⟩, l2, by omega⟩, ?_⟩
      have hone := hI.one a0 hm2 (fun k k0 k1 f hf => by
        have hk := hh k (by omega)
        have hck := hc k (by omega) (by omega)
        rcases hf with rfl | rfl
        · rw [hk.1]
          exact hck.1.2
        · rw [hk.2]
          exact hck.2.2)
      refine ⟨⟨by omega, by omega⟩, ?_⟩
      exact ih (w.1 13 2 - (i + 1)).toNat _ _ (by omega) ⟨i + 1, free + 1, ⟨by omega, by omega⟩, rfl, hone, rfl⟩
/-- the records' values, the first j of them moved -/
def w_rv (w : W_) (first : Int) (j : Int) : W_ := (w.1, fun b k => if b = 11 ∧ k % 61 = 2 ∧ ((k / 61 : Nat) : Int) < j then h_mvd w first (w.2 11 k) else w.2 b k)
theorem w_rv_14 (w : W_) (first j : Int) (k : Nat) : (w_rv w first j).2 14 k = w.2 14 k := by
  unfold w_rv
  dsimp only
  rw [if_neg (by omega)]
theorem w_rv_mvd (w : W_) (first j : Int) (x : Int) : h_mvd (w_rv w first j) first x = h_mvd w first x := by
  unfold h_mvd
  rw [w_rv_14]
theorem w_rv_S (w : W_) (first j : Int) (h0 : 0 ≤ j) (x : Int) (hx : x = h_mvd w first (w_g w 11 (j * 61 + 2))) : w_a (w_rv w first j) 11 (j * 61 + 2).toNat x = w_rv w first (j + 1) := by
  subst hx
  rw [w_g_pos (by omega)]
  refine Prod.ext rfl ?_
  funext b k
  show (if b = 11 ∧ k = (j * 61 + 2).toNat then h_mvd w first (w.2 11 (j * 61 + 2).toNat) else if b = 11 ∧ k % 61 = 2 ∧ ((k / 61 : Nat) : Int) < j then h_mvd w first (w.2 11 k) else w.2 b k) = if b = 11 ∧ k % 61 = 2 ∧ ((k / 61 : Nat) : Int) < j + 1 then h_mvd w first (w.2 11 k) else w.2 b k
  by_cases c : b = 11 ∧ k = (j * 61 + 2).toNat
  · rw [if_pos c, if_pos ⟨c.1, by omega, by omega⟩, c.2]
  · rw [if_neg c]
    by_cases d : b = 11 ∧ k % 61 = 2 ∧ ((k / 61 : Nat) : Int) < j
    · rw [if_pos d, if_pos ⟨d.1, d.2.1, by omega⟩]
    · rw [if_neg d, if_neg (fun q => d ⟨q.1, q.2.1, by
        apply Int.lt_of_not_ge
        intro z
        exact c ⟨q.1, by omega⟩⟩)]
theorem w_rv_g (w : W_) (first j : Int) (h0 : 0 ≤ j) : w_g (w_rv w first j) 11 (j * 61 + 2) = w_g w 11 (j * 61 + 2) := by
  rw [w_g_pos (by omega), w_g_pos (by omega)]
  unfold w_rv
  dsimp only
  rw [if_neg (by omega)]
set_option maxRecDepth 100000 in
set_option maxHeartbeats 4000000 in
theorem z34_153 {w : W_} {first free : Int} {v4 : am_V} {Q : Option am_V → W_ → Prop} (f0 : 0 ≤ first) (f1 : first ≤ 262144) (n0 : 0 ≤ w.1 10 1) (n1 : w.1 10 1 ≤ 60)
    (hfc : free ≤ w.1 13 2) (hr : ∀ r : Int, 0 ≤ r → r < w.1 10 1 → am_rg (w_g w 11 (r * 61 + 2))) (hv : am_two v4 = false)
    (K : Q none (w_f (w_f (w_rv w first (w.1 10 1)) 13 2 free) 13 3 free)) :
    ww_Z 2 5 4 0 cX2_sweep none Q 153 [.inr (.inr (.inl 13)), .inl first, .inr (.inr (.inl 10)), .inl free, v4] [] w := by
  refine ww_go1 (ctL_cons ok_38 (ctL_cons ok_40 (ctL_cons ok_41 (ctL_cons ok_42 ctL_nil)))) 100 [156] ?_
  simp only [ww_S, ww_1, wr_0, wr_1, wr_2, wr_3, wr_4, wr_5, wr_6, wr_7, wr_8, wr_9, wr_10, wr_11, wr_12, wr_13, wr_14, wr_15, wr_16, wr_17, wr_18, wr_19, wr_20, wr_21, wr_22, wr_23, wr_24, wr_25, wr_26, wr_27, wr_28, wr_29, wr_30, wr_31, wr_32, wr_33, wr_34, wr_35, wr_36, wr_37, wr_38, wr_39, wr_40, wr_41, wr_42, wr_43, wr_44, wr_45, wr_46, wr_47, wr_48, wr_49, wr_50, wr_51, wr_52, wr_53, wr_54, wr_55, wr_56, wr_57, wr_58, wr_59, wr_60, wr_61, wr_62, wr_63, wr_64, wr_65, wr_66, wr_67, wr_68, wr_69, wr_70, wr_71, wr_72, wr_73, wr_74, wr_75, wr_76, wr_77, wr_78, wr_79, wr_80, wr_81, wr_82, wr_83, wr_84, wr_85, wr_86, wr_87, ww_v1, ww_v2, ww_v3, ww_v4, ww_g0, ww_gS, ww_t0, ww_tS, ww_s0, ww_sS, ww_s2, ww_w1, ww_w2, ww_w3, ww_b, ww_tg, ww_p1, ww_p2, ww_q0, ww_qS, ww_k1, ww_k2, ww_k3, ww_w0, ww_wS, ww_i1, ww_i2, ww_f0, ww_f1, ww_f2, ww_f4, ww_fd, ww_cl, ww_mc, ww_tk, ww_ci, ww_ak, ww_gv, ww_g1, ww_kcs, w_f1, w_f2, w_a1, w_a2, w_u_at, dm_34, List.elem_nil, List.elem_cons, List.map_nil, List.map_cons, List.sum_nil, List.sum_cons, Option.toList_none, Option.toList_some, List.nil_append, List.cons_append, true_and, and_true, implies_true, false_implies, if_true, if_false, reduceIte, reduceCtorEq, Bool.false_eq_true, Bool.and_false, Bool.false_and, Bool.and_self, Bool.and_true, Bool.true_and, Nat.reduceAdd, Nat.reduceBEq, Nat.reduceEqDiff, Nat.reduceLT, Nat.reduceLeDiff, Int.reduceAdd, Int.reduceNeg, Int.reduceToNat, Int.reduceLE, Int.reduceLT, Int.reduceSub, Int.cast_ofNat_Int, Int.reduceNatCast', Int.reduceNatCast, Nat.zero_add, Int.zero_add, and_self, false_and, and_false, or_false, false_or, true_or, or_true, not_true_eq_false, not_false_eq_true, at_38, at_40, at_41, at_42, ctL_c, ctL_n, hv]
  refine ww_loop (P := fun n ls w' => ∃ j : Int, (0 ≤ j ∧ j ≤ w.1 10 1) ∧ n = (w.1 10 1 - j).toNat ∧ w' = w_rv w first j ∧ ls = [.inr (.inr (.inl 13)), .inl first, .inr (.inr (.inl 10)), .inl free, .inl j]) ?_ (w.1 10 1).toNat _ _ ⟨0, ⟨by omega, n0⟩, by omega, ?_, rfl⟩
  · rintro n ls w' ⟨j, ⟨j0, j1⟩, hn, rfl, rfl⟩ ih
    have e1 : (w_rv w first j).1 = w.1 := rfl
    refine ww_go1 (ctL_cons ok_38 (ctL_cons ok_40 (ctL_cons ok_41 (ctL_cons ok_42 ctL_nil)))) 100 [156] ?_
    simp only [ww_S, ww_1, wr_0, wr_1, wr_2, wr_3, wr_4, wr_5, wr_6, wr_7, wr_8, wr_9, wr_10, wr_11, wr_12, wr_13, wr_14, wr_15, wr_16, wr_17, wr_18, wr_19, wr_20, wr_21, wr_22, wr_23, wr_24, wr_25, wr_26, wr_27, wr_28, wr_29, wr_30, wr_31, wr_32, wr_33, wr_34, wr_35, wr_36, wr_37, wr_38, wr_39, wr_40, wr_41, wr_42, wr_43, wr_44, wr_45, wr_46, wr_47, wr_48, wr_49, wr_50, wr_51, wr_52, wr_53, wr_54, wr_55, wr_56, wr_57, wr_58, wr_59, wr_60, wr_61, wr_62, wr_63, wr_64, wr_65, wr_66, wr_67, wr_68, wr_69, wr_70, wr_71, wr_72, wr_73, wr_74, wr_75, wr_76, wr_77, wr_78, wr_79, wr_80, wr_81, wr_82, wr_83, wr_84, wr_85, wr_86, wr_87, ww_v1, ww_v2, ww_v3, ww_v4, ww_g0, ww_gS, ww_t0, ww_tS, ww_s0, ww_sS, ww_s2, ww_w1, ww_w2, ww_w3, ww_b, ww_tg, ww_p1, ww_p2, ww_q0, ww_qS, ww_k1, ww_k2, ww_k3, ww_w0, ww_wS, ww_i1, ww_i2, ww_f0, ww_f1, ww_f2, ww_f4, ww_fd, ww_cl, ww_mc, ww_tk, ww_ci, ww_ak, ww_gv, ww_g1, ww_kcs, w_f1, w_f2, w_a1, w_a2, w_u_at, dm_34, List.elem_nil, List.elem_cons, List.map_nil, List.map_cons, List.sum_nil, List.sum_cons, Option.toList_none, Option.toList_some, List.nil_append, List.cons_append, true_and, and_true, implies_true, false_implies, if_true, if_false, reduceIte, reduceCtorEq, Bool.false_eq_true, Bool.and_false, Bool.false_and, Bool.and_self, Bool.and_true, Bool.true_and, Nat.reduceAdd, Nat.reduceBEq, Nat.reduceEqDiff, Nat.reduceLT, Nat.reduceLeDiff, Int.reduceAdd, Int.reduceNeg, Int.reduceToNat, Int.reduceLE, Int.reduceLT, Int.reduceSub, Int.cast_ofNat_Int, Int.reduceNatCast', Int.reduceNatCast, Nat.zero_add, Int.zero_add, and_self, false_and, and_false, or_false, false_or, true_or, or_true, not_true_eq_false, not_false_eq_true, at_38, at_40, at_41, at_42, ctL_c, ctL_n, e1, w_rv_mvd, w_rv_g w first j j0]
    refine ⟨⟨by omega, by omega⟩, ⟨by omega, by omega⟩, fun q => ?_, fun q => ⟨⟨by omega, by omega⟩, ⟨hr j j0 (by omega), f0, f1⟩, ⟨by omega, by omega⟩, ?_⟩⟩
    · have e : j = w.1 10 1 := by omega
      subst e
      exact ⟨hfc, K⟩
    · rw [w_rv_S w first j j0 _ rfl]
      exact ih (w.1 10 1 - (j + 1)).toNat _ _ (by omega) ⟨j + 1, ⟨by omega, by omega⟩, rfl, rfl, rfl⟩
  · refine Prod.ext rfl ?_
    funext b k
    show w.2 b k = if b = 11 ∧ k % 61 = 2 ∧ ((k / 61 : Nat) : Int) < 0 then _ else w.2 b k
    rw [if_neg (by omega)]
/-- behind the sweep -/
def h_sw (w : W_) (first : Int) (w' : W_) : Prop := ∃ (free : Int) (m : Nat → Int),
  w'.1 = (w_f (w_f w 13 2 free) 13 3 free).1 ∧ (∀ b : Nat, b ≠ 11 → b ≠ 13 → b ≠ 14 → w'.2 b = w.2 b) ∧ (first ≤ free ∧ free ≤ w.1 13 2) ∧
  (∀ k : Nat, w'.2 11 k = if k % 61 = 2 ∧ ((k / 61 : Nat) : Int) < w.1 10 1 then h_mvd w' first (w.2 11 k) else w.2 11 k) ∧
  (∀ k : Int, first ≤ k → k < w.1 13 2 → h_pl w first m w' free k) ∧
  (∀ k : Nat, (k : Int) < 8 * first → w'.2 13 k = w.2 13 k) ∧
  (∀ p : Int, first ≤ p → p < free → ∃ k : Int, (first ≤ k ∧ k < w.1 13 2) ∧ m k.toNat = 1 ∧ w'.2 14 k.toNat = p + 1) ∧
  h_mf w first m ∧ h_mR w first m (w.1 10 1) ∧ h_mC w first m (first - 1)
set_option maxRecDepth 100000 in
set_option maxHeartbeats 4000000 in
theorem lk_34 {w : W_} {first : Int} (hp : h_pre w first) : ww_Ct 34 4 [.inr (.inr (.inl 13)), .inl first, .inr (.inr (.inl 10))] w fun r w' => r = none ∧ h_sw w first w' := by
  have hp' := hp
  obtain ⟨⟨a0, a1, a2⟩, ⟨b0, b1⟩, hr, hc⟩ := hp'
  refine of_34 (ww_go (ctL_cons ok_70 ctL_nil) 100 [17] ?_)
  simp only [ww_S, ww_1, wr_0, wr_1, wr_2, wr_3, wr_4, wr_5, wr_6, wr_7, wr_8, wr_9, wr_10, wr_11, wr_12, wr_13, wr_14, wr_15, wr_16, wr_17, wr_18, wr_19, wr_20, wr_21, wr_22, wr_23, wr_24, wr_25, wr_26, wr_27, wr_28, wr_29, wr_30, wr_31, wr_32, wr_33, wr_34, wr_35, wr_36, wr_37, wr_38, wr_39, wr_40, wr_41, wr_42, wr_43, wr_44, wr_45, wr_46, wr_47, wr_48, wr_49, wr_50, wr_51, wr_52, wr_53, wr_54, wr_55, wr_56, wr_57, wr_58, wr_59, wr_60, wr_61, wr_62, wr_63, wr_64, wr_65, wr_66, wr_67, wr_68, wr_69, wr_70, wr_71, wr_72, wr_73, wr_74, wr_75, wr_76, wr_77, wr_78, wr_79, wr_80, wr_81, wr_82, wr_83, wr_84, wr_85, wr_86, wr_87, ww_v1, ww_v2, ww_v3, ww_v4, ww_g0, ww_gS, ww_t0, ww_tS, ww_s0, ww_sS, ww_s2, ww_w1, ww_w2, ww_w3, ww_b, ww_tg, ww_p1, ww_p2, ww_q0, ww_qS, ww_k1, ww_k2, ww_k3, ww_w0, ww_wS, ww_i1, ww_i2, ww_f0, ww_f1, ww_f2, ww_f4, ww_fd, ww_cl, ww_mc, ww_tk, ww_ci, ww_ak, ww_gv, ww_g1, ww_kcs, w_f1, w_f2, w_a1, w_a2, w_u_at, dm_34, List.elem_nil, List.elem_cons, List.map_nil, List.map_cons, List.sum_nil, List.sum_cons, Option.toList_none, Option.toList_some, List.nil_append, List.cons_append, true_and, and_true, implies_true, false_implies, if_true, if_false, reduceIte, reduceCtorEq, Bool.false_eq_true, Bool.and_false, Bool.false_and, Bool.and_self, Bool.and_true, Bool.true_and, Nat.reduceAdd, Nat.reduceBEq, Nat.reduceEqDiff, Nat.reduceLT, Nat.reduceLeDiff, Int.reduceAdd, Int.reduceNeg, Int.reduceToNat, Int.reduceLE, Int.reduceLT, Int.reduceSub, Int.cast_ofNat_Int, Int.reduceNatCast', Int.reduceNatCast, Nat.zero_add, Int.zero_add, and_self, false_and, and_false, or_false, false_or, true_or, or_true, not_true_eq_false, not_false_eq_true, at_70, ctL_c, ctL_n, w_isRs, w_bds, w_r_fill]
  refine ⟨⟨by omega, by omega, by omega⟩, ?_⟩
  refine z34_17 hp rfl (fun k k0 k1 => Or.inl (if_pos (by omega))) fun m1 hm1 hR1 => ?_
  refine ww_go1 (ctL_cons ok_70 ctL_nil) 100 [48] ?_
  simp only [ww_S, ww_1, wr_0, wr_1, wr_2, wr_3, wr_4, wr_5, wr_6, wr_7, wr_8, wr_9, wr_10, wr_11, wr_12, wr_13, wr_14, wr_15, wr_16, wr_17, wr_18, wr_19, wr_20, wr_21, wr_22, wr_23, wr_24, wr_25, wr_26, wr_27, wr_28, wr_29, wr_30, wr_31, wr_32, wr_33, wr_34, wr_35, wr_36, wr_37, wr_38, wr_39, wr_40, wr_41, wr_42, wr_43, wr_44, wr_45, wr_46, wr_47, wr_48, wr_49, wr_50, wr_51, wr_52, wr_53, wr_54, wr_55, wr_56, wr_57, wr_58, wr_59, wr_60, wr_61, wr_62, wr_63, wr_64, wr_65, wr_66, wr_67, wr_68, wr_69, wr_70, wr_71, wr_72, wr_73, wr_74, wr_75, wr_76, wr_77, wr_78, wr_79, wr_80, wr_81, wr_82, wr_83, wr_84, wr_85, wr_86, wr_87, ww_v1, ww_v2, ww_v3, ww_v4, ww_g0, ww_gS, ww_t0, ww_tS, ww_s0, ww_sS, ww_s2, ww_w1, ww_w2, ww_w3, ww_b, ww_tg, ww_p1, ww_p2, ww_q0, ww_qS, ww_k1, ww_k2, ww_k3, ww_w0, ww_wS, ww_i1, ww_i2, ww_f0, ww_f1, ww_f2, ww_f4, ww_fd, ww_cl, ww_mc, ww_tk, ww_ci, ww_ak, ww_gv, ww_g1, ww_kcs, w_f1, w_f2, w_a1, w_a2, w_u_at, dm_34, List.elem_nil, List.elem_cons, List.map_nil, List.map_cons, List.sum_nil, List.sum_cons, Option.toList_none, Option.toList_some, List.nil_append, List.cons_append, true_and, and_true, implies_true, false_implies, if_true, if_false, reduceIte, reduceCtorEq, Bool.false_eq_true, Bool.and_false, Bool.false_and, Bool.and_self, Bool.and_true, Bool.true_and, Nat.reduceAdd, Nat.reduceBEq, Nat.reduceEqDiff, Nat.reduceLT, Nat.reduceLeDiff, Int.reduceAdd, Int.reduceNeg, Int.reduceToNat, Int.reduceLE, Int.reduceLT, Int.reduceSub, Int.cast_ofNat_Int, Int.reduceNatCast', Int.reduceNatCast, Nat.zero_add, Int.zero_add, and_self, false_and, and_false, or_false, false_or, true_or, or_true, not_true_eq_false, not_false_eq_true, at_70, ctL_c, ctL_n, w_r1]
  refine z34_48 hp rfl hm1 hR1 fun m hm hR hC => ?_
  refine ww_go1 (ctL_cons ok_70 ctL_nil) 100 [105] ?_
  simp only [ww_S, ww_1, wr_0, wr_1, wr_2, wr_3, wr_4, wr_5, wr_6, wr_7, wr_8, wr_9, wr_10, wr_11, wr_12, wr_13, wr_14, wr_15, wr_16, wr_17, wr_18, wr_19, wr_20, wr_21, wr_22, wr_23, wr_24, wr_25, wr_26, wr_27, wr_28, wr_29, wr_30, wr_31, wr_32, wr_33, wr_34, wr_35, wr_36, wr_37, wr_38, wr_39, wr_40, wr_41, wr_42, wr_43, wr_44, wr_45, wr_46, wr_47, wr_48, wr_49, wr_50, wr_51, wr_52, wr_53, wr_54, wr_55, wr_56, wr_57, wr_58, wr_59, wr_60, wr_61, wr_62, wr_63, wr_64, wr_65, wr_66, wr_67, wr_68, wr_69, wr_70, wr_71, wr_72, wr_73, wr_74, wr_75, wr_76, wr_77, wr_78, wr_79, wr_80, wr_81, wr_82, wr_83, wr_84, wr_85, wr_86, wr_87, ww_v1, ww_v2, ww_v3, ww_v4, ww_g0, ww_gS, ww_t0, ww_tS, ww_s0, ww_sS, ww_s2, ww_w1, ww_w2, ww_w3, ww_b, ww_tg, ww_p1, ww_p2, ww_q0, ww_qS, ww_k1, ww_k2, ww_k3, ww_w0, ww_wS, ww_i1, ww_i2, ww_f0, ww_f1, ww_f2, ww_f4, ww_fd, ww_cl, ww_mc, ww_tk, ww_ci, ww_ak, ww_gv, ww_g1, ww_kcs, w_f1, w_f2, w_a1, w_a2, w_u_at, dm_34, List.elem_nil, List.elem_cons, List.map_nil, List.map_cons, List.sum_nil, List.sum_cons, Option.toList_none, Option.toList_some, List.nil_append, List.cons_append, true_and, and_true, implies_true, false_implies, if_true, if_false, reduceIte, reduceCtorEq, Bool.false_eq_true, Bool.and_false, Bool.false_and, Bool.and_self, Bool.and_true, Bool.true_and, Nat.reduceAdd, Nat.reduceBEq, Nat.reduceEqDiff, Nat.reduceLT, Nat.reduceLeDiff, Int.reduceAdd, Int.reduceNeg, Int.reduceToNat, Int.reduceLE, Int.reduceLT, Int.reduceSub, Int.cast_ofNat_Int, Int.reduceNatCast', Int.reduceNatCast, Nat.zero_add, Int.zero_add, and_self, false_and, and_false, or_false, false_or, true_or, or_true, not_true_eq_false, not_false_eq_true, at_70, ctL_c, ctL_n, w_r1]
  refine z34_105 hp hm ⟨rfl, fun b b1 b2 => w_r2 w m b2, ⟨Int.le_refl _, Int.le_refl _⟩, fun k k0 k1 => by omega, fun k k0 k1 => rfl, fun k _ => by rw [w_r2 w m (by decide)], fun p p0 p1 => by omega⟩ fun free w2 hI => ?_
  obtain ⟨h1, h2, h3, h4, h5, h6, h7⟩ := hI
  have e11 : w2.2 11 = w.2 11 := h2 11 (by decide) (by decide)
  have eg : ∀ k, w_g w2 11 k = w_g w 11 k := fun k => by
    unfold w_g
    rw [e11]
  have emv : ∀ x, h_mvd (w_f (w_f (w_rv w2 first (w2.1 10 1)) 13 2 free) 13 3 free) first x = h_mvd w2 first x := fun x => w_rv_mvd w2 first (w2.1 10 1) x
  have e14 : ∀ k, (w_f (w_f (w_rv w2 first (w2.1 10 1)) 13 2 free) 13 3 free).2 14 k = w2.2 14 k := fun k => w_rv_14 w2 first (w2.1 10 1) k
  have ene : ∀ (b : Nat), b ≠ 11 → ∀ k, (w_f (w_f (w_rv w2 first (w2.1 10 1)) 13 2 free) 13 3 free).2 b k = w2.2 b k := fun b hb k => by
    show (w_rv w2 first (w2.1 10 1)).2 b k = w2.2 b k
    unfold w_rv
    dsimp only
    rw [if_neg (fun q => hb q.1)]
  refine z34_153 a0 (by omega) (by rw [h1]; exact b0) (by rw [h1]; exact b1) (by rw [h1]; exact h3.2) (fun r r0 r1 => ?_) rfl ⟨rfl, free, m, ?_, fun b c1 c2 c3 => ?_, h3, fun k => ?_, fun k k0 k1 => ?_, fun k k0 => ?_, fun p p0 p1 => ?_, hm, hR, hC⟩
  · rw [h1] at r1
    rw [eg]
    have g := hr r r0 r1
    exact ⟨g.1, by omega⟩
  · show w_u (w_u w2.1 13 2 free) 13 3 free = w_u (w_u w.1 13 2 free) 13 3 free
    rw [h1]
  · funext k
    rw [ene b c1, h2 b c2 c3]
  · rw [emv, ← e11, ← h1]
    show (if (11 : Nat) = 11 ∧ k % 61 = 2 ∧ ((k / 61 : Nat) : Int) < w2.1 10 1 then h_mvd w2 first (w2.2 11 k) else w2.2 11 k) = _
    by_cases c : k % 61 = 2 ∧ ((k / 61 : Nat) : Int) < w2.1 10 1
    · rw [if_pos c, if_pos ⟨rfl, c⟩]
    · rw [if_neg c, if_neg (fun q => c q.2)]
  · rcases h4 k k0 k1 with g | ⟨g1, g2, g3⟩
    · exact Or.inl ⟨g.1, by rw [e14]; exact g.2⟩
    · refine Or.inr ⟨g1, by rw [e14]; exact g2, fun f f1 f2 => ?_⟩
      rw [e14, ene 13 (by decide), emv]
      exact g3 f f1 f2
  · rw [ene 13 (by decide)]
    exact h6 k (Or.inl k0)
  · obtain ⟨k, k0, k1, k2⟩ := h7 p p0 p1
    exact ⟨k, k0, k1, by rw [e14]; exact k2⟩
set_option maxRecDepth 100000 in
set_option maxHeartbeats 4000000 in
theorem lk_35 {w : W_} (hp : h_pre w (w.1 13 3)) : ww_Ct 35 5 [.inr (.inr (.inl 13)), .inr (.inr (.inl 10))] w fun r w' => r = none ∧ h_sw w (w.1 13 3) w' := by
  refine of_35 (ww_go (ctL_cons ok_70 ctL_nil) 100 [] ?_)
  simp only [ww_S, ww_1, wr_0, wr_1, wr_2, wr_3, wr_4, wr_5, wr_6, wr_7, wr_8, wr_9, wr_10, wr_11, wr_12, wr_13, wr_14, wr_15, wr_16, wr_17, wr_18, wr_19, wr_20, wr_21, wr_22, wr_23, wr_24, wr_25, wr_26, wr_27, wr_28, wr_29, wr_30, wr_31, wr_32, wr_33, wr_34, wr_35, wr_36, wr_37, wr_38, wr_39, wr_40, wr_41, wr_42, wr_43, wr_44, wr_45, wr_46, wr_47, wr_48, wr_49, wr_50, wr_51, wr_52, wr_53, wr_54, wr_55, wr_56, wr_57, wr_58, wr_59, wr_60, wr_61, wr_62, wr_63, wr_64, wr_65, wr_66, wr_67, wr_68, wr_69, wr_70, wr_71, wr_72, wr_73, wr_74, wr_75, wr_76, wr_77, wr_78, wr_79, wr_80, wr_81, wr_82, wr_83, wr_84, wr_85, wr_86, wr_87, ww_v1, ww_v2, ww_v3, ww_v4, ww_g0, ww_gS, ww_t0, ww_tS, ww_s0, ww_sS, ww_s2, ww_w1, ww_w2, ww_w3, ww_b, ww_tg, ww_p1, ww_p2, ww_q0, ww_qS, ww_k1, ww_k2, ww_k3, ww_w0, ww_wS, ww_i1, ww_i2, ww_f0, ww_f1, ww_f2, ww_f4, ww_fd, ww_cl, ww_mc, ww_tk, ww_ci, ww_ak, ww_gv, ww_g1, ww_kcs, w_f1, w_f2, w_a1, w_a2, w_u_at, dm_35, List.elem_nil, List.elem_cons, List.map_nil, List.map_cons, List.sum_nil, List.sum_cons, Option.toList_none, Option.toList_some, List.nil_append, List.cons_append, true_and, and_true, implies_true, false_implies, if_true, if_false, reduceIte, reduceCtorEq, Bool.false_eq_true, Bool.and_false, Bool.false_and, Bool.and_self, Bool.and_true, Bool.true_and, Nat.reduceAdd, Nat.reduceBEq, Nat.reduceEqDiff, Nat.reduceLT, Nat.reduceLeDiff, Int.reduceAdd, Int.reduceNeg, Int.reduceToNat, Int.reduceLE, Int.reduceLT, Int.reduceSub, Int.cast_ofNat_Int, Int.reduceNatCast', Int.reduceNatCast, Nat.zero_add, Int.zero_add, and_self, false_and, and_false, or_false, false_or, true_or, or_true, not_true_eq_false, not_false_eq_true, at_70, ctL_c, ctL_n]
  refine ww_Cn_of (lk_34 hp) (Nat.le_refl _) ?_
  rintro r w' ⟨rfl, h⟩
  refine ww_go1 (ctL_cons ok_70 ctL_nil) 100 [] ?_
  simp only [ww_S, ww_1, wr_0, wr_1, wr_2, wr_3, wr_4, wr_5, wr_6, wr_7, wr_8, wr_9, wr_10, wr_11, wr_12, wr_13, wr_14, wr_15, wr_16, wr_17, wr_18, wr_19, wr_20, wr_21, wr_22, wr_23, wr_24, wr_25, wr_26, wr_27, wr_28, wr_29, wr_30, wr_31, wr_32, wr_33, wr_34, wr_35, wr_36, wr_37, wr_38, wr_39, wr_40, wr_41, wr_42, wr_43, wr_44, wr_45, wr_46, wr_47, wr_48, wr_49, wr_50, wr_51, wr_52, wr_53, wr_54, wr_55, wr_56, wr_57, wr_58, wr_59, wr_60, wr_61, wr_62, wr_63, wr_64, wr_65, wr_66, wr_67, wr_68, wr_69, wr_70, wr_71, wr_72, wr_73, wr_74, wr_75, wr_76, wr_77, wr_78, wr_79, wr_80, wr_81, wr_82, wr_83, wr_84, wr_85, wr_86, wr_87, ww_v1, ww_v2, ww_v3, ww_v4, ww_g0, ww_gS, ww_t0, ww_tS, ww_s0, ww_sS, ww_s2, ww_w1, ww_w2, ww_w3, ww_b, ww_tg, ww_p1, ww_p2, ww_q0, ww_qS, ww_k1, ww_k2, ww_k3, ww_w0, ww_wS, ww_i1, ww_i2, ww_f0, ww_f1, ww_f2, ww_f4, ww_fd, ww_cl, ww_mc, ww_tk, ww_ci, ww_ak, ww_gv, ww_g1, ww_kcs, w_f1, w_f2, w_a1, w_a2, w_u_at, dm_35, List.elem_nil, List.elem_cons, List.map_nil, List.map_cons, List.sum_nil, List.sum_cons, Option.toList_none, Option.toList_some, List.nil_append, List.cons_append, true_and, and_true, implies_true, false_implies, if_true, if_false, reduceIte, reduceCtorEq, Bool.false_eq_true, Bool.and_false, Bool.false_and, Bool.and_self, Bool.and_true, Bool.true_and, Nat.reduceAdd, Nat.reduceBEq, Nat.reduceEqDiff, Nat.reduceLT, Nat.reduceLeDiff, Int.reduceAdd, Int.reduceNeg, Int.reduceToNat, Int.reduceLE, Int.reduceLT, Int.reduceSub, Int.cast_ofNat_Int, Int.reduceNatCast', Int.reduceNatCast, Nat.zero_add, Int.zero_add, and_self, false_and, and_false, or_false, false_or, true_or, or_true, not_true_eq_false, not_false_eq_true, at_70, ctL_c, ctL_n, Option.toList, List.nil_append]
  exact h
