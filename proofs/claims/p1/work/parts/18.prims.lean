/-! ===== the methods below the world: rows that grow, Arrays.copyOf, Arrays.fill ===== -/
theorem am_wac : Cond.methodLink (am_R 14) 150 arraycopyName ∈ am_G ∧ Cond.static arraycopyName ∈ am_G ∧ Cond.native arraycopyName ∈ am_G ∧ Cond.initialized "java/lang/System" ∈ am_G :=
  ⟨am_has_in (q := (2, 212)) (by decide +kernel), am_has_in (q := (2, 213)) (by decide +kernel), am_has_in (q := (2, 214)) (by decide +kernel), am_has_in (q := (1, 22)) (by decide +kernel)⟩
/-- an array's contents anew -/
def am_sw2 (h : am_H) (a : Nat) (f : Nat → Int) : am_H := (am_up h.1 a (match h.1 a with
  | .inl (kd, n, _) => .inl (kd, n, f)
  | C => C), h.2)
section LD6
variable {nL fr rk : Nat} {bytes : ByteArray} {ini : Bool} {sc : am_Sc} {Q : Option am_V → am_H → Prop} {pc : Nat} {ls st : List am_V} {h : am_H}
theorem am_acopy {a b : Nat} {n : Int} (hd : decode bytes pc = .ok (.invokestatic 150, 3)) (ka : am_ak h a = 1) (kb : am_ak h b = 1) (h0 : 0 ≤ n) (ha : n ≤ am_ln h a) (hb : n ≤ am_ln h b) (hn : n < 2147483648) (hr8 : (st.map am_cat).sum ≤ 8) (hfr : 1 ≤ fr)
    (k : am_Z 14 nL fr rk bytes ini sc Q (pc + 3) ls st (am_sw2 h b fun i => if (i : Int) < n then am_el h a i else am_el h b i)) : am_Z 14 nL fr rk bytes ini sc Q pc ls (.inl n :: .inl 0 :: .inr (.inr (.inl b)) :: .inl 0 :: .inr (.inr (.inl a)) :: st) h := by
  obtain ⟨na, fa, ea, la, va⟩ := am_ak_of ka
  obtain ⟨nb, fb, eb, lb, vb⟩ := am_ak_of kb
  refine am_hp (st' := st) (h1 := am_sw2 h b fun i => if (i : Int) < n then am_el h a i else am_el h b i) rfl (fun p l e R s m args below meth c D cA A cx Qs α H locs cells slots lsA S => ⟨am_tl (am_tl (am_tl (am_tl (am_tl S.2.2.2.1)))), fun w => ?_⟩) k
  have hoa := S.2.2.2.1 (.inr (.inr (.inl a))) (by simp)
  have hob := S.2.2.2.1 (.inr (.inr (.inl b))) (by simp)
  have e1 := am_ws_at cA α h hoa.1 hoa.2
  have e2 := am_ws_at cA α h hob.1 hob.2
  rw [ea] at e1
  rw [eb] at e2
  have hts := cx.2.2.2.2.1
  have c1 : (Int32.ofInt n).toNatClampNeg = n.toNat := am_clamp h0 hn
  have c0 : (Int32.ofInt 0).toNatClampNeg = 0 := rfl
  have z0 : ¬ Int32.ofInt 0 < 0 := by decide
  refine va_copyi (own := am_R 14) (rest := st.map (am_c α)) (f := fun j => Int32.ofInt (fa j)) (g := fun j => Int32.ofInt (fb j)) cx.1 cx.2.1 (by rw [cx.2.2.1]; exact S.2.2.1.2.1.symm) cx.2.2.2.1 (hts _ am_wac.1) (hts _ am_wac.2.2.1) (hts _ am_wac.2.1) (hts _ am_wac.2.2.2) cx.2.2.2.2.2.2.1.1 S.1.1 S.1.2.1 S.2.1 (a - 1) (b - 1) 0 0 e1 e2 rfl rfl rfl (sp := Int32.ofInt 0) (dp := Int32.ofInt 0) z0 z0 ?_ ?_ ?_ (fun _ _ => rfl) (by rw [cx.2.2.2.2.2.2.2.1]; exact hfr) ?_ hd (fun H1 locs1 hP hD hS => ?_)
  · intro q
    have := (am_lt32 (x := n) (y := 0) (by omega) hn (by decide) (by decide)).mp q
    omega
  · rw [c1, c0]; omega
  · rw [c1, c0]; omega
  · have hm : (nativeFrameWords "java/lang/System" "arraycopy" 5) ≤ 22 := by decide +kernel
    have h9 := cx.2.2.2.2.2.2.2.2.1
    rw [am_sum_cat, h9]
    omega
  · rw [c0, c1] at hP hD
    have ecell : (Sum.inl (cA 0, nb, Sum.inl (va_cpy (fun j => Int32.ofInt (fa j)) (fun j => Int32.ofInt (fb j)) 0 0 n.toNat)) : va_E) = am_e cA α (.inl (0, nb, fun i => if (i : Int) < n then am_el h a i else am_el h b i)) := by
      show _ = (Sum.inl (cA 0, nb, Sum.inl fun j => Int32.ofInt _) : va_E)
      congr 4
      funext j
      show va_cpy (fun j => Int32.ofInt (fa j)) (fun j => Int32.ofInt (fb j)) 0 0 n.toNat j = Int32.ofInt (if (j : Int) < n then am_el h a j else am_el h b j)
      rw [va, vb]
      unfold va_cpy
      by_cases q : (j : Int) < n
      · rw [if_pos ⟨Nat.zero_le _, by omega⟩, if_pos q]
        show Int32.ofInt (fa (0 + (j - 0))) = _
        rw [Nat.zero_add, Nat.sub_zero]
      · rw [if_neg (fun z => q (by omega)), if_neg q]
    have hsw : am_sw2 h b (fun i => if (i : Int) < n then am_el h a i else am_el h b i) = (am_up h.1 b (.inl (0, nb, fun i => if (i : Int) < n then am_el h a i else am_el h b i)), h.2) := by
      unfold am_sw2
      rw [eb]
    have hset := am_ws_set cA α h hob.1 hob.2 (.inl (0, nb, fun i => if (i : Int) < n then am_el h a i else am_el h b i))
    rw [ecell, hset] at hP hD
    rw [hsw] at w
    exact w H1 locs1 ⟨hP, hD, am_wf_set S.1.2.2 (Nat.zero_le _)⟩ hS
end LD6
set_option maxRecDepth 100000 in
theorem am_copyOf {h : am_H} {a fr : Nat} {n : Int} (ka : am_ak h a = 1) (hl : (am_ln h a : Int) < n) (hn : n < 67108864) (hfr : 1 ≤ fr) (ha : a ≤ h.2.1) :
    am_Ct 253 fr [.inr (.inr (.inl a)), .inl n] h fun r h' => r = some (.inr (.inr (.inl (h.2.1 + 1)))) ∧ h' = am_add h (.inl (0, n.toNat, fun i => if i < am_ln h a then am_el h a i else 0)) n.toNat := by
  have hne : a ≠ h.2.1 + 1 := by omega
  refine am_CT_of ml_253 mk_253 (by decide +kernel) rfl rfl (fun q => by cases q) (Nat.le_of_ble_eq_true rfl) (am_go 100 (aw_c [25]) ?_)
  have e0 : am_loc0 3 [.inr (.inr (.inl a)), .inl n] = [.inr (.inr (.inl a)), .inl n, am_X] := rfl
  rw [e0]
  have hak : am_ak (am_add h (.inl (0, n.toNat, fun _ => 0)) n.toNat) a = am_ak h a := by
    unfold am_ak am_add
    dsimp only
    rw [am_up_ne _ _ hne]
  have hln : am_ln (am_add h (.inl (0, n.toNat, fun _ => 0)) n.toNat) a = am_ln h a := by
    unfold am_ln am_add
    dsimp only
    rw [am_up_ne _ _ hne]
  have hel : ∀ i, am_el (am_add h (.inl (0, n.toNat, fun _ => 0)) n.toNat) a i = am_el h a i := by
    intro i
    unfold am_el am_add
    dsimp only
    rw [am_up_ne _ _ hne]
  have hak2 : am_ak (am_add h (.inl (0, n.toNat, fun _ => 0)) n.toNat) (h.2.1 + 1) = 1 := by
    unfold am_ak am_add
    dsimp only
    rw [am_up_same]
  have hln2 : am_ln (am_add h (.inl (0, n.toNat, fun _ => 0)) n.toNat) (h.2.1 + 1) = n.toNat := by
    unfold am_ln am_add
    dsimp only
    rw [am_up_same]
  have hel2 : ∀ i, am_el (am_add h (.inl (0, n.toNat, fun _ => 0)) n.toNat) (h.2.1 + 1) i = 0 := by
    intro i
    unfold am_el am_add
    dsimp only
    rw [am_up_same]
  simp only [aw_S, aw_1, aw_cat, ar_0, ar_1, ar_2, ar_3, ar_4, ar_5, ar_6, ar_7, ar_8, ar_9, ar_10, ar_11, ar_12, ar_13, ar_14, ar_15, ar_16, ar_17, ar_18, ar_19, ar_20, ar_21, ar_22, ar_23, ar_24, ar_25, ar_26, ar_27, ar_28, ar_29, ar_30, ar_31, ar_32, ar_33, ar_34, ar_35, ar_36, ar_37, ar_38, ar_39, ar_40, ar_41, ar_42, ar_43, ar_44, ar_45, ar_46, ar_47, ar_48, ar_49, ar_50, ar_51, ww_v1, ww_v2, ww_v3, ww_v4, ww_g0, ww_gS, ww_t0, ww_tS, ww_s0, ww_sS, ww_s2, ww_w1, ww_w2, ww_w3, ww_b, ww_tg, ww_fd, ww_tk, dm_253, List.elem_nil, List.elem_cons, List.map_nil, List.map_cons, List.sum_nil, List.sum_cons, Option.toList_none, Option.toList_some, List.nil_append, List.cons_append, true_and, and_true, implies_true, false_implies, if_true, if_false, reduceIte, reduceCtorEq, Bool.false_eq_true, Bool.and_false, Bool.false_and, Bool.and_self, Bool.and_true, Bool.true_and, Nat.reduceAdd, Nat.reduceBEq, Nat.reduceEqDiff, Nat.reduceLT, Nat.reduceLeDiff, Int.reduceAdd, Int.reduceNeg, Int.reduceToNat, Int.reduceLE, Int.reduceLT, Int.reduceSub, Int.cast_ofNat_Int, Int.reduceNatCast', Int.reduceNatCast, Nat.zero_add, Int.zero_add, and_self, false_and, and_false, or_false, false_or, true_or, or_true, not_true_eq_false, not_false_eq_true, ka, hak, hln, am_X]
  refine ⟨by omega, ⟨by omega, by omega⟩, ⟨by omega, by omega⟩, fun _ => ⟨by omega, hn, by omega, ?_⟩, fun q => absurd (by omega) q⟩
  refine am_mmin dJ7_copyOf_59c91_25 cl_14_304 ⟨by omega, by omega⟩ ⟨by omega, by omega⟩ (Nat.le_of_ble_eq_true rfl) hfr ?_
  rw [if_pos hl]
  refine am_acopy dJ7_copyOf_59c91_28 (hak.trans ka) hak2 (by omega) (by rw [hln]; omega) (by rw [hln2]; omega) (by omega) (Nat.le_of_ble_eq_true rfl) hfr ?_
  refine am_go 10 (aw_c []) ?_
  simp only [aw_S, aw_1, aw_cat, ar_0, ar_1, ar_2, ar_3, ar_4, ar_5, ar_6, ar_7, ar_8, ar_9, ar_10, ar_11, ar_12, ar_13, ar_14, ar_15, ar_16, ar_17, ar_18, ar_19, ar_20, ar_21, ar_22, ar_23, ar_24, ar_25, ar_26, ar_27, ar_28, ar_29, ar_30, ar_31, ar_32, ar_33, ar_34, ar_35, ar_36, ar_37, ar_38, ar_39, ar_40, ar_41, ar_42, ar_43, ar_44, ar_45, ar_46, ar_47, ar_48, ar_49, ar_50, ar_51, ww_v1, ww_v2, ww_v3, ww_v4, ww_g0, ww_gS, ww_t0, ww_tS, ww_s0, ww_sS, ww_s2, ww_w1, ww_w2, ww_w3, ww_b, ww_tg, ww_fd, ww_tk, dm_253, List.elem_nil, List.elem_cons, List.map_nil, List.map_cons, List.sum_nil, List.sum_cons, Option.toList_none, Option.toList_some, List.nil_append, List.cons_append, true_and, and_true, implies_true, false_implies, if_true, if_false, reduceIte, reduceCtorEq, Bool.false_eq_true, Bool.and_false, Bool.false_and, Bool.and_self, Bool.and_true, Bool.true_and, Nat.reduceAdd, Nat.reduceBEq, Nat.reduceEqDiff, Nat.reduceLT, Nat.reduceLeDiff, Int.reduceAdd, Int.reduceNeg, Int.reduceToNat, Int.reduceLE, Int.reduceLT, Int.reduceSub, Int.cast_ofNat_Int, Int.reduceNatCast', Int.reduceNatCast, Nat.zero_add, Int.zero_add, and_self, false_and, and_false, or_false, false_or, true_or, or_true, not_true_eq_false, not_false_eq_true]
  refine ⟨Nat.le_refl _, ?_⟩
  · have e1 : (am_add h (.inl (0, n.toNat, fun _ => 0)) n.toNat).1 (h.2.1 + 1) = .inl (0, n.toNat, fun _ => 0) := am_up_same _ _ _
    unfold am_sw2
    rw [e1]
    unfold am_add
    dsimp only
    refine Prod.ext ?_ rfl
    funext j
    by_cases e : j = h.2.1 + 1
    · subst e
      show am_up _ _ _ _ = am_up _ _ _ _
      rw [am_up_same, am_up_same]
      congr 3
      funext i
      have hel := hel i
      have hel2 := hel2 i
      unfold am_add at hel hel2
      rw [hel, hel2]
      by_cases q : i < am_ln h a
      · rw [if_pos (by omega), if_pos q]
      · rw [if_neg (by omega), if_neg q]
    · show am_up _ _ _ _ = am_up _ _ _ _
      rw [am_up_ne _ _ e, am_up_ne _ _ e, am_up_ne _ _ e]

set_option maxRecDepth 100000 in
theorem am_rangeCheck {h : am_H} {fr : Nat} {n a b : Int} (h0 : 0 ≤ a) (h1 : a ≤ b) (h2 : b ≤ n) (hn : n < 2147483648) : am_Ct 251 fr [.inl n, .inl a, .inl b] h fun r h' => r = none ∧ h' = h := by
  refine am_CT_of ml_251 mk_251 (by decide +kernel) rfl rfl (fun q => by cases q) (Nat.le_of_ble_eq_true rfl) (am_go 100 (aw_c [5, 50, 64]) ?_)
  have e0 : am_loc0 3 [.inl n, .inl a, .inl b] = [.inl n, .inl a, .inl b] := rfl
  rw [e0]
  simp only [aw_S, aw_1, aw_cat, ar_0, ar_1, ar_2, ar_3, ar_4, ar_5, ar_6, ar_7, ar_8, ar_9, ar_10, ar_11, ar_12, ar_13, ar_14, ar_15, ar_16, ar_17, ar_18, ar_19, ar_20, ar_21, ar_22, ar_23, ar_24, ar_25, ar_26, ar_27, ar_28, ar_29, ar_30, ar_31, ar_32, ar_33, ar_34, ar_35, ar_36, ar_37, ar_38, ar_39, ar_40, ar_41, ar_42, ar_43, ar_44, ar_45, ar_46, ar_47, ar_48, ar_49, ar_50, ar_51, ww_v1, ww_v2, ww_v3, ww_v4, ww_g0, ww_gS, ww_t0, ww_tS, ww_s0, ww_sS, ww_s2, ww_w1, ww_w2, ww_w3, ww_b, ww_tg, ww_fd, ww_tk, dm_251, List.elem_nil, List.elem_cons, List.map_nil, List.map_cons, List.sum_nil, List.sum_cons, Option.toList_none, Option.toList_some, List.nil_append, List.cons_append, true_and, and_true, implies_true, false_implies, if_true, if_false, reduceIte, reduceCtorEq, Bool.false_eq_true, Bool.and_false, Bool.false_and, Bool.and_self, Bool.and_true, Bool.true_and, Nat.reduceAdd, Nat.reduceBEq, Nat.reduceEqDiff, Nat.reduceLT, Nat.reduceLeDiff, Int.reduceAdd, Int.reduceNeg, Int.reduceToNat, Int.reduceLE, Int.reduceLT, Int.reduceSub, Int.cast_ofNat_Int, Int.reduceNatCast', Int.reduceNatCast, Nat.zero_add, Int.zero_add, and_self, false_and, and_false, or_false, false_or, true_or, or_true, not_true_eq_false, not_false_eq_true]
  exact ⟨⟨by omega, by omega⟩, ⟨by omega, by omega⟩, fun _ => ⟨⟨by omega, by omega⟩, fun _ => ⟨⟨by omega, by omega⟩, ⟨by omega, by omega⟩, fun q => absurd h2 q⟩, fun q => absurd h0 q⟩, fun q => absurd h1 q⟩
/-- some elements anew -/
def am_fl2 (h : am_H) (a : Nat) (i j : Int) (x : Int) : am_H := am_sw2 h a fun k => if i ≤ k ∧ (k : Int) < j then x else am_el h a k
theorem am_fl2_0 {h : am_H} {a : Nat} {i : Int} {x : Int} : am_fl2 h a i i x = h := by
  unfold am_fl2 am_sw2
  refine Prod.ext ?_ rfl
  funext b
  show am_up _ _ _ _ = _
  by_cases e : b = a
  · subst e
    rw [am_up_same]
    unfold am_el
    rcases h.1 b with ⟨kd, n, f⟩ | ⟨ci, fs⟩
    · have e2 : (fun k : Nat => if i ≤ (k : Int) ∧ (k : Int) < i then x else f k) = f := by
        funext k
        rw [if_neg (by omega)]
      show Sum.inl (kd, n, fun k : Nat => if i ≤ (k : Int) ∧ (k : Int) < i then x else f k) = Sum.inl (kd, n, f)
      rw [e2]
    · rfl
  · rw [am_up_ne _ _ e]
theorem am_fl2_S {h : am_H} {a : Nat} {i j : Int} {x : Int} (h0 : 0 ≤ i) (hij : i ≤ j) (ka : am_ak h a = 1) : am_se (am_fl2 h a i j x) a j.toNat x = am_fl2 h a i (j + 1) x := by
  obtain ⟨n, f, e, -, hv⟩ := am_ak_of ka
  unfold am_se am_fl2 am_sw2
  refine Prod.ext ?_ rfl
  funext b
  show am_up _ _ _ _ = am_up _ _ _ _
  by_cases q : b = a
  · subst q
    dsimp only
    rw [am_up_same, am_up_same, am_up_same, e]
    show Sum.inl (0, n, _) = Sum.inl (0, n, _)
    congr 3
    funext k
    unfold am_up
    by_cases z : k = j.toNat
    · rw [if_pos z, if_pos (by omega)]
    · rw [if_neg z]
      dsimp only
      by_cases y : i ≤ k ∧ (k : Int) < j
      · rw [if_pos y, if_pos (by omega)]
      · rw [if_neg y, if_neg (by omega)]
  · dsimp only
    rw [am_up_ne _ _ q, am_up_ne _ _ q, am_up_ne _ _ q]
theorem am_fl2_ak (h : am_H) (a : Nat) (i j x : Int) (b : Nat) : am_ak (am_fl2 h a i j x) b = am_ak h b ∧ am_ln (am_fl2 h a i j x) b = am_ln h b := by
  unfold am_ak am_ln am_fl2 am_sw2
  dsimp only
  by_cases e : b = a
  · subst e
    rw [am_up_same]
    rcases h.1 b with ⟨kd, n, f⟩ | ⟨ci, fs⟩ <;> exact ⟨rfl, rfl⟩
  · rw [am_up_ne _ _ e]
    exact ⟨rfl, rfl⟩
set_option maxRecDepth 100000 in
theorem am_fill {h : am_H} {fr a : Nat} {i j x : Int} (ka : am_ak h a = 1) (h0 : 0 ≤ i) (h1 : i ≤ j) (h2 : j ≤ am_ln h a) (hn : (am_ln h a : Int) < 2147483648) (hfr : 1 ≤ fr) : am_Ct 252 fr [.inr (.inr (.inl a)), .inl i, .inl j, .inl x] h fun r h' => r = none ∧ h' = am_fl2 h a i j x := by
  refine am_CT_of ml_252 mk_252 (by decide +kernel) rfl rfl (fun q => by cases q) (Nat.le_of_ble_eq_true rfl) (am_go 100 (aw_c [4]) ?_)
  have e0 : am_loc0 5 [.inr (.inr (.inl a)), .inl i, .inl j, .inl x] = [.inr (.inr (.inl a)), .inl i, .inl j, .inl x, am_X] := rfl
  rw [e0]
  simp only [aw_S, aw_1, aw_cat, ar_0, ar_1, ar_2, ar_3, ar_4, ar_5, ar_6, ar_7, ar_8, ar_9, ar_10, ar_11, ar_12, ar_13, ar_14, ar_15, ar_16, ar_17, ar_18, ar_19, ar_20, ar_21, ar_22, ar_23, ar_24, ar_25, ar_26, ar_27, ar_28, ar_29, ar_30, ar_31, ar_32, ar_33, ar_34, ar_35, ar_36, ar_37, ar_38, ar_39, ar_40, ar_41, ar_42, ar_43, ar_44, ar_45, ar_46, ar_47, ar_48, ar_49, ar_50, ar_51, ww_v1, ww_v2, ww_v3, ww_v4, ww_g0, ww_gS, ww_t0, ww_tS, ww_s0, ww_sS, ww_s2, ww_w1, ww_w2, ww_w3, ww_b, ww_tg, ww_fd, ww_tk, dm_252, List.elem_nil, List.elem_cons, List.map_nil, List.map_cons, List.sum_nil, List.sum_cons, Option.toList_none, Option.toList_some, List.nil_append, List.cons_append, true_and, and_true, implies_true, false_implies, if_true, if_false, reduceIte, reduceCtorEq, Bool.false_eq_true, Bool.and_false, Bool.false_and, Bool.and_self, Bool.and_true, Bool.true_and, Nat.reduceAdd, Nat.reduceBEq, Nat.reduceEqDiff, Nat.reduceLT, Nat.reduceLeDiff, Int.reduceAdd, Int.reduceNeg, Int.reduceToNat, Int.reduceLE, Int.reduceLT, Int.reduceSub, Int.cast_ofNat_Int, Int.reduceNatCast', Int.reduceNatCast, Nat.zero_add, Int.zero_add, and_self, false_and, and_false, or_false, false_or, true_or, or_true, not_true_eq_false, not_false_eq_true, ka]
  refine ⟨by omega, ?_⟩
  obtain ⟨r, h', ⟨rfl, e1⟩, hc⟩ := am_rangeCheck (h := h) (fr := 0) h0 h1 h2 hn
  rw [e1] at hc
  refine am_callS (as := [.inl (am_ln h a), .inl i, .inl j]) (rest := []) dJ7_fill_fda19_4 cl_14_13 rfl rfl (Nat.zero_le _) (by omega) hc ?_
  refine am_go 100 (aw_c [10]) ?_
  simp only [aw_S, aw_1, aw_cat, ar_0, ar_1, ar_2, ar_3, ar_4, ar_5, ar_6, ar_7, ar_8, ar_9, ar_10, ar_11, ar_12, ar_13, ar_14, ar_15, ar_16, ar_17, ar_18, ar_19, ar_20, ar_21, ar_22, ar_23, ar_24, ar_25, ar_26, ar_27, ar_28, ar_29, ar_30, ar_31, ar_32, ar_33, ar_34, ar_35, ar_36, ar_37, ar_38, ar_39, ar_40, ar_41, ar_42, ar_43, ar_44, ar_45, ar_46, ar_47, ar_48, ar_49, ar_50, ar_51, ww_v1, ww_v2, ww_v3, ww_v4, ww_g0, ww_gS, ww_t0, ww_tS, ww_s0, ww_sS, ww_s2, ww_w1, ww_w2, ww_w3, ww_b, ww_tg, ww_fd, ww_tk, dm_252, List.elem_nil, List.elem_cons, List.map_nil, List.map_cons, List.sum_nil, List.sum_cons, Option.toList_none, Option.toList_some, List.nil_append, List.cons_append, true_and, and_true, implies_true, false_implies, if_true, if_false, reduceIte, reduceCtorEq, Bool.false_eq_true, Bool.and_false, Bool.false_and, Bool.and_self, Bool.and_true, Bool.true_and, Nat.reduceAdd, Nat.reduceBEq, Nat.reduceEqDiff, Nat.reduceLT, Nat.reduceLeDiff, Int.reduceAdd, Int.reduceNeg, Int.reduceToNat, Int.reduceLE, Int.reduceLT, Int.reduceSub, Int.cast_ofNat_Int, Int.reduceNatCast', Int.reduceNatCast, Nat.zero_add, Int.zero_add, and_self, false_and, and_false, or_false, false_or, true_or, or_true, not_true_eq_false, not_false_eq_true]
  have loop : ∀ (m : Nat) (k : Int), i ≤ k → k ≤ j → (j - k).toNat = m → am_Z 14 5 fr 0 cJ7_fill_fda19 false none (fun r h' => r = none ∧ h' = am_fl2 h a i j x) 10 [.inr (.inr (.inl a)), .inl i, .inl j, .inl x, .inl k] [] (am_fl2 h a i k x) := by
    intro m
    induction m with
    | zero =>
      intro k k0 k1 km
      have : k = j := by omega
      subst this
      refine am_go1 100 (aw_c [10]) ?_
      simp only [aw_S, aw_1, aw_cat, ar_0, ar_1, ar_2, ar_3, ar_4, ar_5, ar_6, ar_7, ar_8, ar_9, ar_10, ar_11, ar_12, ar_13, ar_14, ar_15, ar_16, ar_17, ar_18, ar_19, ar_20, ar_21, ar_22, ar_23, ar_24, ar_25, ar_26, ar_27, ar_28, ar_29, ar_30, ar_31, ar_32, ar_33, ar_34, ar_35, ar_36, ar_37, ar_38, ar_39, ar_40, ar_41, ar_42, ar_43, ar_44, ar_45, ar_46, ar_47, ar_48, ar_49, ar_50, ar_51, ww_v1, ww_v2, ww_v3, ww_v4, ww_g0, ww_gS, ww_t0, ww_tS, ww_s0, ww_sS, ww_s2, ww_w1, ww_w2, ww_w3, ww_b, ww_tg, ww_fd, ww_tk, dm_252, List.elem_nil, List.elem_cons, List.map_nil, List.map_cons, List.sum_nil, List.sum_cons, Option.toList_none, Option.toList_some, List.nil_append, List.cons_append, true_and, and_true, implies_true, false_implies, if_true, if_false, reduceIte, reduceCtorEq, Bool.false_eq_true, Bool.and_false, Bool.false_and, Bool.and_self, Bool.and_true, Bool.true_and, Nat.reduceAdd, Nat.reduceBEq, Nat.reduceEqDiff, Nat.reduceLT, Nat.reduceLeDiff, Int.reduceAdd, Int.reduceNeg, Int.reduceToNat, Int.reduceLE, Int.reduceLT, Int.reduceSub, Int.cast_ofNat_Int, Int.reduceNatCast', Int.reduceNatCast, Nat.zero_add, Int.zero_add, and_self, false_and, and_false, or_false, false_or, true_or, or_true, not_true_eq_false, not_false_eq_true]
      exact ⟨⟨by omega, by omega⟩, ⟨by omega, by omega⟩, fun q => absurd (Int.le_refl _) q⟩
    | succ m ih =>
      intro k k0 k1 km
      refine am_go1 100 (aw_c [10]) ?_
      simp only [aw_S, aw_1, aw_cat, ar_0, ar_1, ar_2, ar_3, ar_4, ar_5, ar_6, ar_7, ar_8, ar_9, ar_10, ar_11, ar_12, ar_13, ar_14, ar_15, ar_16, ar_17, ar_18, ar_19, ar_20, ar_21, ar_22, ar_23, ar_24, ar_25, ar_26, ar_27, ar_28, ar_29, ar_30, ar_31, ar_32, ar_33, ar_34, ar_35, ar_36, ar_37, ar_38, ar_39, ar_40, ar_41, ar_42, ar_43, ar_44, ar_45, ar_46, ar_47, ar_48, ar_49, ar_50, ar_51, ww_v1, ww_v2, ww_v3, ww_v4, ww_g0, ww_gS, ww_t0, ww_tS, ww_s0, ww_sS, ww_s2, ww_w1, ww_w2, ww_w3, ww_b, ww_tg, ww_fd, ww_tk, dm_252, List.elem_nil, List.elem_cons, List.map_nil, List.map_cons, List.sum_nil, List.sum_cons, Option.toList_none, Option.toList_some, List.nil_append, List.cons_append, true_and, and_true, implies_true, false_implies, if_true, if_false, reduceIte, reduceCtorEq, Bool.false_eq_true, Bool.and_false, Bool.false_and, Bool.and_self, Bool.and_true, Bool.true_and, Nat.reduceAdd, Nat.reduceBEq, Nat.reduceEqDiff, Nat.reduceLT, Nat.reduceLeDiff, Int.reduceAdd, Int.reduceNeg, Int.reduceToNat, Int.reduceLE, Int.reduceLT, Int.reduceSub, Int.cast_ofNat_Int, Int.reduceNatCast', Int.reduceNatCast, Nat.zero_add, Int.zero_add, and_self, false_and, and_false, or_false, false_or, true_or, or_true, not_true_eq_false, not_false_eq_true, (am_fl2_ak h a i k x a).1, (am_fl2_ak h a i k x a).2, ka]
      refine ⟨⟨by omega, by omega⟩, ⟨by omega, by omega⟩, fun q => absurd q (by omega), fun _ => ⟨by omega, by omega, by omega, ?_⟩⟩
      rw [am_fl2_S h0 k0 ka]
      exact ih (k + 1) (by omega) (by omega) (by omega)
  have := loop (j - i).toNat i (Int.le_refl _) h1 rfl
  rw [am_fl2_0] at this
  exact this
