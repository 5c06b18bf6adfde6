/-! ===== the class runs as the evaluator: blocks ===== -/
/-- a text's frame is made -/
def w_op1 (I : W_) (x j : Int) : W_ := w_f (w_fs (w_fs (w_fs (w_fs (w_pu I 5 x) 3 j) 4 20003) 5 20003) 9 (I.1 41 13)) 41 13 (I.1 33 1)
theorem w_opt_1 {I : W_} {x : Int} (h : x < 180) : w_opt I x = w_op1 I x (w_g I 37 (x * 9) - 1) := by
  unfold w_opt w_op1
  rw [if_neg (by omega)]
theorem w_opt_2 {I : W_} {x : Int} (h : 180 ≤ x) : w_opt I x = w_op1 (w_a I 46 (x - 180).toNat 1) x (w_g I 37 (x * 9) - 1) := by
  unfold w_opt w_op1
  rw [if_pos h]
  rfl
theorem op1_n {I : W_} {x j : Int} (h0 : 0 ≤ I.1 33 1) : (w_op1 I x j).1 33 1 = I.1 33 1 + 1 ∧ (w_op1 I x j).1 41 13 = I.1 33 1 ∧ (w_op1 I x j).1 41 12 = I.1 41 12 ∧ (w_op1 I x j).1 41 10 = I.1 41 10 ∧ (w_op1 I x j).1 13 2 = I.1 13 2 := by
  refine ⟨?_, ?_, ?_, ?_, ?_⟩
  · show (w_pu I 5 x).1 33 1 = _
    rw [w_pu1, if_pos ⟨rfl, rfl⟩]
  · rfl
  · rfl
  · rfl
  · rfl
theorem op1_F {I : W_} {x j g : Int} (h0 : 0 ≤ I.1 33 1) (hg : 0 ≤ g ∧ g < 13) : f_t (w_op1 I x j) g = if g = 9 then I.1 41 13 else if g = 5 then 20003 else if g = 4 then 20003 else if g = 3 then j else if g = 0 then 5 else if g = 1 then x else 0 := by
  have c : (w_pu I 5 x).1 33 1 = I.1 33 1 + 1 := by rw [w_pu1, if_pos ⟨rfl, rfl⟩]
  have h1 : 1 ≤ (w_pu I 5 x).1 33 1 := by omega
  unfold w_op1
  rw [f_t_f (by decide), f_t_fs0 (by exact h1) (by decide) hg.1, f_t_fs0 (by exact h1) (by decide) hg.1, f_t_fs0 (by exact h1) (by decide) hg.1, f_t_fs0 (by exact h1) (by decide) hg.1, f_t_pu h0 hg]
theorem op1_S (I : W_) (x j : Int) : wS I (w_op1 I x j) := by
  unfold w_op1
  exact wS_tr (wS_tr (wS_tr (wS_tr (wS_tr (wS_pu _ _ _) (wS_fs _ _ _)) (wS_fs _ _ _)) (wS_fs _ _ _)) (wS_fs _ _ _)) (wS_f (Or.inr ⟨rfl, by decide⟩))
theorem op1_42 (I : W_) (x j : Int) : (w_op1 I x j).2 42 = I.2 42 := by
  unfold w_op1
  show (w_fs (w_fs (w_fs (w_fs (w_pu I 5 x) 3 j) 4 20003) 5 20003) 9 (I.1 41 13)).2 42 = _
  rw [w_fs2 _ _ _ (by decide), w_fs2 _ _ _ (by decide), w_fs2 _ _ _ (by decide), w_fs2 _ _ _ (by decide), w_pu2 _ _ _ (by decide)]
theorem op1_34 {I : W_} {x j : Int} (h0 : 0 ≤ I.1 33 1) (k : Nat) (hk : (k : Int) < 13 * I.1 33 1) : (w_op1 I x j).2 34 k = I.2 34 k := by
  have c : (w_pu I 5 x).1 33 1 = I.1 33 1 + 1 := by rw [w_pu1, if_pos ⟨rfl, rfl⟩]
  have e : ∀ (N : W_) (f y : Int), N.1 33 1 = I.1 33 1 + 1 → 0 ≤ f → (w_fs N f y).2 34 k = N.2 34 k := fun N f y hN hf => by
    show w_u N.2 34 _ y 34 k = _
    rw [w_u_at, if_neg (by omega)]
  unfold w_op1
  show (w_fs (w_fs (w_fs (w_fs (w_pu I 5 x) 3 j) 4 20003) 5 20003) 9 (I.1 41 13)).2 34 k = _
  rw [e _ 9 _ (by exact c) (by decide), e _ 5 _ (by exact c) (by decide), e _ 4 _ (by exact c) (by decide), e _ 3 _ (by exact c) (by decide)]
  show w_u (w_u (w_fill I 34 _ _ 0).2 34 _ 5) 34 _ x 34 k = _
  rw [w_u_at, if_neg (by omega), w_u_at, if_neg (by omega)]
  show (if 34 = 34 ∧ _ ≤ k ∧ k < _ then (0 : Int) else I.2 34 k) = _
  rw [if_neg (by omega)]
section
variable {C : C_} {sil : Bool} {o a0 : Nat} {D : Prop} {K0 : Int} {hb : Bool} {s s1 : S_} {E E1 : N_} {w : W_} {fr : Nat} {Q : Option am_V → W_ → Prop} {i : Int} {k : Nat} {n : Int} {id : Nat} {a b c v : T_}

theorem RD_op {I : W_} {x j : Int} (H : RD C sil o a0 D K0 hb s E I) (hc : I.1 33 1 + 1 ≤ 19990 + 2 * s_tb s) : RD C sil o a0 D K0 true (u_tl s .nil) E (w_op1 I x j) := by
  obtain ⟨h1, h2, h3, h4, h5, h6, h7, h8⟩ := H
  obtain ⟨n1, n2, n3, n4, n5⟩ := op1_n (x := x) (j := j) h4.1
  have F := fun g hg => op1_F (x := x) (j := j) (g := g) h4.1 hg
  refine ⟨CR_tl (CR_S h1 (op1_S I x j)), nW_S h2 (op1_S I x j) (RD_oK h1) h1.2.2.1.2.2.2.1.1 (op1_42 I x j) n3, mkR_ft (by omega) (by omega) ?_ ?_ ?_ ?_, ⟨by omega, by rw [n1]; exact hc⟩, by rw [n3]; exact h5, h6, ?_, ?_⟩
  · rw [F 5 (by decide)]; rfl
  · rw [F 7 (by decide)]; show (0 : Int) ≤ 0 ∧ (0 : Int) ≤ 3; decide
  · rw [F 8 (by decide)]; show (0 : Int) ≤ 0 ∧ (0 : Int) ≤ 3; decide
  · rw [F 7 (by decide), F 8 (by decide)]; exact fun k _ _ => rfl
  · rw [(op1_S I x j).2.2 3 (by decide) (by decide)]; exact h7
  · rw [(op1_S I x j).2.2 3 (by decide) (by decide), (op1_S I x j).2.2 5 (by decide) (by decide), (op1_S I x j).2.2 7 (by decide) (by decide)]; exact h8
theorem TX_op {w0 I : W_} {x : Int} {t : T_} (h0 : 0 ≤ I.1 33 1) (e33 : I.1 33 1 = w0.1 33 1) (e13 : I.1 41 13 = w0.1 41 13) : TX w0 x t .nil false (w_op1 I x (it_id t)) ∧ f_t (w_op1 I x (it_id t)) 2 = 0 := by
  obtain ⟨n1, n2, n3, n4, n5⟩ := op1_n (x := x) (j := it_id t) h0
  have F := fun g hg => op1_F (x := x) (j := it_id t) (g := g) h0 hg
  refine ⟨⟨⟨by omega, by omega, by omega⟩, ⟨?_, ?_, ?_, ?_⟩, ?_, ?_, fun z z1 z3 => ?_⟩, ?_⟩
  · rw [F 0 (by decide)]; rfl
  · rw [F 1 (by decide)]; rfl
  · rw [F 3 (by decide)]; rfl
  · rw [F 9 (by decide)]; exact e13
  · rw [F 4 (by decide)]; rfl
  · rw [F 6 (by decide)]; rfl
  · rw [F 7 (by decide), F (9 + z) (by omega), if_neg (by omega), if_neg (by omega), if_neg (by omega), if_neg (by omega), if_neg (by omega), if_neg (by omega)]
    exact ⟨rfl, Nat.zero_le _, rfl⟩
  · rw [F 2 (by decide)]; rfl
/-- names are copied for a block -/
theorem RD_inn (H : RD C sil o a0 D K0 hb s E w) (hr : s_rw s < 2040) : RD C sil o a0 D K0 false (u_rw s (s_rw s + 1)) E (w_inn (w_f w 41 12 (w.1 41 12 + 1)) 10) ∧ wS w (w_inn (w_f w 41 12 (w.1 41 12 + 1)) 10) ∧ ∀ k : Nat, (k : Int) < 10 * (w.1 41 12 + 1) → (w_inn (w_f w 41 12 (w.1 41 12 + 1)) 10).2 42 k = w.2 42 k := by
  obtain ⟨h1, h2, h3, h4, h5, h6, h7, h8⟩ := H
  have e12 : (w_f w 41 12 (w.1 41 12 + 1)).1 41 12 = w.1 41 12 + 1 := by rw [w_f1, w_u_at, if_pos ⟨rfl, rfl⟩]
  have I2 : ∀ b k, (w_inn (w_f w 41 12 (w.1 41 12 + 1)) 10).2 b k = if b = 42 ∧ (w.1 41 12 + 1) * 10 ≤ (k : Int) ∧ (k : Int) < (w.1 41 12 + 1) * 10 + 10 then w.2 42 (k - 10) else w.2 b k := fun b k => rfl
  have S : wS w (w_inn (w_f w 41 12 (w.1 41 12 + 1)) 10) := by
    refine wS_tr (wS_f (Or.inr ⟨rfl, by decide⟩)) ⟨fun _ _ _ _ => rfl, ⟨rfl, rfl, rfl, rfl⟩, fun b b1 b2 => ?_⟩
    funext k
    rw [I2, if_neg (fun q => b2 q.1)]
    rfl
  have i12 : (w_inn (w_f w 41 12 (w.1 41 12 + 1)) 10).1 41 12 = w.1 41 12 + 1 := e12
  have i33 : (w_inn (w_f w 41 12 (w.1 41 12 + 1)) 10).1 33 1 = w.1 33 1 := rfl
  have hx := xP_S S (RD_oK h1)
  have h0 := h1.2.2.1.2.2.2.1.1
  refine ⟨⟨CR_rw (CR_S h1 S) hr, fun m hm => ?_, fun q => Bool.noConfusion q, ?_, ?_, h6, ?_, ?_⟩, S, fun k hk => ?_⟩
  · have h9 := h2 m hm
    have ei : (w_inn (w_f w 41 12 (w.1 41 12 + 1)) 10).2 42 (((w_inn (w_f w 41 12 (w.1 41 12 + 1)) 10).1 41 12).toNat * 10 + m) = w.2 42 ((w.1 41 12).toNat * 10 + m) := by
      have e2 : (w.1 41 12 + 1).toNat * 10 + m - 10 = (w.1 41 12).toNat * 10 + m := by omega
      rw [i12, I2, if_pos ⟨rfl, by omega, by omega⟩, e2]
    rw [ei]
    cases q : E m with
    | none => rw [q] at h9; exact h9
    | some v => rw [q] at h9; exact vW_x hx h0 h9
  · rw [i33]; exact h4
  · rw [i12]
    refine ⟨by omega, ?_⟩
    show w.1 41 12 + 1 ≤ ((s_rw s + 1 : Nat) : Int)
    omega
  · rw [S.2.2 3 (by decide) (by decide)]; exact h7
  · rw [S.2.2 3 (by decide) (by decide), S.2.2 5 (by decide) (by decide), S.2.2 7 (by decide) (by decide)]; exact h8
  · rw [I2, if_neg (by omega)]
/-- a text ends -/
theorem RT_cl {w0 W : W_} {own : Int} {q : T_} {f : Bool} (tl : T_) (R : RD C sil o a0 D K0 true s E W) (T : TX w0 own .nil q f W) (q0 : TQ w0 W) (hn : s_nd s + 1 ≤ 11 * s_tb s + 300) : CR C sil o a0 D K0 (u_tl (u_nd s 1) tl) (w_ct W) ∧ (w_ct W).1 33 1 = w0.1 33 1 ∧ fQ (w0.1 33 1) hb w0 (w_ct W) ∧ (∀ k : Nat, (k : Int) < 10 * (w0.1 41 12 + 1) → (w_ct W).2 42 k = w0.2 42 k) ∧ vW_ (w_ct W) (if f = true then .tag 9 q else vE) ((w_ct W).1 41 11) ∧ (w_ct W).1 41 10 = W.1 41 10 ∧ (w_ct W).2 3 = W.2 3 ∧ (w_ct W).2 5 = W.2 5 ∧ (w_ct W).2 7 = W.2 7 := by
  have hcn := R.1.2.2.1.2.2.2
  have h0 := hcn.1.1
  have ho := RD_oK R.1
  obtain ⟨⟨t1, t2, t3⟩, ⟨t4, t5, t6, t7⟩, t8, t9, t10⟩ := T
  obtain ⟨q1, q2, q3, q4⟩ := q0
  have eV : (w_f W 41 11 20000).1 13 2 = W.1 13 2 := by rw [w_f1, w_u_at, if_neg (by decide)]
  have SV : wS W (w_f W 41 11 20000) := wS_f (Or.inr ⟨rfl, by decide⟩)
  have hoV := oK_x (xP_S SV ho) ho
  have RV := CR_S R.1 SV
  -- the heap with the text's content
  have X : ∃ M y, w_ct W = w_po (w_f (w_f (w_f M 41 11 y) 41 13 (f_t W 9)) 41 12 (W.1 41 12 - 1)) ∧ hS (w_f W 41 11 20000) M ∧ M.1 13 2 ≤ W.1 13 2 + 1 ∧ vW_ M (if f = true then .tag 9 q else vE) y := by
    cases f with
    | false =>
      rw [if_neg Bool.false_ne_true] at t9 ⊢
      refine ⟨w_f W 41 11 20000, 20000, ?_, hS_rf _, by rw [eV]; omega, vW_E⟩
      unfold w_ct
      rw [if_pos t9]
      have e : w_f (w_f W 41 11 20000) 41 11 20000 = w_f W 41 11 20000 := by
        unfold w_f
        congr 1
        funext b k
        by_cases c : b = 41 ∧ k = 11
        · rw [w_u_at, w_u_at, if_pos c, if_pos c]
        · rw [w_u_at, if_neg c]
      rw [e]
    | true =>
      rw [if_pos rfl] at t9 ⊢
      have hV0 : 0 ≤ (w_f W 41 11 20000).1 13 2 := by rw [eV]; exact h0
      have HS : hS (w_f W 41 11 20000) (w_wid (w_mk (w_f W 41 11 20000) 9 (f_t W 4) 20003 0 0) (30000 + (w_f W 41 11 20000).1 13 2) (f_t W 10) (f_t W 11) (f_t W 12)) := hS_wid (hS_mk hV0 (cpx_of hV0 (cW_x (xP_S SV ho) t8)) (cpx_k hV0 (by decide)) (fun q => absurd q (by decide))) hV0
      obtain ⟨y1, y2, y3, y4, y5, y6, y7, y8, y9⟩ := new_wid (W := w_f W 41 11 20000) (k := 9) (b := f_t W 4) (c := 20003) (d := 0) (e := 0) (x := f_t W 10) (y := f_t W 11) (z := f_t W 12) hV0 (by unfold am_rg; omega) (by unfold am_rg; omega) (CR_gN RV)
      have hx := hS_x HS hoV
      have e0 : w_ct W = w_po (w_f (w_f (w_f (w_wid (w_mk (w_f W 41 11 20000) 9 (f_t W 4) 20003 0 0) (30000 + (w_f W 41 11 20000).1 13 2) (f_t W 10) (f_t W 11) (f_t W 12)) 41 11 (30000 + W.1 13 2)) 41 13 (f_t W 9)) 41 12 (W.1 41 12 - 1)) := by
        unfold w_ct
        rw [if_neg (by omega), eV]
        rfl
      generalize w_wid (w_mk (w_f W 41 11 20000) 9 (f_t W 4) 20003 0 0) (30000 + (w_f W 41 11 20000).1 13 2) (f_t W 10) (f_t W 11) (f_t W 12) = M at *
      rw [eV] at y2 y3 y4 y5 y6 y7 y8 y9
      have t8' : cR ((w_f W 41 11 20000).1 13 2) ((w_f W 41 11 20000).2 13) (fW (w_f W 41 11 20000)) q (f_t W 4) := cW_x (xP_S SV ho) t8
      have c8 := cW_x hx t8'
      have z1 := (t10 1 (by decide) (by decide)).1
      have z2 := (t10 2 (by decide) (by decide)).1
      have z3 := (t10 3 (by decide) (by decide)).1
      refine ⟨M, 30000 + W.1 13 2, e0, HS, by rw [y1, eV]; exact Int.le_refl _, ?_, ?_⟩
      · have g : hN (M.1 13 2) (M.2 13) (fW M) (30000 + W.1 13 2) 9 ∧ cR (M.1 13 2) (M.2 13) (fW M) q (pH (M.2 13) (30000 + W.1 13 2) 1) := ⟨y2, by rw [y3]; exact c8⟩
        cases q <;> exact g
      · have wq : ∀ z : Nat, v_wq (.tag 9 q) z = ((v_wq q z).1, z) := fun z => by cases q <;> rfl
        unfold hW v_wd
        rw [if_neg (by omega), if_neg (by omega), if_neg (by omega), y7, y8, y9, wq, wq, wq]
        exact ⟨z1.symm, z2.symm, z3.symm, fun z => by rw [wq]⟩
  obtain ⟨M, y, eZ, X1, X2, X3⟩ := X
  rw [eZ]
  have RM := CR_h (k := 1) RV X1 (by rw [eV]; exact X2) hn
  have c33 : M.1 33 1 = W.1 33 1 := (X1.1 33 1 (by decide)).trans rfl
  have c10 : M.1 41 10 = W.1 41 10 := (X1.1 41 10 (by decide)).trans rfl
  have m34 : M.2 34 = W.2 34 := X1.2.1 34 (by decide)
  have m42 : M.2 42 = W.2 42 := X1.2.1 42 (by decide)
  have hoM := oK_x (hS_x X1 hoV) hoV
  have S : wS M (w_po (w_f (w_f (w_f M 41 11 y) 41 13 (f_t W 9)) 41 12 (W.1 41 12 - 1))) := wS_tr (wS_tr (wS_tr (wS_f (Or.inr ⟨rfl, by decide⟩)) (wS_f (Or.inr ⟨rfl, by decide⟩))) (wS_f (Or.inr ⟨rfl, by decide⟩))) (wS_po _)
  have xS := xP_S S hoM
  have xA := xP_tr q4 (xP_tr (xP_S SV ho) (xP_tr (hS_x X1 hoV) xS))
  have n33 : (w_po (w_f (w_f (w_f M 41 11 y) 41 13 (f_t W 9)) 41 12 (W.1 41 12 - 1))).1 33 1 = w0.1 33 1 := by
    rw [w_po1, if_pos ⟨rfl, rfl⟩]
    have e : (w_f (w_f (w_f M 41 11 y) 41 13 (f_t W 9)) 41 12 (W.1 41 12 - 1)).1 33 1 = M.1 33 1 := rfl
    rw [e, c33, t1]
    split <;> omega
  have n12 : (w_po (w_f (w_f (w_f M 41 11 y) 41 13 (f_t W 9)) 41 12 (W.1 41 12 - 1))).1 41 12 = W.1 41 12 - 1 := rfl
  have n13 : (w_po (w_f (w_f (w_f M 41 11 y) 41 13 (f_t W 9)) 41 12 (W.1 41 12 - 1))).1 41 13 = f_t W 9 := rfl
  have n11 : (w_po (w_f (w_f (w_f M 41 11 y) 41 13 (f_t W 9)) 41 12 (W.1 41 12 - 1))).1 41 11 = y := rfl
  have n10 : (w_po (w_f (w_f (w_f M 41 11 y) 41 13 (f_t W 9)) 41 12 (W.1 41 12 - 1))).1 41 10 = M.1 41 10 := rfl
  have n2 : (w_po (w_f (w_f (w_f M 41 11 y) 41 13 (f_t W 9)) 41 12 (W.1 41 12 - 1))).2 = M.2 := rfl
  generalize w_po (w_f (w_f (w_f M 41 11 y) 41 13 (f_t W 9)) 41 12 (W.1 41 12 - 1)) = Z at *
  have hM0 : 0 ≤ M.1 13 2 := by have := X1.2.2.1; rw [eV] at this; omega
  refine ⟨CR_tl (CR_S RM S), n33, ⟨⟨by rw [n12, q1]; omega, by rw [n13]; exact t7⟩, fun k hk => Or.inr ?_, fun k hk => ?_, xA⟩, fun k hk => ?_, ?_, by rw [n10]; exact c10, ?_, ?_, ?_⟩
  · rw [n2, m34]; exact q2 k hk
  · rw [n2, m42]; exact q3 k (by omega)
  · rw [n2, m42]; exact q3 k hk
  · rw [n11]; exact vW_x xS hM0 X3
  · rw [n2, X1.2.1 3 (by decide)]; rfl
  · rw [n2, X1.2.1 5 (by decide)]; rfl
  · rw [n2, X1.2.1 7 (by decide)]; rfl
theorem sim_8 {L : Nat} {rec : K_} (N1 : eNK rec) (M1 : eMK rec) (W1 : eWK rec) (T1 : eTK rec) (h1 : cSK C sil o K0 rec) (H : RD C sil o a0 D K0 hb s E w) (he : eW w 0 hb (ce 8 n id a b c)) (hd : w.1 41 10 = id) (hf : 20 ≤ fr) (hi : 0 ≤ i) (hi2 : i + 12 * (s_b s1 : Int) ≤ 900000 + 12 * (s_b s : Int)) (ht : s_tb s < 2000) (hB : s_b s1 ≤ 90000 ∧ s_nt s1 ≤ 900000) (hD : D → e_imp a = false ∧ n_ni E) (hr0 : s_rw s < 2040) (hr : t_block L rec C sil a E (u_rw (u_go s) (s_rw s + 1)) = some (v, E1, s1)) (K : cK C sil o a0 D K0 hb s s1 E w v fr Q i) : dr fr Q i w := by
  obtain ⟨⟨g1, g2, g3, g4, g5, g6⟩, -, g8, -⟩ := eW_ce he
  obtain ⟨g81, g82⟩ := g8 rfl
  unfold t_block at hr
  cases hq : t_run L rec C sil a .nil false E (u_tl (u_rw (u_go s) (s_rw s + 1)) .nil) with
  | none => rw [hq] at hr; cases hr
  | some z =>
    obtain ⟨q, f, E3, s3⟩ := z
    rw [hq] at hr
    have hr : some ((if f = true then .tag 9 q else vE : T_), E3, u_tl (u_nd s3 1) (s_tl s)) = some (v, E1, s1) := hr
    injection hr with hr
    injection hr with hv hr
    injection hr with hE hs1
    have hl0 := H.2.2.2.2.2.1
    have mr := t_run_M M1 _ _ (Nat.le_refl _) _ _ _ _ _ _ _ _ hq (Nat.le_succ_of_le hl0)
    have wr := t_run_W W1 _ _ (Nat.le_refl _) _ _ _ _ _ _ _ _ hq
    have wr : s_nd s3 + 11 * (s_tb s + 1) ≤ s_nd s + 11 * s_tb s3 + 0 := wr
    have mb : s_b s + 1 ≤ s_b s3 := mr.1
    have eb : s_b s1 = s_b s3 := by rw [← hs1]
    have en : s_nt s1 = s_nt s3 := by rw [← hs1]
    have hcn := H.1.2.2.1.2.2.2
    have hct := H.2.2.2.1
    have hrow := H.2.2.2.2.1
    have ho := RD_oK H.1
    have Rb := RD_bg H ht (by omega)
    have ob : oQ (w.1 33 1) w (w_bg w) := oQ_bg ho
    have hob := oK_x ob.2.2.2 ho
    have cb : (w_bg w).1 33 1 = w.1 33 1 := w_bg_n w
    have c12 : (w_bg w).1 41 12 = w.1 41 12 := ob.1.1
    refine dr_due (f := 6) (by omega) ⟨by unfold am_rg; omega, by omega⟩ (lk_82b hd (by omega) g2 g3 ⟨g4, g5⟩ (by omega) (by omega) (by omega)) (by omega) fun w1 hw1 => ?_
    obtain ⟨RI, SI, NI⟩ := RD_inn Rb hr0
    rw [← c12] at hw1
    have i33 : (w_inn (w_f (w_bg w) 41 12 ((w_bg w).1 41 12 + 1)) 10).1 33 1 = (w_bg w).1 33 1 := rfl
    have i13 : (w_inn (w_f (w_bg w) 41 12 ((w_bg w).1 41 12 + 1)) 10).1 41 13 = (w_bg w).1 41 13 := rfl
    have i12 : (w_inn (w_f (w_bg w) 41 12 ((w_bg w).1 41 12 + 1)) 10).1 41 12 = (w_bg w).1 41 12 + 1 := by
      show (w_f (w_bg w) 41 12 ((w_bg w).1 41 12 + 1)).1 41 12 = _
      rw [w_f1, w_u_at, if_pos ⟨rfl, rfl⟩]
    have i10 : (w_inn (w_f (w_bg w) 41 12 ((w_bg w).1 41 12 + 1)) 10).1 41 10 = -1 := rfl
    have i34 : (w_inn (w_f (w_bg w) 41 12 ((w_bg w).1 41 12 + 1)) 10).2 34 = (w_bg w).2 34 := by
      funext k
      unfold w_inn
      dsimp only
      rw [if_neg (fun q => absurd q.1 (by decide))]
      rfl
    have i37 : w_g (w_inn (w_f (w_bg w) 41 12 ((w_bg w).1 41 12 + 1)) 10) 37 (id * 9) = w_g w 37 (id * 9) := by
      rw [wg_w, SI.2.2 37 (by decide) (by decide)]
      rfl
    rw [w_opt_1 (by omega), i37, g81] at hw1
    generalize w_inn (w_f (w_bg w) 41 12 ((w_bg w).1 41 12 + 1)) 10 = I at *
    have hI0 : 0 ≤ I.1 33 1 := by omega
    have RO := RD_op (x := (id : Int)) (j := it_id a) RI (by rw [i33, cb]; show w.1 33 1 + 1 ≤ 19990 + 2 * ((s_tb s + 1 : Nat) : Int); omega)
    obtain ⟨TO, fO⟩ := TX_op (w0 := w_bg w) (x := (id : Int)) (t := a) hI0 i33 i13
    obtain ⟨n1, n2, n3, n4, n5⟩ := op1_n (x := (id : Int)) (j := it_id a) hI0
    have SO := op1_S I (id : Int) (it_id a)
    have xO : xP (w_bg w) (w_op1 I (id : Int) (it_id a)) := xP_S (wS_tr SI SO) hob
    have QO : TQ (w_bg w) (w_op1 I (id : Int) (it_id a)) := ⟨by rw [n3, i12], fun k hk => by rw [op1_34 hI0 k (by rw [i33]; exact hk), i34], fun k hk => by rw [op1_42]; exact NI k hk, xO⟩
    have dO : (w_op1 I (id : Int) (it_id a)).1 41 10 = -1 := n4.trans i10
    rw [← hw1] at RO TO fO QO dO xO
    refine sim_run N1 M1 W1 T1 h1 hf _ a (Nat.le_refl _) .nil false E _ q f E3 s3 hq w1 (i + 1) true RO rfl TO fO QO (eW_x xO (eW_x ob.2.2.2 g82)) dO hD (by omega) ?_ ⟨by omega, by omega⟩ fun i5 w5 l1 l2 R5 tl5 T5 q5 d5 => ?_
    · show i + 1 + 12 * (s_b s3 : Int) ≤ 900000 + 12 * ((s_b s + 1 : Nat) : Int)
      omega
    have l2 : i5 + 12 * ((s_b s + 1 : Nat) : Int) ≤ i + 1 + 12 * (s_b s3 : Int) := l2
    have T5' := T5
    obtain ⟨⟨t1, t2, t3⟩, ⟨t4, t5, t6, t7⟩, t8, t9, -⟩ := T5'
    have t6 : f_t w5 3 = -1 := t6
    have hcn5 := R5.1.2.2.1.2.2.2
    have hct5 := R5.2.2.2.1
    have c5 : 1 ≤ w5.1 33 1 ∧ w5.1 33 1 < 24000 := by omega
    have nd3 : s_nd s3 + 1 ≤ 11 * s_tb s3 + 300 := by omega
    obtain ⟨RC, c33, QC, NC, vC, dC, e3, e5, e7⟩ := RT_cl (hb := hb) (s_tl s) R5 T5 q5 nd3
    refine dr_5 (f := 6) (by omega) d5 c5 t4 (lk_104a t6 c5 (lk_108a c5 (by omega) (by rw [t9]; split <;> (unfold am_rg; omega)) (by rw [t5]; omega))) (by omega) (by omega) fun w6 hw6 => ?_
    rw [hw6]
    rw [hs1] at RC
    rw [hv] at vC
    have QW : fQ (w.1 33 1) hb w (w_ct w5) := by
      rw [cb] at QC
      exact fQ_tr (oQ_fQ ob) QC
    have etl : s_tl s1 = s_tl s := by rw [← hs1]
    have mb5 : s_tb s ≤ s_tb s1 := by
      have z : s_tb s + 1 ≤ s_tb s3 := mr.2.2.2.2.2.2.2.2.1
      rw [← hs1]
      show s_tb s ≤ s_tb s3
      omega
    have h0b : 0 ≤ (w_bg w).1 13 2 := by rw [w_bg1, if_neg (by decide), if_neg (by decide)]; omega
    have hrw5 : w.1 41 12 ≤ s_rw s1 := by
      have z1 := R5.2.2.2.2.1.2
      have z2 := q5.1
      rw [← hs1]
      show w.1 41 12 ≤ (s_rw s3 : Int)
      omega
    refine K (i5 + 1) (w_ct w5) (by omega) (by omega) ⟨RC, fun m hm => ?_, ?_, ?_, ?_, ?_, ?_, ?_⟩ (c33.trans cb) QW vC (dC.trans d5)
    · have h9 := Rb.2.1 m hm
      have e12 : (w_ct w5).1 41 12 = (w_bg w).1 41 12 := QC.1.1
      rw [e12, NC _ (by omega)]
      cases z : E m with
      | none => rw [z] at h9; exact h9
      | some v => rw [z] at h9; exact vW_x QC.2.2.2 h0b h9
    · intro z
      exact mkR_fQ (n := w.1 33 1) H.2.2.1 etl (by
        have := RT_cl (hb := false) (s_tl s) R5 T5 q5 nd3
        have y := this.2.2.1
        rw [cb] at y
        exact fQ_tr (oQ_fQ ob) y) (Int.le_refl _) (by rw [c33, cb]; exact Int.le_refl _) z
    · rw [c33, cb]; omega
    · have e12 : (w_ct w5).1 41 12 = (w_bg w).1 41 12 := QC.1.1
      rw [e12, c12]
      omega
    · rw [← hs1]; exact mr.2.2.2.2.1
    · rw [e3]; exact R5.2.2.2.2.2.2.1
    · rw [e3, e5, e7]; exact R5.2.2.2.2.2.2.2
end
