/-! ===== the class runs as the evaluator: texts, item by item ===== -/
section
variable {C : C_} {sil : Bool} {o a0 : Nat} {D : Prop} {K0 : Int} {hb : Bool} {s s1 : S_} {E E1 : N_} {w : W_} {fr : Nat} {Q : Option am_V → W_ → Prop} {i : Int} {k : Nat} {n : Int} {id : Nat} {a b c v : T_}

theorem sim_run {L : Nat} {rec : K_} {w0 : W_} {own : Int} (N1 : eNK rec) (M1 : eMK rec) (W1 : eWK rec) (T1 : eTK rec) (h1 : cSK C sil o K0 rec) (hf : 20 ≤ fr) : ∀ (m : Nat) (t : T_), it_len t ≤ m → ∀ (q : T_) (f : Bool) (E : N_) (s : S_) (q1 : T_) (f1 : Bool) (E1 : N_) (s1 : S_), t_run L rec C sil t q f E s = some (q1, f1, E1, s1) → ∀ (w : W_) (i : Int) (hb : Bool), RD C sil o a0 D K0 true s E w → s_tl s = .nil → TX w0 own t q f w → f_t w 2 = 0 → TQ w0 w → eW w 1 hb t → w.1 41 10 = -1 → (D → e_imp t = false ∧ n_ni E) → 0 ≤ i → i + 12 * (s_b s1 : Int) ≤ 900000 + 12 * (s_b s : Int) → s_b s1 ≤ 90000 ∧ s_nt s1 ≤ 900000 → (∀ i' w', i ≤ i' → i' + 12 * (s_b s : Int) ≤ i + 12 * (s_b s1 : Int) → RD C sil o a0 D K0 true s1 E1 w' → s_tl s1 = .nil → TX w0 own .nil q1 f1 w' → TQ w0 w' → w'.1 41 10 = -1 → dr fr Q i' w') → dr fr Q i w := by
  intro m
  induction m with
  | zero =>
    intro t hm q f E s q1 f1 E1 s1 h w i hb R tl T f2 q0 e hd hD i0 ib hB K
    rcases eR_or 1 hb t (by decide) e.1 with rfl | ⟨k, n, id, x, r, rfl⟩
    · cases h
      exact K i w (Int.le_refl _) (Int.le_refl _) R tl T q0 hd
    · rw [it_ct] at hm; omega
  | succ m ih =>
    intro t hm q f E s q1 f1 E1 s1 h w i hb R tl T f2 q0 e hd hD i0 ib hB K
    rcases eR_or 1 hb t (by decide) e.1 with rfl | ⟨k, n, id, x, r, rfl⟩
    · cases h
      exact K i w (Int.le_refl _) (Int.le_refl _) R tl T q0 hd
    · rw [it_ct] at hm
      rw [t_run_ct] at h
      obtain ⟨⟨g1, g2, g3, g4, g5, g6, g7⟩, g9, g10, g13, g11⟩ := eW_ct1 e
      have hl0 := R.2.2.2.2.2.1
      have hct := R.2.2.2.1
      have hcn := R.1.2.2.1.2.2.2
      have T' := T
      obtain ⟨⟨a1, a2, a22⟩, ⟨a3, a6, a4, a7⟩, -⟩ := T'
      have a4 : f_t w 3 = (id : Int) := a4
      have c1 : 1 ≤ w.1 33 1 ∧ w.1 33 1 < 24000 := by omega
      have ho := RD_oK R.1
      have eb := w_bg_eq hd
      have ob : oQ (w.1 33 1) w (w_bg w) := oQ_bg ho
      have hob := oK_x ob.2.2.2 ho
      have cb : (w_bg w).1 33 1 = w.1 33 1 := w_bg_n w
      have Tb := TX_Q T (oQ_fQ ob) cb
      have fb : ∀ g : Int, f_t (w_bg w) g = f_t w g := fun g => by
        unfold f_t
        rw [cb]
        rfl
      by_cases ht : s_tb s < 2000
      · rw [if_pos ht] at h
        have Rb := RD_bg R ht (by
          cases hI : t_item L rec C sil k n x E s with
          | none => rw [hI] at h; cases h
          | some z =>
            obtain ⟨v, E2, s2⟩ := z
            have mi := t_item_M M1 hI hl0
            rw [hI] at h
            have mr := t_run_M M1 _ _ (Nat.le_refl _) _ _ _ _ _ _ _ _ h mi.2.2.2.2.1
            have z1 : s_b s ≤ s_b s2 := mi.1
            have z2 : s_b s2 ≤ s_b s1 := mr.1
            omega)
        cases hI : t_item L rec C sil k n x E s with
        | none => rw [hI] at h; cases h
        | some z =>
          obtain ⟨v, E2, s2⟩ := z
          rw [hI] at h
          have h : t_run L rec C sil r (t_mks (t_app q f v).1 s2) (t_app q f v).2 E2 (u_tl s2 .nil) = some (q1, f1, E1, s1) := h
          have mi := t_item_M M1 hI hl0
          have wi := t_item_W W1 hI
          have wi : s_nd s2 + 11 * s_tb s ≤ s_nd s + 11 * s_tb s2 + 0 := wi
          have mr := t_run_M M1 _ _ (Nat.le_refl _) _ _ _ _ _ _ _ _ h mi.2.2.2.2.1
          have mb1 : s_b s ≤ s_b s2 := mi.1
          have mn1 : s_nt s ≤ s_nt s2 := mi.2.1
          have mb2 : s_b s2 ≤ s_b s1 := mr.1
          have mn2 : s_nt s2 ≤ s_nt s1 := mr.2.1
          have nd2 : s_nd s2 ≤ 11 * s_tb s2 + 300 := by omega
          have hDr : D → e_imp r = false ∧ n_ni E2 := fun z => ⟨(e_imp_ct (hD z).1).2, (t_item_N N1 hI (e_imp_ct (hD z).1).1 (hD z).2).2⟩
          -- behind the item's value
          have fin : ∀ (s3 : S_) (kk : Nat) (W : W_) (y i3 : Int), s2 = u_nd s3 kk → (kk = 2 ∨ kk = 1 ∧ s_tl s3 = .nil) → mkW (s_tl s3) → RD C sil o a0 D K0 true s3 E2 W → TX w0 own (ct k n id x r) q f W → vW_ W v y → TQ w0 W → eW W 1 hb (ct k n id x r) → W.1 41 10 = -1 → i + 1 ≤ i3 → i3 + 12 * (s_b s : Int) ≤ i + 12 * (s_b s2 : Int) → dr fr Q i3 (w_tt W y id) := by
            intro s3 kk W y i3 es hk hmk RW TW vv q3 eW3 d3 l1 l2
            subst es
            obtain ⟨-, j9, -, -, j11⟩ := eW_ct1 eW3
            have nd2 : s_nd s3 + kk ≤ 11 * s_tb s3 + 300 := nd2
            obtain ⟨R4, T4, O4, f4, d4⟩ := RT_tt RW TW vv hmk hk nd2 j9
            refine ih r (by omega) _ _ E2 (u_tl (u_nd s3 kk) .nil) q1 f1 E1 s1 h (w_tt W y id) i3 false R4 rfl T4 f4 (TQ_o q3 O4) (eW_x O4.2.2.2 j11) (d4.trans d3) hDr (by omega) ?_ hB fun i' w' l3 l4 y1 y2 y3 y4 y5 => K i' w' (by omega) ?_ y1 y2 y3 y4 y5
            · show i3 + 12 * (s_b s1 : Int) ≤ 900000 + 12 * (s_b s3 : Int)
              have l2 : i3 + 12 * (s_b s : Int) ≤ i + 12 * (s_b s3 : Int) := l2
              omega
            · have l4 : i' + 12 * (s_b s3 : Int) ≤ i3 + 12 * (s_b s1 : Int) := l4
              have l2 : i3 + 12 * (s_b s : Int) ≤ i + 12 * (s_b s3 : Int) := l2
              omega
          -- the stage is set
          have R2 := RD_fsT (f := 2) (x := 1) Rb (by decide) (by decide) (by rw [cb, ob.1.2]; omega) (by rw [cb]; omega)
          obtain ⟨Tc, fc⟩ := TX_2 (x := 1) Tb
          have o2 : oQ (w0.1 33 1) (w_bg w) (w_fs (w_bg w) 2 1) := oQ_fs hob (by rw [cb]; omega) (by rw [cb]; omega) (by decide)
          have O2 : oQ (w0.1 33 1) w (w_fs (w_bg w) 2 1) := oQ_tr (oQ_bg ho) o2
          have q2 := TQ_o q0 O2
          have ho2 := oK_x O2.2.2.2 ho
          have c2 : (w_fs (w_bg w) 2 1).1 33 1 = w.1 33 1 := cb
          unfold t_item at hI
          by_cases c3 : k = 3
          · subst c3
            rw [if_pos rfl] at hI
            obtain ⟨gx1, gx2⟩ := g10 rfl
            cases hr : rec sil x E true (u_go s) with
            | none => rw [hr] at hI; cases hI
            | some z =>
              obtain ⟨v', E3, s3⟩ := z
              rw [hr] at hI
              have hI : (match f_fu L C v' (e_id x) s3 with
                | some s2 => some (v', E3, u_nd s2 2)
                | none => none) = some (v, E2, s2) := hI
              cases hq : f_fu L C v' (e_id x) s3 with
              | none => rw [hq] at hI; cases hI
              | some s4 =>
                rw [hq] at hI
                have hI : some (v', E3, u_nd s4 2) = some (v, E2, s2) := hI
                injection hI with hI
                injection hI with hv hI
                injection hI with hE hs2
                subst hv hE
                have hs := f_fu_nt hq
                obtain ⟨-, e4⟩ := f_fu_inv hq
                have m1 := M1 _ _ _ _ _ _ _ _ hr (Nat.le_succ_of_le hl0)
                have mb3 : s_b s + 1 ≤ s_b s3 := m1.1
                have eb4 : s_b s2 = s_b s4 := by rw [← hs2]
                have en4 : s_nt s2 = s_nt s4 := by rw [← hs2]
                have mk3 : mkW (s_tl s3) := T1 _ _ _ _ _ _ _ _ hr (Nat.le_succ_of_le hl0) (by
                  show mkW (s_tl s)
                  rw [tl]
                  exact mkW_0)
                have etl : s_tl s4 = s_tl s3 := by
                  rw [e4]
                  exact (eMQ_funs (hb := false) (C := C) (v := v') (id := e_id x) m1.2.2.2.2.1).2.2.2.2.2.2.2.1 rfl
                have R1 := RD_val (j := 10) (x := (e_id x : Int)) R2 (Or.inl rfl)
                refine dr_5 (f := 5) (by omega) hd c1 a3 (lk_104b (item := (id : Int)) a4 (by omega) c1 g2 f2) (by omega) (by omega) fun w1 hw1 => ?_
                rw [eb, gx1] at hw1
                have ov : oQ (w.1 33 1) (w_fs (w_bg w) 2 1) (w_f (w_fs (w_bg w) 2 1) 41 10 (e_id x)) := oQ_val ho2 (Or.inl rfl)
                have T1' := TX_Q Tc (oQ_fQ ov) (by rw [w_f1, w_u_at, if_neg (by decide)])
                have o1 : oQ (w0.1 33 1) w (w_f (w_fs (w_bg w) 2 1) 41 10 (e_id x)) := oQ_tr O2 (oQ_val ho2 (Or.inl rfl))
                have c33 : (w_f (w_fs (w_bg w) 2 1) 41 10 (e_id x)).1 33 1 = w.1 33 1 := by rw [w_f1, w_u_at, if_neg (by decide)]; exact cb
                have d10 : (w_f (w_fs (w_bg w) 2 1) 41 10 (e_id x)).1 41 10 = e_id x := by rw [w_f1, w_u_at, if_pos ⟨rfl, rfl⟩]
                have fs1 : f_t (w_f (w_fs (w_bg w) 2 1) 41 10 (e_id x)) 2 = 1 := by rw [f_t_f (by decide)]; exact fc
                rw [← hw1] at R1 T1' o1 c33 d10 fs1
                clear hw1 ov
                refine h1 x E true (u_go s) v' E3 s3 hr a0 D w1 fr Q (i + 1) R1 (eW_x o1.2.2.2 gx2) d10 (fun z => ⟨(e_imp_ct (hD z).1).1, (hD z).2⟩) hf (by omega) ?_ ⟨by omega, by omega⟩ fun i3 w3 l1 l2 R3 c3 Q3 v3 d3 => ?_
                · show i + 1 + 12 * (s_b s3 : Int) ≤ 900000 + 12 * ((s_b s + 1 : Nat) : Int)
                  omega
                have l2 : i3 + 12 * ((s_b s + 1 : Nat) : Int) ≤ i + 1 + 12 * (s_b s3 : Int) := l2
                have T3 := TX_Q T1' Q3 c3
                have TT := T3
                obtain ⟨⟨b1, b2, b22⟩, ⟨b3, b6, b4, b7⟩, -⟩ := TT
                have b4 : f_t w3 3 = (id : Int) := b4
                have T1c := T1'
                have ft1 := T1c.1
                have f3s : f_t w3 2 = 1 := by rw [f_t_T Q3 c3 (by omega) (by omega) (by decide) (by decide)]; exact fs1
                have q3 : TQ w0 w3 := TQ_f (TQ_o q0 o1) (n := w1.1 33 1) (by omega) (by omega) Q3
                have e3 : eW w3 1 hb (ct 3 n id x r) := eW_x Q3.2.2.2 (eW_x o1.2.2.2 e)
                obtain ⟨⟨-, k2, k3, -⟩, k9, k10, -, k11⟩ := eW_ct1 e3
                have hp := eR_id gx2.1
                obtain ⟨hcx, RN⟩ := sim_ntn R3 v3 hp (by omega)
                have ho3 := RD_oK R3.1
                have hcn3 := R3.1.2.2.1.2.2.2
                have nq := ntn_Q (n := w0.1 33 1) (f := f_code 3 (e_id x)) (min 60 (v_nf v')) w3 ho3
                have nq2 := (ntn_Q (n := w3.1 33 1) (f := f_code 3 (e_id x)) (min 60 (v_nf v')) w3 ho3).1
                obtain ⟨p1, p2, p3, p4, p5⟩ := nq
                have vN' := vW_x p1.2.2.2 hcn3.1.1 v3
                have TN := TX_Q T3 (oQ_fQ nq2) p2
                have eN := eW_x p1.2.2.2 e3
                have qN := TQ_o q3 p1
                rw [← e4] at RN
                have hcode : (100000 * 3 + w_spot (e_id x : Int)) = f_code 3 (e_id x) := f_code_w 3 (e_id x)
                have hnf := vW_nf v3
                have tg := TX_rg RN TN
                have hcnN := RN.1.2.2.1.2.2.2
                have c33w : w3.1 33 1 = w.1 33 1 := c3.trans c33
                refine dr_5 (f := 5) (by omega) d3 (by rw [c33w]; exact c1) b3 (lk_104e (item := (id : Int)) (v := w3.1 41 11) (p := e_id x) b4 (by omega) k2 f3s (by rw [c33w]; exact c1) (k10 rfl).1 (by omega) rfl (CR_o R3.1).2 (vW_ok hcn3.1.1 (by omega) v3) (by rw [hnf]; omega) (w_ntn (min 60 (v_nf v')) w3 (f_code 3 (e_id x))) (by rw [hnf, Int.toNat_natCast, hcode]) p4 tg (vW_vl hcnN.1.1 (by omega) vN')) (by omega) (by omega) fun w4 hw4 => ?_
                rw [hw4]
                exact fin s4 2 _ _ (i3 + 1) hs2.symm (Or.inl rfl) (by rw [etl]; exact mk3) RN TN vN' qN eN (p3.trans d3) (by omega) (by rw [eb4, hs.1]; omega)
          · rw [if_neg c3] at hI
            by_cases c4 : k = 4
            · subst c4
              rw [if_pos rfl] at hI
              obtain ⟨gx1, gx2⟩ := g13 rfl
              cases hr : t_frm L rec C sil x 0 E (u_go s) with
              | none => rw [hr] at hI; cases hI
              | some z =>
                obtain ⟨d1, E3, s3⟩ := z
                rw [hr] at hI
                have hI : some ((.tag 4 (.nest d1 .nil) : T_), E3, u_nd s3 2) = some (v, E2, s2) := hI
                injection hI with hI
                injection hI with hv hI
                injection hI with hE hs2
                subst hE
                have m1 := t_frm_M M1 _ _ (Nat.le_refl _) _ _ _ _ _ _ hr (Nat.le_succ_of_le hl0)
                have mb3 : s_b s + 1 ≤ s_b s3 := m1.1
                have eb4 : s_b s2 = s_b s3 := by rw [← hs2]
                have en4 : s_nt s2 = s_nt s3 := by rw [← hs2]
                have ed4 : s_nd s2 = s_nd s3 + 2 := by rw [← hs2]
                have et4 : s_tb s2 = s_tb s3 := by rw [← hs2]
                have etl : s_tl s3 = .nil := (m1.2.2.2.2.2.2.2.1 rfl).trans tl
                refine dr_5 (f := 5) (by omega) hd c1 a3 (lk_104c (item := (id : Int)) a4 (by omega) (by omega) g2 f2) (by omega) (by omega) fun w1 hw1 => ?_
                rw [eb, gx1] at hw1
                -- the formula's own frame
                have hc2 : 0 ≤ (w_fs (w_bg w) 2 1).1 33 1 := by rw [c2]; omega
                have R3 := RD_pu (x := 6) (y := (id : Int)) R2 (by rw [c2]; show w.1 33 1 + 1 ≤ 19990 + 2 * ((s_tb s + 1 : Nat) : Int); omega)
                have c3' : (w_pu (w_fs (w_bg w) 2 1) 6 id).1 33 1 = w.1 33 1 + 1 := by rw [w_pu1, if_pos ⟨rfl, rfl⟩, c2]
                have h13 : (w_pu (w_fs (w_bg w) 2 1) 6 id).1 41 13 = w.1 41 13 := by rw [w_pu1, if_neg (by decide)]; exact ob.1.2
                have R4 := RD_fs (f := 3) (x := it_id x) R3 (by rw [c3']; omega) (by decide) (fun _ => by rw [c3', h13]; omega)
                have op : oQ ((w_fs (w_bg w) 2 1).1 33 1) (w_fs (w_bg w) 2 1) (w_pu (w_fs (w_bg w) 2 1) 6 id) := oQ_pu ho2 (Int.le_refl _) hc2
                have hop := oK_x op.2.2.2 ho2
                have of : oQ ((w_fs (w_bg w) 2 1).1 33 1) (w_pu (w_fs (w_bg w) 2 1) 6 id) (w_fs (w_pu (w_fs (w_bg w) 2 1) 6 id) 3 (it_id x)) := oQ_fs hop (by rw [c3', c2]; omega) (by rw [c3']; omega) (by decide)
                have F4 : ∀ g : Int, 0 ≤ g ∧ g < 13 → f_t (w_fs (w_pu (w_fs (w_bg w) 2 1) 6 id) 3 (it_id x)) g = if g = 3 then it_id x else if g = 0 then 6 else if g = 1 then (id : Int) else 0 := fun g hg => by
                  rw [f_t_fs0 (by rw [c3']; omega) (by decide) hg.1, f_t_pu hc2 hg]
                have X4 : FX (w_fs (w_bg w) 2 1) x 0 (w_fs (w_pu (w_fs (w_bg w) 2 1) 6 id) 3 (it_id x)) := ⟨⟨by rw [c2]; exact c3', hc2⟩, by rw [F4 0 (by decide)]; rfl, by rw [F4 3 (by decide)]; rfl, by rw [F4 10 (by decide)]; rfl⟩
                have d4 : (w_fs (w_pu (w_fs (w_bg w) 2 1) 6 id) 3 (it_id x)).1 41 10 = -1 := by
                  show (w_pu (w_fs (w_bg w) 2 1) 6 id).1 41 10 = -1
                  rw [w_pu1, if_neg (by decide)]
                  exact w_bg_d w
                have e4 := eW_x (oQ_tr op of).2.2.2 (eW_x O2.2.2.2 gx2)
                have f42 : f_t (w_fs (w_pu (w_fs (w_bg w) 2 1) 6 id) 3 (it_id x)) 2 = 0 := by rw [F4 2 (by decide)]; rfl
                have Q4 : fQ ((w_fs (w_bg w) 2 1).1 33 1) false (w_fs (w_bg w) 2 1) (w_fs (w_pu (w_fs (w_bg w) 2 1) 6 id) 3 (it_id x)) := oQ_fQ (oQ_tr op of)
                rw [← hw1] at R4 X4 d4 e4 f42 Q4
                have hm2 := R2.2.2.1
                have e2 : eW (w_fs (w_bg w) 2 1) 1 hb (ct 4 n id x r) := eW_x O2.2.2.2 e
                clear hw1 F4 R3
                generalize w_fs (w_bg w) 2 1 = V at *
                refine sim_frm N1 M1 h1 hf _ x (Nat.le_refl _) 0 E (u_go s) d1 E3 s3 hr w1 (i + 1) false (RD_fl R4) X4 (by decide) f42 Q4 e4 d4 (fun z => ⟨(e_imp_ct (hD z).1).1, (hD z).2⟩) (by omega) ?_ ⟨by omega, by omega⟩ fun i5 w5 l1 l2 R5 X5 d9 Q5 d5 => ?_
                · show i + 1 + 12 * (s_b s3 : Int) ≤ 900000 + 12 * ((s_b s + 1 : Nat) : Int)
                  omega
                have l2 : i5 + 12 * ((s_b s + 1 : Nat) : Int) ≤ i + 1 + 12 * (s_b s3 : Int) := l2
                obtain ⟨⟨x1, x2⟩, x3, x4, x5⟩ := X5
                have c5 : 1 ≤ w5.1 33 1 ∧ w5.1 33 1 < 24000 := by rw [x1, c2]; have := R5.2.2.2.1; omega
                have hcn5 := R5.1.2.2.1.2.2.2
                refine dr_6 (f := 5) (by omega) d5 c5 x3 (lk_109a (d := (d1 : Int)) x4 x5 c5 (by omega)) (by omega) (by omega) fun w6 hw6 => ?_
                obtain ⟨RP, cP⟩ := RD_po R5 x1 x2 (fun z => Bool.noConfusion z)
                obtain ⟨p11, p10, p12, p13⟩ := w_po_v w5
                have hoP := RD_oK RP.1
                have OP : oQ (V.1 33 1) w5 (w_po w5) := oQ_po (RD_oK R5.1)
                have hP0 : 0 ≤ (w_po w5).1 13 2 := by rw [p13]; omega
                obtain ⟨y1, y2, y3, y4, y5, y6, y7, y8, y9⟩ := new_wid (W := w_po w5) (k := 4) (b := 20003) (c := 20003) (d := (d1 : Int)) (e := 0) (x := (d1 : Int)) (y := (d1 : Int)) (z := (d1 : Int)) hP0 (by unfold am_rg; omega) (by unfold am_rg; omega) (CR_gN RP.1)
                have HS : hS (w_po w5) (w_wid (w_mk (w_po w5) 4 20003 20003 d1 0) (30000 + (w_po w5).1 13 2) d1 d1 d1) := hS_wid (hS_mk0 hP0) hP0
                rw [← p13] at hw6
                generalize w_wid (w_mk (w_po w5) 4 20003 20003 d1 0) (30000 + (w_po w5).1 13 2) d1 d1 d1 = U at *
                have ed5 : s_nd s3 + 1 ≤ 11 * s_tb s3 + 300 := by omega
                have R6 := RD_val (j := 11) (x := 30000 + (w_po w5).1 13 2) (RD_h (k := 1) RP HS (by rw [y1]; omega) ed5) (Or.inr rfl)
                have OU : oQ (V.1 33 1) (w_po w5) U := oQ_h HS hoP
                have hoU := oK_x OU.2.2.2 hoP
                have OV : oQ (V.1 33 1) U (w_f U 41 11 (30000 + (w_po w5).1 13 2)) := oQ_val hoU (Or.inr rfl)
                have Q6 : fQ (V.1 33 1) false V (w_f U 41 11 (30000 + (w_po w5).1 13 2)) := fQ_tr Q5 (oQ_fQ (oQ_tr OP (oQ_tr OU OV)))
                have c6 : (w_f U 41 11 (30000 + (w_po w5).1 13 2)).1 33 1 = V.1 33 1 := by
                  rw [w_f1, w_u_at, if_neg (by decide), HS.1 33 1 (by decide)]
                  exact cP
                have d6 : (w_f U 41 11 (30000 + (w_po w5).1 13 2)).1 41 10 = -1 := by
                  rw [w_f1, w_u_at, if_neg (by decide), HS.1 41 10 (by decide), p10]
                  exact d5
                have v6 : vW_ (w_f U 41 11 (30000 + (w_po w5).1 13 2)) v (30000 + (w_po w5).1 13 2) := by
                  rw [← hv]
                  have hw : hW (U.2 13) (.tag 4 (.nest d1 .nil)) (30000 + (w_po w5).1 13 2) := by
                    unfold hW
                    rw [if_neg (by omega), if_neg (by omega), if_neg (by omega), y7, y8, y9]
                    exact ⟨rfl, rfl, rfl, fun _ => rfl⟩
                  exact vW_S (wS_f (Or.inr ⟨rfl, by decide⟩)) ⟨⟨y2, y5, ⟨by omega, by omega⟩, hw⟩, hw⟩
                have g11 : (w_f U 41 11 (30000 + (w_po w5).1 13 2)).1 41 11 = 30000 + (w_po w5).1 13 2 := by rw [w_f1, w_u_at, if_pos ⟨rfl, rfl⟩]
                rw [← hw6] at R6 Q6 c6 d6 v6 g11
                have hcn6 := R6.1.2.2.1.2.2.2
                have R6t : RD C sil o a0 D K0 true (u_nd s3 1) E3 w6 := RD_tf R6 (mkR_fQ hm2 (etl.trans tl.symm) Q6 (Int.le_refl _) (by rw [c6]; omega))
                have Q6t : fQ (V.1 33 1) true V w6 := ⟨Q6.1, fun z hz => Or.inr (by
                  rcases Q6.2.1 z hz with ⟨r, -⟩ | r
                  · exact Bool.noConfusion r
                  · exact r), Q6.2.2⟩
                have T6 := TX_Q Tc Q6t c6
                have f62 : f_t w6 2 = 1 := by
                  rw [f_t_T Q6t c6 (by rw [c2]; omega) (by rw [c2, Tc.1.2.1]; omega) (by decide) (by decide)]
                  exact fc
                have q6 : TQ w0 w6 := TQ_f q2 (n := V.1 33 1) (by rw [c2]; omega) (by rw [Tc.1.2.1]; omega) Q6
                have e6 : eW w6 1 hb (ct 4 n id x r) := eW_x Q6.2.2.2 e2
                obtain ⟨⟨-, k2, -⟩, -⟩ := eW_ct1 e6
                have TT := T6
                obtain ⟨-, ⟨b3, b6, b4, b7⟩, -⟩ := TT
                have b4 : f_t w6 3 = (id : Int) := b4
                have tg := TX_rg R6t T6
                refine dr_5 (f := 5) (by omega) d6 (by rw [c6, c2]; exact c1) b3 (lk_104f (item := (id : Int)) b4 (by omega) k2 f62 g11 tg (vW_vl hcn6.1.1 (by omega) v6)) (by omega) (by omega) fun w7 hw7 => ?_
                rw [hw7]
                exact fin (u_nd s3 1) 1 _ _ (i5 + 1 + 1) hs2.symm (Or.inr ⟨rfl, etl⟩) (by show mkW (s_tl s3); rw [etl]; exact mkW_0) R6t T6 v6 q6 e6 d6 (by omega) (by rw [eb4]; omega)
            · rw [if_neg c4] at hI
              have hI : some (t_leaf k n, E, u_nd (u_go s) 2) = some (v, E2, s2) := hI
              injection hI with hI
              injection hI with hv hI
              injection hI with hE hs2
              subst hE
              have k3 : k < 3 := by omega
              have hb0 : 0 ≤ (w_bg w).1 13 2 := by rw [w_bg1, if_neg (by decide), if_neg (by decide)]; omega
              have n13 : (w_bg w).1 13 2 = w.1 13 2 := by rw [w_bg1, if_neg (by decide), if_neg (by decide)]
              have es2 : s_b s2 = s_b s + 1 := by rw [← hs2]
              obtain ⟨HS, y1, vU⟩ := leaf_W (k := k) (n := n) hb0 hob (by rw [n13]; exact CR_gN R.1) k3 ⟨g4, g5⟩ rfl
              have ed5 : s_nd s + 1 ≤ 11 * (s_tb s + 1) + 300 := by omega
              have OU : oQ (w.1 33 1) (w_bg w) _ := oQ_h HS hob
              have OU0 : oQ (w0.1 33 1) (w_bg w) _ := oQ_h HS hob
              have hoU := oK_x OU.2.2.2 hob
              have OV := oQ_val (n := w.1 33 1) (j := 11) (x := 30000 + (w_bg w).1 13 2) hoU (Or.inr rfl)
              have OV0 := oQ_val (n := w0.1 33 1) (j := 11) (x := 30000 + (w_bg w).1 13 2) hoU (Or.inr rfl)
              have R6 := RD_val (j := 11) (x := 30000 + (w_bg w).1 13 2) (RD_h (k := 1) Rb HS (by rw [y1]; omega) ed5) (Or.inr rfl)
              have v6 := vW_S (wS_f (w := _) (a := 41) (j := 11) (x := 30000 + (w_bg w).1 13 2) (Or.inr ⟨rfl, by decide⟩)) vU
              have cU := HS.1 33 1 (by decide)
              have dU := HS.1 41 10 (by decide)
              have lk := fun ht hl => lk_104d (item := (id : Int)) (k := (k : Int)) (n := n) a4 (by omega) g2 (by omega) g3 ⟨g4, g5⟩ f2 c1 (by omega : 0 ≤ w.1 13 2 ∧ w.1 13 2 < 262144) _ rfl ht hl
              rw [eb, ← n13] at lk
              generalize (if (k : Int) = 0 then w_wid (w_mk (w_bg w) 1 20003 20003 n 0) (30000 + (w_bg w).1 13 2) 1 2 3 else w_mk (w_bg w) (if (k : Int) = 1 then 2 else 3) 20003 20003 (n % 10) 0) = U at *
              have TQ6 := oQ_tr ob (oQ_tr OU OV)
              have TQ0 : oQ (w0.1 33 1) w (w_f U 41 11 (30000 + (w_bg w).1 13 2)) := oQ_tr (oQ_bg ho) (oQ_tr OU0 OV0)
              have c6 : (w_f U 41 11 (30000 + (w_bg w).1 13 2)).1 33 1 = w.1 33 1 := by
                rw [w_f1, w_u_at, if_neg (by decide)]
                exact cU.trans cb
              have d6 : (w_f U 41 11 (30000 + (w_bg w).1 13 2)).1 41 10 = -1 := by
                rw [w_f1, w_u_at, if_neg (by decide)]
                exact dU
              have T6 := TX_Q T (oQ_fQ TQ6) c6
              have tg := TX_rg R6 T6
              have hcn6 := R6.1.2.2.1.2.2.2
              refine dr_5 (f := 5) (by omega) hd c1 a3 (lk tg (vW_vl hcn6.1.1 (by omega) v6)) (by omega) (by omega) fun w7 hw7 => ?_
              rw [hw7]
              rw [hv] at v6
              exact fin (u_nd (u_go s) 1) 1 _ _ (i + 1) hs2.symm (Or.inr ⟨rfl, tl⟩) (by show mkW (s_tl s); rw [tl]; exact mkW_0) R6 T6 v6 (TQ_o q0 TQ0) (eW_x TQ0.2.2.2 e) d6 (by omega) (by rw [es2]; omega)
      · rw [if_neg ht] at h
        cases h
end
