/-! ===== the class runs as the evaluator: CALL ===== -/
section
variable {C : C_} {sil : Bool} {o a0 : Nat} {D : Prop} {K0 : Int} {hb : Bool} {s s1 : S_} {E E1 : N_} {w : W_} {fr : Nat} {Q : Option am_V → W_ → Prop} {i : Int} {k : Nat} {n : Int} {id : Nat} {a b c v : T_}

theorem sim_17 {r1 : K_} {m : Nat} (N1 : eNK r1) (M1 : eMK r1) (h1 : cSK C sil o K0 r1) (h2 : ∀ K0, cSK C sil o K0 (ev C m)) {s2 : S_} {E2 : N_} {x : T_} (H : RD C sil o a0 D K0 hb s E w) (he : eW w 0 hb (ce 17 n id a b c)) (hd : w.1 41 10 = id) (hf : 20 ≤ fr) (hi : 0 ≤ i) (hi2 : i + 12 * (s_b s1 : Int) ≤ 900000 + 12 * (s_b s : Int)) (ht : s_tb s < 2000) (hB : s_b s1 ≤ 90000 ∧ s_nt s1 ≤ 900000) (hD : D → e_imp (ce 17 n id a b c) = false ∧ n_ni E) (hr : r1 sil a E hb (u_go s) = some (x, E2, s2))
    (hr2 : (if v_isW x = true then some (vW, E2, s2) else if v_isF x = true then (match r1 sil b E2 hb s2 with
        | some (u, E3, s3) => o_call (ev C m) C sil id x u E3 s3
        | none => none) else o_bad C 3 id E2 s2) = some (v, E1, s1)) (K : cK C sil o a0 D K0 hb s s1 E1 w v fr Q i) : dr fr Q i w := by
  obtain ⟨⟨g1, g2, g3, g4, g5, g6, g7, -⟩, -⟩ := eW_ce he
  have hl0 := H.2.2.2.2.2.1
  have m1 := M1 _ _ _ _ _ _ _ _ hr (Nat.le_succ_of_le hl0)
  have mb1 : s_b s + 1 ≤ s_b s2 := m1.1
  have hcnt := H.2.2.2.1
  have htx : hb = true → w.1 41 13 < w.1 33 1 := fun q => (H.2.2.1 q).1.2
  have m2 : s_b s2 ≤ s_b s1 ∧ s_nt s2 ≤ s_nt s1 := by
    by_cases cw : v_isW x = true
    · rw [if_pos cw] at hr2
      cases hr2
      exact ⟨Nat.le_refl _, Nat.le_refl _⟩
    · rw [if_neg cw] at hr2
      by_cases cv : v_isF x = true
      · rw [if_pos cv] at hr2
        cases hy : r1 sil b E2 hb s2 with
        | none => rw [hy] at hr2; cases hr2
        | some z =>
          obtain ⟨u, E3, s3⟩ := z
          rw [hy] at hr2
          have q1 := M1 _ _ _ _ _ _ _ _ hy m1.2.2.2.2.1
          have q2 := o_call_M (hb := hb) (ev_M C m) hr2 q1.2.2.2.2.1
          exact ⟨Nat.le_trans q1.1 q2.1, Nat.le_trans q1.2.1 q2.2.1⟩
      · rw [if_neg cv] at hr2
        cases hr2
        exact ⟨Nat.le_refl _, Nat.le_succ _⟩
  have hDa : D → e_imp a = false ∧ n_ni E := fun q => ⟨(e_imp_ce (hD q).1).2.1, (hD q).2⟩
  refine sim_part (k := 17) (kf := 3) M1 h1 H he (by decide) (by decide) hd hf hi (by omega) ht ⟨by omega, by omega⟩ hDa hr (lk_82p hd (by omega) g2 g3 ⟨g4, g5⟩ (by unfold am_rg; omega) (by decide) (lk_84d (w := w_bg w) rfl (by rw [w_bg_n]; have := H.1.2.2.1.2.2.2.2.2.1; omega))) (fun w1 d1 c1 f0 f1 f2 KK => dr_3 (f := 8) (by omega) d1 c1 f0 (ww_Ct.mono (lk_94a f1 f2 c1 (by omega)) fun r w' q => ⟨q.1, q.2⟩) (by omega) (by omega) KK) fun i3 w3 l0 l1 R3 c3 Q3 f0 f1 f2 v3 d3 => ?_
  have hcn := R3.1.2.2.1.2.2.2
  have h13 : 0 ≤ w3.1 13 2 ∧ w3.1 13 2 ≤ 300000 := by omega
  have rg := vW_rg h13.1 h13.2 v3
  have iw := vW_isW v3
  have iF := vW_isF v3
  have r0 := vW_h0 v3
  have hct : 1 ≤ w3.1 33 1 ∧ w3.1 33 1 < 24000 := by have := R3.2.2.2.1; omega
  have htx3 : hb = true → w3.1 41 13 < w.1 33 1 := fun q => by rw [Q3.1.2]; exact htx q
  have htw3 : hb = true → w3.1 41 13 < w3.1 33 1 - 1 := fun q => by rw [c3]; have := htx3 q; omega
  have ho := RD_oK R3.1
  have kn := (CR_o R3.1).2
  have e3 : eW w3 0 hb (ce 17 n id a b c) := eW_x Q3.2.2.2 he
  obtain ⟨-, -, -, -, gb1, -⟩ := eW_ce e3
  obtain ⟨gb2, gb3⟩ := gb1 (by decide)
  have RW := RD_fs (f := 2) (x := 2) R3 hct.1 (by decide) htw3
  have oW : oQ (w.1 33 1) w3 (w_fs w3 2 2) := oQ_fs ho (by omega) (by omega) (by decide)
  have FW : ∀ g : Int, 0 ≤ g → f_t (w_fs w3 2 2) g = if g = 2 then 2 else f_t w3 g := fun g g0 => f_t_fs0 hct.1 (by decide) g0
  have hoW := oK_x oW.2.2.2 ho
  have cW : (w_fs w3 2 2).1 = w3.1 := rfl
  have fin : ∀ (Z : W_), RD C sil o a0 D K0 hb s1 E1 Z → Z.1 33 1 = w3.1 33 1 → fQ (w.1 33 1) hb w Z → vW_ Z v (Z.1 41 11) → Z.1 41 10 = -1 → dr fr Q (i3 + 1) (w_po Z) := by
    intro Z RZ cZ qZ vZ dZ
    obtain ⟨RP, cP⟩ := RD_po RZ (cZ.trans c3) hcnt.1 (fun q => by rw [qZ.1.2]; exact htx q)
    have oP : oQ (w.1 33 1) Z (w_po Z) := oQ_po (RD_oK RZ.1)
    exact K (i3 + 1) (w_po Z) (by omega) (by omega) RP cP (fQ_tr qZ (oQ_fQ oP)) (by rw [(w_po_v Z).1]; exact vW_po vZ) ((w_po_v Z).2.1.trans dZ)
  by_cases cw : v_isW x = true
  · rw [if_pos cw] at hr2
    cases hr2
    have hx := iw.mp cw
    have nF : ¬ w_h w3 (w3.1 41 11) 0 = 12 := fun q => by
      obtain ⟨z, hz⟩ := v_isF_of (iF.mp q)
      rw [hz] at cw
      cases cw
    refine dr_3 (f := 8) (by omega) d3 hct f0 (lk_94w f1 f2 hct (by omega) rfl rg.2 nF r0 hx kn) (by omega) (by omega) fun w4 hw4 => ?_
    rw [hw4]
    have oV : oQ (w.1 33 1) (w_fs w3 2 2) (w_f (w_fs w3 2 2) 41 11 20004) := oQ_val hoW (Or.inr rfl)
    refine fin _ (RD_val RW (Or.inr rfl)) ?_ (fQ_tr Q3 (oQ_fQ (oQ_tr oW oV))) ?_ ?_
    · rw [w_f1, w_u_at, if_neg (by decide)]; rfl
    · rw [w_f1, w_u_at, if_pos ⟨rfl, rfl⟩]; exact vW_W
    · rw [w_f1, w_u_at, if_neg (by decide)]; exact d3
  · rw [if_neg cw] at hr2
    have hx : w3.1 41 11 ≠ 20004 := fun q => cw (iw.mpr q)
    by_cases cv : v_isF x = true
    · rw [if_pos cv] at hr2
      have x12 : w_h w3 (w3.1 41 11) 0 = 12 := iF.mpr cv
      have x3 : 30000 ≤ w3.1 41 11 := by
        by_cases q : 30000 ≤ w3.1 41 11
        · exact q
        · exfalso
          have z : pH (w3.2 13) (w3.1 41 11) 0 = 12 := x12
          unfold pH at z
          rw [if_pos (by omega)] at z
          omega
      cases hy : r1 sil b E2 hb s2 with
      | none => rw [hy] at hr2; cases hr2
      | some z =>
        obtain ⟨u, E3, s3⟩ := z
        rw [hy] at hr2
        have q1 := M1 _ _ _ _ _ _ _ _ hy m1.2.2.2.2.1
        have q2 := o_call_M (hb := hb) (ev_M C m) hr2 q1.2.2.2.2.1
        have qb1 : s_b s2 ≤ s_b s3 := q1.1
        have qb2 : s_b s3 ≤ s_b s1 := q2.1
        have qn2 : s_nt s3 ≤ s_nt s1 := q2.2.1
        refine dr_3 (f := 8) (by omega) d3 hct f0 (lk_94f f1 f2 hct (by omega) rfl ⟨x3, rg.2.2⟩ x12 kn) (by omega) (by omega) fun w4 hw4 => ?_
        have oA : oQ (w.1 33 1) (w_fs w3 2 2) (w_f (w_fs w3 2 2) 41 11 (w3.1 41 11)) := oQ_val hoW (Or.inr rfl)
        have RA := RD_val (j := 11) (x := w3.1 41 11) RW (Or.inr rfl)
        have cA : (w_f (w_fs w3 2 2) 41 11 (w3.1 41 11)).1 33 1 = w3.1 33 1 := by rw [w_f1, w_u_at, if_neg (by decide)]; rfl
        have tA' : (w_f (w_fs w3 2 2) 41 11 (w3.1 41 11)).1 41 13 = w3.1 41 13 := by rw [w_f1, w_u_at, if_neg (by decide)]; rfl
        have FA : ∀ g : Int, 0 ≤ g → f_t (w_f (w_fs w3 2 2) 41 11 (w3.1 41 11)) g = if g = 2 then 2 else f_t w3 g := fun g g0 => by rw [f_t_f (by decide)]; exact FW g g0
        have hoA := oK_x oA.2.2.2 hoW
        generalize w_f (w_fs w3 2 2) 41 11 (w3.1 41 11) = WA at *
        have RB := RD_fs (f := 3) (x := w3.1 41 11) RA (by rw [cA]; exact hct.1) (by decide) (fun q => by rw [tA', cA]; exact htw3 q)
        have oB : oQ (w.1 33 1) WA (w_fs WA 3 (w3.1 41 11)) := oQ_fs hoA (by rw [cA]; omega) (by rw [cA]; omega) (by decide)
        have R4 : RD C sil o a0 D K0 hb s2 E2 w4 := by rw [hw4]; exact RD_val RB (Or.inl rfl)
        have O4 : oQ (w.1 33 1) w3 w4 := by
          rw [hw4]
          exact oQ_tr (oQ_tr (oQ_tr oW oA) oB) (oQ_val (oK_x oB.2.2.2 hoA) (Or.inl rfl))
        have c4 : w4.1 33 1 = w.1 33 1 + 1 := by rw [hw4, w_f1, w_u_at, if_neg (by decide)]; exact cA.trans c3
        have d4 : w4.1 41 10 = e_id b := by rw [hw4, w_f1, w_u_at, if_pos ⟨rfl, rfl⟩]; exact gb2
        have F4 : ∀ g : Int, 0 ≤ g ∧ g < 13 → f_t w4 g = if g = 3 then w3.1 41 11 else if g = 2 then 2 else f_t w3 g := fun g hg => by
          rw [hw4, f_t_f (by decide), f_t_fs0 (by rw [cA]; exact hct.1) (by decide) hg.1]
          split
          · rfl
          · exact FA g hg.1
        have v4 : vW_ w4 x (w3.1 41 11) := vW_x O4.2.2.2 hcn.1.1 v3
        have ho4 := oK_x O4.2.2.2 ho
        have t4 : w4.1 41 13 = w3.1 41 13 := O4.1.2
        clear hw4
        have htx4 : hb = true → w4.1 41 13 < w4.1 33 1 - 1 := fun q => by rw [t4, c4]; have := htx3 q; omega
        have hn1 : D → v_ni x = true ∧ n_ni E2 := fun q => (N1 _ _ _ _ _ _ _ _ hr (hDa q).1 (hDa q).2).2
        have hDb : D → e_imp b = false ∧ n_ni E2 := fun q => ⟨(e_imp_ce (hD q).1).2.2.1, (hn1 q).2⟩
        refine h1 b E2 hb s2 u E3 s3 hy a0 D w4 fr Q (i3 + 1) R4 (eW_x O4.2.2.2 gb3) d4 hDb hf (by omega) (by omega) ⟨by omega, by omega⟩ fun i5 w5 l3 l4 R5 c5 Q5 v5 d5 => ?_
        rw [c4] at c5
        have F5 : ∀ g : Int, 0 ≤ g ∧ g < 13 → f_t w5 g = f_t w4 g := fun g hg => f_t_Q Q5 (by rw [c5, c4]) (by omega) htx4 hg
        have Q5' : fQ (w.1 33 1) hb w w5 := fQ_tr (fQ_tr Q3 (oQ_fQ O4)) (fQ_le Q5 (by omega))
        have v5x : vW_ w5 x (w3.1 41 11) := vW_x Q5.2.2.2 R4.1.2.2.1.2.2.2.1.1 v4
        refine sim_turn (w0 := w) (m := m) (fn := x) (y := u) (fv := w3.1 41 11) (id := id) h2 R5 c5 hcnt.1 htx Q5' ?_ ?_ ?_ ?_ v5x cv v5 d5 g1 hf (by omega) (by omega) hB hr2 (fun q => ⟨(hn1 q).1, (N1 _ _ _ _ _ _ _ _ hy (hDb q).1 (hDb q).2).2.1⟩) fun i6 w6 l5 l6 r1' r2' r3' r4' r5' => K i6 w6 (by omega) (by omega) r1' r2' r3' r4' r5'
        · rw [F5 0 (by decide), F4 0 (by decide), if_neg (by decide), if_neg (by decide)]; exact f0
        · rw [F5 1 (by decide), F4 1 (by decide), if_neg (by decide), if_neg (by decide)]; exact f1
        · rw [F5 2 (by decide), F4 2 (by decide), if_neg (by decide), if_pos rfl]
        · rw [F5 3 (by decide), F4 3 (by decide), if_pos rfl]
    · rw [if_neg cv] at hr2
      cases hr2
      have nF : ¬ w_h w3 (w3.1 41 11) 0 = 12 := fun q => cv (iF.mp q)
      refine dr_3 (f := 8) (by omega) d3 hct f0 (lk_94n f1 f2 hct (by omega) rfl rg.2 nF r0 hx kn) (by omega) (by omega) fun w4 hw4 => ?_
      rw [hw4]
      have hn1 : s_nt s2 + 1 ≤ 900000 := hB.2
      rw [show (100000 * 3 + w_spot (id : Int)) = f_code 3 id from f_code_w 3 id]
      have RN := RD_nt (f := f_code 3 id) RW (by omega)
      have c1 := w_nt_n (f := f_code 3 id) hoW
      have oN : oQ (w.1 33 1) (w_fs w3 2 2) (w_nt (w_fs w3 2 2) (f_code 3 id)) := oQ_nt hoW
      have oV : oQ (w.1 33 1) (w_nt (w_fs w3 2 2) (f_code 3 id)) (w_f (w_nt (w_fs w3 2 2) (f_code 3 id)) 41 11 20004) := oQ_val (RD_oK RN.1) (Or.inr rfl)
      refine fin _ (RD_val RN (Or.inr rfl)) ?_ (fQ_tr Q3 (oQ_fQ (oQ_tr oW (oQ_tr oN oV)))) ?_ ?_
      · rw [w_f1, w_u_at, if_neg (by decide)]; exact c1.1
      · rw [w_f1, w_u_at, if_pos ⟨rfl, rfl⟩]; exact vW_W
      · rw [w_f1, w_u_at, if_neg (by decide)]; exact c1.2.1.trans d3
end
