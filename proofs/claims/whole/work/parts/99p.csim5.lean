/-! ===== the class runs as the evaluator: IF ===== -/
section
variable {C : C_} {sil : Bool} {o a0 : Nat} {D : Prop} {K0 : Int} {hb : Bool} {s s1 : S_} {E E1 : N_} {w : W_} {fr : Nat} {Q : Option am_V → W_ → Prop} {i : Int} {k : Nat} {n : Int} {id : Nat} {a b c v : T_}
/-- one part of what has a frame with a stage: IF (2), what has one part (1), up to the step behind the first part -/
theorem sim_part {r1 : K_} (M1 : eMK r1) (h1 : cSK C sil o K0 r1) {s2 : S_} {E2 : N_} {x : T_} {kf : Int} (H : RD C sil o a0 D K0 hb s E w) (he : eW w 0 hb (ce k n id a b c)) (hj : 1 ≤ j_par k) (hne : ¬ (k = 16 ∨ k = 22)) (hd : w.1 41 10 = id) (hf : 20 ≤ fr) (hi : 0 ≤ i) (hi2 : i + 12 * (s_b s2 : Int) ≤ 900000 + 12 * (s_b s : Int)) (ht : s_tb s < 2000) (hB : s_b s2 ≤ 90000 ∧ s_nt s2 ≤ 900000) (hD : D → e_imp a = false ∧ n_ni E) (hr : r1 sil a E hb (u_go s) = some (x, E2, s2))
    (hbeg : ww_Ct 82 6 [.inr (.inr (.inl 41))] w fun r w' => r = none ∧ w' = w_pu (w_bg w) kf id)
    (hstep : ∀ w1 : W_, w1.1 41 10 = -1 → (1 ≤ w1.1 33 1 ∧ w1.1 33 1 < 24000) → f_t w1 0 = kf → f_t w1 1 = id → f_t w1 2 = 0 → (∀ w', w' = w_f (w_fs w1 2 1) 41 10 (w_g w1 37 (id * 9 + 0) - 1) → dr fr Q (i + 1 + 1) w') → dr fr Q (i + 1) w1)
    (K : ∀ i' w', i + 2 ≤ i' → i' + 10 + 12 * (s_b s : Int) ≤ i + 12 * (s_b s2 : Int) → RD C sil o a0 D K0 hb s2 E2 w' → w'.1 33 1 = w.1 33 1 + 1 → fQ (w.1 33 1) hb w w' → f_t w' 0 = kf → f_t w' 1 = id → f_t w' 2 = 1 → vW_ w' x (w'.1 41 11) → w'.1 41 10 = -1 → dr fr Q i' w') : dr fr Q i w := by
  obtain ⟨⟨g1, g2, g3, g4, g5, g6, g7, -⟩, -, -, ga, -⟩ := eW_ce he
  have hhb : (if k = 16 ∨ k = 22 then false else hb) = hb := if_neg hne
  have hl0 := H.2.2.2.2.2.1
  have m1 := M1 _ _ _ _ _ _ _ _ hr (Nat.le_succ_of_le hl0)
  have mb1 : s_b s + 1 ≤ s_b s2 := m1.1
  have hcnt := H.2.2.2.1
  have htx : hb = true → w.1 41 13 < w.1 33 1 := fun q => (H.2.2.1 q).1.2
  have ho := RD_oK H.1
  refine dr_due (f := 6) (by omega) ⟨by unfold am_rg; omega, by omega⟩ hbeg (by omega) fun w1 hw1 => ?_
  have R1 : RD C sil o a0 D K0 hb (u_go s) E w1 := by
    rw [hw1]
    refine RD_pu (RD_bg H ht (by omega)) ?_
    rw [w_bg_n]
    show _ ≤ 19990 + 2 * ((s_tb s + 1 : Nat) : Int)
    omega
  have O1 : oQ (w.1 33 1) w w1 := by
    rw [hw1]
    exact oQ_tr (oQ_bg ho) (oQ_pu (oK_x (oQ_bg (n := 0) ho).2.2.2 ho) (by rw [w_bg_n]; omega) (by rw [w_bg_n]; omega))
  have c1 : w1.1 33 1 = w.1 33 1 + 1 := by rw [hw1, w_pu1, if_pos ⟨rfl, rfl⟩, w_bg_n]
  have d1 : w1.1 41 10 = -1 := by rw [hw1, w_pu1, if_neg (by decide)]; rfl
  have F1 : ∀ g : Int, 0 ≤ g ∧ g < 13 → f_t w1 g = if g = 0 then kf else if g = 1 then (id : Int) else 0 := fun g hg => by
    rw [hw1]
    exact f_t_pu (by rw [w_bg_n]; omega) hg
  have ho1 := oK_x O1.2.2.2 ho
  have t1 : w1.1 41 13 = w.1 41 13 := O1.1.2
  clear hw1
  have e1 : eW w1 0 hb (ce k n id a b c) := eW_x O1.2.2.2 he
  obtain ⟨-, -, -, ga1, -⟩ := eW_ce e1
  obtain ⟨ga2, ga3⟩ := ga1 hj
  rw [hhb] at ga3
  have htx1 : hb = true → w1.1 41 13 < w1.1 33 1 - 1 := fun q => by have := htx q; rw [t1]; omega
  refine hstep w1 d1 (by rw [c1]; omega) (by rw [F1 0 (by decide)]; rfl) (by rw [F1 1 (by decide)]; rfl) (by rw [F1 2 (by decide)]; rfl) fun w2 hw2 => ?_
  have R2 : RD C sil o a0 D K0 hb (u_go s) E w2 := by
    rw [hw2]
    exact RD_val (RD_fs R1 (by omega) (by decide) htx1) (Or.inl rfl)
  have O2 : oQ (w.1 33 1) w1 w2 := by
    rw [hw2]
    have z1 : oQ (w.1 33 1) w1 (w_fs w1 2 1) := oQ_fs ho1 (by omega) (by omega) (by decide)
    exact oQ_tr z1 (oQ_val (oK_x z1.2.2.2 ho1) (Or.inl rfl))
  have c2 : w2.1 33 1 = w.1 33 1 + 1 := by rw [hw2, w_f1, w_u_at, if_neg (by decide)]; exact c1
  have d2 : w2.1 41 10 = e_id a := by rw [hw2, w_f1, w_u_at, if_pos ⟨rfl, rfl⟩]; exact ga2
  have F2 : ∀ g : Int, 0 ≤ g ∧ g < 13 → f_t w2 g = if g = 2 then 1 else f_t w1 g := fun g hg => by
    rw [hw2, f_t_f (by decide), f_t_fs0 (by omega) (by decide) hg.1]
  have ho2 := oK_x O2.2.2.2 ho1
  have t2 : w2.1 41 13 = w.1 41 13 := O2.1.2.trans t1
  clear hw2
  refine h1 a E hb (u_go s) x E2 s2 hr a0 D w2 fr Q (i + 1 + 1) R2 (eW_x O2.2.2.2 ga3) d2 hD hf (by omega) ?_ hB fun i3 w3 l1 l2 R3 c3 Q3 v3 d3 => ?_
  · show i + 1 + 1 + 12 * (s_b s2 : Int) ≤ 900000 + 12 * ((s_b s + 1 : Nat) : Int)
    omega
  have l2 : i3 + 12 * ((s_b s + 1 : Nat) : Int) ≤ i + 1 + 1 + 12 * (s_b s2 : Int) := l2
  rw [c2] at c3
  have htx2 : hb = true → w2.1 41 13 < w2.1 33 1 - 1 := fun q => by have := htx q; rw [t2]; omega
  have F3 : ∀ g : Int, 0 ≤ g ∧ g < 13 → f_t w3 g = f_t w2 g := fun g hg => f_t_Q Q3 (by rw [c3, c2]) (by omega) htx2 hg
  refine K i3 w3 (by omega) (by omega) R3 c3 (fQ_tr (oQ_fQ (oQ_tr O1 O2)) (fQ_le Q3 (by omega))) ?_ ?_ ?_ v3 d3
  · rw [F3 0 (by decide), F2 0 (by decide), if_neg (by decide), F1 0 (by decide)]; rfl
  · rw [F3 1 (by decide), F2 1 (by decide), if_neg (by decide), F1 1 (by decide)]; rfl
  · rw [F3 2 (by decide), F2 2 (by decide), if_pos rfl]
theorem sim_14 {r1 : K_} (N1 : eNK r1) (M1 : eMK r1) (h1 : cSK C sil o K0 r1) {s2 : S_} {E2 : N_} {x : T_} (H : RD C sil o a0 D K0 hb s E w) (he : eW w 0 hb (ce 14 n id a b c)) (hd : w.1 41 10 = id) (hf : 20 ≤ fr) (hi : 0 ≤ i) (hi2 : i + 12 * (s_b s1 : Int) ≤ 900000 + 12 * (s_b s : Int)) (ht : s_tb s < 2000) (hB : s_b s1 ≤ 90000 ∧ s_nt s1 ≤ 900000) (hD : D → e_imp (ce 14 n id a b c) = false ∧ n_ni E) (hr : r1 sil a E hb (u_go s) = some (x, E2, s2))
    (hr2 : (if v_isW x = true then some (vW, E2, s2) else (match v_num x with
        | some y => r1 sil (if y = 0 then c else b) E2 hb s2
        | none => o_bad C 3 id E2 s2)) = some (v, E1, s1)) (K : cK C sil o a0 D K0 hb s s1 E1 w v fr Q i) : dr fr Q i w := by
  obtain ⟨⟨g1, g2, g3, g4, g5, g6, g7, -⟩, -⟩ := eW_ce he
  have hl0 := H.2.2.2.2.2.1
  have m1 := M1 _ _ _ _ _ _ _ _ hr (Nat.le_succ_of_le hl0)
  have mb1 : s_b s + 1 ≤ s_b s2 := m1.1
  have hcnt := H.2.2.2.1
  have htx : hb = true → w.1 41 13 < w.1 33 1 := fun q => (H.2.2.1 q).1.2
  have m2 : s_b s2 ≤ s_b s1 ∧ s_nt s2 ≤ s_nt s1 := by
    by_cases cw : v_isW x = true
    · rw [if_pos cw] at hr2
      cases hr2
      exact ⟨Nat.le_refl _, Nat.le_refl _⟩
    · rw [if_neg cw] at hr2
      cases cv : v_num x with
      | none =>
        rw [cv] at hr2
        cases hr2
        exact ⟨Nat.le_refl _, Nat.le_succ _⟩
      | some y =>
        rw [cv] at hr2
        have := M1 _ _ _ _ _ _ _ _ hr2 m1.2.2.2.2.1
        exact ⟨this.1, this.2.1⟩
  have hDa : D → e_imp a = false ∧ n_ni E := fun q => ⟨(e_imp_ce (hD q).1).2.1, (hD q).2⟩
  refine sim_part (k := 14) (kf := 2) M1 h1 H he (by decide) (by decide) hd hf hi (by omega) ht ⟨by omega, by omega⟩ hDa hr (lk_82p hd (by omega) g2 g3 ⟨g4, g5⟩ (by unfold am_rg; omega) (by decide) (lk_84c (w := w_bg w) rfl (by rw [w_bg_n]; have := H.1.2.2.1.2.2.2.2.2.1; omega))) (fun w1 d1 c1 f0 f1 f2 KK => dr_2 (f := 5) (by omega) d1 c1 f0 (ww_Ct.mono (lk_92a f2 c1 (by omega)) fun r w' q => ⟨q.1, by rw [← f1]; exact q.2⟩) (by omega) (by omega) KK) fun i3 w3 l0 l1 R3 c3 Q3 f0 f1 f2 v3 d3 => ?_
  have hcn := R3.1.2.2.1.2.2.2
  have h13 : 0 ≤ w3.1 13 2 ∧ w3.1 13 2 ≤ 300000 := by omega
  have nm := vW_num h13.1 v3
  have rg := vW_rg h13.1 h13.2 v3
  have iw := vW_isW v3
  have hct : 1 ≤ w3.1 33 1 ∧ w3.1 33 1 < 24000 := by have := R3.2.2.2.1; omega
  have htx3 : hb = true → w3.1 41 13 < w.1 33 1 := fun q => by rw [Q3.1.2]; exact htx q
  obtain ⟨RP, cP⟩ := RD_po R3 c3 hcnt.1 htx3
  have ho := RD_oK R3.1
  have OP : oQ (w.1 33 1) w3 (w_po w3) := oQ_po ho
  have dP : (w_po w3).1 41 10 = -1 := by rw [w_po1, if_neg (by decide)]; exact d3
  have hoP := oK_x OP.2.2.2 ho
  have kn := (CR_o R3.1).2
  by_cases cw : v_isW x = true
  · rw [if_pos cw] at hr2
    cases hr2
    have hx := iw.mp cw
    refine dr_2 (f := 5) (by omega) d3 hct f0 (lk_92w f2 hct (by omega) rfl rg.1 (by rw [hx]; decide) kn) (by omega) (by omega) fun w4 hw4 => ?_
    rw [hw4, if_pos hx]
    exact sim_fin (w0 := w) RP cP (fQ_tr Q3 (oQ_fQ OP)) dP vW_W fun w5 g1 g2 g3 g4 g5 => K (i3 + 1) w5 (by omega) (by omega) g1 g2 g3 g4 g5
  · rw [if_neg cw] at hr2
    have hx : w3.1 41 11 ≠ 20004 := fun q => cw (iw.mpr q)
    cases cv : v_num x with
    | none =>
      rw [cv] at hr2 nm
      cases hr2
      have hB2 : s_nt s2 + 1 ≤ 900000 := hB.2
      refine dr_2 (f := 5) (by omega) d3 hct f0 (lk_92w f2 hct (by omega) rfl rg.1 nm kn) (by omega) (by omega) fun w4 hw4 => ?_
      rw [hw4, if_neg hx, f1]
      have hcode : (100000 * 3 + w_spot (id : Int)) = f_code 3 id := f_code_w 3 id
      rw [hcode]
      exact sim_fin (w0 := w) (RD_nt RP (by omega)) ((w_nt_n hoP).1.trans cP) (fQ_tr Q3 (oQ_fQ (oQ_tr OP (oQ_nt hoP)))) ((w_nt_n hoP).2.1.trans dP) vW_W fun w5 g1 g2 g3 g4 g5 => K (i3 + 1) w5 (by omega) (by show _ ≤ i + 12 * (s_b s2 : Int); omega) g1 g2 g3 g4 g5
    | some y =>
      rw [cv] at hr2 nm
      have hr2 : r1 sil (if y = 0 then c else b) E2 hb s2 = some (v, E1, s1) := hr2
      refine dr_2 (f := 5) (by omega) d3 hct f0 (lk_92b f2 hct (by omega) nm.1 (by omega) kn) (by omega) (by omega) fun w4 hw4 => ?_
      have e3 : eW w3 0 hb (ce 14 n id a b c) := eW_x Q3.2.2.2 he
      obtain ⟨-, -, -, -, gb, gc, -⟩ := eW_ce e3
      obtain ⟨gb1, gb2⟩ := gb (by decide)
      obtain ⟨gc1, gc2⟩ := gc (by decide)
      have O4 : oQ (w.1 33 1) w3 w4 := by
        rw [hw4]
        have z1 : oQ (w.1 33 1) (w_po w3) (w_f (w_po w3) 41 11 y) := oQ_val hoP (Or.inr rfl)
        exact oQ_tr (oQ_tr OP z1) (oQ_val (oK_x z1.2.2.2 hoP) (Or.inl rfl))
      have R4 : RD C sil o a0 D K0 hb s2 E2 w4 := by
        rw [hw4]
        exact RD_val (RD_val RP (Or.inr rfl)) (Or.inl rfl)
      have c4 : w4.1 33 1 = w.1 33 1 := by rw [hw4, w_f1, w_u_at, if_neg (by decide), w_f1, w_u_at, if_neg (by decide)]; exact cP
      have d4 : w4.1 41 10 = e_id (if y = 0 then c else b) := by
        rw [hw4, w_f1, w_u_at, if_pos ⟨rfl, rfl⟩, f1]
        by_cases cy : y = 0
        · rw [if_pos cy, if_pos cy]; exact gc1
        · rw [if_neg cy, if_neg cy]; exact gb1
      have ebr : eW w4 0 hb (if y = 0 then c else b) := by
        refine eW_x O4.2.2.2 ?_
        split
        · exact gc2
        · exact gb2
      have hDb : D → e_imp (if y = 0 then c else b) = false ∧ n_ni E2 := fun q => ⟨by
        split
        · exact (e_imp_ce (hD q).1).2.2.2
        · exact (e_imp_ce (hD q).1).2.2.1, (N1 _ _ _ _ _ _ _ _ hr (hDa q).1 (hDa q).2).2.2⟩
      refine h1 _ E2 hb s2 v E1 s1 hr2 a0 D w4 fr Q (i3 + 1) R4 ebr d4 hDb hf (by omega) (by omega) hB fun i5 w5 l3 l4 R5 c5 Q5 v5 d5 => K i5 w5 (by omega) (by omega) R5 (by rw [c5, c4]) (fQ_tr Q3 (fQ_tr (oQ_fQ O4) (by rw [c4] at Q5; exact Q5))) v5 d5
end
