/-! ===== the class runs as the evaluator: STEP, MEASURE, PICK, HEAD ===== -/
/-- nodes: no more than eleven a token -/
def eWK (K : K_) : Prop := ∀ sil e E hb s v E1 s1, K sil e E hb s = some (v, E1, s1) → s_nd s1 + 11 * s_tb s ≤ s_nd s + 11 * s_tb s1
section
variable {C : C_} {sil : Bool} {o a0 : Nat} {D : Prop} {K0 : Int} {hb : Bool} {s s1 : S_} {E E1 : N_} {w : W_} {fr : Nat} {Q : Option am_V → W_ → Prop} {i : Int} {k : Nat} {n : Int} {id : Nat} {a b c v : T_}
theorem sim_wrong {W : W_} {s2 : S_} {E2 : N_} {x : T_} {y : Int} (RP : RD C sil o a0 D K0 hb s2 E2 W) (cP : W.1 33 1 = w.1 33 1) (QP : fQ (w.1 33 1) hb w W) (dP : W.1 41 10 = -1) (iw : v_isW x = true ↔ y = 20004) (hr : (if v_isW x = true then some (vW, E2, s2) else o_bad C 3 id E2 s2) = some (v, E1, s1)) (hN : s_nt s1 ≤ 900000) (K : ∀ w', RD C sil o a0 D K0 hb s1 E1 w' → w'.1 33 1 = w.1 33 1 → fQ (w.1 33 1) hb w w' → vW_ w' v (w'.1 41 11) → w'.1 41 10 = -1 → dr fr Q i w') : dr fr Q i (w_f (if y = 20004 then W else w_nt W (100000 * 3 + w_spot id)) 41 11 20004) := by
  by_cases c : v_isW x = true
  · rw [if_pos c] at hr
    cases hr
    rw [if_pos (iw.mp c)]
    exact sim_fin (w0 := w) RP cP QP dP vW_W K
  · rw [if_neg c] at hr
    cases hr
    rw [if_neg (fun q => c (iw.mpr q))]
    have hcode : (100000 * 3 + w_spot (id : Int)) = f_code 3 id := f_code_w 3 id
    rw [hcode]
    have ho := RD_oK RP.1
    have hN' : s_nt s2 + 1 ≤ 900000 := hN
    exact sim_fin (w0 := w) (RD_nt RP (by omega)) ((w_nt_n ho).1.trans cP) (fQ_tr QP (oQ_fQ (oQ_nt ho))) ((w_nt_n ho).2.1.trans dP) vW_W K
theorem vW_po {w : W_} {x : T_} {y : Int} (h : vW_ w x y) : vW_ (w_po w) x y := by
  have e := (w_po_v w).2.2.2
  unfold vW_ at h ⊢
  rw [e]
  exact h
theorem sim_21 {r1 : K_} (M1 : eMK r1) (W1 : eWK r1) (h1 : cSK C sil o K0 r1) {s2 : S_} {E2 : N_} {x : T_} (H : RD C sil o a0 D K0 hb s E w) (he : eW w 0 hb (ce 21 n id a b c)) (hd : w.1 41 10 = id) (hf : 20 ≤ fr) (hi : 0 ≤ i) (hi2 : i + 12 * (s_b s2 : Int) ≤ 900000 + 12 * (s_b s : Int)) (ht : s_tb s < 2000) (hB : s_b s2 ≤ 90000 ∧ s_nt s1 ≤ 900000) (hD : D → e_imp a = false ∧ n_ni E) (hr : r1 sil a E hb (u_go s) = some (x, E2, s2)) (hr2 : (if v_isW x = true then some (vW, E2, s2) else match v_num x with
    | some y => some (.tag 6 (.tag (n % 3).toNat (.nest y .nil)), E2, u_nd s2 1)
    | none => o_bad C 3 id E2 s2) = some (v, E1, s1)) (K : cK C sil o a0 D K0 hb s s1 E1 w v fr Q i) : dr fr Q i w := by
  have hs : s_b s1 = s_b s2 ∧ s_nt s2 ≤ s_nt s1 := by
    split at hr2
    · cases hr2; exact ⟨rfl, Nat.le_refl _⟩
    · split at hr2
      · cases hr2; exact ⟨rfl, Nat.le_refl _⟩
      · cases hr2; exact ⟨rfl, Nat.le_succ _⟩
  have hnd := W1 _ _ _ _ _ _ _ _ hr
  have hnd : s_nd s2 + 11 * (s_tb s + 1) ≤ s_nd s + 11 * s_tb s2 := hnd
  have hnd0 := H.1.2.2.1.2.2.2.2.1
  refine sim_one (k := 21) M1 h1 (by omega) H he hd hf hi hi2 ht ⟨hB.1, by omega⟩ hD hr fun i3 w3 hi3 l0 l1 RP cP QP hct f0 f1 f2 v3 d3 ⟨g2, g3, g37, n0, n1, hid⟩ kn h13 => ?_
  obtain ⟨p11, p10, p12, p13⟩ := w_po_v w3
  have nm := vW_num h13.1 v3
  have rg := vW_rg h13.1 (by omega) v3
  have iw := vW_isW v3
  have dP : (w_po w3).1 41 10 = -1 := by rw [p10]; exact d3
  have K' : ∀ w', RD C sil o a0 D K0 hb s1 E1 w' → w'.1 33 1 = w.1 33 1 → fQ (w.1 33 1) hb w w' → vW_ w' v (w'.1 41 11) → w'.1 41 10 = -1 → dr fr Q (i3 + 1) w' := fun w5 g1 g2 g3 g4 g5 => K (i3 + 1) w5 (by omega) (by rw [hs.1]; omega) g1 g2 g3 g4 g5
  cases cv : v_num x with
  | none =>
    rw [cv] at nm hr2
    refine dr_1 (f := 6) (by omega) d3 hct f0 (lk_87t f1 f2 (by omega) g3 ⟨n0, n1⟩ g2 rfl rg.1 nm kn hct) (by omega) (by omega) fun w4 hw4 => ?_
    rw [hw4]
    exact sim_wrong RP cP QP dP iw hr2 hB.2 K'
  | some y =>
    rw [cv] at nm hr2
    have hw : ¬ v_isW x = true := fun q => by have := iw.mp q; omega
    rw [if_neg hw] at hr2
    cases hr2
    refine dr_1 (f := 6) (by omega) d3 hct f0 (lk_87s f1 f2 (by omega) g3 ⟨n0, n1⟩ g2 nm.1 (by omega) kn (by omega) hct) (by omega) (by omega) fun w4 hw4 => ?_
    rw [hw4]
    have RV := RD_val (j := 11) (x := y) RP (Or.inr rfl)
    have ho := RD_oK RP.1
    have n13 : (w_f (w_po w3) 41 11 y).1 13 2 = w3.1 13 2 := by rw [w_f1, w_u_at, if_neg (by decide)]; exact p13
    have h0 : 0 ≤ (w_f (w_po w3) 41 11 y).1 13 2 := by rw [n13]; exact h13.1
    have HS : hS (w_f (w_po w3) 41 11 y) (w_mk (w_f (w_po w3) 41 11 y) 6 20003 20003 (n % 3) y) := hS_mk0 h0
    obtain ⟨k1, k2⟩ := new_mk (W := w_f (w_po w3) 41 11 y) (k := 6) (b := 20003) (c := 20003) (d := n % 3) (e := y) h0 (by unfold am_rg; omega) (by unfold am_rg; omega) (CR_gN RV.1)
    have km := mk_f (w := w_f (w_po w3) 41 11 y) (a := 6) (b := 20003) (c := 20003) (d := n % 3) (e := y) h0
    rw [n13] at k2 km
    have OV : oQ (w.1 33 1) (w_po w3) (w_f (w_po w3) 41 11 y) := oQ_val ho (Or.inr rfl)
    refine sim_fin (w0 := w) (RD_h (k := 1) RV HS (by rw [k1]; omega) (by omega)) ?_ (fQ_tr QP (oQ_fQ (oQ_tr OV (oQ_h HS (oK_x OV.2.2.2 ho))))) ?_ ?_ K'
    · rw [HS.1 33 1 (by decide), w_f1, w_u_at, if_neg (by decide)]; exact cP
    · rw [HS.1 41 10 (by decide), w_f1, w_u_at, if_neg (by decide)]; exact dP
    · refine ⟨⟨k2, ?_, by omega, km.2.2.2.2.1, by omega⟩, ?_⟩
      · rw [km.2.2.2.1]; omega
      · unfold hW
        rw [if_neg (by omega), if_neg (by omega), if_neg (by omega)]
        exact ⟨km.2.2.2.2.2.1, km.2.2.2.2.2.2.1, km.2.2.2.2.2.2.2, fun _ => rfl⟩
theorem f_fu_nt {L : Nat} {C : C_} {v : T_} {id : Nat} {s s1 : S_} (h : f_fu L C v id s = some s1) : s_b s1 = s_b s ∧ s_nt s ≤ s_nt s1 ∧ s_nd s1 = s_nd s ∧ s_tb s1 = s_tb s := by
  obtain ⟨-, rfl⟩ := f_fu_inv h
  unfold f_funs
  obtain ⟨l, e, -⟩ := f_notes_eq C (f_code 3 id) (min 60 (v_nf v)) s
  rw [e]
  exact ⟨rfl, Nat.le_add_right _ _, rfl, rfl⟩
/-- functions are minded -/
theorem sim_ntn {W : W_} {s2 : S_} {E2 : N_} {x : T_} {p : Nat} (RP : RD C sil o a0 D K0 hb s2 E2 W) (hv : vW_ W x (W.1 41 11)) (hp : p < 1000) (hN : s_nt s2 ≤ 900000) : ww_Ct 77 4 [.inr (.inr (.inl 41)), .inl p] W (fun r w' => r = none ∧ w' = w_ntn (min 60 (v_nf x)) W (f_code 3 p)) ∧ RD C sil o a0 D K0 hb (f_funs C x p s2) E2 (w_ntn (min 60 (v_nf x)) W (f_code 3 p)) := by
  have hcn := RP.1.2.2.1.2.2.2
  have h0 : 0 ≤ W.1 13 2 ∧ W.1 13 2 ≤ 300000 := by omega
  have hnf := vW_nf hv
  refine ⟨?_, RD_ntn _ _ _ RP (by have := Nat.min_le_left 60 (v_nf x); omega)⟩
  have z := lk_77 (x0 := p) (w := W) ⟨(CR_o RP.1).2, vW_ok h0.1 h0.2 hv, by omega, by rw [hnf]; omega, by rw [hnf]; omega⟩
  rw [hnf] at z
  have hcode : (100000 * 3 + w_spot (p : Int)) = f_code 3 p := f_code_w 3 p
  rw [hcode] at z
  exact z
theorem sim_28 {L : Nat} {r1 : K_} (M1 : eMK r1) (h1 : cSK C sil o K0 r1) {s2 : S_} {E2 : N_} {x : T_} (H : RD C sil o a0 D K0 hb s E w) (he : eW w 0 hb (ce 28 n id a b c)) (hp : e_id a < 1000) (hd : w.1 41 10 = id) (hf : 20 ≤ fr) (hi : 0 ≤ i) (hi2 : i + 12 * (s_b s2 : Int) ≤ 900000 + 12 * (s_b s : Int)) (ht : s_tb s < 2000) (hB : s_b s2 ≤ 90000 ∧ s_nt s1 ≤ 900000) (hD : D → e_imp a = false ∧ n_ni E) (hr : r1 sil a E hb (u_go s) = some (x, E2, s2)) (hr2 : (match f_fu L C x (e_id a) s2 with
    | some s3 => some (vN (v_wd x 1), E2, s3)
    | none => none) = some (v, E1, s1)) (K : cK C sil o a0 D K0 hb s s1 E1 w v fr Q i) : dr fr Q i w := by
  cases hq : f_fu L C x (e_id a) s2 with
  | none => rw [hq] at hr2; cases hr2
  | some s3 =>
    rw [hq] at hr2
    cases hr2
    have hs := f_fu_nt hq
    obtain ⟨-, e3⟩ := f_fu_inv hq
    refine sim_one (k := 28) M1 h1 (by omega) H he hd hf hi hi2 ht ⟨hB.1, by omega⟩ hD hr fun i3 w3 hi3 l0 l1 RP cP QP hct f0 f1 f2 v3 d3 ⟨g2, g3, g37, n0, n1, hid⟩ kn h13 => ?_
    obtain ⟨p11, p10, p12, p13⟩ := w_po_v w3
    have dP : (w_po w3).1 41 10 = -1 := by rw [p10]; exact d3
    have vP : vW_ (w_po w3) x ((w_po w3).1 41 11) := by rw [p11]; exact vW_po v3
    obtain ⟨hc, RN⟩ := sim_ntn RP vP hp (by omega)
    have ho := RD_oK RP.1
    obtain ⟨q1, q2, q3, q4, q5⟩ := ntn_Q (n := w.1 33 1) (f := f_code 3 (e_id a)) (min 60 (v_nf x)) (w_po w3) ho
    have vN' : vW_ (w_ntn (min 60 (v_nf x)) (w_po w3) (f_code 3 (e_id a))) x ((w_ntn (min 60 (v_nf x)) (w_po w3) (f_code 3 (e_id a))).1 41 11) := by
      rw [q4]
      exact vW_x q1.2.2.2 (by rw [p13]; exact h13.1) vP
    have hw1 := (vW_w vN').1
    have hle := (cR_wd _ _ vN'.1 1 (by decide)).1
    refine dr_1 (f := 6) (by omega) d3 hct f0 (lk_87m f1 f2 (by omega) g3 ⟨n0, n1⟩ g2 hct g37 hc (vW_ok (by rw [q5, p13]; exact h13.1) (by rw [q5, p13]; omega) vN')) (by omega) (by omega) fun w4 hw4 => ?_
    rw [hw4, hw1]
    rw [← e3] at RN
    refine sim_fin (w0 := w) RN (q2.trans cP) (fQ_tr QP (oQ_fQ q1)) (q3.trans dP) (vW_N ?_) fun w5 g1 g2 g3 g4 g5 => K (i3 + 1) w5 (by omega) (by rw [hs.1]; omega) g1 g2 g3 g4 g5
    unfold v_wd
    omega
theorem sim_20 {L : Nat} {r1 : K_} (M1 : eMK r1) (W1 : eWK r1) (h1 : cSK C sil o K0 r1) {s2 : S_} {E2 : N_} {x : T_} (H : RD C sil o a0 D K0 hb s E w) (he : eW w 0 hb (ce 20 n id a b c)) (hp : e_id a < 1000) (hd : w.1 41 10 = id) (hf : 20 ≤ fr) (hi : 0 ≤ i) (hi2 : i + 12 * (s_b s2 : Int) ≤ 900000 + 12 * (s_b s : Int)) (ht : s_tb s < 2000) (hB : s_b s2 ≤ 90000 ∧ s_nt s1 ≤ 900000) (hD : D → e_imp a = false ∧ n_ni E) (hr : r1 sil a E hb (u_go s) = some (x, E2, s2)) (hr2 : (match f_fu L C x (e_id a) s2 with
    | some s3 => some (.tag 5 (.tag id x), E2, u_nd s3 1)
    | none => none) = some (v, E1, s1)) (K : cK C sil o a0 D K0 hb s s1 E1 w v fr Q i) : dr fr Q i w := by
  cases hq : f_fu L C x (e_id a) s2 with
  | none => rw [hq] at hr2; cases hr2
  | some s3 =>
    rw [hq] at hr2
    cases hr2
    have hs := f_fu_nt hq
    obtain ⟨-, e3⟩ := f_fu_inv hq
    have hnd : s_nd s2 + 11 * (s_tb s + 1) ≤ s_nd s + 11 * s_tb s2 := W1 _ _ _ _ _ _ _ _ hr
    have hnd0 := H.1.2.2.1.2.2.2.2.1
    have hB2 : s_nt s3 ≤ 900000 := hB.2
    refine sim_one (k := 20) M1 h1 (by omega) H he hd hf hi hi2 ht ⟨hB.1, by omega⟩ hD hr fun i3 w3 hi3 l0 l1 RP cP QP hct f0 f1 f2 v3 d3 ⟨g2, g3, g37, n0, n1, hid⟩ kn h13 => ?_
    obtain ⟨p11, p10, p12, p13⟩ := w_po_v w3
    have dP : (w_po w3).1 41 10 = -1 := by rw [p10]; exact d3
    have vP : vW_ (w_po w3) x ((w_po w3).1 41 11) := by rw [p11]; exact vW_po v3
    obtain ⟨hc, RN⟩ := sim_ntn RP vP hp (by omega)
    have ho := RD_oK RP.1
    obtain ⟨q1, q2, q3, q4, q5⟩ := ntn_Q (n := w.1 33 1) (f := f_code 3 (e_id a)) (min 60 (v_nf x)) (w_po w3) ho
    have vN' : vW_ (w_ntn (min 60 (v_nf x)) (w_po w3) (f_code 3 (e_id a))) x ((w_ntn (min 60 (v_nf x)) (w_po w3) (f_code 3 (e_id a))).1 41 11) := by
      rw [q4]
      exact vW_x q1.2.2.2 (by rw [p13]; exact h13.1) vP
    have hoN := oK_x q1.2.2.2 ho
    rw [← e3] at RN
    generalize w_ntn (min 60 (v_nf x)) (w_po w3) (f_code 3 (e_id a)) = W at *
    have hW13 : 0 ≤ W.1 13 2 ∧ W.1 13 2 ≤ 262000 := by rw [q5, p13]; exact h13
    obtain ⟨u1, u2, u3⟩ := vW_w vN'
    have hlt := cR_lt hW13.1 vN'.1
    have z23 := lk_23 (x0 := W.1 41 11) (x1 := id) (w := W) ⟨by omega, hlt.2, vW_ok hW13.1 (by omega) vN'⟩
    refine dr_1 (f := 6) (by omega) d3 hct f0 (lk_87h f1 f2 (by omega) g3 ⟨n0, n1⟩ g2 hct g37 hc z23) (by omega) (by omega) fun w4 hw4 => ?_
    rw [hw4]
    obtain ⟨y1, y2, y3, y4, y5, y6, y7, y8, y9⟩ := new_wid (W := W) (k := 5) (b := W.1 41 11) (c := 20003) (d := (id : Int)) (e := 0) (x := h_w W (W.1 41 11) 1) (y := h_w W (W.1 41 11) 2) (z := h_w W (W.1 41 11) 3) hW13.1 (by unfold am_rg; omega) (by unfold am_rg; omega) (CR_gN RN.1)
    have HS : hS W (w_wid (w_mk W 5 (W.1 41 11) 20003 id 0) (30000 + W.1 13 2) (h_w W (W.1 41 11) 1) (h_w W (W.1 41 11) 2) (h_w W (W.1 41 11) 3)) := hS_wid (hS_mk hW13.1 (cpx_of hW13.1 vN'.1) (cpx_k hW13.1 (by decide)) (fun q => absurd q (by decide))) hW13.1
    generalize w_wid (w_mk W 5 (W.1 41 11) 20003 id 0) (30000 + W.1 13 2) (h_w W (W.1 41 11) 1) (h_w W (W.1 41 11) 2) (h_w W (W.1 41 11) 3) = W2 at *
    refine sim_fin (w0 := w) (RD_h (k := 1) RN HS (by rw [y1]; omega) (by omega)) ?_ (fQ_tr QP (oQ_fQ (oQ_tr q1 (oQ_h HS hoN)))) ?_ ?_ fun w5 g1 g2 g3 g4 g5 => K (i3 + 1) w5 (by omega) (by show _ ≤ i + 12 * (s_b s3 : Int); rw [hs.1]; omega) g1 g2 g3 g4 g5
    · rw [HS.1 33 1 (by decide)]; exact q2.trans cP
    · rw [HS.1 41 10 (by decide)]; exact q3.trans dP
    · have vX := vW_x (hS_x HS hoN) hW13.1 vN'
      have hw : hW (W2.2 13) (.tag 5 (.tag id x)) (30000 + W.1 13 2) := by
        unfold hW
        rw [if_neg (by omega), if_neg (by omega), if_neg (by omega), y7, y8, y9]
        exact ⟨u1, u2, u3, fun _ => rfl⟩
      refine ⟨⟨y2, y5, hid, ?_, hw⟩, hw⟩
      rw [y3]; exact vX.1
theorem sim_31 {L : Nat} {r1 : K_} (M1 : eMK r1) (h1 : cSK C sil o K0 r1) {s2 : S_} {E2 : N_} {x e : T_} (H : RD C sil o a0 D K0 hb s E w) (he : eW w 0 hb (ce 31 n id a b c)) (hd : w.1 41 10 = id) (hf : 20 ≤ fr) (hi : 0 ≤ i) (hi2 : i + 12 * (s_b s2 : Int) ≤ 900000 + 12 * (s_b s : Int)) (ht : s_tb s < 2000) (hB : s_b s2 ≤ 90000 ∧ s_nt s1 ≤ 900000) (hD : D → e_imp a = false ∧ n_ni E) (hr : r1 sil a E hb (u_go s) = some (x, E2, s2)) (hr2 : o_one L C 31 n id a x e E2 s2 = some (v, E1, s1)) (K : cK C sil o a0 D K0 hb s s1 E1 w v fr Q i) : dr fr Q i w := by
  have ke : (31 : Nat) ≠ 15 ∧ (31 : Nat) ≠ 18 ∧ (31 : Nat) ≠ 19 ∧ (31 : Nat) ≠ 20 ∧ (31 : Nat) ≠ 21 ∧ (31 : Nat) ≠ 28 := by decide
  have hs : s_b s1 = s_b s2 ∧ s_nt s2 ≤ s_nt s1 := by
    rcases pk_or x with ⟨y, z, rfl⟩ | hpk
    · rw [pk_13 ke] at hr2
      cases hr2; exact ⟨rfl, Nat.le_refl _⟩
    · rw [hpk _ _ _ _ _ _ _ _ _ ke] at hr2
      split at hr2
      · cases hr2; exact ⟨rfl, Nat.le_refl _⟩
      · cases hr2; exact ⟨rfl, Nat.le_succ _⟩
  refine sim_one (k := 31) M1 h1 (by omega) H he hd hf hi hi2 ht ⟨hB.1, by omega⟩ hD hr fun i3 w3 hi3 l0 l1 RP cP QP hct f0 f1 f2 v3 d3 ⟨g2, g3, g37, n0, n1, hid⟩ kn h13 => ?_
  obtain ⟨p11, p10, p12, p13⟩ := w_po_v w3
  have rg := vW_rg h13.1 (by omega) v3
  have iw := vW_isW v3
  have dP : (w_po w3).1 41 10 = -1 := by rw [p10]; exact d3
  have K' : ∀ w', RD C sil o a0 D K0 hb s1 E1 w' → w'.1 33 1 = w.1 33 1 → fQ (w.1 33 1) hb w w' → vW_ w' v (w'.1 41 11) → w'.1 41 10 = -1 → dr fr Q (i3 + 1) w' := fun w5 g1 g2 g3 g4 g5 => K (i3 + 1) w5 (by omega) (by rw [hs.1]; omega) g1 g2 g3 g4 g5
  have hok := vW_ok h13.1 (by omega) v3
  rcases pk_or x with ⟨y, z, rfl⟩ | hpk
  · rw [pk_13 ke] at hr2
    cases hr2
    obtain ⟨⟨hn, -, -, r1, r2, r3, r4⟩, -⟩ := v3
    have v0 : w_h w3 (w3.1 41 11) 0 = 13 := hn.2.1
    refine dr_1 (f := 6) (by omega) d3 hct f0 (lk_87p f1 f2 (by omega) g3 ⟨n0, n1⟩ g2 rfl (by have := hn.1; omega) v0 kn hct) (by omega) (by omega) fun w4 hw4 => ?_
    rw [hw4]
    have RV := RD_val (j := 11) (x := w3.1 41 11) RP (Or.inr rfl)
    have ho := RD_oK RP.1
    have OV : oQ (w.1 33 1) (w_po w3) (w_f (w_po w3) 41 11 (w3.1 41 11)) := oQ_val ho (Or.inr rfl)
    refine sim_fin (w0 := w) RV (by rw [w_f1, w_u_at, if_neg (by decide)]; exact cP) (fQ_tr QP (oQ_fQ OV)) (by rw [w_f1, w_u_at, if_neg (by decide)]; exact dP) (vW_x OV.2.2.2 (by rw [p13]; exact h13.1) (vW_po ?_)) K'
    by_cases cn : n % 2 = 0
    · rw [if_pos cn, if_pos cn]; exact ⟨r1, r2⟩
    · rw [if_neg cn, if_neg cn]; exact ⟨r3, r4⟩
  · rw [hpk _ _ _ _ _ _ _ _ _ ke] at hr2
    have v0 : w_h w3 (w3.1 41 11) 0 ≠ 13 := by
      intro q
      rw [pH_w] at q
      have h2 := v3.1
      unfold cR at h2
      split at h2
      all_goals first | exact h2.elim | (have e := h2.1.2.1; omega) | (have e := h2.2.1; omega) | (unfold pH at q; rw [if_pos (by omega)] at q; omega) | skip
      have e := hpk 0 C 31 0 0 .nil .nil n_none s2 ke
      have hW : ∀ l r : T_, ¬ v_isW (.tag 13 (.append l r)) = true := fun l r q => by cases q
      rw [pk_13 ke, if_neg (hW _ _)] at e
      exact (o_bad_F e.symm rfl).elim
    refine dr_1 (f := 6) (by omega) d3 hct f0 (lk_87q f1 f2 (by omega) g3 ⟨n0, n1⟩ g2 rfl rg.2 kn hct v0 hok.2.1) (by omega) (by omega) fun w4 hw4 => ?_
    rw [hw4]
    exact sim_wrong RP cP QP dP iw hr2 hB.2 K'
end
