/-! ===== the class runs as the evaluator: SET and SHOW ===== -/
theorem chain_wq (tl m : T_) (z : Nat) : (v_wq (v_chain tl m) z).2 = (v_wq m (v_wq tl z).2).2 := by
  by_cases h : tl = .nil
  · rw [h]; rfl
  · rw [v_chain_ne h]; rfl
theorem cR_ne {n : Int} {a : Nat → Int} {F : T_ → Prop} {v : T_} {x : Int} (h : cR n a F v x) : x = 20003 ↔ v = .nil := by
  unfold cR at h
  split at h
  all_goals first
    | exact h.elim
    | exact ⟨fun _ => rfl, fun _ => h⟩
    | exact ⟨fun q => (by exfalso; first | (have := h.1.1; omega) | (have := h.1; omega) | omega), fun q => by cases q⟩
section
variable {C : C_} {sil : Bool} {o a0 : Nat} {D : Prop} {K0 : Int} {hb : Bool} {s s1 : S_} {E E1 : N_} {w : W_} {fr : Nat} {Q : Option am_V → W_ → Prop} {i : Int} {k : Nat} {n : Int} {id : Nat} {a b c v : T_}
theorem w_mrk_eq {M : W_} {u z : Int} {p : Bool} : (if p = true then w_a (w_mrk M u) 34 (M.1 41 13 * 13 + 8).toNat z else w_mrk M u) = w_f (if p = true then w_a (w_a (if w_g M 34 (M.1 41 13 * 13 + 5) = 20003 then M else w_mk M 8 (w_g M 34 (M.1 41 13 * 13 + 5)) u 0 0) 34 (M.1 41 13 * 13 + 5).toNat (if w_g M 34 (M.1 41 13 * 13 + 5) = 20003 then u else 30000 + M.1 13 2)) 34 (M.1 41 13 * 13 + 8).toNat z else w_a (if w_g M 34 (M.1 41 13 * 13 + 5) = 20003 then M else w_mk M 8 (w_g M 34 (M.1 41 13 * 13 + 5)) u 0 0) 34 (M.1 41 13 * 13 + 5).toNat (if w_g M 34 (M.1 41 13 * 13 + 5) = 20003 then u else 30000 + M.1 13 2)) 41 11 20003 := by
  unfold w_mrk
  cases p with
  | true => rw [if_pos rfl, if_pos rfl]; rfl
  | false => rw [if_neg Bool.false_ne_true, if_neg Bool.false_ne_true]
/-- a mark is put behind those that wait -/
theorem sim_mrk {W0 M : W_} {s2 : S_} {E2 : N_} {mt : T_} {u z : Int} {p : Bool} (R : RD C sil o a0 D K0 true s2 E2 W0) (cP : W0.1 33 1 = w.1 33 1) (QP : fQ (w.1 33 1) true w W0) (dP : W0.1 41 10 = -1) (HS : hS W0 M) (hc : M.1 13 2 ≤ W0.1 13 2 + 1) (hu : cR (M.1 13 2) (M.2 13) (fW M) mt u) (hu0 : 30000 ≤ u) (hn : s_nd s2 + 2 ≤ 11 * s_tb s2 + 300) (hz : p = true → 1 ≤ z ∧ z ≤ 3) (hm : ∀ y : Nat, ((v_wq mt y).2 : Int) = if p = true then z else (y : Int)) (K : ∀ w', RD C sil o a0 D K0 true (u_tl (u_nd s2 2) (v_chain (s_tl s2) mt)) E2 w' → w'.1 33 1 = w.1 33 1 → fQ (w.1 33 1) true w w' → vW_ w' v0 (w'.1 41 11) → w'.1 41 10 = -1 → dr fr Q i w') : dr fr Q i (if p = true then w_a (w_mrk M u) 34 (M.1 41 13 * 13 + 8).toNat z else w_mrk M u) := by
  have ho := RD_oK R.1
  have h0 := R.1.2.2.1.2.2.2.1.1
  have hM0 : 0 ≤ M.1 13 2 := by have := HS.2.2.1; omega
  obtain ⟨t1, t2, t3, t4, t5⟩ := R.2.2.1 rfl
  have e13 : M.1 41 13 = W0.1 41 13 := HS.1 41 13 (by decide)
  have e34 : M.2 34 = W0.2 34 := HS.2.1 34 (by decide)
  have eg : w_g M 34 (M.1 41 13 * 13 + 5) = wg (W0.2 34) (W0.1 41 13 * 13 + 5) := by rw [wg_w, e34, e13]
  have tM := cW_x (hS_x HS ho) t2
  have hnil := cR_ne t2
  rw [w_mrk_eq]
  -- the heap behind it
  have X : ∃ M2 y, M2 = (if w_g M 34 (M.1 41 13 * 13 + 5) = 20003 then M else w_mk M 8 (w_g M 34 (M.1 41 13 * 13 + 5)) u 0 0) ∧ y = (if w_g M 34 (M.1 41 13 * 13 + 5) = 20003 then u else 30000 + M.1 13 2) ∧ hS W0 M2 ∧ M2.1 13 2 ≤ W0.1 13 2 + 2 ∧ cR (M2.1 13 2) (M2.2 13) (fW M2) (v_chain (s_tl s2) mt) y := by
    refine ⟨_, _, rfl, rfl, ?_⟩
    rw [eg]
    by_cases q : wg (W0.2 34) (W0.1 41 13 * 13 + 5) = 20003
    · rw [if_pos q, if_pos q, hnil.mp q]
      exact ⟨HS, by omega, hu⟩
    · rw [if_neg q, if_neg q, v_chain_ne (fun r => q (hnil.mpr r))]
      have HM : hS M (w_mk M 8 (wg (W0.2 34) (W0.1 41 13 * 13 + 5)) u 0 0) := hS_mk hM0 (cpx_of hM0 tM) (cpx_of hM0 hu) (fun q => absurd q (by decide))
      obtain ⟨k1, k2⟩ := new_mk (W := M) (k := 8) (b := wg (W0.2 34) (W0.1 41 13 * 13 + 5)) (c := u) (d := 0) (e := 0) hM0 (by unfold am_rg; omega) (by unfold am_rg; omega) (gN_h HS (CR_gN R.1))
      have km := mk_f (w := M) (a := 8) (b := wg (W0.2 34) (W0.1 41 13 * 13 + 5)) (c := u) (d := 0) (e := 0) hM0
      have xM := hS_x HM (oK_x (hS_x HS ho) ho)
      refine ⟨hS_tr HS HM, by rw [k1]; omega, k2, ?_, ?_⟩
      · rw [km.2.1]; exact cW_x xM tM
      · rw [km.2.2.1]; exact cW_x xM hu
  obtain ⟨M2, y, e1, e2, X1, X2, X3⟩ := X
  rw [← e1, ← e2]
  have RM := RD_h (k := 2) R X1 X2 hn
  have f13 : M2.1 41 13 = M.1 41 13 := (X1.1 41 13 (by decide)).trans e13.symm
  have f34 : M2.2 34 = W0.2 34 := X1.2.1 34 (by decide)
  rw [← f13]
  have hoM := oK_x (hS_x X1 ho) ho
  have cM : M2.1 33 1 = W0.1 33 1 := X1.1 33 1 (by decide)
  obtain ⟨Z1, Z2⟩ := RD_tl (y := y) (z := z) (tl := v_chain (s_tl s2) mt) (p := p) RM X3 hz fun k k1 k3 => by
    rw [chain_wq, hm, f34, f13, e13, t5 k k1 k3]
  rw [cM, cP] at Z2
  have e33 : (if p = true then w_a (w_a M2 34 (M2.1 41 13 * 13 + 5).toNat y) 34 (M2.1 41 13 * 13 + 8).toNat z else w_a M2 34 (M2.1 41 13 * 13 + 5).toNat y).1 = M2.1 := by split <;> rfl
  refine sim_fin (w0 := w) Z1 (by rw [e33, cM]; exact cP) (fQ_tr QP (fQ_tr (oQ_fQ (oQ_h X1 ho)) Z2)) (by rw [e33, X1.1 41 10 (by decide)]; exact dP) vW_0 K
/-- SET and SHOW in a block, up to their last step -/
theorem sim_onm {r1 : K_} (M1 : eMK r1) (h1 : cSK C sil o K0 r1) {s2 : S_} {E2 : N_} {x : T_} (hk : k = 18 ∨ k = 19) (H : RD C sil o a0 D K0 true s E w) (he : eW w 0 true (ce k n id a b c)) (hd : w.1 41 10 = id) (hf : 20 ≤ fr) (hi : 0 ≤ i) (hi2 : i + 12 * (s_b s2 : Int) ≤ 900000 + 12 * (s_b s : Int)) (ht : s_tb s < 2000) (hB : s_b s2 ≤ 90000 ∧ s_nt s2 ≤ 900000) (hD : D → e_imp a = false ∧ n_ni E) (hr : r1 sil a E true (u_go s) = some (x, E2, s2))
    (K : ∀ i' w', 0 ≤ i' ∧ i' ≤ 900000 → i + 2 ≤ i' → i' + 10 + 12 * (s_b s : Int) ≤ i + 12 * (s_b s2 : Int) → RD C sil o a0 D K0 true s2 E2 (w_po w') → (w_po w').1 33 1 = w.1 33 1 → fQ (w.1 33 1) true w (w_po w') → (1 ≤ w'.1 33 1 ∧ w'.1 33 1 < 24000) → f_t w' 0 = 1 → f_t w' 1 = id → f_t w' 2 = 1 → vW_ w' x (w'.1 41 11) → w'.1 41 10 = -1 → (w_g w' 3 id = k ∧ w_g w' 5 id = n ∧ 0 ≤ n ∧ n < 100 ∧ id < 180) → w_kn w' → (0 ≤ w'.1 13 2 ∧ w'.1 13 2 ≤ 262000) → dr fr Q i' w') : dr fr Q i w := by
  obtain ⟨⟨g1, g2, g3, g4, g5, g6, g7, -⟩, hbl, -⟩ := eW_ce he
  have hcnt := H.2.2.2.1
  have htx : (true : Bool) = true → w.1 41 13 < w.1 33 1 := fun q => (H.2.2.1 q).1.2
  have mb1 : s_b s + 1 ≤ s_b s2 := (M1 _ _ _ _ _ _ _ _ hr (Nat.le_succ_of_le H.2.2.2.2.2.1)).1
  have hbb : w_g (w_bg w) 37 ((id : Int) * 9 + 6) = 1 := (hbl hk).trans (if_pos rfl)
  refine sim_part (k := k) (kf := 1) M1 h1 H he (by rcases hk with rfl | rfl <;> decide) (by omega) hd hf hi hi2 ht hB hD hr (lk_82p hd (by omega) g2 g3 ⟨g4, g5⟩ (by unfold am_rg; omega) (by omega) (lk_84f (w := w_bg w) (by omega) (by omega) (by rw [hbb]; decide) (by rw [hbb]; unfold am_rg; omega) (by rw [w_bg_n]; have := H.1.2.2.1.2.2.2.2.2.1; omega))) (fun w1 d1 c1 f0 f1 f2 KK => dr_1 (f := 6) (by omega) d1 c1 f0 (lk_87a f1 f2 (by omega) c1) (by omega) (by omega) KK) fun i3 w3 l0 l1 R3 c3 Q3 f0 f1 f2 v3 d3 => ?_
  have hcn := R3.1.2.2.1.2.2.2
  have hct : 1 ≤ w3.1 33 1 ∧ w3.1 33 1 < 24000 := by have := R3.2.2.2.1; omega
  have htx3 : (true : Bool) = true → w3.1 41 13 < w.1 33 1 := fun q => by rw [Q3.1.2]; exact htx q
  obtain ⟨RP, cP⟩ := RD_po R3 c3 hcnt.1 htx3
  have e3 : eW w3 0 true (ce k n id a b c) := eW_x Q3.2.2.2 he
  obtain ⟨⟨g1, g2, g3, g4, g5, -⟩, -⟩ := eW_ce e3
  exact K i3 w3 (by omega) l0 l1 RP cP (fQ_tr Q3 (oQ_fQ (oQ_po (RD_oK R3.1)))) hct f0 f1 f2 v3 d3 ⟨g2, g3, g4, g5, g1⟩ (CR_o R3.1).2 (by omega)
theorem sim_18 {r1 : K_} (M1 : eMK r1) (W1 : eWK r1) (h1 : cSK C sil o K0 r1) {s2 : S_} {E2 : N_} {x e : T_} (H : RD C sil o a0 D K0 true s E w) (he : eW w 0 true (ce 18 n id a b c)) (hd : w.1 41 10 = id) (hf : 20 ≤ fr) (hi : 0 ≤ i) (hi2 : i + 12 * (s_b s2 : Int) ≤ 900000 + 12 * (s_b s : Int)) (ht : s_tb s < 2000) (hB : s_b s2 ≤ 90000 ∧ s_nt s1 ≤ 900000) (hD : D → e_imp a = false ∧ n_ni E) (hr : r1 sil a E true (u_go s) = some (x, E2, s2)) (hr2 : o_mark C 18 n id x e E2 s2 = some (v, E1, s1)) (K : cK C sil o a0 D K0 true s s1 E1 w v fr Q i) : dr fr Q i w := by
  have hnd : s_nd s2 + 11 * (s_tb s + 1) ≤ s_nd s + 11 * s_tb s2 := W1 _ _ _ _ _ _ _ _ hr
  have hnd0 := H.1.2.2.1.2.2.2.2.1
  have eo : o_mark C 18 n id x e E2 s2 = if v_isW x = true then some (vW, E2, s2) else match v_num x with
    | some y => some (v0, E2, u_tl (u_nd s2 2) (v_chain (s_tl s2) (.tag 10 (.tag (n % 2).toNat (.nest (if n % 2 = 0 then max 1 (min 3 y) else max 0 (min 3 y)) .nil)))))
    | none => o_bad C 3 id E2 s2 := rfl
  rw [eo] at hr2
  have hs : s_b s1 = s_b s2 ∧ s_nt s2 ≤ s_nt s1 := by
    split at hr2
    · cases hr2; exact ⟨rfl, Nat.le_refl _⟩
    · split at hr2
      · cases hr2; exact ⟨rfl, Nat.le_refl _⟩
      · cases hr2; exact ⟨rfl, Nat.le_succ _⟩
  refine sim_onm (k := 18) M1 h1 (Or.inl rfl) H he hd hf hi hi2 ht ⟨hB.1, by omega⟩ hD hr fun i3 w3 hi3 l0 l1 RP cP QP hct f0 f1 f2 v3 d3 ⟨g2, g3, n0, n1, hid⟩ kn h13 => ?_
  obtain ⟨p11, p10, p12, p13⟩ := w_po_v w3
  have nm := vW_num h13.1 v3
  have rg := vW_rg h13.1 (by omega) v3
  have iw := vW_isW v3
  have dP : (w_po w3).1 41 10 = -1 := by rw [p10]; exact d3
  have K' : ∀ w', RD C sil o a0 D K0 true s1 E1 w' → w'.1 33 1 = w.1 33 1 → fQ (w.1 33 1) true w w' → vW_ w' v (w'.1 41 11) → w'.1 41 10 = -1 → dr fr Q (i3 + 1) w' := fun w5 g1 g2 g3 g4 g5 => K (i3 + 1) w5 (by omega) (by rw [hs.1]; omega) g1 g2 g3 g4 g5
  cases cv : v_num x with
  | none =>
    rw [cv] at nm hr2
    refine dr_1 (f := 6) (by omega) d3 hct f0 (lk_87Sw f1 f2 (by omega) g3 ⟨n0, n1⟩ g2 rfl rg.2 kn hct nm) (by omega) (by omega) fun w4 hw4 => ?_
    rw [hw4]
    exact sim_wrong RP cP QP dP iw hr2 hB.2 K'
  | some y =>
    rw [cv] at nm hr2
    have hw : ¬ v_isW x = true := fun q => by have := iw.mp q; omega
    rw [if_neg hw] at hr2
    cases hr2
    have RV := RD_val (j := 11) (x := y) RP (Or.inr rfl)
    have ho := RD_oK RP.1
    have OV : oQ (w.1 33 1) (w_po w3) (w_f (w_po w3) 41 11 y) := oQ_val ho (Or.inr rfl)
    have n13 : (w_f (w_po w3) 41 11 y).1 13 2 = w3.1 13 2 := by rw [w_f1, w_u_at, if_neg (by decide)]; exact p13
    have n33 : (w_f (w_po w3) 41 11 y).1 33 1 = w.1 33 1 := by rw [w_f1, w_u_at, if_neg (by decide)]; exact cP
    have n10 : (w_f (w_po w3) 41 11 y).1 41 10 = -1 := by rw [w_f1, w_u_at, if_neg (by decide)]; exact dP
    have n11 : (w_f (w_po w3) 41 11 y).1 41 11 = y := by rw [w_f1, w_u_at, if_pos ⟨rfl, rfl⟩]
    have hcnt := RV.2.2.2.1
    have htb := RV.1.2.2.1.2.2.2.2.2.1
    obtain ⟨t1, t2, t3, t4, t5⟩ := RV.2.2.1 rfl
    have h0 : 0 ≤ (w_f (w_po w3) 41 11 y).1 13 2 := by rw [n13]; exact h13.1
    have tr := cR_lt h0 t2
    have hvs : v_set (n % 2) y = if n % 2 = 0 then max 1 (min 3 y) else max 0 (min 3 y) := by
      unfold v_set
      (repeat' split) <;> omega
    have z89 := lk_89 (x0 := n % 2) (w := w_f (w_po w3) 41 11 y) (by omega) (by rw [n11]; omega) (by omega) (by rw [wg_w]; unfold am_rg; omega) (by rw [n13]; omega)
    refine dr_1 (f := 6) (by omega) d3 hct f0 (lk_87S f1 f2 (by omega) g3 ⟨n0, n1⟩ g2 nm.1 (by omega) kn hct (by omega) z89) (by omega) (by omega) fun w4 hw4 => ?_
    rw [hw4]
    rw [n11, hvs] at *
    generalize hz : (if n % 2 = 0 then max 1 (min 3 y) else max 0 (min 3 y)) = z at *
    have hz3 : 0 ≤ z ∧ z ≤ 3 ∧ (n % 2 = 0 → 1 ≤ z) := by
      rw [← hz]
      split <;> omega
    have HS : hS (w_f (w_po w3) 41 11 y) (w_mk (w_f (w_po w3) 41 11 y) 10 20003 20003 (n % 2) z) := hS_mk0 h0
    obtain ⟨k1, k2⟩ := new_mk (W := w_f (w_po w3) 41 11 y) (k := 10) (b := 20003) (c := 20003) (d := n % 2) (e := z) h0 (by unfold am_rg; omega) (by unfold am_rg; omega) (CR_gN RV.1)
    have km := mk_f (w := w_f (w_po w3) 41 11 y) (a := 10) (b := 20003) (c := 20003) (d := n % 2) (e := z) h0
    have m13 : (w_mk (w_f (w_po w3) 41 11 y) 10 20003 20003 (n % 2) z).1 41 13 = (w_f (w_po w3) 41 11 y).1 41 13 := HS.1 41 13 (by decide)
    have zz := sim_mrk (w := w) (i := i3 + 1) (fr := fr) (Q := Q) (mt := .tag 10 (.tag (n % 2).toNat (.nest z .nil))) (u := 30000 + (w_f (w_po w3) 41 11 y).1 13 2) (z := z) (p := decide (n % 2 = 0)) RV n33 (fQ_tr QP (oQ_fQ OV)) n10 HS (by rw [k1]; exact Int.le_refl _) ⟨k2, by rw [km.2.2.2.1]; omega, by omega, km.2.2.2.2.1, hz3.1, hz3.2.1, fun q => hz3.2.2 (by omega)⟩ (by omega) (by omega) (fun q => ⟨hz3.2.2 (of_decide_eq_true q), hz3.2.1⟩) (fun t => by
      by_cases q : n % 2 = 0
      · rw [if_pos (decide_eq_true q), q]
        show ((z.toNat : Nat) : Int) = z
        omega
      · have e1 : n % 2 = 1 := by omega
        rw [if_neg (by rw [decide_eq_false q]; decide), e1]
        rfl) K'
    rw [m13] at zz
    by_cases q : n % 2 = 0
    · rw [if_pos (decide_eq_true q)] at zz
      rw [if_pos q]
      exact zz
    · rw [if_neg (by rw [decide_eq_false q]; decide)] at zz
      rw [if_neg q]
      exact zz
end
