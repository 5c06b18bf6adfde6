/-! ===== the class runs as the evaluator: SHOW in a block ===== -/
theorem vW_isF {w : W_} {v : T_} {x : Int} (h : vW_ w v x) : w_h w x 0 = 12 ↔ v_isF v = true := by
  show pH (w.2 13) x 0 = 12 ↔ _
  have Z : x < 30000 → ¬ pH (w.2 13) x 0 = 12 := fun q1 => by
    have e : pH (w.2 13) x 0 = 0 := by unfold pH; rw [if_pos q1]
    rw [e]
    omega
  have N : ∀ k, hN (w.1 13 2) (w.2 13) (fW w) x k → (pH (w.2 13) x 0 = 12 ↔ k = 12) := fun k q => by rw [q.2.1]
  have h2 := h.1
  unfold cR at h2
  split at h2
  all_goals first
    | exact h2.elim
    | exact ⟨fun q => absurd q (Z (by omega)), fun q => by cases q⟩
    | exact ⟨fun q => absurd ((N _ h2.1).mp q) (by decide), fun q => by cases q⟩
    | exact ⟨fun q => absurd ((N _ h2).mp q) (by decide), fun q => by cases q⟩
    | exact ⟨fun _ => rfl, fun _ => (N _ h2.1).mpr rfl⟩
theorem vW_h0 {w : W_} {v : T_} {x : Int} (h : vW_ w v x) : am_rg (w_h w x 0) := by
  show am_rg (pH (w.2 13) x 0)
  have Z : x < 30000 → am_rg (pH (w.2 13) x 0) := fun q1 => by
    have e : pH (w.2 13) x 0 = 0 := by unfold pH; rw [if_pos q1]
    rw [e]
    unfold am_rg
    omega
  have N : ∀ k, hN (w.1 13 2) (w.2 13) (fW w) x k → 0 ≤ k → k < 20 → am_rg (pH (w.2 13) x 0) := fun k q a b => by
    rw [q.2.1]
    unfold am_rg
    omega
  have h2 := h.1
  unfold cR at h2
  split at h2
  all_goals first
    | exact h2.elim
    | exact Z (by omega)
    | exact N _ h2.1 (by decide) (by decide)
    | exact N _ h2 (by decide) (by decide)
section
variable {C : C_} {sil : Bool} {o a0 : Nat} {D : Prop} {K0 : Int} {hb : Bool} {s s1 : S_} {E E1 : N_} {w : W_} {fr : Nat} {Q : Option am_V → W_ → Prop} {i : Int} {k : Nat} {n : Int} {id : Nat} {a b c v : T_}
theorem sim_19 {r1 : K_} (M1 : eMK r1) (W1 : eWK r1) (h1 : cSK C sil o K0 r1) {s2 : S_} {E2 : N_} {x e : T_} (H : RD C sil o a0 D K0 true s E w) (he : eW w 0 true (ce 19 n id a b c)) (hd : w.1 41 10 = id) (hf : 20 ≤ fr) (hi : 0 ≤ i) (hi2 : i + 12 * (s_b s2 : Int) ≤ 900000 + 12 * (s_b s : Int)) (ht : s_tb s < 2000) (hB : s_b s2 ≤ 90000 ∧ s_nt s1 ≤ 900000) (hD : D → e_imp a = false ∧ n_ni E) (hr : r1 sil a E true (u_go s) = some (x, E2, s2)) (hee : e_id e = id) (hr2 : o_mark C 19 n id x e E2 s2 = some (v, E1, s1)) (K : cK C sil o a0 D K0 true s s1 E1 w v fr Q i) : dr fr Q i w := by
  have hnd : s_nd s2 + 11 * (s_tb s + 1) ≤ s_nd s + 11 * s_tb s2 := W1 _ _ _ _ _ _ _ _ hr
  have hnd0 := H.1.2.2.1.2.2.2.2.1
  have eo : o_mark C 19 n id x e E2 s2 = if v_isW x = true then some (vW, E2, s2) else if v_isF x = true then some (v0, E2, u_tl (u_nd s2 2) (v_chain (s_tl s2) (.tag 11 (.tag n.toNat (.append e x))))) else o_bad C 3 id E2 s2 := rfl
  rw [eo] at hr2
  have hs : s_b s1 = s_b s2 ∧ s_nt s2 ≤ s_nt s1 := by
    split at hr2
    · cases hr2; exact ⟨rfl, Nat.le_refl _⟩
    · split at hr2
      · cases hr2; exact ⟨rfl, Nat.le_refl _⟩
      · cases hr2; exact ⟨rfl, Nat.le_succ _⟩
  refine sim_onm (k := 19) M1 h1 (Or.inr rfl) H he hd hf hi hi2 ht ⟨hB.1, by omega⟩ hD hr fun i3 w3 hi3 l0 l1 RP cP QP hct f0 f1 f2 v3 d3 ⟨g2, g3, n0, n1, hid⟩ kn h13 => ?_
  obtain ⟨p11, p10, p12, p13⟩ := w_po_v w3
  have rg := vW_rg h13.1 (by omega) v3
  have iw := vW_isW v3
  have fw := vW_isF v3
  have dP : (w_po w3).1 41 10 = -1 := by rw [p10]; exact d3
  have K' : ∀ w', RD C sil o a0 D K0 true s1 E1 w' → w'.1 33 1 = w.1 33 1 → fQ (w.1 33 1) true w w' → vW_ w' v (w'.1 41 11) → w'.1 41 10 = -1 → dr fr Q (i3 + 1) w' := fun w5 g1 g2 g3 g4 g5 => K (i3 + 1) w5 (by omega) (by rw [hs.1]; omega) g1 g2 g3 g4 g5
  by_cases cv : v_isF x = true
  · have h12 := fw.mpr cv
    have hy : w3.1 41 11 ≠ 20004 := fun q => by
      have e0 : w_h w3 (w3.1 41 11) 0 = 0 := by
        rw [pH_w]
        unfold pH
        rw [if_pos (by omega)]
      omega
    have hw : ¬ v_isW x = true := fun q => hy (iw.mp q)
    rw [if_neg hw, if_pos cv] at hr2
    cases hr2
    generalize hyy : w3.1 41 11 = y at *
    have RV := RD_val (j := 11) (x := y) RP (Or.inr rfl)
    have ho := RD_oK RP.1
    have OV : oQ (w.1 33 1) (w_po w3) (w_f (w_po w3) 41 11 y) := oQ_val ho (Or.inr rfl)
    have n13 : (w_f (w_po w3) 41 11 y).1 13 2 = w3.1 13 2 := by rw [w_f1, w_u_at, if_neg (by decide)]; exact p13
    have n33 : (w_f (w_po w3) 41 11 y).1 33 1 = w.1 33 1 := by rw [w_f1, w_u_at, if_neg (by decide)]; exact cP
    have n10 : (w_f (w_po w3) 41 11 y).1 41 10 = -1 := by rw [w_f1, w_u_at, if_neg (by decide)]; exact dP
    have n11 : (w_f (w_po w3) 41 11 y).1 41 11 = y := by rw [w_f1, w_u_at, if_pos ⟨rfl, rfl⟩]
    have hP0 : 0 ≤ (w_po w3).1 13 2 := by rw [p13]; exact h13.1
    have vV : vW_ (w_f (w_po w3) 41 11 y) x y := vW_x OV.2.2.2 hP0 (vW_po v3)
    have hcnt := RV.2.2.2.1
    have htb := RV.1.2.2.1.2.2.2.2.2.1
    obtain ⟨t1, t2, t3, t4, t5⟩ := RV.2.2.1 rfl
    have h0 : 0 ≤ (w_f (w_po w3) 41 11 y).1 13 2 := by rw [n13]; exact h13.1
    have tr := cR_lt h0 t2
    have z90 := lk_90 (x0 := id) (x1 := n) (w := w_f (w_po w3) 41 11 y) ⟨by omega, by rw [wg_w]; unfold am_rg; omega, by rw [n13]; omega, by rw [n11]; exact rg.1⟩
    refine dr_1 (f := 6) (by omega) d3 hct f0 (lk_87R f1 f2 (by omega) g3 ⟨n0, n1⟩ g2 hyy rg.2 kn hct h12 z90) (by omega) (by omega) fun w4 hw4 => ?_
    rw [hw4, n11, if_neg hy]
    have HS : hS (w_f (w_po w3) 41 11 y) (w_mk (w_f (w_po w3) 41 11 y) 11 y 20003 n id) := hS_mk h0 (cpx_of h0 vV.1) (cpx_k h0 (by decide)) (fun q => absurd q (by decide))
    obtain ⟨k1, k2⟩ := new_mk (W := w_f (w_po w3) 41 11 y) (k := 11) (b := y) (c := 20003) (d := n) (e := id) h0 (by unfold am_rg; omega) (by unfold am_rg; omega) (CR_gN RV.1)
    have km := mk_f (w := w_f (w_po w3) 41 11 y) (a := 11) (b := y) (c := 20003) (d := n) (e := id) h0
    have hoV := oK_x OV.2.2.2 ho
    exact sim_mrk (w := w) (i := i3 + 1) (fr := fr) (Q := Q) (mt := .tag 11 (.tag n.toNat (.append e x))) (u := 30000 + (w_f (w_po w3) 41 11 y).1 13 2) (z := 0) (p := false) RV n33 (fQ_tr QP (oQ_fQ OV)) n10 HS (by rw [k1]; exact Int.le_refl _) ⟨k2, by rw [km.2.2.2.1]; omega, by omega, by rw [km.2.2.2.2.1, hee], by rw [hee]; omega, cv, by rw [km.2.1]; exact cW_x (hS_x HS hoV) vV.1, by rw [km.2.1]; exact (vW_x (hS_x HS hoV) h0 vV).2⟩ (by omega) (by omega) (fun q => by cases q) (fun t => rfl) K'
  · rw [if_neg cv] at hr2
    have h12 : w_h w3 (w3.1 41 11) 0 ≠ 12 := fun q => cv (fw.mp q)
    refine dr_1 (f := 6) (by omega) d3 hct f0 (lk_87Rw f1 f2 (by omega) g3 ⟨n0, n1⟩ g2 rfl rg.2 kn hct h12 (vW_h0 v3)) (by omega) (by omega) fun w4 hw4 => ?_
    rw [hw4]
    exact sim_wrong RP cP QP dP iw hr2 hB.2 K'
end
