/-! ===== the class runs as the evaluator: LET, STEP, MEASURE, PICK, HEAD ===== -/
section
variable {C : C_} {sil : Bool} {o a0 : Nat} {D : Prop} {K0 : Int} {hb : Bool} {s s1 : S_} {E E1 : N_} {w : W_} {fr : Nat} {Q : Option am_V → W_ → Prop} {i : Int} {k : Nat} {n : Int} {id : Nat} {a b c v : T_}
theorem RD_h {w' : W_} {k : Nat} (H : RD C sil o a0 D K0 hb s E w) (h : hS w w') (hk : w'.1 13 2 ≤ w.1 13 2 + k) (hn : s_nd s + k ≤ 11 * s_tb s + 300) : RD C sil o a0 D K0 hb (u_nd s k) E w' := by
  have hc : w'.1 33 1 = w.1 33 1 := h.1 33 1 (by decide)
  exact RD_o H (CR_h H.1 h hk hn) (oQ_h h (RD_oK H.1)) rfl (Nat.le_refl _) H.2.2.2.2.2.1 (by rw [hc]; exact ⟨Int.le_refl _, H.2.2.2.1.2⟩)
/-- the names of a row, one more -/
theorem RD_nm {x : T_} {y : Int} {m : Nat} (H : RD C sil o a0 D K0 hb s E w) (hm : m < 10) (hv : vW_ w x y) : RD C sil o a0 D K0 hb s (n_set E m x) (w_a w 42 (w.1 41 12 * 10 + m).toNat y) ∧ fQ (w.1 33 1) hb w (w_a w 42 (w.1 41 12 * 10 + m).toNat y) := by
  obtain ⟨h1, h2, h3, h4, h5, h6, h7, h8⟩ := H
  have hS : wS w (w_a w 42 (w.1 41 12 * 10 + m).toNat y) := wS_a (Or.inr rfl)
  have hx := xP_S hS (RD_oK h1)
  have h0 := h1.2.2.1.2.2.2.1.1
  have e34 : (w_a w 42 (w.1 41 12 * 10 + m).toNat y).2 34 = w.2 34 := w_a_2ne w _ _ (by decide)
  have e42 : ∀ j, (w_a w 42 (w.1 41 12 * 10 + m).toNat y).2 42 j = if j = (w.1 41 12 * 10 + m).toNat then y else w.2 42 j := fun j => by
    show w_u w.2 42 _ y 42 j = _
    rw [w_u_at]
    by_cases c : j = (w.1 41 12 * 10 + m).toNat
    · rw [if_pos ⟨rfl, c⟩, if_pos c]
    · rw [if_neg (fun q => c q.2), if_neg c]
  refine ⟨⟨CR_S h1 hS, fun m' hm' => ?_, fun q => ?_, h4, h5, h6, ?_, ?_⟩, ⟨rfl, rfl⟩, fun k _ => Or.inr (by rw [e34]), fun k hk => ?_, hx⟩
  · have h9 := h2 m' hm'
    show match n_set E m x m' with
      | none => (w_a w 42 (w.1 41 12 * 10 + m).toNat y).2 42 ((w.1 41 12).toNat * 10 + m') = 20005
      | some v => vW_ (w_a w 42 (w.1 41 12 * 10 + m).toNat y) v ((w_a w 42 (w.1 41 12 * 10 + m).toNat y).2 42 ((w.1 41 12).toNat * 10 + m'))
    rw [e42]
    unfold n_set
    by_cases c : m' = m
    · rw [if_pos c, if_pos (by omega)]
      exact vW_x hx h0 hv
    · rw [if_neg c, if_neg (by omega)]
      cases q : E m' with
      | none => rw [q] at h9; exact h9
      | some v => rw [q] at h9; exact vW_x hx h0 h9
  · obtain ⟨b1, b2, b3⟩ := h3 q
    show _ ∧ cR _ _ _ _ (wg ((w_a w 42 (w.1 41 12 * 10 + m).toNat y).2 34) _) ∧ (0 ≤ wg ((w_a w 42 (w.1 41 12 * 10 + m).toNat y).2 34) _ ∧ _) ∧ (0 ≤ wg ((w_a w 42 (w.1 41 12 * 10 + m).toNat y).2 34) _ ∧ _) ∧ _
    rw [e34]
    exact ⟨b1, cW_x hx b2, b3⟩
  · rw [w_a_2ne w _ _ (by decide)]; exact h7
  · rw [w_a_2ne w _ _ (by decide), w_a_2ne w _ _ (by decide), w_a_2ne w _ _ (by decide)]; exact h8
  · rw [e42, if_neg (by omega)]
/-- what has one part, up to its last step -/
theorem sim_one {r1 : K_} (M1 : eMK r1) (h1 : cSK C sil o K0 r1) {s2 : S_} {E2 : N_} {x : T_} (hk : k = 15 ∨ k = 20 ∨ k = 21 ∨ k = 28 ∨ k = 31) (H : RD C sil o a0 D K0 hb s E w) (he : eW w 0 hb (ce k n id a b c)) (hd : w.1 41 10 = id) (hf : 20 ≤ fr) (hi : 0 ≤ i) (hi2 : i + 12 * (s_b s2 : Int) ≤ 900000 + 12 * (s_b s : Int)) (ht : s_tb s < 2000) (hB : s_b s2 ≤ 90000 ∧ s_nt s2 ≤ 900000) (hD : D → e_imp a = false ∧ n_ni E) (hr : r1 sil a E hb (u_go s) = some (x, E2, s2))
    (K : ∀ i' w', 0 ≤ i' ∧ i' ≤ 900000 → i + 2 ≤ i' → i' + 10 + 12 * (s_b s : Int) ≤ i + 12 * (s_b s2 : Int) → RD C sil o a0 D K0 hb s2 E2 (w_po w') → (w_po w').1 33 1 = w.1 33 1 → fQ (w.1 33 1) hb w (w_po w') → (1 ≤ w'.1 33 1 ∧ w'.1 33 1 < 24000) → f_t w' 0 = 1 → f_t w' 1 = id → f_t w' 2 = 1 → vW_ w' x (w'.1 41 11) → w'.1 41 10 = -1 → (w_g w' 3 id = k ∧ w_g w' 5 id = n ∧ w_g w' 37 ((id : Int) * 9 + 0) - 1 = e_id a ∧ 0 ≤ n ∧ n < 100 ∧ id < 180) → w_kn w' → (0 ≤ w'.1 13 2 ∧ w'.1 13 2 ≤ 262000) → dr fr Q i' w') : dr fr Q i w := by
  obtain ⟨⟨g1, g2, g3, g4, g5, g6, g7, -⟩, -⟩ := eW_ce he
  have hcnt := H.2.2.2.1
  have htx : hb = true → w.1 41 13 < w.1 33 1 := fun q => (H.2.2.1 q).1.2
  have mb1 : s_b s + 1 ≤ s_b s2 := (M1 _ _ _ _ _ _ _ _ hr (Nat.le_succ_of_le H.2.2.2.2.2.1)).1
  refine sim_part (k := k) (kf := 1) M1 h1 H he (by rcases hk with rfl | rfl | rfl | rfl | rfl <;> decide) (by omega) hd hf hi hi2 ht hB hD hr (lk_82p hd (by omega) g2 g3 ⟨g4, g5⟩ (by unfold am_rg; omega) (by omega) (lk_84b (w := w_bg w) (by omega) (by rw [w_bg_n]; have := H.1.2.2.1.2.2.2.2.2.1; omega))) (fun w1 d1 c1 f0 f1 f2 KK => dr_1 (f := 6) (by omega) d1 c1 f0 (lk_87a f1 f2 (by omega) c1) (by omega) (by omega) KK) fun i3 w3 l0 l1 R3 c3 Q3 f0 f1 f2 v3 d3 => ?_
  have hcn := R3.1.2.2.1.2.2.2
  have hct : 1 ≤ w3.1 33 1 ∧ w3.1 33 1 < 24000 := by have := R3.2.2.2.1; omega
  have htx3 : hb = true → w3.1 41 13 < w.1 33 1 := fun q => by rw [Q3.1.2]; exact htx q
  obtain ⟨RP, cP⟩ := RD_po R3 c3 hcnt.1 htx3
  have e3 : eW w3 0 hb (ce k n id a b c) := eW_x Q3.2.2.2 he
  obtain ⟨⟨g1, g2, g3, g4, g5, -⟩, -, -, ga, -⟩ := eW_ce e3
  exact K i3 w3 (by omega) l0 l1 RP cP (fQ_tr Q3 (oQ_fQ (oQ_po (RD_oK R3.1)))) hct f0 f1 f2 v3 d3 ⟨g2, g3, (ga (by rcases hk with rfl | rfl | rfl | rfl | rfl <;> decide)).1, g4, g5, g1⟩ (CR_o R3.1).2 (by omega)
theorem w_po_v (w : W_) : (w_po w).1 41 11 = w.1 41 11 ∧ (w_po w).1 41 10 = w.1 41 10 ∧ (w_po w).1 41 12 = w.1 41 12 ∧ (w_po w).1 13 2 = w.1 13 2 := by
  refine ⟨?_, ?_, ?_, ?_⟩ <;> rw [w_po1, if_neg (by decide)]
theorem sim_15 {r1 : K_} (M1 : eMK r1) (h1 : cSK C sil o K0 r1) {s2 : S_} {E2 : N_} {x : T_} (H : RD C sil o a0 D K0 hb s E w) (he : eW w 0 hb (ce 15 n id a b c)) (hd : w.1 41 10 = id) (hf : 20 ≤ fr) (hi : 0 ≤ i) (hi2 : i + 12 * (s_b s2 : Int) ≤ 900000 + 12 * (s_b s : Int)) (ht : s_tb s < 2000) (hB : s_b s2 ≤ 90000 ∧ s_nt s2 ≤ 900000) (hD : D → e_imp a = false ∧ n_ni E) (hr : r1 sil a E hb (u_go s) = some (x, E2, s2)) (K : cK C sil o a0 D K0 hb s s2 (n_set E2 (n % 10).toNat x) w v0 fr Q i) : dr fr Q i w := by
  refine sim_one (k := 15) M1 h1 (by omega) H he hd hf hi hi2 ht hB hD hr fun i3 w3 hi3 l0 l1 RP cP QP hct f0 f1 f2 v3 d3 ⟨g2, g3, g37, n0, n1, hid⟩ kn h13 => ?_
  obtain ⟨p11, p10, p12, p13⟩ := w_po_v w3
  have hsc := RP.2.2.2.2.1
  have hrw := RP.1.2.2.1.2.2.2.2.2.2.1
  rw [p12] at hsc
  refine dr_1 (f := 6) (by omega) d3 hct f0 (lk_87l f1 f2 (by omega) g3 ⟨n0, n1⟩ g2 (by omega) hct) (by omega) (by omega) fun w4 hw4 => ?_
  have ho := RD_oK RP.1
  have em : ((n % 10).toNat : Int) = n % 10 := by omega
  have z := RD_nm (x := x) (y := w3.1 41 11) (m := (n % 10).toNat) RP (by omega) ?_
  rotate_left
  · exact vR_mono (by omega) (by rw [p13]; exact Int.le_refl _) (fun _ _ => rfl) (fun _ q => q) v3
  rw [p12, em] at z
  obtain ⟨R5, Q5⟩ := z
  rw [cP] at Q5
  rw [hw4]
  exact sim_fin (w0 := w) R5 cP (fQ_tr QP Q5) (by show (w_po w3).1 41 10 = -1; rw [p10]; exact d3) vW_0 fun w5 g1 g2 g3 g4 g5 => K (i3 + 1) w5 (by omega) (by omega) g1 g2 g3 g4 g5
end
