/-! ===== the class runs as the evaluator: FUNC, LATE ===== -/
section
variable {C : C_} {sil : Bool} {o a0 : Nat} {D : Prop} {K0 : Int} {hb : Bool} {s s1 : S_} {E E1 : N_} {w : W_} {fr : Nat} {Q : Option am_V → W_ → Prop} {i : Int} {k : Nat} {n : Int} {id : Nat} {a b c v : T_}
theorem oQ_refl {m : Int} (w : W_) (ho : oK w) : oQ m w w := ⟨⟨rfl, rfl⟩, fun _ _ => rfl, rfl, xP_S (wS_refl w) ho⟩
theorem CR_rw {x : Nat} (H : CR C sil o a0 D K0 s w) (hr : x ≤ 2040) : CR C sil o a0 D K0 (u_rw s x) w := by
  obtain ⟨Ha, Hb, Hc, Hm⟩ := H
  refine ⟨?_, ?_, ?_, ?_⟩
  · unfold CRa at Ha ⊢
    exact Ha
  · unfold CRb at Hb ⊢
    exact Hb
  · unfold CRc at Hc ⊢
    obtain ⟨c0, c4, c5, c6, c7, c8, c9, c10⟩ := Hc
    exact ⟨c0, c4, c5, c6, c7, c8, hr, c10⟩
  · unfold CRm at Hm ⊢
    exact Hm
theorem RD_rw {x : Nat} (H : RD C sil o a0 D K0 hb s E w) (h1 : s_rw s ≤ x) (hr : x ≤ 2040) : RD C sil o a0 D K0 hb (u_rw s x) E w :=
  RD_o H (CR_rw H.1 hr) (oQ_refl w (RD_oK H.1)) rfl h1 H.2.2.2.2.2.1 ⟨Int.le_refl _, H.2.2.2.1.2⟩
theorem sim_16 (H : RD C sil o a0 D K0 hb s E w) (he : eW w 0 hb (ce 16 n id a b c)) (hd : w.1 41 10 = id) (hf : 20 ≤ fr) (hi : 0 ≤ i ∧ i ≤ 900000) (ht : s_tb s < 2000) (hB : s_b s < 90000) (hr : o_mk 12 (ce 16 n id a b c) E (u_go s) = some (v, E1, s1)) (K : cK C sil o a0 D K0 hb s s1 E1 w v fr Q i) : dr fr Q i w := by
  obtain ⟨⟨h1, h2, h3, h4, h5, h6⟩, -, -, -, -, -, hu⟩ := eW_ce he
  obtain ⟨⟨u0, u1, u2⟩, -⟩ := hu (by decide)
  obtain ⟨U, eU⟩ : ∃ U : Nat, w_g w 37 (id * 9 + 4) = (U : Int) := ⟨(w_g w 37 (id * 9 + 4)).toNat, by omega⟩
  rw [eU] at u1 u2
  have u2 : ∀ m, m < 10 → (U >>> m % 2 = 1 ↔ e_use (ce 16 n id a b c) m = true) := u2
  have ho := RD_oK H.1
  have hcn := H.1.2.2.1.2.2.2
  have hrow := H.2.2.2.2.1
  have hcsz := cn_sz u2
  have hc10 := cn_le U 10
  have hk : min 10 (c_sz (e_part (ce 16 n id a b c))) ≤ 10 := Nat.min_le_left _ _
  unfold o_mk at hr
  by_cases cr : s_rw (u_go s) < 2040
  · rw [if_pos cr] at hr
    have cr : s_rw s < 2040 := cr
    generalize min 10 (c_sz (e_part (ce 16 n id a b c))) = kk at hcsz hk hr
    cases hr
    have R1 := RD_bg H ht (by omega)
    have O1 : oQ (w.1 33 1) w (w_bg w) := oQ_bg ho
    have n13 : (w_bg w).1 13 2 = w.1 13 2 := by rw [w_bg1, if_neg (by decide), if_neg (by decide)]
    have n12 : (w_bg w).1 41 12 = w.1 41 12 := by rw [w_bg1, if_neg (by decide), if_neg (by decide)]
    have hob := oK_x O1.2.2.2 ho
    have z81 := lk_81 (w := w_bg w) (id := (id : Int)) (U := U) (E := E) (by omega) eU (by omega) (by omega) R1.2.1 (by omega) hob (CR_gN R1.1)
    refine dr_due (f := 6) (by omega) ⟨by unfold am_rg; omega, by omega⟩ (lk_82fr (P := fun x W => hS (w_bg w) W ∧ W.1 13 2 ≤ (w_bg w).1 13 2 + cn U 10 ∧ cR (W.1 13 2) (W.2 13) (fW W) (n_clos E (u_U U) 10) x) hd (by omega) h2 h3 ⟨h4, h5⟩ (fun x W q => ?_) z81) (by omega) fun w' hw => ?_
    · obtain ⟨q1, q2, q3⟩ := q
      have q4 := q1.2.2.1
      have h0 : 0 ≤ W.1 13 2 := by omega
      have q5 := cR_lt h0 q3
      exact ⟨by omega, by unfold am_rg; omega⟩
    · obtain ⟨x, W, ⟨q1, q2, q3⟩, rfl⟩ := hw
      have q4 := q1.2.2.1
      have h0 : 0 ≤ W.1 13 2 := by omega
      have hxW := hS_x q1 hob
      have hoW := oK_x hxW hob
      have HM : hS W (w_mk W 12 x 20003 id 0) := hS_mk h0 (cpx_of h0 q3) (cpx_k h0 (by decide)) (fun _ => by decide)
      obtain ⟨k1, k2⟩ := new_mk (W := W) (k := 12) (b := x) (c := 20003) (d := (id : Int)) (e := 0) h0 (by unfold am_rg; omega) (by unfold am_rg; omega) (gN_h q1 (CR_gN R1.1))
      have km := mk_f (w := W) (a := 12) (b := x) (c := 20003) (d := (id : Int)) (e := 0) h0
      have HS := hS_tr q1 HM
      have xM := hS_x HM hoW
      generalize w_mk W 12 x 20003 id 0 = W2 at *
      have n0 : s_nd s ≤ 11 * s_tb s + 300 := hcn.2.1
      refine sim_fin (w0 := w) (RD_h (s := u_rw (u_go s) (s_rw s + 1)) (k := 1 + kk) (RD_rw R1 (Nat.le_succ _) cr) HS (by omega) (by show s_nd s + (1 + kk) ≤ 11 * (s_tb s + 1) + 300; omega)) ?_ (fQ_tr (oQ_fQ O1) (oQ_fQ (oQ_h HS hob))) ?_ ?_ fun w5 g1 g2 g3 g4 g5 => K (i + 1) w5 (by omega) ?_ g1 g2 g3 g4 g5
      · rw [HS.1 33 1 (by decide)]; exact w_bg_n w
      · rw [HS.1 41 10 (by decide)]; exact w_bg_d w
      · have eX := eW_x xM (eW_x hxW (eW_x O1.2.2.2 he))
        refine ⟨⟨k2, km.2.2.2.1, ⟨⟨16, n, id, a, b, c, hb, rfl, by omega, eX.1⟩, eX.2⟩, ?_, ⟨E, rfl⟩, rfl⟩, ?_⟩
        · rw [km.2.1, ← n_clos_U u2]; exact cW_x xM q3
        · unfold hW
          rw [if_neg (by omega), if_neg (by omega), if_neg (by omega), km.2.2.2.2.2.1, km.2.2.2.2.2.2.1, km.2.2.2.2.2.2.2]
          exact ⟨rfl, rfl, rfl, fun _ => rfl⟩
      · show i + 1 + 12 * (s_b s : Int) ≤ i + 12 * ((s_b s + 1 : Nat) : Int)
        omega
  · rw [if_neg cr] at hr
    cases hr
theorem sim_22 (H : RD C sil o a0 D K0 hb s E w) (he : eW w 0 hb (ce 22 n id a b c)) (hd : w.1 41 10 = id) (hf : 20 ≤ fr) (hi : 0 ≤ i ∧ i ≤ 900000) (ht : s_tb s < 2000) (hB : s_b s < 90000) (hr : o_mk 7 (ce 22 n id a b c) E (u_go s) = some (v, E1, s1)) (K : cK C sil o a0 D K0 hb s s1 E1 w v fr Q i) : dr fr Q i w := by
  obtain ⟨⟨h1, h2, h3, h4, h5, h6⟩, -, -, -, -, -, hu⟩ := eW_ce he
  obtain ⟨⟨u0, u1, u2⟩, -⟩ := hu (by decide)
  obtain ⟨U, eU⟩ : ∃ U : Nat, w_g w 37 (id * 9 + 4) = (U : Int) := ⟨(w_g w 37 (id * 9 + 4)).toNat, by omega⟩
  rw [eU] at u1 u2
  have u2 : ∀ m, m < 10 → (U >>> m % 2 = 1 ↔ e_use (ce 22 n id a b c) m = true) := u2
  have ho := RD_oK H.1
  have hcn := H.1.2.2.1.2.2.2
  have hrow := H.2.2.2.2.1
  have hcsz := cn_sz u2
  have hc10 := cn_le U 10
  have hk : min 10 (c_sz (e_part (ce 22 n id a b c))) ≤ 10 := Nat.min_le_left _ _
  unfold o_mk at hr
  by_cases cr : s_rw (u_go s) < 2040
  · rw [if_pos cr] at hr
    have cr : s_rw s < 2040 := cr
    generalize min 10 (c_sz (e_part (ce 22 n id a b c))) = kk at hcsz hk hr
    cases hr
    have R1 := RD_bg H ht (by omega)
    have O1 : oQ (w.1 33 1) w (w_bg w) := oQ_bg ho
    have n13 : (w_bg w).1 13 2 = w.1 13 2 := by rw [w_bg1, if_neg (by decide), if_neg (by decide)]
    have n12 : (w_bg w).1 41 12 = w.1 41 12 := by rw [w_bg1, if_neg (by decide), if_neg (by decide)]
    have hob := oK_x O1.2.2.2 ho
    have z81 := lk_81 (w := w_bg w) (id := (id : Int)) (U := U) (E := E) (by omega) eU (by omega) (by omega) R1.2.1 (by omega) hob (CR_gN R1.1)
    refine dr_due (f := 6) (by omega) ⟨by unfold am_rg; omega, by omega⟩ (lk_82lr (P := fun x W => hS (w_bg w) W ∧ W.1 13 2 ≤ (w_bg w).1 13 2 + cn U 10 ∧ cR (W.1 13 2) (W.2 13) (fW W) (n_clos E (u_U U) 10) x) hd (by omega) h2 h3 ⟨h4, h5⟩ (fun x W q => ?_) z81) (by omega) fun w' hw => ?_
    · obtain ⟨q1, q2, q3⟩ := q
      have q4 := q1.2.2.1
      have h0 : 0 ≤ W.1 13 2 := by omega
      have q5 := cR_lt h0 q3
      exact ⟨by omega, by unfold am_rg; omega⟩
    · obtain ⟨x, W, ⟨q1, q2, q3⟩, rfl⟩ := hw
      have q4 := q1.2.2.1
      have h0 : 0 ≤ W.1 13 2 := by omega
      have hxW := hS_x q1 hob
      have hoW := oK_x hxW hob
      have HM : hS W (w_mk W 7 x 20003 id 0) := hS_mk h0 (cpx_of h0 q3) (cpx_k h0 (by decide)) (fun _ => by decide)
      obtain ⟨k1, k2⟩ := new_mk (W := W) (k := 7) (b := x) (c := 20003) (d := (id : Int)) (e := 0) h0 (by unfold am_rg; omega) (by unfold am_rg; omega) (gN_h q1 (CR_gN R1.1))
      have km := mk_f (w := W) (a := 7) (b := x) (c := 20003) (d := (id : Int)) (e := 0) h0
      have HS := hS_tr q1 HM
      have xM := hS_x HM hoW
      generalize w_mk W 7 x 20003 id 0 = W2 at *
      have n0 : s_nd s ≤ 11 * s_tb s + 300 := hcn.2.1
      refine sim_fin (w0 := w) (RD_h (s := u_rw (u_go s) (s_rw s + 1)) (k := 1 + kk) (RD_rw R1 (Nat.le_succ _) cr) HS (by omega) (by show s_nd s + (1 + kk) ≤ 11 * (s_tb s + 1) + 300; omega)) ?_ (fQ_tr (oQ_fQ O1) (oQ_fQ (oQ_h HS hob))) ?_ ?_ fun w5 g1 g2 g3 g4 g5 => K (i + 1) w5 (by omega) ?_ g1 g2 g3 g4 g5
      · rw [HS.1 33 1 (by decide)]; exact w_bg_n w
      · rw [HS.1 41 10 (by decide)]; exact w_bg_d w
      · have eX := eW_x xM (eW_x hxW (eW_x O1.2.2.2 he))
        refine ⟨⟨k2, km.2.2.2.1, ⟨⟨22, n, id, a, b, c, hb, rfl, by omega, eX.1⟩, eX.2⟩, ?_, ⟨E, rfl⟩⟩, ?_⟩
        · rw [km.2.1, ← n_clos_U u2]; exact cW_x xM q3
        · unfold hW
          rw [if_neg (by omega), if_neg (by omega), if_neg (by omega), km.2.2.2.2.2.1, km.2.2.2.2.2.2.1, km.2.2.2.2.2.2.2]
          exact ⟨rfl, rfl, rfl, fun _ => rfl⟩
      · show i + 1 + 12 * (s_b s : Int) ≤ i + 12 * ((s_b s + 1 : Nat) : Int)
        omega
  · rw [if_neg cr] at hr
    cases hr
end
