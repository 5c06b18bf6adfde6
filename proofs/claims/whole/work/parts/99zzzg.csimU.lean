/-! ===== the class runs as the evaluator: IMPORT, all ===== -/
theorem w_nts_n {a j : Nat} (ha : a ≠ 17 ∧ a ≠ 24 ∧ a ≠ 55 ∧ a ≠ 64) : ∀ (l : List Int) {w : W_}, w_kn w → (w_nts w l).1 a j = w.1 a j
  | [], _, _ => rfl
  | x :: l, w, k => (w_nts_n ha l (w := w_nt w x) (w_kn_nt k)).trans (w_nt_1 k ha)
section
variable {C : C_} {sil : Bool} {o a0 : Nat} {D : Prop} {K0 : Int} {hb : Bool} {s s1 : S_} {E E1 : N_} {w : W_} {fr : Nat} {Q : Option am_V → W_ → Prop} {i : Int} {k : Nat} {n : Int} {id : Nat} {a b c v : T_}
theorem RD_read {f : Nat} {a46 : Nat → Int} (H : RD C sil o a0 D K0 hb s E w) (nD : ¬ D) (f3 : f < 3) (h46 : a46 f ≠ 0) (hs0 : s_fs s f = 0) (hn : s_nt s + (C.2.2.2 f).length ≤ 1000000) : ww_Ct 135 10 [.inr (.inr (.inl 36)), .inl (f : Int)] w fun r w' => r = none ∧ (RD C sil o a0 D K0 hb (f_list C (C.2.2.2 f) s) E w' ∧ (∀ n, oQ n w w') ∧ (∀ a j, a ≠ 17 ∧ a ≠ 24 ∧ a ≠ 55 ∧ a ≠ 64 ∧ a ≠ 36 → w'.1 a j = w.1 a j) ∧ (w'.2 34 = w.2 34 ∧ w'.2 42 = w.2 42 ∧ w'.2 46 = w.2 46) ∧ (eR (w.2 3) (w.2 5) (w'.2 37) a46 1 false (C.2.2.1 f) ∧ tI (w.2 3) (w.2 5) (w.2 7) (C.2.2.1 f)) ∧ w_g w' 37 ((180 + (f : Int)) * 9) - 1 = it_id (C.2.2.1 f)) := by
  obtain ⟨-, k1, k3⟩ := H.2.2.2.2.2.2.2.1
  obtain ⟨⟨z0, z1⟩, et, ef⟩ := k3 f f3
  have kn := (CR_o H.1).2
  have ho := RD_oK H.1
  have h46w := (H.1.2.2.1.2.1 f f3).1
  rw [hs0] at h46w
  have FI0 : FI w f (w.2 7 f).toNat := ⟨kn, ⟨f3, by omega, by omega⟩, k1⟩
  refine ww_Ct.mono (lk_135 FI0 h46) fun r w' h => ⟨h.1, ?_⟩
  obtain ⟨-, h1, h2, h3, h4⟩ := h
  rw [et, ef]
  have RN := RD_nts (C.2.2.2 f) H hn
  rw [ef] at RN
  have ON : ∀ n, oQ n w (w_nts w (j_go 200 (tJ (w.2 3) (w.2 5) (w.2 7) f) (some (true, false)) none 0).2.2) := fun n => oQ_nts _ ho
  have e46 : ∀ l, (w_nts w l).2 46 = w.2 46 := fun l => w_nts_2 (by decide) l kn
  have e37 : ∀ l, (w_nts w l).2 37 = w.2 37 := fun l => w_nts_2 (by decide) l kn
  have e34 : ∀ l, (w_nts w l).2 34 = w.2 34 := fun l => w_nts_2 (by decide) l kn
  have e42 : ∀ l, (w_nts w l).2 42 = w.2 42 := fun l => w_nts_2 (by decide) l kn
  have hF : ∀ id : Nat, id < 180 → (w_nts w (j_go 200 (tJ (w.2 3) (w.2 5) (w.2 7) f) (some (true, false)) none 0).2.2).2 46 (id / 60) ≠ 0 → ∀ s : Nat, s < 9 → w'.2 37 (id * 9 + s) = (w_nts w (j_go 200 (tJ (w.2 3) (w.2 5) (w.2 7) f) (some (true, false)) none 0).2.2).2 37 (id * 9 + s) := fun id h1 h2 s hs => by
    rw [e37]
    rw [e46] at h2
    refine h4 _ (fun q => ?_) fun q => by omega
    have : id / 60 = f := by omega
    rw [this, h46w] at h2
    exact h2 rfl
  refine ⟨RD_tE RN h1 hF, fun n => oQ_tr (ON n) (oQ_tE h1 (oK_x (ON 0).2.2.2 ho) hF), fun a j ha => (h1.1 a j ha.2.2.2.2).trans (w_nts_n ⟨ha.1, ha.2.1, ha.2.2.1, ha.2.2.2.1⟩ _ kn), ⟨(h1.2 34 (by decide) (by decide)).trans (e34 _), (h1.2 42 (by decide) (by decide)).trans (e42 _), (h1.2 46 (by decide) (by decide)).trans (e46 _)⟩, ⟨h2, ⟨f, ⟨⟨f3, by omega⟩, H.2.2.2.2.2.2.2.2.resolve_left nD _ (by omega)⟩, e_in_refl _⟩⟩, ?_⟩
  rw [w_g_0 w' 37 (k := (180 + f) * 9) (by omega), h3]
  show it_id (tx _ _ _ f) + 1 - 1 = it_id (tx _ _ _ f)
  omega
/-- a file's text is run -/
theorem sim_file {m : Nat} {w0 W1 : W_} {f dd : Nat} (h4 : cSK C sil o K0 (ev C m)) (R1 : RD C sil o a0 D K0 hb s E W1) (nD : ¬ D) (hf : 20 ≤ fr) (f3 : f < 3) (hs0 : s_fs s f = 0) (hid : id < 180) (hc : W1.1 33 1 = w0.1 33 1 + 1) (hc0 : 0 ≤ w0.1 33 1) (hcb : W1.1 33 1 + 1 ≤ 19990 + 2 * s_tb s) (hq : fQ (w0.1 33 1) hb w0 W1) (htx : hb = true → w0.1 41 13 < w0.1 33 1) (f0 : f_t W1 0 = 4) (f1 : f_t W1 1 = (id : Int)) (f2 : f_t W1 2 = 0) (hdd : W1.1 41 14 = (dd : Int)) (g3 : w_g W1 5 id = n) (n0 : 0 ≤ n ∧ n < 100) (ef : n / 10 % 3 = (f : Int)) (hd : W1.1 41 10 = -1) (i0 : 0 ≤ i) {s3 : S_} {E3 : N_} {q : T_} {fl : Bool} (hr : t_run (2 * m + 1000) (ev C m) C sil (C.2.2.1 f) .nil false n_none (u_tl (u_fs (u_rw (f_list C (C.2.2.2 f) (u_dp s 0)) (s_rw s + 1)) (fun g => if g = f then 1 else s_fs s g) (s_fe s)) .nil) = some (q, fl, E3, s3)) (hrw : s_rw s < 2040) (ib : i + 3 + 12 * (s_b s3 : Int) ≤ 900000 + 12 * (s_b s : Int)) (hnd : s_nd s + 11 ≤ 11 * s_tb s + 300) (hB : s_b s3 ≤ 90000 ∧ s_nt s3 ≤ 900000)
    (K : ∀ i' w', i ≤ i' → i' + 12 * (s_b s : Int) ≤ i + 2 + 12 * (s_b s3 : Int) → RD C sil o a0 D K0 hb (u_tl (u_nd (u_fs s3 (fun g => if g = f then 2 else s_fs s3 g) (fun g => if g = f then E3 else s_fe s3 g)) 1) (s_tl s)) E w' → w'.1 33 1 = w0.1 33 1 + 1 → fQ (w0.1 33 1) hb w0 w' → f_t w' 0 = 4 → f_t w' 1 = (id : Int) → f_t w' 2 = 1 → f_t w' 10 = (dd : Int) → w'.1 41 10 = -1 → dr fr Q i' w') : dr fr Q i W1 := by
  have ho := RD_oK R1.1
  have hct := R1.2.2.2.1
  have hrow := R1.2.2.2.2.1
  have hl := R1.2.2.2.2.2.1
  have hcn := R1.1.2.2.1.2.2.2
  have h46 : W1.2 46 f = 0 := by rw [(R1.1.2.2.1.2.1 f f3).1, hs0]; rfl
  have htw1 : hb = true → W1.1 41 13 < W1.1 33 1 - 1 := fun z => by have := htx z; rw [hq.1.2]; omega
  -- the frame of IMPORT
  have RA0 := RD_fs (f := 2) (x := 1) R1 (by omega) (by decide) htw1
  have RA1 := RD_fs (f := 10) (x := W1.1 41 14) RA0 (by show 1 ≤ W1.1 33 1; omega) (by decide) htw1
  have RA := RD_14 (d := 0) RA1 nD (by decide)
  have OA : oQ (w0.1 33 1) W1 (w_f (w_fs (w_fs W1 2 1) 10 (W1.1 41 14)) 41 14 ((0 : Nat) : Int)) := by
    have z1 : oQ (w0.1 33 1) W1 (w_fs W1 2 1) := oQ_fs ho (by omega) (by omega) (by decide)
    have k1 := oK_x z1.2.2.2 ho
    have z2 : oQ (w0.1 33 1) (w_fs W1 2 1) (w_fs (w_fs W1 2 1) 10 (W1.1 41 14)) := oQ_fs k1 (by show w0.1 33 1 ≤ W1.1 33 1 - 1; omega) (by show 0 ≤ W1.1 33 1 - 1; omega) (by decide)
    exact oQ_tr z1 (oQ_tr z2 (oQ_14 (oK_x z2.2.2.2 k1)))
  have FA : ∀ g : Int, 0 ≤ g → f_t (w_f (w_fs (w_fs W1 2 1) 10 (W1.1 41 14)) 41 14 ((0 : Nat) : Int)) g = if g = 10 then W1.1 41 14 else if g = 2 then 1 else f_t W1 g := fun g g0 => by
    rw [f_t_f (by decide), f_t_fs0 (by show 1 ≤ W1.1 33 1; omega) (by decide) g0, f_t_fs0 (by omega) (by decide) g0]
  have cA : (w_f (w_fs (w_fs W1 2 1) 10 (W1.1 41 14)) 41 14 ((0 : Nat) : Int)).1 33 1 = W1.1 33 1 := rfl
  have tA : (w_f (w_fs (w_fs W1 2 1) 10 (W1.1 41 14)) 41 14 ((0 : Nat) : Int)).1 41 13 = W1.1 41 13 := rfl
  have rA : (w_f (w_fs (w_fs W1 2 1) 10 (W1.1 41 14)) 41 14 ((0 : Nat) : Int)).1 41 12 = W1.1 41 12 := rfl
  have dA : (w_f (w_fs (w_fs W1 2 1) 10 (W1.1 41 14)) 41 14 ((0 : Nat) : Int)).1 41 10 = -1 := hd
  have ez : (w_f (w_fs (w_fs W1 2 1) 10 (W1.1 41 14)) 41 14 0) = (w_f (w_fs (w_fs W1 2 1) 10 (W1.1 41 14)) 41 14 ((0 : Nat) : Int)) := rfl
  have mr := t_run_M (ev_M C m) _ _ (Nat.le_refl _) _ _ _ _ _ _ _ _ hr (by
    rw [fl_eq]
    exact hl)
  have wr := t_run_W (ev_W C m) _ _ (Nat.le_refl _) _ _ _ _ _ _ _ _ hr
  have hsB := fl_eq (C := C) (C.2.2.2 f) (u_dp s 0)
  rw [hsB] at hr mr wr
  have mb : s_b s ≤ s_b s3 := mr.1
  have mn : s_nt s + (C.2.2.2 f).length ≤ s_nt s3 := mr.2.1
  have mt : s_tb s ≤ s_tb s3 := mr.2.2.2.2.2.2.2.2.1
  have wr : s_nd s3 + 11 * s_tb s ≤ s_nd s + 11 * s_tb s3 + 0 := wr
  have hRD := RD_read (f := f) (a46 := fun g => if g = f then 1 else W1.2 46 g) RA nD f3 (by
    show (if f = f then (1 : Int) else W1.2 46 f) ≠ 0
    rw [if_pos rfl]
    decide) hs0 (by show s_nt s + _ ≤ 1000000; omega)
  have eA3 : (w_f (w_fs (w_fs W1 2 1) 10 (W1.1 41 14)) 41 14 ((0 : Nat) : Int)).2 46 = W1.2 46 := by
    show (w_fs (w_fs W1 2 1) 10 (W1.1 41 14)).2 46 = _
    rw [w_fs2 _ _ _ (by decide), w_fs2 _ _ _ (by decide)]
  rw [hsB] at hRD
  refine dr_4 (f := 11) (by omega) hd (by omega) f0 (lk_93a (id := (id : Int)) (n := n) (f := (f : Int)) f1 f2 ⟨by omega, by omega⟩ g3 n0 ef ⟨by omega, by omega⟩ (by rw [w_g_0 W1 46 rfl]; exact h46) (by omega) (by omega) hRD fun w' hw => ⟨(hw.2.2.1 33 1 (by decide)).trans cA, (hw.2.2.1 41 12 (by decide)).trans rA⟩) (by omega) (by omega) fun w1 hw1 => ?_
  obtain ⟨wB, hwB, hw1⟩ := hw1
  generalize w_f (w_fs (w_fs W1 2 1) 10 (W1.1 41 14)) 41 14 ((0 : Nat) : Int) = wA at *
  obtain ⟨RB, OB, B1, ⟨B34, B42, B46⟩, ⟨BR, BI⟩, Bi⟩ := hwB
  have hoA := oK_x OA.2.2.2 ho
  have hoB := oK_x (OB 0).2.2.2 hoA
  obtain ⟨RC, SC, ⟨C12, C33, C13, C10, C34⟩, C42⟩ := RD_scp RB hrw
  have hoC := oK_x (xP_S SC hoB) hoB
  have wa46 : ∀ k, (w_a (w_scp wB 20003) 46 f 1).2 46 k = if k = f then ((1 : Nat) : Int) else (w_scp wB 20003).2 46 k := fun k => by
    rw [w_a2, w_u_at]
    simp only [true_and]
    rfl
  have C46 : (w_scp wB 20003).2 46 = W1.2 46 := (w_scp_2 wB _ (by decide)).trans (B46.trans eA3)
  obtain ⟨RF, OF⟩ := RD_fs46 (f := f) (x := 1) (fe := s_fe s) (w' := w_a (w_scp wB 20003) 46 f 1) RC (Or.inl rfl) rfl (fun b h1 h2 => w_a_2ne _ _ _ h2) wa46 fun X g hg hq => by
    by_cases c : g = f
    · rw [if_pos c] at hq; cases hq
    · rw [if_neg c] at hq
      have hN := RC.1.2.2.1.2.2.1 g hg hq
      have h0 := RC.1.2.2.1.2.2.2.1.1
      intro m' hm'
      have h1 := hN m' hm'
      have e44 : (w_a (w_scp wB 20003) 46 f 1).2 44 = (w_scp wB 20003).2 44 := w_a_2ne _ _ _ (by decide)
      rw [e44]
      show match s_fe s g m' with
        | none => _
        | some v => vR ((w_a (w_scp wB 20003) 46 f 1).1 13 2) ((w_a (w_scp wB 20003) 46 f 1).2 13) (fW0 (w_a (w_scp wB 20003) 46 f 1)) v ((w_scp wB 20003).2 44 (g * 10 + m'))
      have h1 : match s_fe s g m' with
        | none => (w_scp wB 20003).2 44 (g * 10 + m') = 20005
        | some v => vR ((w_scp wB 20003).1 13 2) ((w_scp wB 20003).2 13) (fW0 (w_scp wB 20003)) v ((w_scp wB 20003).2 44 (g * 10 + m')) := h1
      cases z : s_fe s g m' with
      | none => rw [z] at h1; exact h1
      | some v => rw [z] at h1; exact v0_x X h0 h1
  have hoF := oK_x (OF 0).2.2.2 hoC
  have F37 : (w_a (w_scp wB 20003) 46 f 1).2 37 = wB.2 37 := (w_a_2ne _ _ _ (by decide)).trans (w_scp_2 wB _ (by decide))
  have F42 : (w_a (w_scp wB 20003) 46 f 1).2 42 = (w_scp wB 20003).2 42 := w_a_2ne _ _ _ (by decide)
  have F34 : (w_a (w_scp wB 20003) 46 f 1).2 34 = (w_scp wB 20003).2 34 := w_a_2ne _ _ _ (by decide)
  have F3 : (w_a (w_scp wB 20003) 46 f 1).2 3 = wA.2 3 := ((w_a_2ne _ _ _ (by decide)).trans (w_scp_2 wB _ (by decide))).trans (OB 0).2.2.2.2.2.1.2.2.2.1
  have F5 : (w_a (w_scp wB 20003) 46 f 1).2 5 = wA.2 5 := ((w_a_2ne _ _ _ (by decide)).trans (w_scp_2 wB _ (by decide))).trans (OB 0).2.2.2.2.2.1.2.2.2.2.1
  have F7 : (w_a (w_scp wB 20003) 46 f 1).2 7 = wA.2 7 := ((w_a_2ne _ _ _ (by decide)).trans (w_scp_2 wB _ (by decide))).trans (OB 0).2.2.2.2.2.1.2.2.2.2.2.1
  have F46 : (w_a (w_scp wB 20003) 46 f 1).2 46 = fun g => if g = f then 1 else W1.2 46 g := by
    funext k
    rw [wa46, C46]
    rfl
  have e180 : (180 + (f : Int) - 180).toNat = f := by omega
  have i37 : w_g (w_scp wB 20003) 37 ((180 + (f : Int)) * 9) - 1 = it_id (C.2.2.1 f) := by
    rw [w_g_scp wB _ (by decide)]
    exact Bi
  rw [w_opt_2 (by omega), e180, i37] at hw1
  have eWt : eW (w_a (w_scp wB 20003) 46 f 1) 1 true (C.2.2.1 f) := by
    refine ⟨?_, ?_⟩
    · rw [F3, F5, F37, F46]
      exact eR_hb (by decide) BR
    · rw [F3, F5, F7]
      exact BI
  have c33B := B1 33 1 (by decide)
  have c12B := B1 41 12 (by decide)
  have c13B := B1 41 13 (by decide)
  have c10B := B1 41 10 (by decide)
  have I33 : (w_a (w_scp wB 20003) 46 f 1).1 33 1 = wA.1 33 1 := C33.trans c33B
  have I13 : (w_a (w_scp wB 20003) 46 f 1).1 41 13 = wA.1 41 13 := C13.trans c13B
  have I12 : (w_a (w_scp wB 20003) 46 f 1).1 41 12 = wA.1 41 12 + 1 := by
    have : (w_scp wB 20003).1 41 12 = wA.1 41 12 + 1 := by rw [C12, c12B]
    exact this
  have I10 : (w_a (w_scp wB 20003) 46 f 1).1 41 10 = -1 := (C10.trans c10B).trans dA
  have xI : xP wA (w_a (w_scp wB 20003) 46 f 1) := xP_tr (OB 0).2.2.2 (xP_tr (xP_S SC hoB) (OF 0).2.2.2)
  generalize w_a (w_scp wB 20003) 46 f 1 = I at *
  have hI0 : 0 ≤ I.1 33 1 := by omega
  have RO := RD_op (x := 180 + (f : Int)) (j := it_id (C.2.2.1 f)) RF (by
    rw [I33, cA]
    show W1.1 33 1 + 1 ≤ 19990 + 2 * (s_tb s : Int)
    omega)
  obtain ⟨TO, fO⟩ := TX_op (w0 := wA) (x := 180 + (f : Int)) (t := C.2.2.1 f) hI0 I33 I13
  obtain ⟨n1, n2, n3, n4, n5⟩ := op1_n (x := 180 + (f : Int)) (j := it_id (C.2.2.1 f)) hI0
  have SO := op1_S I (180 + (f : Int)) (it_id (C.2.2.1 f))
  have xO : xP wA (w_op1 I (180 + (f : Int)) (it_id (C.2.2.1 f))) := xP_tr xI (xP_S SO hoF)
  have QO : TQ wA (w_op1 I (180 + (f : Int)) (it_id (C.2.2.1 f))) := ⟨by rw [n3, I12], fun k hk => by rw [op1_34 hI0 k (by rw [I33]; exact hk), F34, C34, B34], fun k hk => by rw [op1_42, F42, C42 k (by rw [c12B]; exact hk), B42], xO⟩
  have dO : (w_op1 I (180 + (f : Int)) (it_id (C.2.2.1 f))).1 41 10 = -1 := n4.trans I10
  have eWO := eW_S SO eWt
  rw [← hw1] at RO TO fO QO dO xO eWO
  refine sim_run (ev_N C m) (ev_M C m) (ev_W C m) (ev_T C m) h4 hf _ (C.2.2.1 f) (Nat.le_refl _) .nil false n_none _ q fl E3 s3 hr w1 (i + 1) true RO rfl TO fO QO eWO dO (fun z => absurd z nD) (by omega) (by show i + 1 + 12 * (s_b s3 : Int) ≤ 900000 + 12 * (s_b s : Int); omega) hB fun i5 w5 l1 l2 R5 tl5 T5 q5 d5 => ?_
  have l2 : i5 + 12 * (s_b s : Int) ≤ i + 1 + 12 * (s_b s3 : Int) := l2
  have T5' := T5
  obtain ⟨⟨t1, t2, t3⟩, ⟨t4, t5, t6, t7⟩, t8, t9, tw⟩ := T5'
  have t6 : f_t w5 3 = -1 := t6
  have hcn5 := R5.1.2.2.1.2.2.2
  have hct5 := R5.2.2.2.1
  have hrow5 := R5.2.2.2.2.1
  have ho5 := RD_oK R5.1
  have c5 : 1 ≤ w5.1 33 1 ∧ w5.1 33 1 < 24000 := by omega
  have nd3 : s_nd s3 + 1 ≤ 11 * s_tb s3 + 300 := by omega
  -- the names of the file
  have X1 : (w_a (w_fnm w5 f 10) 46 f 2).1 = w5.1 := rfl
  have X2 : ∀ b, b ≠ 44 → b ≠ 46 → (w_a (w_fnm w5 f 10) 46 f 2).2 b = w5.2 b := fun b h1 h2 => (w_a_2ne _ _ _ h2).trans (w_fnm_2ne w5 f 10 h1)
  have X46 : ∀ k, (w_a (w_fnm w5 f 10) 46 f 2).2 46 k = if k = f then ((2 : Nat) : Int) else w5.2 46 k := fun k => by
    rw [w_a2, w_u_at, w_fnm_2ne w5 f 10 (by decide)]
    simp only [true_and]
    rfl
  have X44 : ∀ k : Nat, (w_a (w_fnm w5 f 10) 46 f 2).2 44 k = if (f : Int) * 10 ≤ (k : Int) ∧ (k : Int) < (f : Int) * 10 + 10 then w5.2 42 (w5.1 41 12 * 10 + ((k : Int) - (f : Int) * 10)).toNat else w5.2 44 k := fun k => by
    rw [w_a_2ne _ _ _ (by decide)]
    unfold w_fnm
    simp only [true_and]
  obtain ⟨RG, OG⟩ := RD_fs46 (f := f) (x := 2) (fe := fun g => if g = f then E3 else s_fe s3 g) (w' := w_a (w_fnm w5 f 10) 46 f 2) R5 (Or.inr rfl) X1 X2 X46 fun X g hg hq' m' hm' => by
    have h0 := hcn5.1.1
    have e44 := X44 (g * 10 + m')
    show match (if g = f then E3 else s_fe s3 g) m' with
      | none => (w_a (w_fnm w5 f 10) 46 f 2).2 44 (g * 10 + m') = 20005
      | some v => vR ((w_a (w_fnm w5 f 10) 46 f 2).1 13 2) ((w_a (w_fnm w5 f 10) 46 f 2).2 13) (fW0 (w_a (w_fnm w5 f 10) 46 f 2)) v ((w_a (w_fnm w5 f 10) 46 f 2).2 44 (g * 10 + m'))
    by_cases c : g = f
    · have h1 := R5.2.1 m' hm'
      rw [if_pos ⟨by omega, by omega⟩, show (w5.1 41 12 * 10 + (((g * 10 + m' : Nat) : Int) - (f : Int) * 10)).toNat = (w5.1 41 12).toNat * 10 + m' by omega] at e44
      rw [if_pos c, e44]
      have h1 : match E3 m' with
        | none => w5.2 42 ((w5.1 41 12).toNat * 10 + m') = 20005
        | some v => vW_ w5 v (w5.2 42 ((w5.1 41 12).toNat * 10 + m')) := h1
      cases z : E3 m' with
      | none => rw [z] at h1; exact h1
      | some v => rw [z] at h1; exact v0_x X h0 (vR_mono h0 (Int.le_refl _) (fun _ _ => rfl) fW_0 h1)
    · rw [if_neg c] at hq'
      have h1 := R5.1.2.2.1.2.2.1 g hg hq' m' hm'
      rw [if_neg (by omega)] at e44
      rw [if_neg c, e44]
      have h1 : match s_fe s3 g m' with
        | none => w5.2 44 (g * 10 + m') = 20005
        | some v => vR (w5.1 13 2) (w5.2 13) (fW0 w5) v (w5.2 44 (g * 10 + m')) := h1
      cases z : s_fe s3 g m' with
      | none => rw [z] at h1; exact h1
      | some v => rw [z] at h1; exact v0_x X h0 h1
  have hoG := oK_x (OG 0).2.2.2 ho5
  have fG : ∀ g : Int, f_t (w_a (w_fnm w5 f 10) 46 f 2) g = f_t w5 g := fun g => by
    unfold f_t w_g
    rw [X1, X2 34 (by decide) (by decide)]
  have TG : TX wA (180 + (f : Int)) .nil q fl (w_a (w_fnm w5 f 10) 46 f 2) := by
    refine ⟨⟨t1, t2, t3⟩, ⟨by rw [fG]; exact t4, by rw [fG]; exact t5, by rw [fG]; exact t6, by rw [fG]; exact t7⟩, by rw [fG]; exact cW_x (OG 0).2.2.2 t8, by rw [fG]; exact t9, fun z z1 z3 => ?_⟩
    rw [fG, fG]
    exact tw z z1 z3
  have QG : TQ wA (w_a (w_fnm w5 f 10) 46 f 2) := TQ_o q5 (OG _)
  refine dr_5 (f := 6) (by omega) d5 c5 t4 (lk_104a t6 c5 (lk_108b (f := (f : Int)) c5 (by omega) (by rw [t9]; split <;> (unfold am_rg; omega)) t5 (by omega) (by omega))) (by omega) (by omega) fun w6 hw6 => ?_
  rw [Int.toNat_natCast] at hw6
  have d6 : (w_a (w_fnm w5 f 10) 46 f 2).1 41 10 = -1 := d5
  obtain ⟨RZ, c33, QC, NC, vC, dC, e3, e5, e7⟩ := RT_cl (hb := hb) (s_tl s) RG TG QG nd3
  have QN := (RT_cl (hb := false) (s_tl s) RG TG QG nd3).2.2.1
  generalize w_a (w_fnm w5 f 10) 46 f 2 = G at *
  rw [← hw6] at RZ c33 QC NC vC dC e3 e5 e7 QN
  have hAc : 1 ≤ wA.1 33 1 := by omega
  have htA : hb = true → wA.1 41 13 < wA.1 33 1 - 1 := fun z => by rw [tA, cA]; exact htw1 z
  have F6 : ∀ g : Int, 0 ≤ g ∧ g < 13 → f_t w6 g = f_t wA g := fun g hg => f_t_Q QC c33 hAc htA hg
  have Q6 : fQ (w0.1 33 1) hb w0 w6 := fQ_tr hq (fQ_tr (oQ_fQ OA) (fQ_le QC (by rw [cA]; omega)))
  have h0A := RA.1.2.2.1.2.2.2.1.1
  refine K (i5 + 1) w6 (by omega) (by omega) ⟨RZ, fun m' hm' => ?_, ?_, ?_, ?_, ?_, ?_, ?_⟩ (by rw [c33, cA]; exact hc) Q6 ?_ ?_ ?_ ?_ (dC.trans d6)
  · have h9 := RA.2.1 m' hm'
    have e12 : w6.1 41 12 = wA.1 41 12 := QC.1.1
    rw [e12, NC _ (by have := RA.2.2.2.2.1.1; omega)]
    cases z : E m' with
    | none => rw [z] at h9; exact h9
    | some v => rw [z] at h9; exact vW_x QC.2.2.2 h0A h9
  · exact mkR_fQ (n := wA.1 33 1) RA.2.2.1 rfl QN (Int.le_refl _) (by rw [c33]; exact Int.le_refl _)
  · rw [c33, cA]
    refine ⟨by omega, ?_⟩
    show W1.1 33 1 ≤ 19990 + 2 * (s_tb s3 : Int)
    omega
  · have e12 : w6.1 41 12 = wA.1 41 12 := QC.1.1
    rw [e12, rA]
    refine ⟨hrow.1, ?_⟩
    show W1.1 41 12 ≤ (s_rw s3 : Int)
    have := q5.1
    omega
  · exact mr.2.2.2.2.1
  · rw [e3]; exact RG.2.2.2.2.2.2.1
  · rw [e3, e5, e7]; exact RG.2.2.2.2.2.2.2
  · rw [F6 0 (by decide), FA 0 (by decide)]; exact f0
  · rw [F6 1 (by decide), FA 1 (by decide)]; exact f1
  · rw [F6 2 (by decide), FA 2 (by decide)]; rfl
  · rw [F6 10 (by decide), FA 10 (by decide)]; exact hdd
end
