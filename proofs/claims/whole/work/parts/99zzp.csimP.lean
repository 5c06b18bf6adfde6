/-! ===== the class runs as the evaluator: the turn of a call, all ===== -/
theorem tI_id {a3 a5 a7 : Nat → Int} {u : T_} (h : tI0 a3 a5 a7 u) (hu : isce u) : e_id u < 180 := by
  obtain ⟨f, ⟨f3, fz⟩, hf⟩ := h
  have g := j_in 200 (tJ a3 a5 a7 f) (some (true, false)) none 0
  have z := (j_go_sz 200 (tJ a3 a5 a7 f) (some (true, false)) none 0).2 (Nat.zero_le _)
  have z : (j_go 200 (tJ a3 a5 a7 f) (some (true, false)) none 0).2.1 ≤ (a7 f).toNat := z
  obtain ⟨q, q1, q2, q3⟩ := g.1 u hu hf
  rw [q3]
  show 60 * f + q < 180
  omega
section
variable {C : C_} {sil : Bool} {o a0 : Nat} {D : Prop} {K0 : Int} {hb : Bool} {s s1 : S_} {E E1 : N_} {w : W_} {fr : Nat} {Q : Option am_V → W_ → Prop} {i : Int} {k : Nat} {n : Int} {id : Nat} {a b c v : T_}

theorem sim_turn {m : Nat} {fn y : T_} {w0 : W_} {fv : Int} (h2 : ∀ K0, cSK C sil o K0 (ev C m)) (R : RD C sil o a0 D K0 hb s E w) (hc : w.1 33 1 = w0.1 33 1 + 1) (hc0 : 0 ≤ w0.1 33 1) (htx : hb = true → w0.1 41 13 < w0.1 33 1) (hq : fQ (w0.1 33 1) hb w0 w) (f0 : f_t w 0 = 3) (f1 : f_t w 1 = id) (f2 : f_t w 2 = 2) (f3 : f_t w 3 = fv) (vf : vW_ w fn fv) (hF : v_isF fn = true) (vy : vW_ w y (w.1 41 11)) (hd : w.1 41 10 = -1) (hid : id < 180) (hf : 20 ≤ fr) (hi : 0 ≤ i) (hi2 : i + 1 + 12 * (s_b s1 : Int) ≤ 900000 + 12 * (s_b s : Int)) (hB : s_b s1 ≤ 90000 ∧ s_nt s1 ≤ 900000) (hr : o_call (ev C m) C sil id fn y E s = some (v, E1, s1)) (hD : D → v_ni fn = true ∧ v_ni y = true) (K : ∀ i' w', i ≤ i' → i' + 12 * (s_b s : Int) ≤ i + 3 + 12 * (s_b s1 : Int) → RD C sil o a0 D K0 hb s1 E1 w' → w'.1 33 1 = w0.1 33 1 → fQ (w0.1 33 1) hb w0 w' → vW_ w' v (w'.1 41 11) → w'.1 41 10 = -1 → dr fr Q i' w') : dr fr Q i w := by
  have hcn := R.1.2.2.1.2.2.2
  have hct : 1 ≤ w.1 33 1 ∧ w.1 33 1 < 24000 := by have := R.2.2.2.1; omega
  have ho := RD_oK R.1
  have htw : hb = true → w.1 41 13 < w.1 33 1 - 1 := fun q => by rw [hq.1.2, hc]; have := htx q; omega
  have hl := R.2.2.2.2.2.1
  have mm := o_call_M (hb := hb) (ev_M C m) hr hl
  have mb : s_b s ≤ s_b s1 := mm.1
  have mn : s_nt s ≤ s_nt s1 := mm.2.1
  have RW := RD_fs (f := 2) (x := 3) R hct.1 (by decide) htw
  have oW : oQ (w0.1 33 1) w (w_fs w 2 3) := oQ_fs ho (by omega) (by omega) (by decide)
  have FW : ∀ g : Int, 0 ≤ g → f_t (w_fs w 2 3) g = if g = 2 then 3 else f_t w g := fun g g0 => f_t_fs0 hct.1 (by decide) g0
  have qW := fQ_tr hq (oQ_fQ (hb := hb) oW)
  have vfW := vW_x oW.2.2.2 hcn.1.1 vf
  have vyW := vW_x oW.2.2.2 hcn.1.1 vy
  have cW : (w_fs w 2 3).1 = w.1 := rfl
  have step : ∀ P : W_ → Prop, (ww_Ct 95 7 [.inr (.inr (.inl 41)), .inl (id : Int)] (w_fs w 2 3) fun r w' => r = none ∧ P w') → (∀ w', P w' → dr fr Q (i + 1) w') → dr fr Q i w := fun P hc' KK => dr_3 (f := 8) (by omega) hd hct f0 (lk_94t f1 f2 hct (by omega) hc') (by omega) (by omega) KK
  obtain ⟨eE, hcs⟩ := o_call_inv hr
  rw [eE] at K
  have w11 : (w_fs w 2 3).1 41 11 = w.1 41 11 := rfl
  have hoW := oK_x oW.2.2.2 ho
  generalize w_fs w 2 3 = W at *
  rw [← cW] at hc hct hd vyW
  have F0 : f_t W 0 = 3 := by rw [FW 0 (by decide)]; exact f0
  have F1 : f_t W 1 = (id : Int) := by rw [FW 1 (by decide)]; exact f1
  have F2 : f_t W 2 = 3 := by rw [FW 2 (by decide)]; rfl
  have F3 : f_t W 3 = fv := by rw [FW 3 (by decide)]; exact f3
  clear FW
  have kn := (CR_o RW.1).2
  have h14 : W.1 41 14 = (s_dp s : Int) := RW.1.2.1.2.1.1
  have h14' : s_dp s ≤ 8 := RW.1.2.1.2.1.2
  have h4 : W.1 17 4 = (s_b s : Int) := RW.1.1.2.1.1
  have vr := vW_rg (RW.1.2.2.1.2.2.2.1.1) (by have := RW.1.2.2.1.2.2.2; omega) vyW
  have iw := vW_isW vyW
  have htW : hb = true → W.1 41 13 < W.1 33 1 - 1 := fun q => by rw [qW.1.2, hc]; have := htx q; omega
  have fin : ∀ (Z : W_) (i' : Int) (s1 : S_) (v : T_), (∀ i' w', i ≤ i' → i' + 12 * (s_b s : Int) ≤ i + 3 + 12 * (s_b s1 : Int) → RD C sil o a0 D K0 hb s1 E w' → w'.1 33 1 = w0.1 33 1 → fQ (w0.1 33 1) hb w0 w' → vW_ w' v (w'.1 41 11) → w'.1 41 10 = -1 → dr fr Q i' w') → RD C sil o a0 D K0 hb s1 E Z → Z.1 33 1 = W.1 33 1 → fQ (w0.1 33 1) hb w0 Z → vW_ Z v (Z.1 41 11) → Z.1 41 10 = -1 → i ≤ i' → i' + 12 * (s_b s : Int) ≤ i + 3 + 12 * (s_b s1 : Int) → dr fr Q i' (w_po Z) := by
    intro Z i' s1 v K RZ cZ qZ vZ dZ l1 l2
    obtain ⟨RP, cP⟩ := RD_po RZ (cZ.trans hc) hc0 (fun q => by rw [qZ.1.2]; exact htx q)
    have oP : oQ (w0.1 33 1) Z (w_po Z) := oQ_po (RD_oK RZ.1)
    exact K i' (w_po Z) l1 l2 RP cP (fQ_tr qZ (oQ_fQ oP)) (by rw [(w_po_v Z).1]; exact vW_po vZ) ((w_po_v Z).2.1.trans dZ)
  have bad : ∀ (k : Nat), s1 = f_note C (f_code k id) s → v = vW → dr fr Q (i + 1) (w_po (w_f (w_nt W (100000 * (k : Int) + w_spot id)) 41 11 20004)) := by
    intro k es ev
    subst es ev
    have hn1 : s_nt s + 1 ≤ 900000 := hB.2
    have hcode : (100000 * (k : Int) + w_spot (id : Int)) = f_code k id := f_code_w k id
    rw [hcode]
    have RN := RD_nt (f := f_code k id) RW (by omega)
    have c1 := w_nt_n (f := f_code k id) hoW
    have oN : oQ (w0.1 33 1) W (w_nt W (f_code k id)) := oQ_nt hoW
    have RV := RD_val (j := 11) (x := 20004) RN (Or.inr rfl)
    have oV : oQ (w0.1 33 1) (w_nt W (f_code k id)) (w_f (w_nt W (f_code k id)) 41 11 20004) := oQ_val (RD_oK RN.1) (Or.inr rfl)
    refine fin _ (i + 1) _ _ K RV ?_ (fQ_tr qW (oQ_fQ (oQ_tr oN oV))) ?_ ?_ (by omega) (by show i + 1 + 12 * (s_b s : Int) ≤ i + 3 + 12 * (s_b s : Int); omega)
    · rw [w_f1, w_u_at, if_neg (by decide)]; exact c1.1
    · rw [w_f1, w_u_at, if_pos ⟨rfl, rfl⟩]; exact vW_W
    · rw [w_f1, w_u_at, if_neg (by decide)]; exact c1.2.1.trans hd
  rcases hcs with ⟨c0, ev', es⟩ | ⟨c0, ⟨c1, ev', es⟩ | ⟨c1, ⟨c2, ev', es⟩ | ⟨c2, hcs⟩⟩⟩
  · have hy : W.1 41 11 = 20004 := iw.mp c0
    refine step (fun w' => w' = w_po W) (lk_95w F3 rfl vr.1 hct (by omega) kn (by omega) (by omega) hy) fun w' hw => ?_
    rw [hw]
    rw [es, ev'] at K
    exact fin W (i + 1) s vW K RW rfl qW (by rw [hy]; exact vW_W) hd (by omega) (by omega)
  · have hy : W.1 41 11 ≠ 20004 := fun q => by rw [iw.mpr q] at c0; cases c0
    refine step (fun w' => w' = w_po (w_f (w_nt W (100000 * 5 + w_spot id)) 41 11 20004)) (lk_95d F3 rfl vr.1 hct (by omega) kn (by omega) (by omega) hy (by omega)) fun w' hw => ?_
    rw [hw]
    exact bad 5 es ev'
  · have hy : W.1 41 11 ≠ 20004 := fun q => by rw [iw.mpr q] at c0; cases c0
    refine step (fun w' => w' = w_po (w_f (w_nt W (100000 * 6 + w_spot id)) 41 11 20004)) (lk_95l F3 rfl vr.1 hct (by omega) kn (by omega) (by omega) hy (by omega) (by omega)) fun w' hw => ?_
    rw [hw]
    exact bad 6 es ev'
  · have hy : W.1 41 11 ≠ 20004 := fun q => by rw [iw.mpr q] at c0; cases c0
    obtain ⟨xx, hfx⟩ := v_isF_of hF
    cases xx with
    | append e cl =>
      have vfx := vfW
      rw [hfx] at vfx
      obtain ⟨⟨hN1, p3, ⟨⟨kk, nn, id', a', b', c', hb', he0, hk, eRx⟩, tIx⟩, pc, ⟨E0, hcl⟩, hk16⟩, -⟩ := vfx
      have heW : eW W 0 hb' e := ⟨eRx, tIx⟩
      have heW' := heW
      rw [he0] at heW'
      have k16 : kk = 16 := by rw [he0] at hk16; exact hk16
      subst k16
      obtain ⟨⟨i1, i2, i3, i4, i5, i6⟩, -, -, hpa, -⟩ := eW_ce heW'
      have hpa := hpa (by decide)
      rw [if_pos (Or.inl rfl)] at hpa
      have eid : e_id e = id' := by rw [he0]; rfl
      have epart : e_part e = a' := by rw [he0]; rfl
      have hx0 := hN1.1
      have hcnW := RW.1.2.2.1.2.2.2
      have h17 : W.1 41 17 = (if sil = true then 0 else 1) := RW.1.2.1.2.2.2.2.2
      have hrun : ∀ (rn : Nat), (sil = false → rn = s_rn s + 1) → o_body (ev C m) C sil (r_keep C sil fn y s) fn y (u_rn s rn (s_tk s)) = some (v, s1) → ∀ (V : W_) (kp : Int), RD C sil o a0 D K0 hb s E V → V.1 = W.1 → (∀ g : Int, 0 ≤ g ∧ g < 13 → f_t V g = if g = 5 then kp else f_t W g) → xP W V → fQ (w0.1 33 1) hb w0 V → (kp = if r_keep C sil fn y s = true then 1 else 0) → dr fr Q (i + 1) (w_en V fv (W.1 41 11) (e_id e) o) := by
        intro rn hrn hq2 V kp RV eV FV xV qV hkp
        obtain ⟨hrw, Eb, sb, me, hrun, hnk, hs1, hme⟩ := o_body_inv hq2
        have hrw : s_rw s < 2040 := hrw
        rw [hfx] at hrun
        have hrun : ev C m sil (e_part e) (n_body e cl y (.tag 12 (.append e cl))) false (s_in (u_rn s rn (s_tk s))) = some (v, Eb, sb) := hrun
        rw [← hfx] at hrun
        have vfV := vW_x xV hcnW.1.1 vfW
        have vyV := vW_x xV hcnW.1.1 vyW
        obtain ⟨R6, X6⟩ := RD_en (D' := D ∨ r_keep C sil fn y s = true) RV hfx (id := e_id e) rfl vfV vyV c1 hrw hrn Or.inl
        have ho' := RV.1.1.1.1
        have sb1 : s_b s1 = s_b sb := by rw [hs1]; rfl
        have sn1 : s_nt s1 = s_nt sb := by rw [hs1]; rfl
        have due : (w_en V fv (W.1 41 11) (e_id e) o).1 41 10 = e_id (e_part e) := by
          have heV := eW_x xV heW
          rw [he0] at heV
          have hpaV := (eW_ce heV).2.2.2.1 (by decide)
          rw [en_1 ho', if_pos ⟨rfl, rfl⟩, eid, epart]
          exact hpaV.1
        have e6 : eW (w_en V fv (W.1 41 11) (e_id e) o) 0 false (e_part e) := by
          rw [epart]
          exact eW_x X6 (eW_x xV hpa.2)
        have hni : D ∨ r_keep C sil fn y s = true → v_ni fn = true ∧ v_ni y = true := fun q => by
          rcases q with q | q
          · exact hD q
          · unfold r_keep at q
            rw [hfx] at q
            have q : (!sil && (v_num y).isSome && k_fit e cl) = true := q
            rw [Bool.and_eq_true, Bool.and_eq_true] at q
            obtain ⟨z, z1, -⟩ := v_num_some q.1.2
            have g := q.2
            rw [hcl] at g
            have g2 := fit_ni' g
            rw [← hcl, ← hfx] at g2
            exact ⟨g2, by rw [z1]; rfl⟩
        have hD6 : D ∨ r_keep C sil fn y s = true → e_imp (e_part e) = false ∧ n_ni (n_body e cl y fn) := fun q => by
          obtain ⟨g1, g2⟩ := hni q
          obtain ⟨g3, g4⟩ := fn_ni hF g1
          rw [hfx] at g3 g4
          exact ⟨g3, n_body_ni g4 g2 g1⟩
        have c33 : (w_en V fv (W.1 41 11) (e_id e) o).1 33 1 = V.1 33 1 := by rw [en_1 ho', if_neg (by decide), if_neg (by decide), if_neg (by omega), if_neg (by decide), if_neg (by decide)]
        have tail : ∀ (i7 : Int) (w7 : W_), i + 1 ≤ i7 → i7 + 12 * (s_b s : Int) ≤ i + 1 + 12 * (s_b sb : Int) → RD C sil o (V.1 17 3).toNat (D ∨ r_keep C sil fn y s = true) K0 false sb Eb w7 → w7.1 33 1 = (w_en V fv (W.1 41 11) (e_id e) o).1 33 1 → fQ ((w_en V fv (W.1 41 11) (e_id e) o).1 33 1) false (w_en V fv (W.1 41 11) (e_id e) o) w7 → vW_ w7 v (w7.1 41 11) → w7.1 41 10 = -1 → (r_keep C sil fn y s = true → kU (w7.1 13 2) (w7.1 13 3) (w7.2 13) (w7.2 11) (w7.2 7) (s_me sb) (e_id e / 60) (w7.1 41 11)) → dr fr Q i7 w7 := by
          intro i7 w7 l1 l2 R7 c7 Q7 v7 d7 hkU
          rw [c33] at c7 Q7
          have cV : V.1 33 1 = w0.1 33 1 + 1 := by rw [eV]; exact hc
          refine sim_leave (id := id) (D' := D ∨ r_keep C sil fn y s = true) RV cV hc0 qV (by rw [FV 0 (by decide)]; exact F0) (by rw [FV 1 (by decide)]; exact F1) (by rw [FV 2 (by decide)]; exact F2) (by rw [FV 5 (by decide)]; rfl) vfV vyV hfx hcl (by have z := (eW_x xV heW).2; exact z) (by omega) hid htx hkp hf (by omega) (by omega) Or.inl Or.inr hrun hme R7 c7 Q7 X6 v7 d7 hkU fun Z z1 z2 z3 z4 z5 => ?_
          rw [← hs1] at z1
          exact fin Z (i7 + 1) s1 v K z1 (by rw [z2, eV]) z3 z4 z5 (by omega) (by omega)
        have ib7 : i + 1 + 12 * (s_b sb : Int) ≤ 900000 + 12 * (s_b (s_in (u_rn s rn (s_tk s))) : Int) := by
          show i + 1 + 12 * (s_b sb : Int) ≤ 900000 + 12 * (s_b s : Int)
          omega
        by_cases ck : r_keep C sil fn y s = true
        · have hnd : s_nd sb ≤ s_nd s + 3950 := (hnk ck).2
          have kn : (v_num y).isSome = true ∧ k_fit e cl = true := by
            have q := ck
            unfold r_keep at q
            rw [hfx] at q
            have q : (!sil && (v_num y).isSome && k_fit e cl) = true := q
            rw [Bool.and_eq_true, Bool.and_eq_true] at q
            exact ⟨q.1.2, q.2⟩
          obtain ⟨yz, hyz, -⟩ := v_num_some kn.1
          have kn2 := kn.2
          have heV := eW_x X6 (eW_x xV heW)
          have hD7 := hD6 (Or.inr ck)
          have hfx' := hfx
          have hrun' := hrun
          have R6' := R6
          rw [hcl] at kn2 hD7 hfx' hrun' R6'
          exact kp_run h2 (Or.inr ck) R6' he0 heV e6 due hfx' kn2 hyz hD7 hf (by omega) hrun' ib7 ⟨by omega, by omega⟩ hnd fun i7 w7 l1 l2 R7 c7 Q7 v7 d7 kUu => tail i7 w7 l1 l2 R7 c7 Q7 v7 d7 fun _ => kUu
        · exact h2 K0 (e_part e) (n_body e cl y fn) false (s_in (u_rn s rn (s_tk s))) v Eb sb hrun _ _ _ fr Q (i + 1) R6 e6 due hD6 hf (by omega) ib7 ⟨by omega, by omega⟩ fun i7 w7 l1 l2 R7 c7 Q7 v7 d7 => tail i7 w7 l1 l2 R7 c7 Q7 v7 d7 fun q => absurd q ck
      have hcW : ∀ (V : W_), V.1 = W.1 → 1 ≤ V.1 33 1 ∧ V.1 33 1 < 24000 := fun V e => by rw [e]; exact hct
      -- a world with the flag
      have flag : ∀ (w1 : W_) (kp : Int), n48 W w1 → RD C sil o a0 D K0 hb s E (w_fs w1 5 kp) ∧ (w_fs w1 5 kp).1 = W.1 ∧ (∀ g : Int, 0 ≤ g ∧ g < 13 → f_t (w_fs w1 5 kp) g = if g = 5 then kp else f_t W g) ∧ xP W (w_fs w1 5 kp) ∧ fQ (w0.1 33 1) hb w0 (w_fs w1 5 kp) := by
        intro w1 kp h48
        have R1 := RD_48 RW h48
        have o1 : oQ (w0.1 33 1) W w1 := oQ_48 h48 hoW
        have e1 := h48.1
        have ho1 := oK_x o1.2.2.2 hoW
        have h1w : 1 ≤ w1.1 33 1 := by rw [e1]; exact hct.1
        have R2 := RD_fs (f := 5) (x := kp) R1 h1w (by decide) (by rw [e1]; exact htW)
        have o2 : oQ (w0.1 33 1) w1 (w_fs w1 5 kp) := oQ_fs ho1 (by rw [e1]; omega) (by rw [e1]; omega) (by decide)
        refine ⟨R2, e1, fun g hg => ?_, xP_tr o1.2.2.2 o2.2.2.2, fQ_tr qW (oQ_fQ (oQ_tr o1 o2))⟩
        rw [f_t_fs0 h1w (by decide) hg.1]
        have e : f_t w1 g = f_t W g := by
          unfold f_t w_g
          rw [e1, h48.2 34 (by decide)]
        rw [e]
      have enter : ∀ (w1 : W_) (kp : Int), n48 W w1 → ww_Ct 98 5 [.inr (.inr (.inl 41)), .inl fv, .inl (W.1 41 11)] (w_fs w1 5 kp) fun r w' => r = none ∧ w' = w_en (w_fs w1 5 kp) fv (W.1 41 11) (e_id e) o := by
        intro w1 kp h48
        obtain ⟨g1, g2, -, g4, -⟩ := flag w1 kp h48
        exact en_ct g1 hfx rfl (vW_x g4 hcnW.1.1 vfW) (hcW _ g2)
      have h48r : n48 W W := ⟨rfl, fun _ _ => rfl⟩
      have hfr : -100000 ≤ fv ∧ fv < 10000000 := ⟨by omega, by omega⟩
      have p3' : w_h W fv 3 = (e_id e : Int) := p3
      by_cases cn : sil = true ∨ (v_num y).isSome = false
      · -- nothing can be kept
        have hrk : r_keep C sil fn y s = false := by
          unfold r_keep
          rcases cn with q | q
          · rw [q]; rfl
          · rw [q]; cases sil <;> rfl
        have hfnd : r_find C sil fn y s = none := by
          unfold r_find
          rcases cn with q | q
          · rw [q]
          · cases z : v_num y with
            | some u => rw [z] at q; cases q
            | none => cases sil <;> rfl
        have hnn : W.1 41 17 = 0 ∨ ¬ (-9999 ≤ W.1 41 11 ∧ W.1 41 11 ≤ 9999) := by
          rcases cn with q | q
          · exact Or.inl (by rw [h17, if_pos q])
          · refine Or.inr ?_
            have z := vW_num hcnW.1.1 vyW
            cases u : v_num y with
            | none => rw [u] at z; exact z
            | some _ => rw [u] at q; cases q
        rcases hcs with ⟨r, hr1, -⟩ | ⟨-, hq2⟩
        · rw [hfnd] at hr1; cases hr1
        · refine step (fun w' => w' = w_en (w_fs W 5 0) fv (W.1 41 11) (e_id e) o) (lk_95n F3 rfl vr.1 hct (by omega) ⟨by omega, by omega⟩ ⟨by omega, by omega⟩ hy (by rw [h17]; split <;> omega) hnn (enter W 0 h48r)) fun w' hw => ?_
          rw [hw]
          obtain ⟨g1, g2, g3, g4, g5⟩ := flag W 0 h48r
          exact hrun _ (fun q => by rw [if_neg (by rw [q]; exact Bool.false_ne_true)]) hq2 _ 0 g1 g2 g3 g4 g5 (by rw [hrk]; rfl)
      · have hsil : sil = false := by
          cases sil with
          | false => rfl
          | true => exact absurd (Or.inl rfl) cn
        have hnum : (v_num y).isSome = true := by
          cases z : (v_num y).isSome with
          | true => rfl
          | false => exact absurd (Or.inr z) cn
        subst hsil
        obtain ⟨yz, hyz, hyn⟩ := v_num_some hnum
        have vyr : W.1 41 11 = yz ∧ -9999 ≤ yz ∧ yz ≤ 9999 := by
          have z := vyW.1
          rw [hyz] at z
          exact z
        have h17 : W.1 41 17 = 1 := h17
        have h96 := lk_96 (w := W) (e := e) (cl := cl) (x := fv) (by rw [← hfx]; exact vfW) ⟨hcnW.1.1, by omega⟩
        have hrk : r_keep C false fn y s = k_fit e cl := by
          unfold r_keep
          rw [hnum, hfx]
          rfl
        by_cases cf : k_fit e cl = true
        · rw [if_pos cf] at h96
          have pcl := pc
          rw [hcl] at pcl
          have hrg := k_nums_rg pcl
          rw [← hcl] at hrg
          obtain ⟨m1, m2, m3, m4, -⟩ := RW.1.2.2.2
          have conv : ∀ (w1 : W_) (x : Int), n48 W w1 → (k_fit e cl = true → ∀ j : Nat, j < 10 → w1.2 48 j = (k_nums e cl j).getD 20005) → r_F w1 (e_id e) (W.1 41 11) (W.1 41 14) x → (r_find C false fn y s = none ∧ x = -1) ∨ ∃ r j, r_find C false fn y s = some r ∧ (s_me s)[j]? = some r ∧ x = ((j : Nat) : Int) ∧ r_is C (e_id e) (W.1 41 11) (k_nums e cl) r = true := fun w1 x q1 q2 q3 => by
            have z := r_F_E (id := e_id e) (x := W.1 41 11) (fn := fn) (v := y) RW.1 q1 (by rw [hyn, vyr.1]) (by rw [hfx]; rfl) (by rw [hfx]; exact cf) (by rw [hfx]; exact q2 cf) (by rw [hfx]; exact fun j z _ hz => hrg j z hz) q3
            rw [hfx] at z ⊢
            exact z
          have h47 : ∀ w1 : W_, n48 W w1 → (k_fit e cl = true → ∀ j : Nat, j < 10 → w1.2 48 j = (k_nums e cl j).getD 20005) → ww_Ct 47 2 [.inr (.inr (.inl 10)), .inl (w_h w1 fv 3), .inl (W.1 41 11), .inr (.inr (.inl 48)), .inr (.inr (.inl 17)), .inl (W.1 41 14)] w1 fun r w' => ∃ x, r = some (.inl x) ∧ w' = w1 ∧ ((r_find C false fn y s = none ∧ x = -1) ∨ ∃ r j, r_find C false fn y s = some r ∧ (s_me s)[j]? = some r ∧ x = ((j : Nat) : Int) ∧ r_is C (e_id e) (W.1 41 11) (k_nums e cl) r = true) := by
            intro w1 q1 q2
            have e3 : w_h w1 fv 3 = (e_id e : Int) := by rw [pH_w, q1.2 13 (by decide)]; exact p3
            rw [e3]
            have m1 : W.1 10 1 = ((s_me s).length : Int) := m1
            have hr1 : ∀ j : Int, 0 ≤ j → j < w1.1 10 1 → ∃ (i : Nat) (r : R_), j = (i : Int) ∧ (s_me s)[i]? = some r := fun j j0 j1 => by
              rw [q1.1, m1] at j1
              exact ⟨j.toNat, _, by omega, List.getElem?_eq_getElem (by omega)⟩
            have e11 : w1.2 11 = W.2 11 := q1.2 11 (by decide)
            refine ww_Ct.mono (lk_47 (w := w1) (fn := (e_id e : Int)) (arg := W.1 41 11) (dp := W.1 41 14) (by rw [q1.1, m1]; omega) ⟨by unfold am_rg; omega, vr.1⟩ (by omega) (by rw [q1.1]; omega) (fun j j0 j1 => ?_) (fun j j0 j1 k k0 k1 => ?_) (fun j j0 j1 k k0 k1 => ?_)) fun r w' q => ?_
            · obtain ⟨i, r, rfl, hir⟩ := hr1 j j0 j1
              obtain ⟨r1, r2, -, -, r5, r6, -⟩ := m3 i r hir
              obtain ⟨⟨C0, n0, E1, sx, sy, -, -, -, -, -, hrx, k7, -⟩, hti⟩ := m4 r (List.mem_of_getElem? hir)
              have k71 := k7.2.2.1
              have k72 := k7.2.2.2.1
              have k73 := k7.1
              have k74 := k7.2.1
              have hid' : r_id r < 180 := by
                have z := tI_id hti k7.2.2.2.2
                rw [hrx]
                exact z
              clear k7 hrx
              rw [wg_w, wg_n (n := 61 * i) (by omega), wg_w, wg_n (n := 61 * i + 1) (by omega), wg_w, wg_n (n := 61 * i + 4) (by omega), wg_w, wg_n (n := 61 * i + 5) (by omega), e11, r1, r2, r5, r6]
              unfold am_rg
              omega
            · obtain ⟨i, r, rfl, hir⟩ := hr1 j j0 j1
              obtain ⟨-, -, -, -, -, -, r7, -⟩ := m3 i r hir
              obtain ⟨⟨C0, n0, E1, sx, sy, -, -, -, -, -, -, -, k8, -⟩, -⟩ := m4 r (List.mem_of_getElem? hir)
              have g1 := r7 k.toNat (by omega)
              have g2 := q2 cf k.toNat (by omega)
              rw [wg_w, wg_n (n := 61 * i + 6 + k.toNat) (by omega), wg_w, wg_n (n := k.toNat) (by omega), e11, g1, g2]
              refine ⟨?_, ?_⟩
              · cases u : r_nums r k.toNat with
                | none => exact ⟨by decide, by decide⟩
                | some z =>
                  have := k8 _ z u
                  show am_rg z
                  unfold am_rg
                  omega
              · cases u : k_nums e cl k.toNat with
                | none => exact ⟨by decide, by decide⟩
                | some z =>
                  have := hrg _ z u
                  show am_rg z
                  unfold am_rg
                  omega
            · obtain ⟨i, r, rfl, hir⟩ := hr1 j j0 j1
              obtain ⟨-, -, -, -, -, -, -, r8⟩ := m3 i r hir
              obtain ⟨⟨C0, n0, E1, sx, sy, -, -, -, -, -, -, -, -, k9⟩, -⟩ := m4 r (List.mem_of_getElem? hir)
              have g1 := r8 k.toNat (by omega)
              have g2 := RW.1.1.2.2.2 k.toNat (by omega)
              rw [wg_w, wg_n (n := 61 * i + 16 + k.toNat) (by omega), wg_w, wg_n (n := k.toNat) (by omega), e11, g1, q1.2 18 (by decide)]
              refine ⟨?_, ?_⟩
              · cases u : r_as r k.toNat with
                | false => rw [if_neg (by decide)]; exact ⟨by decide, by decide⟩
                | true =>
                  obtain ⟨-, z, z1, z2⟩ := k9 _ u
                  rw [if_pos rfl, z1]
                  show am_rg z
                  unfold am_rg
                  omega
              · cases u : C.1 k.toNat with
                | none => rw [u] at g2; have g2 : W.2 18 k.toNat = 20005 := g2; rw [g2]; exact ⟨by decide, by decide⟩
                | some z => rw [u] at g2; have g2 : W.2 18 k.toNat = z ∧ -9999 ≤ z ∧ z ≤ 9999 := g2; unfold am_rg; omega
            · obtain ⟨x, z1, z2, z3⟩ := q
              exact ⟨x, z1, z2, conv w1 x q1 q2 z3⟩
          rcases hcs with ⟨r, hr1, hq2⟩ | ⟨hr1, hq2⟩
          · -- it is taken
            have hq2 : o_body (ev C m) C true false fn y (u_rn s (s_rn s) (s_tk s + 1)) = some (v, s1) := hq2
            refine step (fun w' => ∃ (w1 : W_) (j : Nat), n48 W w1 ∧ (s_me s)[j]? = some r ∧ r_is C (e_id e) (W.1 41 11) (k_nums e cl) r = true ∧ tkA (w_tk0 (w_po w1) j o) w' j 45) (lk_95k (P1 := fun w' => n48 W w' ∧ (k_fit e cl = true → ∀ j : Nat, j < 10 → w'.2 48 j = (k_nums e cl j).getD 20005)) F3 rfl vr.1 hct (by omega) ⟨by omega, by omega⟩ ⟨by omega, by omega⟩ hy h17 (by rw [vyr.1]; exact vyr.2) hfr h96 (fun w1 q => ⟨q.1.1, h47 w1 q.1 q.2⟩) (fun w1 q hFm => ?_) (fun w1 x q hFm hx => ?_) (fun x hFm => ?_)) fun w' hw => ?_
            · rcases hFm with ⟨q1, -⟩ | ⟨r', j, -, -, q2, -⟩
              · rw [hr1] at q1; cases q1
              · omega
            · rcases hFm with ⟨-, q2⟩ | ⟨r', j, q1, q2, q3, q4⟩
              · exact absurd q2 hx
              · rw [hr1] at q1
                have q1 : r = r' := by injection q1
                rw [← q1] at q2 q4
                rw [q3]
                refine ww_Ct.mono (take_ct RW.1 q.1 q2 hr1 hct) fun z w'' g => ⟨g.1, w1, j, q.1, q2, q4, g.2⟩
            · rcases hFm with ⟨-, q2⟩ | ⟨r', j, -, q2, q3, -⟩
              · rw [q2]; exact ⟨by decide, by decide⟩
              · have jl : j < (s_me s).length := by
                  by_cases c : j < (s_me s).length
                  · exact c
                  · rw [List.getElem?_eq_none (by omega)] at q2; cases q2
                have m2 : (s_me s).length ≤ 60 := m2
                rw [q3]
                unfold am_rg
                omega
            · obtain ⟨w1, j, q1, q2, q3, q4⟩ := hw
              exact sim_take (m := m) (w0 := w0) (w1 := w1) (fn := fn) RW hc hc0 htx qW hfx hcl heW he0 cf hyz vyr.1 hd q1 q2 q3 hr1 q4 hq2 hB K
          · -- it is run, and may be kept
            refine step (fun w' => ∃ w1 : W_, n48 W w1 ∧ w' = w_en (w_fs w1 5 1) fv (W.1 41 11) (e_id e) o) (lk_95k (P1 := fun w' => n48 W w' ∧ (k_fit e cl = true → ∀ j : Nat, j < 10 → w'.2 48 j = (k_nums e cl j).getD 20005)) F3 rfl vr.1 hct (by omega) ⟨by omega, by omega⟩ ⟨by omega, by omega⟩ hy h17 (by rw [vyr.1]; exact vyr.2) hfr h96 (fun w1 q => ⟨q.1.1, h47 w1 q.1 q.2⟩) (fun w1 q _ => ww_Ct.mono (enter w1 1 q.1) fun r w' z => ⟨z.1, w1, q.1, z.2⟩) (fun w1 x q hFm hx => ?_) (fun x hFm => ?_)) fun w' hw => ?_
            · rcases hFm with ⟨-, q2⟩ | ⟨r', j, q1, -⟩
              · exact absurd q2 hx
              · rw [hr1] at q1; cases q1
            · rcases hFm with ⟨-, q2⟩ | ⟨r', j, q1, -⟩
              · rw [q2]; exact ⟨by decide, by decide⟩
              · rw [hr1] at q1; cases q1
            · obtain ⟨w1, q1, rfl⟩ := hw
              obtain ⟨g1, g2, g3, g4, g5⟩ := flag w1 1 q1
              exact hrun _ (fun _ => rfl) hq2 _ 1 g1 g2 g3 g4 g5 (by rw [hrk, cf]; rfl)
        · have cf' : k_fit e cl = false := Bool.eq_false_iff.mpr cf
          rw [if_neg cf] at h96
          have hfnd : r_find C false fn y s = none := by
            unfold r_find
            rw [hyn]
            dsimp only
            rw [hfx, if_neg (by rw [show k_fit (v_code (.tag 12 (.append e cl))) (v_clos (.tag 12 (.append e cl))) = false from cf']; exact Bool.false_ne_true)]
          rcases hcs with ⟨r, hr1, -⟩ | ⟨-, hq2⟩
          · rw [hfnd] at hr1; cases hr1
          · refine step (fun w' => ∃ w1 : W_, n48 W w1 ∧ w' = w_en (w_fs w1 5 0) fv (W.1 41 11) (e_id e) o) (lk_95m (P1 := fun w' => n48 W w') F3 rfl vr.1 hct (by omega) ⟨by omega, by omega⟩ ⟨by omega, by omega⟩ hy h17 (by rw [vyr.1]; exact vyr.2) (ww_Ct.mono h96 fun r w' z => ⟨z.1, z.2.1⟩) (fun w1 q => ⟨q.1, ww_Ct.mono (enter w1 0 q) fun r w' z => ⟨z.1, w1, q, z.2⟩⟩)) fun w' hw => ?_
            obtain ⟨w1, q1, rfl⟩ := hw
            obtain ⟨g1, g2, g3, g4, g5⟩ := flag w1 0 q1
            exact hrun _ (fun _ => rfl) hq2 _ 0 g1 g2 g3 g4 g5 (by rw [hrk, cf']; rfl)
    | _ =>
      rw [hfx] at vfW
      exact (vfW.1 : False).elim
end
