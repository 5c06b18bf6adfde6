/-! ===== the class realizes as the evaluator: a rule's body ===== -/
section
variable {G : G_} {sil : Bool} {o : Nat} {K0 : Int} {s s1 : S_} {q q1 : Q_} {w w' : W_} {fr : Nat} {Q : Option am_V → W_ → Prop} {i : Int} {S : List F_} {x : Int × Int × Nat}
theorem ntn_ct {W : W_} {v : T_} {p : Nat} (kn : w_kn W) (h0 : 0 ≤ W.1 13 2 ∧ W.1 13 2 ≤ 300000) (hv : vW_ W v (W.1 41 11)) (hp : p < 1000) : ww_Ct 77 4 [.inr (.inr (.inl 41)), .inl (p : Int)] W (fun r w' => r = none ∧ w' = w_ntn (min 60 (v_nf v)) W (f_code 3 p)) := by
  have hnf := vW_nf hv
  have z := lk_77 (x0 := p) (w := W) ⟨kn, vW_ok h0.1 h0.2 hv, by omega, by rw [hnf]; omega, by rw [hnf]; omega⟩
  rw [hnf] at z
  have hcode : (100000 * 3 + w_spot (p : Int)) = f_code 3 p := f_code_w 3 p
  rw [hcode] at z
  exact z
/-- the body's content waits to be realized -/
theorem ru_fin {u : Int} {id : Nat} {v : T_} (H : XR G sil o K0 s (p_fr q ((3, .nil, 0, 0, 0) :: S)) w) (hv : vW_ w v (w.1 41 11)) (hid : id < 180) (hn : s_nt s ≤ 900000) (hus : (q_us q).length ≤ 11) (hl : S.length < 20000) (hpg : q_pg q + (q_wi q : Nat) + 1 ≤ 2 * (q_el q : Nat)) (hnx : q_nx q 41 + (q_wi q : Nat) + 1 ≤ (q_el q : Nat)) (h12 : q_wi q < 12) : ww_Z 9 4 6 0 cX9_stepRule none (fun r w' => r = none ∧ XR G sil o K0 (f_funs (g_C G q) v id s) (p_fr (p_wi q (q_wi q + 1) (q_us q ++ [id])) ((0, v, 0, 0, 0) :: (3, .nil, 0, 0, 0) :: S)) w') 102 [.inr (.inr (.inl 50)), .inl u, .inl (id : Int), .inl 1] [] w := by
  have hh := XR_h H
  have hk := Nat.min_le_left 60 (v_nf v)
  refine lk_124b2 (ntn_ct (CR_o H.1).2 (by omega) hv (by omega)) ?_
  rintro w3 rfl
  have A := XR_ntn (f := f_code 3 id) (min 60 (v_nf v)) s w H (by omega)
  obtain ⟨O, e33, e10, e11, e13⟩ := ntn_Q (n := w.1 33 1) (f := f_code 3 id) (min 60 (v_nf v)) w (RD_oK H.1)
  have vv := vW_x O.2.2.2 hh.1 hv
  have A : XR G sil o K0 (f_funs (g_C G q) v id s) (p_fr q ((3, .nil, 0, 0, 0) :: S)) (w_ntn (min 60 (v_nf v)) w (f_code 3 id)) := A
  generalize w_ntn (min 60 (v_nf v)) w (f_code 3 id) = W at *
  generalize f_funs (g_C G q) v id s = s2 at *
  obtain ⟨u1, u2⟩ := XR_us A
  have u1 : W.1 17 6 = ((q_us q).length : Nat) := u1
  obtain ⟨⟨a1, a2, -⟩, r2, r3, -⟩ := A.2.2.1
  have a2 : W.1 50 8 = (q_wi q : Nat) := a2
  have h33 : W.1 33 1 = (S.length : Int) + 1 := A.2.2.2.2.2.1
  have ho := XR_ho A
  refine lk_124b3 u1 (by omega) (lk_124b4 (m := (q_wi q : Nat)) (v := w.1 41 11) ?_ (by omega) ?_ ?_ ?_)
  · rw [w_f1, w_u_at, if_neg (by decide)]; exact a2
  · rw [w_f1, w_u_at, if_neg (by decide)]; exact e11
  · have : (w_f (w_a W 53 (((q_us q).length : Nat) : Int).toNat (id : Int)) 17 6 (((q_us q).length : Nat) + 1)).1 33 1 = W.1 33 1 := by rw [w_f1, w_u_at, if_neg (by decide)]; rfl
    rw [this]
    omega
  refine ⟨rfl, ?_⟩
  have et : (((q_us q).length : Nat) : Int).toNat = (q_us q).length := Int.toNat_natCast _
  rw [et]
  have e1 : ∀ a j, ¬ (a = 17 ∧ j = 6) → ¬ (a = 50 ∧ j = 8) → (w_f (w_f (w_a W 53 (q_us q).length (id : Int)) 17 6 (((q_us q).length : Nat) + 1)) 50 8 ((q_wi q : Nat) + 1)).1 a j = W.1 a j := fun a j h1 h2 => by
    rw [w_f1, w_u_at, if_neg h2, w_f1, w_u_at, if_neg h1]
    rfl
  have e2 : ∀ b, b ≠ 53 → (w_f (w_f (w_a W 53 (q_us q).length (id : Int)) 17 6 (((q_us q).length : Nat) + 1)) 50 8 ((q_wi q : Nat) + 1)).2 b = W.2 b := fun b hb => w_a_2ne W _ _ hb
  have e53 : ∀ k, (w_f (w_f (w_a W 53 (q_us q).length (id : Int)) 17 6 (((q_us q).length : Nat) + 1)) 50 8 ((q_wi q : Nat) + 1)).2 53 k = if k = (q_us q).length then (id : Int) else W.2 53 k := fun k => by
    show w_u W.2 53 (q_us q).length (id : Int) 53 k = _
    rw [w_u_at]
    by_cases d : k = (q_us q).length
    · rw [if_pos ⟨rfl, d⟩, if_pos d]
    · rw [if_neg (fun h => d h.2), if_neg d]
  have e8 : (w_f (w_f (w_a W 53 (q_us q).length (id : Int)) 17 6 (((q_us q).length : Nat) + 1)) 50 8 ((q_wi q : Nat) + 1)).1 50 8 = ((q_wi q + 1 : Nat) : Int) := rfl
  have e6 : (w_f (w_f (w_a W 53 (q_us q).length (id : Int)) 17 6 (((q_us q).length : Nat) + 1)) 50 8 ((q_wi q : Nat) + 1)).1 17 6 = (((q_us q).length + 1 : Nat) : Int) := rfl
  have L : wL o W (w_f (w_f (w_a W 53 (q_us q).length (id : Int)) 17 6 (((q_us q).length : Nat) + 1)) 50 8 ((q_wi q : Nat) + 1)) := wL_tr (wL_tr (wL_a (Or.inr (Or.inr (Or.inl rfl)))) (wL_f (Or.inr (Or.inr (Or.inr ⟨rfl, rfl⟩))))) (wL_f (Or.inr (Or.inl rfl)))
  generalize w_f (w_f (w_a W 53 (q_us q).length (id : Int)) 17 6 (((q_us q).length : Nat) + 1)) 50 8 ((q_wi q : Nat) + 1) = Z at *
  have X := hX_L ho L
  have B : XR G sil o K0 s2 (p_fr (p_wi q (q_wi q + 1) (q_us q ++ [id])) ((3, .nil, 0, 0, 0) :: S)) Z := by
    refine XR_W (q := p_fr q ((3, .nil, 0, 0, 0) :: S)) (m := q_wi q + 1) (us1 := q_us q ++ [id]) A L (fun j hj => e1 50 j (by omega) (by omega)) e8 ⟨e2 _ (by decide), e2 _ (by decide), e2 _ (by decide), e1 o 4 (by omega) (by omega), e2 _ (by omega)⟩ (fun j m hm => ?_) (by rw [e6, List.length_append]; rfl) (by rw [List.length_append]; show _ + 1 ≤ 12; omega) (by show q_pg q + ((q_wi q + 1 : Nat) : Int) ≤ 2 * (q_el q : Nat); omega) (by show q_nx q 41 + ((q_wi q + 1 : Nat) : Int) ≤ (q_el q : Nat); omega) (FRm_X X _ (fun k _ => by rw [e2 34 (by decide)]) A.2.2.2.2.1) (by rw [e1 33 1 (by decide) (by decide)]; exact A.2.2.2.2.2.1)
    rw [e53]
    by_cases d : j < (q_us q).length
    · rw [List.getElem?_append_left d] at hm
      rw [if_neg (by omega)]
      exact r3 j m hm
    · by_cases d2 : j = (q_us q).length
      · rw [d2, List.getElem?_append_right (Nat.le_refl _), Nat.sub_self] at hm
        have hm : some id = some m := hm
        injection hm with hm
        rw [if_pos d2, ← hm]
        exact ⟨rfl, hid⟩
      · rw [List.getElem?_eq_none] at hm
        · cases hm
        · rw [List.length_append]
          show (q_us q).length + 1 ≤ j
          omega
  exact XR_pu0 B (cV_X X vv.1)
theorem ru_yes {m n : Nat} {el f e v : T_} {E1 : N_} {sb : S_} {V : W_} (P : PR G sil o K0 s q el (.tag 11 (.tag n (.append e f))) V) (hl : (q_fr q).length < 19980) (hd : s_dp s = 0) (hlt : s_lt s ≤ s_b s) (h12 : q_wi q < 12) (h300 : s_b s < 300) (hrw : s_rw s < 2040) (hus : (q_us q).length ≤ q_wi q) (hpg : q_pg q + (q_wi q : Nat) + 1 ≤ 2 * (q_el q : Nat)) (hnx : q_nx q 41 + (q_wi q : Nat) + 1 ≤ (q_el q : Nat)) (hrun : ev (g_C G q) m sil (e_part (v_code f)) (n_body (v_code f) (v_clos f) el f) false (u_rw (u_rn (u_dp s 1) (s_rn s + 1) (s_tk s)) (s_rw s + 1)) = some (v, E1, sb)) (hdp : s_dp sb = 1) (hB : s_b sb ≤ 90000 ∧ s_nt sb ≤ 900000) (hi : 0 ≤ i) (hbud : i + 1 + 12 * (s_b sb : Int) ≤ 900000 + 12 * (s_b s : Int)) (hr : 20 ≤ fr) (K : ∀ (i' : Int) w', i < i' → i' + 12 * (s_b s : Int) ≤ i + 2 + 12 * (s_b sb : Int) → XR G sil o K0 (f_funs (g_C G q) v (e_id e) (u_dp sb 0)) (p_fr (p_wi q (q_wi q + 1) (q_us q ++ [e_id e])) ((0, v, 0, 0, 0) :: (3, .nil, 0, 0, 0) :: q_fr q)) w' → dr fr Q i' w') : dr fr Q i V := by
  obtain ⟨u, y, T, ⟨F0, F1, F2, F11⟩, hr', hv⟩ := P
  obtain ⟨hN, p3, n100, p4, id0, fF, pf, pw⟩ := hr'
  obtain ⟨xx, rfl⟩ := v_isF_of fF
  cases xx with
  | append cd cl =>
    have hrun : ev (g_C G q) m sil (e_part cd) (n_body cd cl el (.tag 12 (.append cd cl))) false (u_rw (u_rn (u_dp s 1) (s_rn s + 1) (s_tk s)) (s_rw s + 1)) = some (v, E1, sb) := hrun
    have h33 := T.2.2.1
    have hh : 0 ≤ V.1 13 2 ∧ V.1 13 2 < 262144 := by
      have h := T.1.2.2.1.2.2.2
      omega
    have u0 := hN.1
    obtain ⟨a1, a2, -⟩ := T.2.1.2.1.1
    have b4 : V.1 17 4 = s_b s := T.1.1.2.1.1
    have ho := T.1.1.1.1
    have b15 : 0 ≤ V.1 41 15 ∧ V.1 41 15 ≤ 9 := T.1.2.1.2.2.1
    have T1 : XT G sil o K0 s q (w_fs V 2 1) := XT_fs T (by decide)
    have kn := (CR_o T.1).2
    have x1 : xP V (w_fs V 2 1) := xP_S (wS_fs V 2 1) (RD_oK T.1)
    have vf : vW_ V (.tag 12 (.append cd cl)) (pH (V.2 13) u 1) := ⟨pf, pw⟩
    have vf1 := vW_x x1 hh.1 vf
    have ve1 := vW_x x1 hh.1 hv
    obtain ⟨R, X2⟩ := RD_ex (V := w_fs V 2 1) (x := pH (V.2 13) u 1) (y := y) (fn := .tag 12 (.append cd cl)) (v := el) (e := cd) (cl := cl) (id := e_id cd) T1.1 T1.2.1.1.1 T1.2.1.1.2.1 (by show 0 ≤ V.1 33 1 ∧ V.1 33 1 ≤ 19990 + 2 * (s_tb s : Int); omega) T1.2.2.2.2 hlt rfl rfl vf1 ve1 hd hrw
    -- the part of the code
    obtain ⟨hN12, q3, ⟨⟨kk, nn, id', a', b', c', hb', he0, hk, eRx⟩, tIx⟩, pc, ⟨E0, hcl⟩, hk16⟩ := pf
    have heW : eW (w_fs V 2 1) 0 hb' cd := eW_x x1 ⟨eRx, tIx⟩
    have heW' := heW
    rw [he0] at heW'
    have k16 : kk = 16 := by rw [he0] at hk16; exact hk16
    subst k16
    obtain ⟨⟨i1, i2, i3, i4, i5, i6⟩, -, -, hpa, -⟩ := eW_ce heW'
    have hpa := hpa (by decide)
    rw [if_pos (Or.inl rfl)] at hpa
    have eid : e_id cd = id' := by rw [he0]; rfl
    have epart : e_part cd = a' := by rw [he0]; rfl
    have ctx := ex_ct (x := pH (V.2 13) u 1) (y := y) (id := e_id cd) T1.1 ⟨by rw [T1.2.2.2.2]; decide, by rw [T1.2.2.2.2]; decide⟩ rfl rfl vf1.1 (by show 1 ≤ V.1 33 1 ∧ V.1 33 1 < 24000; omega)
    refine dr_10 ⟨hi, by omega⟩ T.2.2.2.1 (by omega) F0 (lk_124a (st := 0) F1 (by omega) F2 (by omega) kn (by rw [pH_w, p4]; omega) (by rw [a2]; omega) (by rw [b4]; omega) rfl F11 ctx) (by omega) (by omega) ?_
    rintro w1 rfl
    have c33 : (w_en (w_fs V 2 1) (pH (V.2 13) u 1) y (e_id cd) o).1 33 1 = ((q_fr q).length : Int) + 1 := by
      rw [en_1 ho, if_neg (by decide), if_neg (by decide), if_neg (by omega), if_neg (by decide), if_neg (by decide)]
      exact h33
    have c12 : (w_en (w_fs V 2 1) (pH (V.2 13) u 1) y (e_id cd) o).1 41 12 = 0 := by
      rw [en_1 ho, if_neg (by decide), if_pos ⟨rfl, rfl⟩, T1.2.2.2.2]
      rfl
    have hV1 : 1 ≤ (w_fs V 2 1).1 33 1 := by show 1 ≤ V.1 33 1; omega
    have FE : ∀ g : Int, 0 ≤ g → f_t (w_en (w_fs V 2 1) (pH (V.2 13) u 1) y (e_id cd) o) g = if g = 9 then (w_fs V 2 1).1 41 15 else if g = 8 then (w_fs V 2 1).1 17 4 else if g = 7 then (w_fs V 2 1).1 17 5 else if g = 6 then (w_fs V 2 1).1 17 3 else if g = 4 then y else if g = 3 then pH (V.2 13) u 1 else f_t (w_fs V 2 1) g := fun g hg => en_F ho hV1 hg
    have FV : ∀ g : Int, 0 ≤ g → f_t (w_fs V 2 1) g = if g = 2 then 1 else f_t V g := fun g hg => f_t_fs0 (by omega) (by decide) hg
    have due : (w_en (w_fs V 2 1) (pH (V.2 13) u 1) y (e_id cd) o).1 41 10 = e_id (e_part cd) := by
      rw [en_1 ho, if_pos ⟨rfl, rfl⟩, eid, epart]
      exact hpa.1
    have e6 : eW (w_en (w_fs V 2 1) (pH (V.2 13) u 1) y (e_id cd) o) 0 false (e_part cd) := by
      rw [epart]
      exact eW_x X2 hpa.2
    have b34 : ∀ k : Nat, k < 13 * (q_fr q).length → (w_en (w_fs V 2 1) (pH (V.2 13) u 1) y (e_id cd) o).2 34 k = V.2 34 k := fun k hk => by
      rw [en_34b k hV1 (by show (k : Int) < 13 * (V.1 33 1 - 1); omega), fs_34 h33 (by decide), if_neg (by omega)]
    have x2 : xP V (w_en (w_fs V 2 1) (pH (V.2 13) u 1) y (e_id cd) o) := xP_tr x1 X2
    refine ev_sim (C := g_C G q) (sil := sil) (o := o) (K0 := K0) m (e_part cd) (n_body cd cl el (.tag 12 (.append cd cl))) false _ v E1 sb hrun 0 False _ fr Q (i + 1) R e6 due (fun z => z.elim) hr (by omega) (by show i + 1 + 12 * (s_b sb : Int) ≤ 900000 + 12 * (s_b s : Int); omega) hB fun i7 w7 l1 l2 R7 c7 Q7 v7 d7 => ?_
    have l2 : i7 + 12 * (s_b s : Int) ≤ i + 1 + 12 * (s_b sb : Int) := l2
    have F7 : ∀ g : Int, 0 ≤ g ∧ g < 13 → f_t w7 g = f_t (w_en (w_fs V 2 1) (pH (V.2 13) u 1) y (e_id cd) o) g := fun g hg => f_t_Q Q7 c7 (by omega) (fun z => by cases z) hg
    have f0 : f_t w7 0 = 10 := by rw [F7 0 (by decide), FE 0 (by decide), FV 0 (by decide)]; exact F0
    have f1 : f_t w7 1 = u := by rw [F7 1 (by decide), FE 1 (by decide), FV 1 (by decide)]; exact F1
    have f2 : f_t w7 2 = 1 := by rw [F7 2 (by decide), FE 2 (by decide), FV 2 (by decide)]; rfl
    have f9 : f_t w7 9 = V.1 41 15 := by rw [F7 9 (by decide), FE 9 (by decide)]; rfl
    rw [c33] at c7
    have w12 : w7.1 41 12 = 0 := by rw [Q7.1.1]; exact c12
    have x7 : xP V w7 := xP_tr x2 Q7.2.2.2
    have b7 : ∀ k : Nat, k < 13 * (q_fr q).length → w7.2 34 k = V.2 34 k := fun k hk => by
      rcases Q7.2.1 k (by rw [c33]; omega) with z | z
      · cases z.1
      · exact z.trans (b34 k hk)
    have pu : pH (w7.2 13) u 4 = (e_id e : Int) := by
      rw [← p4]
      unfold pH
      rw [if_neg (by omega), if_neg (by omega)]
      exact x7.1.2 _ (by omega)
    -- the step behind the body
    have h14 : w7.1 41 14 = 1 := by
      have := R7.1.2.1.2.1.1
      rw [this, hdp]
      rfl
    have r15 := R7.1.2.1.2.2.1
    have C1 : CR (g_C G q) sil o 0 False K0 sb (w_fs w7 2 (1 + 1)) := CR_S R7.1 (wS_fs w7 2 _)
    have C2 := CR_lx (E9 := V.1 41 15) (d := 0) C1 (by show ((0 : Nat) : Int) + 1 = w7.1 41 14; rw [h14]; rfl) b15
    have hoK : oK w7 := RD_oK R7.1
    have hoK1 : oK (w_fs w7 2 (1 + 1)) := hoK
    have x8 : xP V (w_f (w_f (w_f (w_fs w7 2 (1 + 1)) 41 15 (if (w_fs w7 2 (1 + 1)).1 41 15 < V.1 41 15 then V.1 41 15 else (w_fs w7 2 (1 + 1)).1 41 15)) 41 14 ((w_fs w7 2 (1 + 1)).1 41 14 - 1)) 41 12 ((w_fs w7 2 (1 + 1)).1 41 12 - 1)) := xP_tr (xP_tr (xP_tr (xP_tr x7 (xP_S (wS_fs w7 2 _) hoK)) (xP_41 hoK1)) (xP_41 hoK1)) (xP_41 hoK1)
    have g34 : ∀ k : Nat, (w_fs w7 2 (1 + 1)).2 34 k = if k = 13 * (q_fr q).length + 2 then 1 + 1 else w7.2 34 k := fun k => fs_34 c7 (by decide) k
    have A : XR G sil o K0 (u_dp sb 0) (p_fr q ((3, .nil, 0, 0, 0) :: q_fr q)) (w_f (w_f (w_f (w_fs w7 2 (1 + 1)) 41 15 (if (w_fs w7 2 (1 + 1)).1 41 15 < V.1 41 15 then V.1 41 15 else (w_fs w7 2 (1 + 1)).1 41 15)) 41 14 ((w_fs w7 2 (1 + 1)).1 41 14 - 1)) 41 12 ((w_fs w7 2 (1 + 1)).1 41 12 - 1)) := by
      obtain ⟨y1, y2, y3, y4⟩ := XB_X T.1.1.1.1 T.2.1 (CR_o T.1).1 x8 (fun k hk => by
        show (w_fs w7 2 (1 + 1)).2 34 k = _
        rw [g34, if_neg (by omega)]
        exact b7 k hk)
      rw [f_t_at c7 (by decide)] at f0 f1
      have f0 : w7.2 34 (13 * (q_fr q).length + 0) = 10 := f0
      have f1 : w7.2 34 (13 * (q_fr q).length + 1) = u := f1
      refine ⟨C2, y1, y2, y3, ⟨⟨?_, ?_, ?_⟩, y4⟩, ?_, ?_, ?_⟩
      · show (w_fs w7 2 (1 + 1)).2 34 (13 * (q_fr q).length) = 10
        rw [g34, if_neg (by omega)]
        exact f0
      · show (w_fs w7 2 (1 + 1)).2 34 (13 * (q_fr q).length + 2) = 2
        rw [g34, if_pos rfl]
        rfl
      · show -100000 ≤ (w_fs w7 2 (1 + 1)).2 34 (13 * (q_fr q).length + 1) ∧ (w_fs w7 2 (1 + 1)).2 34 (13 * (q_fr q).length + 1) < 10000000
        rw [g34, if_neg (by omega), f1]
        omega
      · exact c7
      · exact d7
      · show w7.1 41 12 - 1 = -1
        rw [w12]
        rfl
    have vv : vW_ (w_f (w_f (w_f (w_fs w7 2 (1 + 1)) 41 15 (if (w_fs w7 2 (1 + 1)).1 41 15 < V.1 41 15 then V.1 41 15 else (w_fs w7 2 (1 + 1)).1 41 15)) 41 14 ((w_fs w7 2 (1 + 1)).1 41 14 - 1)) 41 12 ((w_fs w7 2 (1 + 1)).1 41 12 - 1)) v (w7.1 41 11) := vW_x (xP_tr (xP_tr (xP_tr (xP_S (wS_fs w7 2 _) hoK) (xP_41 hoK1)) (xP_41 hoK1)) (xP_41 hoK1)) R7.1.2.2.1.2.2.2.1.1 v7
    have Z := ru_fin (u := u) (id := e_id e) (v := v) A vv id0 (by show s_nt sb ≤ 900000; exact hB.2) (by omega) (by omega) hpg hnx h12
    refine dr_10 ⟨by omega, by omega⟩ d7 (by omega) f0 (lk_1240 (id := (e_id e : Int)) f1 (by omega) f2 (by decide) (by omega) pu (lk_124b1 (y9 := V.1 41 15) (by show 0 ≤ w7.1 33 1 ∧ w7.1 33 1 < 24000; omega) (by show am_rg (w7.1 41 15); unfold am_rg; omega) ?_ (by unfold am_rg; omega) Z)) (by omega) (by omega) fun w' h => K (i7 + 1) w' (by omega) (by omega) h
    show f_t (w_fs w7 2 (1 + 1)) 9 = _
    rw [f_t_fs0 (by omega) (by decide) (by decide), if_neg (by decide)]
    exact f9
  | nil => exact False.elim pf
  | line => exact False.elim pf
  | align _ => exact False.elim pf
  | text _ => exact False.elim pf
  | nest _ _ => exact False.elim pf
  | group _ _ => exact False.elim pf
  | tag _ _ => exact False.elim pf
end
