/-! ===== the class realizes as the evaluator: a LATE's part ===== -/
section
variable {G : G_} {sil : Bool} {o : Nat} {K0 : Int} {s s1 : S_} {q q1 : Q_} {w w' : W_} {fr : Nat} {Q : Option am_V → W_ → Prop} {i : Int} {S : List F_} {x : Int × Int × Nat}
theorem la_fin {u : Int} {id p : Nat} {v : T_} (H : XR G sil o K0 s (p_fr q ((4, .nil, 0, 0, 0) :: S)) w) (hv : vW_ w v (w.1 41 11)) (hid : id < 180) (hp : w_g w 37 ((id : Int) * 9 + 0) - 1 = (p : Int)) (hp2 : p < 1000) (hn : s_nt s ≤ 900000) (hl : S.length < 20000) (hpg : q_pg q + (q_wi q : Nat) + 1 ≤ 2 * (q_el q : Nat)) (hnx : q_nx q 41 + (q_wi q : Nat) + 1 ≤ (q_el q : Nat)) (h12 : q_wi q < 12) : ww_Z 9 4 6 0 cX9_stepLater none (fun r w' => r = none ∧ XR G sil o K0 (f_funs (g_C G q) v p s) (p_fr (p_wi q (q_wi q + 1) (q_us q)) ((0, v, 0, 0, 0) :: (4, .nil, 0, 0, 0) :: S)) w') 84 [.inr (.inr (.inl 50)), .inl u, .inl (id : Int), .inl 1] [] w := by
  have hh := XR_h H
  have hk := Nat.min_le_left 60 (v_nf v)
  refine lk_125b2 (by omega) hp (lk_125b3 (ntn_ct (CR_o H.1).2 (by omega) hv hp2) ?_)
  rintro w3 rfl
  have A := XR_ntn (f := f_code 3 p) (min 60 (v_nf v)) s w H (by omega)
  obtain ⟨O, e33, e10, e11, e13⟩ := ntn_Q (n := w.1 33 1) (f := f_code 3 p) (min 60 (v_nf v)) w (RD_oK H.1)
  have vv := vW_x O.2.2.2 hh.1 hv
  have A : XR G sil o K0 (f_funs (g_C G q) v p s) (p_fr q ((4, .nil, 0, 0, 0) :: S)) (w_ntn (min 60 (v_nf v)) w (f_code 3 p)) := A
  generalize w_ntn (min 60 (v_nf v)) w (f_code 3 p) = W at *
  generalize f_funs (g_C G q) v p s = s2 at *
  have a2 : W.1 50 8 = (q_wi q : Nat) := A.2.2.1.1.2.1
  have h33 : W.1 33 1 = (S.length : Int) + 1 := A.2.2.2.2.2.1
  have ho := XR_ho A
  refine lk_125b4 (m := (q_wi q : Nat)) (v := w.1 41 11) a2 (by omega) e11 (by omega) ⟨rfl, ?_⟩
  have B := XR_wi (n := q_wi q + 1) A (by show q_pg q + ((q_wi q + 1 : Nat) : Int) ≤ 2 * (q_el q : Nat); omega) (by show q_nx q 41 + ((q_wi q + 1 : Nat) : Int) ≤ (q_el q : Nat); omega)
  exact XR_pu0 B (cV_X (hX_L ho (wL_f (Or.inr (Or.inl rfl)))) vv.1)
theorem la_yes {m : Nat} {e cl v : T_} {E1 : N_} {sb : S_} {V : W_} (P : PL G sil o K0 s q e cl V) (hl : (q_fr q).length < 19980) (hd : s_dp s = 0) (hlt : s_lt s ≤ s_b s) (h12 : q_wi q < 12) (h300 : s_b s < 300) (hrw : s_rw s < 2040) (hpg : q_pg q + (q_wi q : Nat) + 1 ≤ 2 * (q_el q : Nat)) (hnx : q_nx q 41 + (q_wi q : Nat) + 1 ≤ (q_el q : Nat)) (hrun : ev (g_C G q) m sil (e_part e) (n_get cl) false (u_rw s (s_rw s + 1)) = some (v, E1, sb)) (hdp : s_dp sb = 0) (hB : s_b sb ≤ 90000 ∧ s_nt sb ≤ 900000) (hi : 0 ≤ i) (hbud : i + 1 + 12 * (s_b sb : Int) ≤ 900000 + 12 * (s_b s : Int)) (hr : 20 ≤ fr) (K : ∀ (i' : Int) w', i < i' → i' + 12 * (s_b s : Int) ≤ i + 2 + 12 * (s_b sb : Int) → XR G sil o K0 (f_funs (g_C G q) v (e_id (e_part e)) sb) (p_fr (p_wi q (q_wi q + 1) (q_us q)) ((0, v, 0, 0, 0) :: (4, .nil, 0, 0, 0) :: q_fr q)) w' → dr fr Q i' w') : dr fr Q i V := by
  obtain ⟨u, T, ⟨F0, F1, F2⟩, hr'⟩ := P
  obtain ⟨hN, p3, ⟨⟨kk, nn, id', a', b', c', hb', he0, hk, eRx⟩, tIx⟩, pc, ⟨E0, hcl⟩⟩ := hr'
  have h33 := T.2.2.1
  have hh : 0 ≤ V.1 13 2 ∧ V.1 13 2 < 262144 := by
    have h := T.1.2.2.1.2.2.2
    omega
  have u0 := hN.1
  obtain ⟨a1, a2, -⟩ := T.2.1.2.1.1
  have b4 : V.1 17 4 = s_b s := T.1.1.2.1.1
  have ho := T.1.1.1.1
  have T1 : XT G sil o K0 s q (w_fs V 2 1) := XT_fs T (by decide)
  have kn1 := (CR_o T1.1).2
  have x1 : xP V (w_fs V 2 1) := xP_S (wS_fs V 2 1) (RD_oK T.1)
  have heW : eW (w_fs V 2 1) 0 hb' e := eW_x x1 ⟨eRx, tIx⟩
  have heW' := heW
  rw [he0] at heW'
  obtain ⟨⟨i1, i2, i3, i4, i5, i6⟩, -, -, hpa, -⟩ := eW_ce heW'
  have hpa := hpa (by rcases hk with rfl | rfl <;> decide)
  rw [if_pos hk] at hpa
  have eid : e_id e = id' := by rw [he0]; rfl
  have epart : e_part e = a' := by rw [he0]; rfl
  have pc1 : cV (w_fs V 2 1) cl (pH (V.2 13) u 1) := cV_X (hX_x x1) pc
  have e13 : (w_fs V 2 1).2 13 = V.2 13 := w_fs2 V 2 1 (by decide)
  have ph1 : w_h (w_fs V 2 1) u 1 = pH (V.2 13) u 1 := by rw [pH_w, e13]
  have hcn : h_cn 10 (w_fs V 2 1) (w_h (w_fs V 2 1) u 1) := by
    rw [ph1]
    have pc2 := pc1
    rw [hcl] at pc2
    exact cn_of (w := w_fs V 2 1) hh.1 (by show V.1 13 2 ≤ 300000; omega) 10 10 _ (Nat.le_refl _) (Nat.le_refl _) pc2
  have R : ww_Ct 125 6 [.inr (.inr (.inl 50))] V fun r w' => r = none ∧ w' = w_f (w_scp (w_fs V 2 1) (pH (V.2 13) u 1)) 41 10 (w_g (w_fs V 2 1) 37 ((e_id e : Int) * 9) - 1) := by
    refine lk_1250 (id := (e_id e : Int)) F1 (by omega) F2 (by decide) (by omega) p3 ?_
    refine lk_125a (w := w_fs V 2 1) kn1 (by omega) (by show -1000 ≤ V.1 50 8 ∧ V.1 50 8 < 12; rw [a2]; omega) (by show -1000 ≤ V.1 17 4 ∧ V.1 17 4 < 300; rw [b4]; omega) (by omega) (by rw [T1.2.2.2.2]; decide) hcn (by rw [pH_w, e13]; exact p3) ⟨rfl, ?_⟩
    rw [ph1]
  refine dr_11 ⟨hi, by omega⟩ T.2.2.2.1 (by omega) F0 R (by omega) (by omega) ?_
  rintro w1 rfl
  have R1 := RD_la (V := w_fs V 2 1) (c := pH (V.2 13) u 1) (d := w_g (w_fs V 2 1) 37 ((e_id e : Int) * 9) - 1) (C := g_C G q) (a0 := 0) T1.1 T1.2.1.1.1 T1.2.1.1.2.1 (by show 0 ≤ V.1 33 1 ∧ V.1 33 1 ≤ 19990 + 2 * (s_tb s : Int); omega) T1.2.2.2.2 hlt hcl pc1 hrw
  have L : wS (w_fs V 2 1) (w_f (w_scp (w_fs V 2 1) (pH (V.2 13) u 1)) 41 10 (w_g (w_fs V 2 1) 37 ((e_id e : Int) * 9) - 1)) := wS_tr (wS_scp _ _) (wS_f (Or.inr ⟨rfl, by omega⟩))
  have due : (w_f (w_scp (w_fs V 2 1) (pH (V.2 13) u 1)) 41 10 (w_g (w_fs V 2 1) 37 ((e_id e : Int) * 9) - 1)).1 41 10 = e_id (e_part e) := by
    rw [w_f1, w_u_at, if_pos ⟨rfl, rfl⟩, eid, epart]
    have := hpa.1
    rw [Int.add_zero] at this
    exact this
  have c33 : (w_f (w_scp (w_fs V 2 1) (pH (V.2 13) u 1)) 41 10 (w_g (w_fs V 2 1) 37 ((e_id e : Int) * 9) - 1)).1 33 1 = ((q_fr q).length : Int) + 1 := by
    rw [w_f1, w_u_at, if_neg (by decide), w_scp1, if_neg (by decide)]
    exact h33
  have c12 : (w_f (w_scp (w_fs V 2 1) (pH (V.2 13) u 1)) 41 10 (w_g (w_fs V 2 1) 37 ((e_id e : Int) * 9) - 1)).1 41 12 = 0 := by
    rw [w_f1, w_u_at, if_neg (by decide), w_scp1, if_pos ⟨rfl, rfl⟩, T1.2.2.2.2]
    rfl
  have c34 : (w_f (w_scp (w_fs V 2 1) (pH (V.2 13) u 1)) 41 10 (w_g (w_fs V 2 1) 37 ((e_id e : Int) * 9) - 1)).2 34 = (w_fs V 2 1).2 34 := w_scp_2 _ _ (by decide)
  have c37 : (w_f (w_scp (w_fs V 2 1) (pH (V.2 13) u 1)) 41 10 (w_g (w_fs V 2 1) 37 ((e_id e : Int) * 9) - 1)).2 37 = (w_fs V 2 1).2 37 := w_scp_2 _ _ (by decide)
  have X2 := xP_S L (RD_oK T1.1)
  have ew := R1.1
  generalize w_f (w_scp (w_fs V 2 1) (pH (V.2 13) u 1)) 41 10 (w_g (w_fs V 2 1) 37 ((e_id e : Int) * 9) - 1) = W1 at *
  have e6 : eW W1 0 false (e_part e) := by
    rw [epart]
    exact eW_x X2 hpa.2
  have hpid : e_id (e_part e) < 1000 := eR_id e6.1
  have x2 : xP V W1 := xP_tr x1 X2
  have FW : ∀ g : Int, 0 ≤ g → f_t W1 g = if g = 2 then 1 else f_t V g := fun g hg => by
    have z := f_t_fs0 (w := V) (f := 2) (x := 1) (g := g) (by omega) (by decide) hg
    rw [← z]
    unfold f_t w_g
    rw [c33, c34, show (w_fs V 2 1).1 33 1 = ((q_fr q).length : Int) + 1 from h33]
  refine ev_sim (C := g_C G q) (sil := sil) (o := o) (K0 := K0) m (e_part e) (n_get cl) false _ v E1 sb hrun 0 False _ fr Q (i + 1) R1 e6 due (fun z => z.elim) hr (by omega) (by show i + 1 + 12 * (s_b sb : Int) ≤ 900000 + 12 * (s_b s : Int); omega) hB fun i7 w7 l1 l2 R7 c7 Q7 v7 d7 => ?_
  have l2 : i7 + 12 * (s_b s : Int) ≤ i + 1 + 12 * (s_b sb : Int) := l2
  have F7 : ∀ g : Int, 0 ≤ g ∧ g < 13 → f_t w7 g = f_t W1 g := fun g hg => f_t_Q Q7 c7 (by omega) (fun z => by cases z) hg
  have f0 : f_t w7 0 = 11 := by rw [F7 0 (by decide), FW 0 (by decide)]; exact F0
  have f1 : f_t w7 1 = u := by rw [F7 1 (by decide), FW 1 (by decide)]; exact F1
  have f2 : f_t w7 2 = 1 := by rw [F7 2 (by decide), FW 2 (by decide)]; rfl
  rw [c33] at c7
  have w12 : w7.1 41 12 = 0 := by rw [Q7.1.1]; exact c12
  have x7 : xP V w7 := xP_tr x2 Q7.2.2.2
  have b7 : ∀ k : Nat, k < 13 * (q_fr q).length → w7.2 34 k = V.2 34 k := fun k hk => by
    rcases Q7.2.1 k (by rw [c33]; omega) with z | z
    · cases z.1
    · rw [z, c34, fs_34 h33 (by decide), if_neg (by omega)]
  have pu : pH (w7.2 13) u 3 = (e_id e : Int) := by
    rw [← p3]
    unfold pH
    rw [if_neg (by omega), if_neg (by omega)]
    exact x7.1.2 _ (by omega)
  have C1 : CR (g_C G q) sil o 0 False K0 sb (w_f (w_fs w7 2 (1 + 1)) 41 12 ((w_fs w7 2 (1 + 1)).1 41 12 - 1)) := CR_S R7.1 (wS_tr (wS_fs w7 2 _) (wS_f (Or.inr ⟨rfl, by omega⟩)))
  have hoK : oK w7 := RD_oK R7.1
  have xz : xP w7 (w_f (w_fs w7 2 (1 + 1)) 41 12 ((w_fs w7 2 (1 + 1)).1 41 12 - 1)) := xP_S (wS_tr (wS_fs w7 2 _) (wS_f (Or.inr ⟨rfl, by omega⟩))) hoK
  have x8 := xP_tr x7 xz
  have g34 : ∀ k : Nat, (w_fs w7 2 (1 + 1)).2 34 k = if k = 13 * (q_fr q).length + 2 then 1 + 1 else w7.2 34 k := fun k => fs_34 c7 (by decide) k
  have A : XR G sil o K0 sb (p_fr q ((4, .nil, 0, 0, 0) :: q_fr q)) (w_f (w_fs w7 2 (1 + 1)) 41 12 ((w_fs w7 2 (1 + 1)).1 41 12 - 1)) := by
    obtain ⟨y1, y2, y3, y4⟩ := XB_X T.1.1.1.1 T.2.1 (CR_o T.1).1 x8 (fun k hk => by
      show (w_fs w7 2 (1 + 1)).2 34 k = _
      rw [g34, if_neg (by omega)]
      exact b7 k hk)
    have f0' := f0
    have f1' := f1
    rw [f_t_at c7 (by decide)] at f0' f1'
    have f0' : w7.2 34 (13 * (q_fr q).length + 0) = 11 := f0'
    have f1' : w7.2 34 (13 * (q_fr q).length + 1) = u := f1'
    refine ⟨C1, y1, y2, y3, ⟨⟨?_, ?_, ?_⟩, y4⟩, ?_, ?_, ?_⟩
    · show (w_fs w7 2 (1 + 1)).2 34 (13 * (q_fr q).length) = 11
      rw [g34, if_neg (by omega)]
      exact f0'
    · show (w_fs w7 2 (1 + 1)).2 34 (13 * (q_fr q).length + 2) = 2
      rw [g34, if_pos rfl]
      rfl
    · show -100000 ≤ (w_fs w7 2 (1 + 1)).2 34 (13 * (q_fr q).length + 1) ∧ (w_fs w7 2 (1 + 1)).2 34 (13 * (q_fr q).length + 1) < 10000000
      rw [g34, if_neg (by omega), f1']
      omega
    · exact c7
    · exact d7
    · show w7.1 41 12 - 1 = -1
      rw [w12]
      rfl
  have vv : vW_ (w_f (w_fs w7 2 (1 + 1)) 41 12 ((w_fs w7 2 (1 + 1)).1 41 12 - 1)) v (w7.1 41 11) := vW_x xz R7.1.2.2.1.2.2.2.1.1 v7
  -- the part's place
  have e9 : eW (w_f (w_fs w7 2 (1 + 1)) 41 12 ((w_fs w7 2 (1 + 1)).1 41 12 - 1)) 0 hb' e := eW_x x8 ⟨eRx, tIx⟩
  rw [he0] at e9
  obtain ⟨-, -, -, hp9, -⟩ := eW_ce e9
  have hp9 := (hp9 (by rcases hk with rfl | rfl <;> decide)).1
  rw [← eid, ← epart] at hp9
  have Z := la_fin (u := u) (id := e_id e) (p := e_id (e_part e)) (v := v) A vv (by omega) hp9 hpid hB.2 (by omega) hpg hnx h12
  exact dr_11 ⟨by omega, by omega⟩ d7 (by omega) f0 (lk_1250 (id := (e_id e : Int)) f1 (by omega) f2 (by decide) (by omega) pu (lk_125b1 Z)) (by omega) (by omega) fun w' h => K (i7 + 1) w' (by omega) (by omega) h
end
