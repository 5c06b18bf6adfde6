/-! ===== realizing: a rule ===== -/
section
variable {sil : Bool} {s s1 s2 : S_} {w w' : W_} {Γ Γ' : rG_} {G : G_} {q q1 : Q_} {fr K L : Nat} {P : Option am_V → W_ → Prop} {y : Int}
/-- what is behind it waits, and its content -/
theorem rX_wait2 {v1 : T_} {z o : Int} {wi : Nat} {us : List Nat} {n : Nat} {l : List F_} {tok : F_} (H : rXC G sil s2 (p_wi q wi us) w Γ) (h52 : w.1 73 52 = (n : Int)) (hT : rST w Γ 910 (rLm s2) n l) (e : lT (q_fr q) = l) (hK : rKf (q_fr q)) (ht : (o = 2 ∧ tok = (3, .nil, 0, 0, 0)) ∨ (o = 4 ∧ tok = (4, .nil, 0, 0, 0))) (hz : rCC w Γ z (rFL v1)) (hv : vK v1) (hb : n ≤ 910 * cRl l + rLm s2 ∧ (s_b s2 < 300 → n ≤ 910 * cRl l + 909)) (hb2 : n ≤ 910 * cRl l + 910 ∨ False) (hu : (s_b s2 < 300 → uW (w.2 92) z.toNat ≤ 909) ∧ uW (w.2 92) z.toNat ≤ 5411) : rXR G sil s2 (p_fr (p_wi q wi us) ((0, v1, 0, 0, 0) :: tok :: q_fr q)) (r_wt (r_wt w o 0 0 0) 0 z 0 0) Γ := by
  have S1 := r_wt_WS w o 0 0 0
  obtain ⟨n1, ⟨y1, -, -, -⟩, -⟩ := r_wt_at (o := o) (a := 0) (b := 0) (c := 0) h52
  have T1 := rST_push (o := o) (a := 0) (b := 0) (c := 0) (l1 := [tok]) h52 hT ⟨hb.1, by
    rcases ht with ⟨h1, h2⟩ | ⟨h1, h2⟩
    · exact Or.inr (Or.inr (Or.inl ⟨by rw [y1, h1], by rw [h2]⟩))
    · exact Or.inr (Or.inr (Or.inr (Or.inr ⟨by rw [y1, h1], by rw [h2]⟩)))⟩
  have cr : cRl ([tok] ++ l) = 1 + cRl l := by
    rw [cRl_app]
    rcases ht with ⟨-, h2⟩ | ⟨-, h2⟩ <;> rw [h2] <;> rfl
  have ft : fT tok = [tok] := by
    rcases ht with ⟨-, h2⟩ | ⟨-, h2⟩ <;> rw [h2] <;> rfl
  have k0 : tok.1 ≠ 0 ∧ tok.1 ≠ 5 := by
    rcases ht with ⟨-, h2⟩ | ⟨-, h2⟩ <;> rw [h2] <;> exact ⟨by decide, by decide⟩
  generalize r_wt w o 0 0 0 = w2 at S1 n1 T1 ⊢
  have S2 := r_wt_WS w2 0 z 0 0
  obtain ⟨n2, ⟨z1, z2, -, -⟩, -⟩ := r_wt_at (o := 0) (a := z) (b := 0) (c := 0) n1
  have S12 := rWS_tr S1 S2
  have bd : n + 1 + uW (w.2 92) z.toNat ≤ 910 * (1 + cRl l) + rLm s2 := by
    have u1 := hu.1
    have u2 := hu.2
    have b2 := hb.2
    unfold rLm
    by_cases c : s_b s2 < 300
    · rw [if_pos c]
      have := u1 c
      have := b2 c
      omega
    · rw [if_neg c]
      rcases hb2 with q | q
      · omega
      · exact q.elim
  have T2 := rST_push (o := 0) (a := z) (b := 0) (c := 0) (l1 := (rFL v1).map fP) n1 T1 ⟨by rw [cr]; omega, Or.inl ⟨z1, rFL v1, rfl, by rw [z2]; exact rCC_mono (rWS_X (R := -1) S12) hz, by rw [z2, S12.2 92 (by omega), cr]; exact bd⟩⟩
  refine ⟨rX_fr (rX_ws H S12), ⟨n + 1 + 1, n2, ?_⟩, fun _ => hv, ?_⟩
  · show rST _ Γ 910 (rLm s2) (n + 1 + 1) (lT ((0, v1, 0, 0, 0) :: tok :: q_fr q))
    rw [lT_cons, lT_cons, ft, e]
    exact T2
  · obtain ⟨k, v, x⟩ := tok
    exact ⟨fun q => absurd q (fun q => q.elim k0.1 k0.2), hK⟩
/-- a rule is used -/
theorem rX_use {el r : T_} {c n i : Nat} {l : List F_} {x : Int} (H : rXC G sil s q w Γ) (H9 : ∃ nq : Nat, rRC (g_C G q) sil False (8 + (nq : Int)) 0 s w Γ ∧ nq ≤ cW (w.2 92) (w.1 73 26 - 1).toNat ∧ nq + 1 ≤ q_el q) (h52 : w.1 73 52 = (n : Int)) (hT : rST w Γ 910 (rLm s) n l) (e : lT (q_fr q) = l) (hK : rKf (q_fr q)) (hc : 0 < c ∧ (c : Int) < w.1 73 26) (hcc : rCC w Γ (c : Int) [el]) (hel : rFL el = [el] ∧ v_isC el = true ∧ vv el) (hr : (q_rl q)[i]? = some r) (hx : x = w.2 111 i) (hb : n ≤ 910 * cRl l + rLm s) (hwi : q_wi q ≤ 12 ∧ (q_wi q < 12 → cRl l ≤ 11)) (hp : q_pg q + (q_wi q : Nat) + 1 ≤ 2 * (q_el q : Nat) ∧ q_nx q 41 + (q_wi q : Nat) + 1 ≤ (q_el q : Nat)) (hul : (q_us q).length ≤ q_wi q) (hE : x_rule (fun C => ev C x_F) G sil r el s q = some (s1, q1)) (hs1 : s_b s1 ≤ 90000 ∧ s_nt s1 ≤ 900000 ∧ s_tb s1 ≤ 1800) (h1 : 2045 ≤ fr) : ww_Ct 226 fr [.inr (.inr (.inl 73)), .inl x, .inl (c : Int)] w fun r w' => r = none ∧ ∃ Γ', rXR G sil s1 q1 w' Γ' := by
  obtain ⟨-, h47, ⟨⟨⟨x1, x2, x3, x4⟩, -⟩, hB⟩, ⟨⟨y1, y2⟩, y3⟩, -⟩ := id H
  obtain ⟨nq, k1, k2, k3⟩ := H9
  have el1 : q_el q ≤ 201 := hB.2.2.2.2.2
  have B := rRC_bd k1
  have S3 := k1.2.2.2.2.1.1
  have e62 : w.1 73 62 = (((q_us q).length : Nat) : Int) := S3.1.symm
  obtain ⟨⟨b1, b1', b2, -⟩, ⟨b3, b4⟩, ⟨b5, b6⟩, ⟨b7, b8⟩, b9⟩ := id k1.2.2.1
  obtain ⟨c1, c2⟩ := y2 i r hr
  have cr := c1.1
  have c0 : w.2 111 i ≠ 0 := fun z => by
    have := (rCC_0 k1.1 c1).1 z
    cases this
  have T := (k1.1.2.2.1 (w.2 111 i).toNat (by omega) (by omega)).2.2
  have hL : rLF w Γ r (w.2 111 i).toNat := by
    rcases T with ⟨z, -⟩ | ⟨-, t', z1, z2⟩
    · rw [c2] at z; cases z
    · have z3 : Γ.1 (w.2 111 i).toNat = [r] := c1.2
      rw [z1] at z3
      cases z3
      exact z2
  obtain ⟨n', e1, f, rfl, f1, f2, f3, k, f4, f5, f6, f7, f8⟩ := rLF_11 hL c2
  obtain ⟨i1, i2, i3, i4⟩ := rEN_id f3 (Or.inl f8)
  have m0 : 0 ≤ w.2 95 (w.2 111 i).toNat ∧ w.2 95 (w.2 111 i).toNat < 1024 := by omega
  rw [← hx] at i1 i2 i3 m0 f1 f4 c1 c2 cr c0
  have hzz : ∀ kk : Nat, f_code kk (e_id e1) = 100000 * (kk : Int) + (10000 * w.2 79 (w.2 95 x.toNat).toNat + 100 * w.2 80 (w.2 95 x.toNat).toNat) := fun kk => by
    unfold f_code
    rw [f_spot_e, i2, i3]
  have hE : (if 12 ≤ q_wi q then some (f_note (g_C G q) (f_code 5 (e_id e1)) s, q) else if 300 ≤ s_b s then some (f_note (g_C G q) (f_code 6 (e_id e1)) s, q) else if s_rw s < 2040 then (match ev (g_C G q) 512 sil (e_part (v_code f)) (n_body (v_code f) (v_clos f) el f) false (u_rw (u_rn (u_dp s 1) (s_rn s + 1) (s_tk s)) (s_rw s + 1)) with
      | some (v, _, s1) => (match f_fu x_L (g_C G q) v (e_id e1) (u_dp s1 0) with
        | some s2 => some (s2, p_fr (p_wi q (q_wi q + 1) (q_us q ++ [e_id e1])) ((0, v, 0, 0, 0) :: (3, .nil, 0, 0, 0) :: q_fr q))
        | none => none)
      | none => none) else none) = some (s1, q1) := hE
  by_cases d1 : 12 ≤ q_wi q
  · rw [if_pos d1] at hE
    cases hE
    have nn : s_nt s + 1 ≤ 900000 := hs1.2.1
    obtain ⟨H2, X2, O2⟩ := rX_note (c := 5) H (hzz 5) (by omega)
    exact lk_226a (i := ((q_wi q : Nat) : Int)) (by omega) (by omega) rfl m0 x3 (by omega) (by omega) (by omega) ⟨rfl, Γ, rX_fin (l := l) (n := n) H2 e (by rw [O2.1 73 52 (by omega)]; exact h52) (rST_Ot X2 O2 (Nat.le_refl _) hT) hK⟩
  · rw [if_neg d1] at hE
    by_cases d2 : 300 ≤ s_b s
    · rw [if_pos d2] at hE
      cases hE
      have nn : s_nt s + 1 ≤ 900000 := hs1.2.1
      obtain ⟨H2, X2, O2⟩ := rX_note (c := 6) H (hzz 6) (by omega)
      exact lk_226b (i := ((q_wi q : Nat) : Int)) (b := ((s_b s : Nat) : Int)) (by omega) (by omega) rfl m0 x3 (by omega) (by omega) (by omega) b1 (by omega) ⟨rfl, Γ, rX_fin (l := l) (n := n) H2 e (by rw [O2.1 73 52 (by omega)]; exact h52) (rST_Ot X2 O2 (Nat.le_refl _) hT) hK⟩
    · rw [if_neg d2] at hE
      by_cases d3 : s_rw s < 2040
      · rw [if_pos d3] at hE
        cases hr1 : ev (g_C G q) 512 sil (e_part (v_code f)) (n_body (v_code f) (v_clos f) el f) false (u_rw (u_rn (u_dp s 1) (s_rn s + 1) (s_tk s)) (s_rw s + 1)) with
        | none => rw [hr1] at hE; cases hE
        | some zz =>
          obtain ⟨v1, E1, s3⟩ := zz
          rw [hr1] at hE
          dsimp only at hE
          cases hf : f_fu x_L (g_C G q) v1 (e_id e1) (u_dp s3 0) with
          | none => rw [hf] at hE; cases hE
          | some s2 =>
            rw [hf] at hE
            dsimp only at hE
            cases hE
            obtain ⟨g1, g2, g3, g4⟩ := f_fu_nt hf
            have g1 : s_b s1 = s_b s3 := g1
            have g2 : s_nt s3 ≤ s_nt s1 := g2
            have F1 : ∀ b j, ¬ (b = 73 ∧ j = 80) → (w_f w 73 80 (((s_rn s : Nat) : Int) + 1)).1 b j = w.1 b j := fun b j a => w_f_ne _ _ _ _ _ _ a
            have K1 : rRC (g_C G q) sil False (8 + (nq : Int)) 0 (u_rn s (s_rn s + 1) (s_tk s)) (w_f w 73 80 (((s_rn s : Nat) : Int) + 1)) Γ := rRC_sn (sil' := sil) k1 (fun b j a => F1 b j (by omega)) rfl ⟨by rw [w_f1, w_u_at, if_pos ⟨rfl, rfl⟩]; omega, by rw [F1 73 81 (by omega)]; exact b8⟩ (by rw [F1 73 79 (by omega)]; exact b9)
            have XA : rXT w Γ (w_f w 73 80 (((s_rn s : Nat) : Int) + 1)) Γ (-1) := rXT_same (fun j a => F1 73 j (by omega)) (fun _ _ _ => rfl)
            have OA : rOt w (w_f w 73 80 (((s_rn s : Nat) : Int) + 1)) := rOt_mk (fun a j h => F1 a j (by omega)) (fun _ _ => rfl)
            obtain ⟨K2, XB, OB, -⟩ := rRC_dp (n := 512) (hb := false) (R := -1) (dp := 1) K1 (by omega)
            have X2 := rXT_trans (R := -1) XA XB (Or.inl rfl) (Or.inl rfl)
            have O2 := rOt_tr OA OB
            have V2 : rVF (w_f (w_f w 73 80 (((s_rn s : Nat) : Int) + 1)) 73 43 ((1 : Nat) : Int)) Γ el (8 * (c : Int) + 2) := rVF_mono X2 ⟨hel.2.2, Or.inr (Or.inr (Or.inr (Or.inr (Or.inr ⟨c, hel.2.1, rfl, hc.2, by have z := hcc.2; rw [show ((c : Int)).toNat = c by omega] at z; rw [z, hel.1]⟩))))⟩
            generalize hw2 : w_f (w_f w 73 80 (((s_rn s : Nat) : Int) + 1)) 73 43 ((1 : Nat) : Int) = w2 at *
            have k17 : (k : Int) < w2.1 73 17 := by have := X2.1.1.2.2.1; omega
            obtain ⟨e2, cl, own, h21, -⟩ := K2.1.2.2.2.2 k k17
            rw [f6] at h21
            subst h21
            have B2 := rRC_bd K2
            have B2' := K2.2.2.2.2.2.2.2.1.2.2.1
            have s17 : w.1 73 17 ≤ 2040 := by have := k1.2.2.2.2.2.2.2.1.2.2.1; omega
            have R211 := lk_211 (f := k) (fr := fr - 1) (a := 8 * (c : Int) + 2) (rec := ev (g_C G q) 512) (v1 := v1) (E1 := E1) (s1 := s3) K2 k17 (by omega) f6 V2 hr1 (ev_rS (g_C G q) 512 (by omega) sil) d3 (by omega) ⟨by omega, by omega⟩ (by omega)
            refine lk_226c (i := ((q_wi q : Nat) : Int)) (b := ((s_b s : Nat) : Int)) (t := ((s_rn s : Nat) : Int)) (c := (k : Int)) (R1 := fun y w' => ∃ Γ', rRC (g_C G q) sil False (8 + (nq : Int)) 0 s3 w' Γ' ∧ rVF w' Γ' v1 y ∧ rPO 512 false (u_dp (u_rn s (s_rn s + 1) (s_tk s)) 1) s3 w2 Γ w' Γ' (-1)) (by omega) (by omega) rfl m0 x3 (by omega) (by omega) b1 (by omega) (by omega) f4 b7 ?_ ?_
            · have hw2' : w_f (w_f w 73 80 (((s_rn s : Nat) : Int) + 1)) 73 43 1 = w2 := hw2
              rw [hw2']
              exact R211
            · rintro y w3 ⟨Γ3, K3, V3, X3, O3, -⟩
              obtain ⟨K4, X4, O4, -⟩ := rRC_dp (n := 512) (hb := false) (R := -1) (dp := 0) K3 (by omega)
              have V4 := rVF_mono X4 V3
              have X03 := rXT_trans (R := -1) X2 X3 (Or.inl rfl) (Or.inl rfl)
              have O03 := rOt_tr O2 O3
              have A3 := X03.1.2 (w.2 95 x.toNat).toNat (by omega) (by omega)
              have X04 := rXT_trans (R := -1) X03 X4 (Or.inl rfl) (Or.inl rfl)
              have O04 := rOt_tr O03 O4
              have R195 := lk_195Q (n := 512) (hb := false) (R := -1) (fr := fr - 1) (f := w3.2 79 (w.2 95 x.toNat).toNat) (p := w3.2 80 (w.2 95 x.toNat).toNat) K4 V4 hf (Or.inr ⟨by rw [A3.1.2.2.1]; exact i2, by rw [A3.1.2.2.2]; exact i3⟩) (by unfold x_L; omega) (by omega) hs1.2.1
              refine lk_226d (R1 := fun z w' => ∃ (Γ' : rG_) (d : Nat), (d = 0 ∨ d = 1 ∧ w'.1 73 26 = (w_f w3 73 43 ((0 : Nat) : Int)).1 73 26 + 1 ∧ w'.2 92 ((w_f w3 73 43 ((0 : Nat) : Int)).1 73 26).toNat = 0) ∧ rRC (g_C G q) sil False (8 + (nq : Int) + (d : Int)) 0 s1 w' Γ' ∧ rCC w' Γ' z (rFL v1) ∧ rPO 512 false (u_dp s3 0) s1 (w_f w3 73 43 ((0 : Nat) : Int)) Γ3 w' Γ' (-1)) (by omega) m0 R195 ?_
              rintro z w5 ⟨Γ5, d, hd, K5, C5, X5, O5, -⟩
              generalize w_f w3 73 43 ((0 : Nat) : Int) = w4 at *
              have X05 := rXT_trans (R := -1) X04 X5 (Or.inl rfl) (Or.inl rfl)
              have O05 := rOt_tr O04 O5
              have B4 := rRC_bd K4
              have w0 := cW_X X04 (by omega)
              have nd : nq + d ≤ cW (w5.2 92) (w5.1 73 26 - 1).toNat := by
                rcases hd with rfl | ⟨rfl, q1, q2⟩
                · have := cW_X X5 (by omega); omega
                · have := cW_one X5 (by omega) q1 q2; omega
              have K5' : rRC (g_C G q) sil False (8 + ((nq + d : Nat) : Int)) 0 s1 w5 Γ5 := by
                have e : 8 + ((nq + d : Nat) : Int) = 8 + (nq : Int) + (d : Int) := by omega
                rw [e]; exact K5
              have d1' : d ≤ 1 := by rcases hd with rfl | ⟨rfl, -⟩ <;> omega
              have H5 := rX_PO H K5' ⟨nd, by omega⟩ X05 O05
              have Lm : rLm s ≤ rLm s1 := by
                unfold rLm
                rw [if_pos (by omega)]
                split <;> omega
              have LmE : rLm s = 909 := by unfold rLm; rw [if_pos (by omega)]
              have T5 := rST_Ot (L' := rLm s1) X05 O05 Lm hT
              have n5 : w5.1 73 52 = (n : Int) := by rw [O05.1 73 52 (by omega)]; exact h52
              have cz := C5.1
              have U := uW_lm (c := z.toNat) K5' nd (by omega) hs1.2.2
              have A5 := (X05.2.2.2.2 x.toNat (by omega)).1
              have A5n := X05.1.2 (w.2 95 x.toNat).toNat (by omega) (by omega)
              have u11 : (q_us q).length ≤ 11 := by omega
              refine lk_226e (i := ((q_wi q : Nat) : Int)) (n := (((q_us q).length : Nat) : Int)) (by omega) (by omega) (by rw [A5.2.2.2.1]) m0 (by rw [O05.1 73 61 (by omega)]; exact x3) (by rw [O05.1 73 62 (by omega)]; exact e62) (by omega) (by rw [n5]; omega) ?_
              have eu : (((q_us q).length : Nat) : Int).toNat = (q_us q).length := by omega
              rw [eu, A5n.1.2.2.1, A5n.1.2.2.2, i2, i3]
              have N6 : ∀ j, j ≠ 61 → j ≠ 62 → (w_f (w_a (w_f w5 73 61 (((q_wi q : Nat) : Int) + 1)) 112 (q_us q).length (100 * ((e_id e1 / 60 : Nat) : Int) + ((e_id e1 % 60 : Nat) : Int))) 73 62 ((((q_us q).length : Nat) : Int) + 1)).1 73 j = w5.1 73 j := fun j a1 a2 => by
                rw [w_f_ne _ _ _ _ _ _ (by omega)]
                show (w_f w5 73 61 (((q_wi q : Nat) : Int) + 1)).1 73 j = _
                rw [w_f_ne _ _ _ _ _ _ (by omega)]
              have A6 : ∀ b, b ≠ 112 → (w_f (w_a (w_f w5 73 61 (((q_wi q : Nat) : Int) + 1)) 112 (q_us q).length (100 * ((e_id e1 / 60 : Nat) : Int) + ((e_id e1 % 60 : Nat) : Int))) 73 62 ((((q_us q).length : Nat) : Int) + 1)).2 b = w5.2 b := fun b a1 => by
                rw [w_f2, w_a_2ne _ _ _ a1, w_f2]
              have E6 : ∀ k, (w_f (w_a (w_f w5 73 61 (((q_wi q : Nat) : Int) + 1)) 112 (q_us q).length (100 * ((e_id e1 / 60 : Nat) : Int) + ((e_id e1 % 60 : Nat) : Int))) 73 62 ((((q_us q).length : Nat) : Int) + 1)).2 112 k = if k = (q_us q).length then 100 * ((e_id e1 / 60 : Nat) : Int) + ((e_id e1 % 60 : Nat) : Int) else w5.2 112 k := fun k => by
                rw [w_f2]
                show (if 112 = 112 ∧ k = (q_us q).length then _ else w5.2 112 k) = _
                by_cases e : k = (q_us q).length
                · rw [if_pos ⟨rfl, e⟩, if_pos e]
                · rw [if_neg (fun q => e q.2), if_neg e]
              have h61 : (w_f (w_a (w_f w5 73 61 (((q_wi q : Nat) : Int) + 1)) 112 (q_us q).length (100 * ((e_id e1 / 60 : Nat) : Int) + ((e_id e1 % 60 : Nat) : Int))) 73 62 ((((q_us q).length : Nat) : Int) + 1)).1 73 61 = ((q_wi q + 1 : Nat) : Int) := by
                rw [w_f_ne _ _ _ _ _ _ (by decide)]
                show (w_f w5 73 61 (((q_wi q : Nat) : Int) + 1)).1 73 61 = _
                rw [w_f1, w_u_at, if_pos ⟨rfl, rfl⟩]; omega
              have h62 : (w_f (w_a (w_f w5 73 61 (((q_wi q : Nat) : Int) + 1)) 112 (q_us q).length (100 * ((e_id e1 / 60 : Nat) : Int) + ((e_id e1 % 60 : Nat) : Int))) 73 62 ((((q_us q).length : Nat) : Int) + 1)).1 73 62 = (((q_us q ++ [e_id e1]).length : Nat) : Int) := by
                rw [w_f1, w_u_at, if_pos ⟨rfl, rfl⟩, List.length_append]; rfl
              generalize w_f (w_a (w_f w5 73 61 (((q_wi q : Nat) : Int) + 1)) 112 (q_us q).length (100 * ((e_id e1 / 60 : Nat) : Int) + ((e_id e1 % 60 : Nat) : Int))) 73 62 ((((q_us q).length : Nat) : Int) + 1) = w6 at N6 A6 E6 h61 h62 ⊢
              have X6 : rXT w5 Γ5 w6 Γ5 (-1) := rXT_same (fun j a => N6 j (by omega) (by omega)) (fun b _ a => A6 b (by omega))
              have H6 : rXC G sil s1 (p_wi q (q_wi q + 1) (q_us q ++ [e_id e1])) w6 Γ5 := by
                refine rX_wi H5 h61 h62 (by rw [List.length_append]; show (q_us q).length + 1 ≤ 12; omega) (fun i' id hi => ?_) ⟨by omega, by omega⟩ (fun j _ a2 a3 => N6 j a2 a3) (fun b a => A6 b (by omega))
                rw [E6]
                by_cases c : i' < (q_us q).length
                · rw [List.getElem?_append_left c] at hi
                  rw [if_neg (by omega), O05.2.1 112 (by omega)]
                  exact y3 i' id hi
                · have il : i' = (q_us q).length := by
                    have z := (List.getElem?_eq_some_iff.1 hi).1
                    rw [List.length_append] at z
                    have z : i' < (q_us q).length + 1 := z
                    omega
                  rw [il, List.getElem?_append_right (Nat.le_refl _), Nat.sub_self] at hi
                  cases hi
                  rw [if_pos il]
                  exact ⟨rfl, i4⟩
              have n6 : w6.1 73 52 = (n : Int) := by rw [N6 52 (by decide) (by decide)]; exact n5
              have T6 := rST_w (w := w5) (w' := w6) (Γ := Γ5) (fun j a => N6 j (by omega) (by omega)) (fun b _ a => A6 b (by omega)) ⟨A6 107 (by decide), A6 108 (by decide), A6 109 (by decide), A6 110 (by decide)⟩ T5
              refine lk_226f (by omega) ?_ ⟨rfl, Γ5, ?_⟩
              · rw [(r_wt_at (o := 2) (a := 0) (b := 0) (c := 0) n6).1]; omega
              · exact rX_wait2 (tok := (3, .nil, 0, 0, 0)) H6 n6 T6 e hK (Or.inl ⟨rfl, rfl⟩) (rCC_mono X6 C5) V3.1.2.2.2 ⟨by omega, fun _ => by omega⟩ (Or.inl (by omega)) (by rw [A6 92 (by decide)]; exact ⟨U.2.1, U.2.2⟩)
      · rw [if_neg d3] at hE; cases hE
end
