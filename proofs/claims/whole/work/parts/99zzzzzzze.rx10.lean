/-! ===== realizing: LATE, headings ===== -/
section
variable {sil : Bool} {s s1 s2 : S_} {w w' : W_} {Γ Γ' : rG_} {G : G_} {q q1 : Q_} {fr K L : Nat} {P : Option am_V → W_ → Prop} {y : Int}
/-- a LATE is run -/
theorem rX_run {e0 cl : T_} {c n : Nat} {l : List F_} (H : rXC G sil s q w Γ) (H9 : ∃ nq : Nat, rRC (g_C G q) sil False (8 + (nq : Int)) 0 s w Γ ∧ nq ≤ cW (w.2 92) (w.1 73 26 - 1).toNat ∧ nq + 1 ≤ q_el q) (h52 : w.1 73 52 = (n : Int)) (hT : rST w Γ 910 (rLm s) n l) (e : lT (q_fr q) = l) (hK : rKf (q_fr q)) (hc : 0 < c ∧ (c : Int) < w.1 73 26) (hL : rLF w Γ (.tag 7 (.append e0 cl)) c) (hb : n ≤ 910 * cRl l + rLm s) (hwi : q_wi q ≤ 12 ∧ (q_wi q < 12 → cRl l ≤ 11)) (hp : q_pg q + (q_wi q : Nat) + 1 ≤ 2 * (q_el q : Nat) ∧ q_nx q 41 + (q_wi q : Nat) + 1 ≤ (q_el q : Nat)) (hul : (q_us q).length ≤ q_wi q) (hE : x_late (fun C => ev C x_F) G sil e0 cl s q = some (s1, q1)) (hs1 : s_b s1 ≤ 90000 ∧ s_nt s1 ≤ 900000 ∧ s_tb s1 ≤ 1800) (h1 : 2045 ≤ fr) : ww_Ct 228 fr [.inr (.inr (.inl 73)), .inl (c : Int)] w fun r w' => r = none ∧ ∃ Γ', rXR G sil s1 q1 w' Γ' := by
  obtain ⟨-, h47, ⟨⟨⟨x1, x2, x3, x4⟩, -⟩, hB⟩, ⟨⟨y1, y2⟩, y3⟩, -⟩ := id H
  obtain ⟨nq, k1, k2, k3⟩ := H9
  have el1 : q_el q ≤ 201 := hB.2.2.2.2.2
  have B := rRC_bd k1
  have S3 := k1.2.2.2.2.1.1
  have e62 : w.1 73 62 = (((q_us q).length : Nat) : Int) := S3.1.symm
  obtain ⟨⟨b1, b1', b2, -⟩, ⟨b3, b4⟩, ⟨b5, b6⟩, ⟨b7, b8⟩, b9⟩ := id k1.2.2.1
  obtain ⟨t1, t2, t3, row, t4, t5, t6, t7⟩ : w.2 92 c = 22 ∧ rEN w 0 (w.1 73 5) e0 (some none) (w.2 93 c) ∧ e_kind e0 = 22 ∧ ∃ row : Nat, w.2 94 c = row ∧ (row : Int) < w.1 73 15 ∧ Γ.2.2.2 row = true ∧ rNF w Γ (e_use e0) (n_get cl) row := hL
  obtain ⟨i1, i2, i3, i4⟩ := rEN_id t2 (Or.inr (Or.inl t3))
  have cc : ((c : Int)).toNat = c := by omega
  have m0 : 0 ≤ w.2 93 c ∧ w.2 93 c < 1024 := by omega
  have ix : (3 * w.2 93 c + 0).toNat = 3 * (w.2 93 c).toNat := by omega
  have hzz : ∀ kk : Nat, f_code kk (e_id e0) = 100000 * (kk : Int) + (10000 * w.2 79 (w.2 93 c).toNat + 100 * w.2 80 (w.2 93 c).toNat) := fun kk => by
    unfold f_code
    rw [f_spot_e, i2, i3]
  have hE : (if 12 ≤ q_wi q then some (f_note (g_C G q) (f_code 5 (e_id e0)) s, q) else if 300 ≤ s_b s then some (f_note (g_C G q) (f_code 6 (e_id e0)) s, q) else if s_rw s < 2040 then (match ev (g_C G q) 512 sil (e_part e0) (n_get cl) false (u_rw s (s_rw s + 1)) with
      | some (v, _, s1) => (match f_fu x_L (g_C G q) v (e_id (e_part e0)) s1 with
        | some s2 => some (s2, p_fr (p_wi q (q_wi q + 1) (q_us q)) ((0, v, 0, 0, 0) :: (4, .nil, 0, 0, 0) :: q_fr q))
        | none => none)
      | none => none) else none) = some (s1, q1) := hE
  by_cases d1 : 12 ≤ q_wi q
  · rw [if_pos d1] at hE
    cases hE
    have nn : s_nt s + 1 ≤ 900000 := hs1.2.1
    obtain ⟨H2, X2, O2⟩ := rX_note (c := 5) H (hzz 5) (by omega)
    exact lk_228a (m := w.2 93 c) (i := ((q_wi q : Nat) : Int)) (by omega) (by omega) (by rw [cc]) m0 rfl x3 (by omega) (by omega) (by omega) ⟨rfl, Γ, rX_fin (l := l) (n := n) H2 e (by rw [O2.1 73 52 (by omega)]; exact h52) (rST_Ot X2 O2 (Nat.le_refl _) hT) hK⟩
  · rw [if_neg d1] at hE
    by_cases d2 : 300 ≤ s_b s
    · rw [if_pos d2] at hE
      cases hE
      have nn : s_nt s + 1 ≤ 900000 := hs1.2.1
      obtain ⟨H2, X2, O2⟩ := rX_note (c := 6) H (hzz 6) (by omega)
      exact lk_228b (m := w.2 93 c) (i := ((q_wi q : Nat) : Int)) (b := ((s_b s : Nat) : Int)) (by omega) (by omega) (by rw [cc]) m0 rfl x3 (by omega) (by omega) (by omega) b1 (by omega) ⟨rfl, Γ, rX_fin (l := l) (n := n) H2 e (by rw [O2.1 73 52 (by omega)]; exact h52) (rST_Ot X2 O2 (Nat.le_refl _) hT) hK⟩
    · rw [if_neg d2] at hE
      by_cases d3 : s_rw s < 2040
      · rw [if_pos d3] at hE
        cases hr1 : ev (g_C G q) 512 sil (e_part e0) (n_get cl) false (u_rw s (s_rw s + 1)) with
        | none => rw [hr1] at hE; cases hE
        | some zz =>
          obtain ⟨v1, E1, s3⟩ := zz
          rw [hr1] at hE
          dsimp only at hE
          cases hf : f_fu x_L (g_C G q) v1 (e_id (e_part e0)) s3 with
          | none => rw [hf] at hE; cases hE
          | some s2 =>
            rw [hf] at hE
            dsimp only at hE
            cases hE
            obtain ⟨g1, g2, g3, g4⟩ := f_fu_nt hf
            rcases rEN_or t2 with ⟨kk, nn, id, a', b', c', rfl⟩ | rfl
            · have k22 : kk = 22 := t3
              subst kk
              have ea := t2
              rw [rEN_ce] at ea
              obtain ⟨-, -, -, -, e1, -⟩ := ea
              have ea := e1 (by decide)
              rw [if_neg (by decide)] at ea
              have hr1 : ev (g_C G q) 512 sil a' (n_get cl) false (u_rw s (s_rw s + 1)) = some (v1, E1, s3) := hr1
              have hf : f_fu x_L (g_C G q) v1 (e_id a') s3 = some s1 := hf
              have ele := kid_lt ea
              obtain ⟨H1, P1, N1, q15, Z1⟩ := rCopy (row := row) (n := 512) (hb := false) (R := -1) false k1 b5 (by omega) d3
              have N1 := N1 _ _ t7
              have ea1 := rEN_X P1.1 ea
              have R207 := ev_rS (g_C G q) 512 (by omega) sil a' (n_get cl) false (u_rw s (s_rw s + 1)) v1 E1 s3 hr1 False (8 + (nq : Int)) 0 (e_use (ce 22 nn id a' b' c')) (r_copy w (row : Int)) (rGz Γ (s_rw s) false) (w.2 81 (3 * (w.2 93 c).toNat)) (s_rw s) (fr - 1) H1 (by omega) ea1 (fun m _ hm => by
                show (e_nm a' m && !((22 : Nat) == 16 && _)) = true
                rw [hm]; rfl) N1 ⟨by omega, Z1⟩ (by omega) ⟨by omega, by omega⟩
              have c79 : ∀ b, b ≠ 84 → (r_copy w (row : Int)).2 b = w.2 b := fun b hb => r_copy_b _ _ hb
              refine lk_228c (m := w.2 93 c) (x := w.2 81 (3 * (w.2 93 c).toNat)) (i := ((q_wi q : Nat) : Int)) (b := ((s_b s : Nat) : Int)) (r := (row : Int)) (R1 := fun y w' => ∃ Γ', rRC (g_C G q) sil False (8 + (nq : Int)) 0 s3 w' Γ' ∧ rVF w' Γ' v1 y ∧ rXT w Γ w' Γ' (-1) ∧ rOt w w') (by omega) (by omega) (by rw [cc]) m0 (by rw [ix]) x3 (by omega) (by omega) b1 (by omega) (by rw [cc]; exact t4) (by omega) ?_ ?_
              · rw [b5]
                have R207 : ww_Ct 207 (fr - 1) [.inr (.inr (.inl 73)), .inl (w.2 81 (3 * (w.2 93 c).toNat)), .inl ((s_rw s : Nat) : Int), .inl 0] (r_copy w (row : Int)) (rVO (g_C G q) sil False (8 + (nq : Int)) 0 512 false (e_use (ce 22 nn id a' b' c')) (u_rw s (s_rw s + 1)) s3 v1 E1 (s_rw s) (r_copy w (row : Int)) (rGz Γ (s_rw s) false)) := R207
                refine R207.mono ?_
                rintro r w3 ⟨y, rfl, Γ3, K3, V3, -, P3⟩
                exact ⟨y, rfl, Γ3, K3, V3, rXT_trans (R := -1) P1.1 P3.1 (Or.inl rfl) (Or.inr (Or.inl (by omega))), rOt_tr P1.2.1 P3.2.1⟩
              · rintro y w3 ⟨Γ3, K3, V3, X03, O03⟩
                have ki := kid_id (w2 := w3) (ev_rBr (g_C G q) 512) hr1 ea X03.1.2
                have R195 := lk_195Q (n := 512) (hb := false) (R := -1) (fr := fr - 1) (f := w3.2 79 (w.2 81 (3 * (w.2 93 c).toNat)).toNat) (p := w3.2 80 (w.2 81 (3 * (w.2 93 c).toNat)).toNat) K3 V3 hf ki (by unfold x_L; omega) (by omega) hs1.2.1
                refine lk_228d (R1 := fun z w' => ∃ (Γ' : rG_) (d : Nat), (d = 0 ∨ d = 1 ∧ w'.1 73 26 = w3.1 73 26 + 1 ∧ w'.2 92 (w3.1 73 26).toNat = 0) ∧ rRC (g_C G q) sil False (8 + (nq : Int) + (d : Int)) 0 s1 w' Γ' ∧ rCC w' Γ' z (rFL v1) ∧ rPO 512 false s3 s1 w3 Γ3 w' Γ' (-1)) (by omega) (by omega) R195 ?_
                rintro z w5 ⟨Γ5, d, hd, K5, C5, X5, O5, -⟩
                have X05 := rXT_trans (R := -1) X03 X5 (Or.inl rfl) (Or.inl rfl)
                have O05 := rOt_tr O03 O5
                have B4 := rRC_bd K3
                have w0 := cW_X X03 (by omega)
                have nd : nq + d ≤ cW (w5.2 92) (w5.1 73 26 - 1).toNat := by
                  rcases hd with rfl | ⟨rfl, q1, q2⟩
                  · have := cW_X X5 (by omega); omega
                  · have := cW_one X5 (by omega) q1 q2; omega
                have K5' : rRC (g_C G q) sil False (8 + ((nq + d : Nat) : Int)) 0 s1 w5 Γ5 := by
                  have e : 8 + ((nq + d : Nat) : Int) = 8 + (nq : Int) + (d : Int) := by omega
                  rw [e]; exact K5
                have d1' : d ≤ 1 := by rcases hd with rfl | ⟨rfl, -⟩ <;> omega
                have H5 := rX_PO H K5' ⟨nd, by omega⟩ X05 O05
                have Lm : rLm s ≤ rLm s1 := by
                  unfold rLm
                  rw [if_pos (by omega)]
                  split <;> omega
                have LmE : rLm s = 909 := by unfold rLm; rw [if_pos (by omega)]
                have T5 := rST_Ot (L' := rLm s1) X05 O05 Lm hT
                have n5 : w5.1 73 52 = (n : Int) := by rw [O05.1 73 52 (by omega)]; exact h52
                have cz := C5.1
                have U := uW_lm (c := z.toNat) K5' nd (by omega) hs1.2.2
                refine lk_228e (i := ((q_wi q : Nat) : Int)) (by omega) (by rw [O05.1 73 61 (by omega)]; exact x3) (by rw [n5]; omega) ?_
                have N6 : ∀ j, j ≠ 61 → (w_f w5 73 61 (((q_wi q : Nat) : Int) + 1)).1 73 j = w5.1 73 j := fun j a1 => w_f_ne _ _ _ _ _ _ (by omega)
                have h61 : (w_f w5 73 61 (((q_wi q : Nat) : Int) + 1)).1 73 61 = ((q_wi q + 1 : Nat) : Int) := by
                  rw [w_f1, w_u_at, if_pos ⟨rfl, rfl⟩]; omega
                have A6 : (w_f w5 73 61 (((q_wi q : Nat) : Int) + 1)).2 = w5.2 := rfl
                generalize w_f w5 73 61 (((q_wi q : Nat) : Int) + 1) = w6 at N6 A6 h61 ⊢
                have X6 : rXT w5 Γ5 w6 Γ5 (-1) := rXT_same (fun j a => N6 j (by omega)) (fun b _ a => by rw [A6])
                have H6 : rXC G sil s1 (p_wi q (q_wi q + 1) (q_us q)) w6 Γ5 := rX_wi H5 h61 (by rw [N6 62 (by decide), O05.1 73 62 (by omega)]; exact e62) (by omega) (fun i' id hi => by rw [A6, O05.2.1 112 (by omega)]; exact y3 i' id hi) ⟨by omega, by omega⟩ (fun j _ a2 _ => N6 j a2) (fun b _ => by rw [A6])
                have n6 : w6.1 73 52 = (n : Int) := by rw [N6 52 (by decide)]; exact n5
                have T6 := rST_w (w := w5) (w' := w6) (Γ := Γ5) (fun j a => N6 j (by omega)) (fun b _ a => by rw [A6]) ⟨by rw [A6], by rw [A6], by rw [A6], by rw [A6]⟩ T5
                refine lk_228f (by omega) ?_ ⟨rfl, Γ5, ?_⟩
                · rw [(r_wt_at (o := 4) (a := 0) (b := 0) (c := 0) n6).1]; omega
                · exact rX_wait2 (tok := (4, .nil, 0, 0, 0)) H6 n6 T6 e hK (Or.inr ⟨rfl, rfl⟩) (rCC_mono X6 C5) V3.1.2.2.2 ⟨by omega, fun _ => by omega⟩ (Or.inl (by omega)) (by rw [A6]; exact ⟨U.2.1, U.2.2⟩)
            · exact absurd t3 (by decide)
      · rw [if_neg d3] at hE; cases hE
theorem x_head_e {G : G_} {id : Nat} {v : T_} {s : S_} {q0 q : Q_} (hq : (if q_in q0 < q_pn q0 then q_nl G q0 else q0) = q) : x_head G id v s q0 = if 12 ≤ q_wi q then (f_note (g_C G q) (f_code 5 id) s, p_nx (q_nl G q) (g_up (q_nx q) 41 (q_nx q 41 + 1))) else (s, p_fr (p_wi q (q_wi q + 1) (q_us q)) ((0, v, 0, 0, 0) :: (2, .nil, 0, 0, 0) :: q_fr q)) := by
  rw [← hq]; rfl
/-- a heading -/
theorem rX_hd {id : Nat} {v : T_} {c n : Nat} {l : List F_} (H : rXC G sil s q w Γ) (h52 : w.1 73 52 = (n : Int)) (hT : rST w Γ 910 (rLm s) n l) (e : lT (q_fr q) = l) (hK : rKf (q_fr q)) (hv : vK v) (hc : 0 < c ∧ (c : Int) < w.1 73 26) (hL : rLF w Γ (.tag 5 (.tag id v)) c) (hb : n + uW (w.2 92) c ≤ 910 * cRl l + rLm s) (hcl : 910 * cRl l + rLm s < 16384) (hwi : q_wi q ≤ 12) (hp : q_pg q + (q_wi q : Nat) + 2 ≤ 2 * (q_el q : Nat) ∧ q_nx q 41 + (q_wi q : Nat) + 1 ≤ (q_el q : Nat)) (hn : s_nt s + 1 ≤ 1000000) (h1 : 2 ≤ fr) : ww_Ct 227 fr [.inr (.inr (.inl 73)), .inl (c : Int)] w fun r w' => r = none ∧ rXR G sil (x_head G id v s q).1 (x_head G id v s q).2 w' Γ := by
  obtain ⟨t1, ⟨t2, t2'⟩, t3, t4, t5⟩ : w.2 92 c = 20 ∧ (0 ≤ w.2 93 c ∧ w.2 93 c < c) ∧ Γ.1 (w.2 93 c).toNat = rFL v ∧ w.2 94 c = ((id / 60 : Nat) : Int) ∧ w.2 95 c = ((id % 60 : Nat) : Int) := hL
  have cc : ((c : Int)).toNat = c := by omega
  have M : ∀ (q' : Q_) (w1 : W_), rXC G sil s q' w1 Γ → w1.2 = w.2 → w1.1 73 26 = w.1 73 26 → w1.1 73 52 = (n : Int) → rST w1 Γ 910 (rLm s) n l → q_fr q' = q_fr q → q_wi q' = q_wi q → q_pg q' + (q_wi q : Nat) + 1 ≤ 2 * (q_el q' : Nat) ∧ q_nx q' 41 + (q_wi q : Nat) + 1 ≤ (q_el q' : Nat) → zr227 fr (fun r w' => r = none ∧ rXR G sil (if 12 ≤ q_wi q' then (f_note (g_C G q') (f_code 5 id) s, p_nx (q_nl G q') (g_up (q_nx q') 41 (q_nx q' 41 + 1))) else (s, p_fr (p_wi q' (q_wi q' + 1) (q_us q')) ((0, v, 0, 0, 0) :: (2, .nil, 0, 0, 0) :: q_fr q'))).1 (if 12 ≤ q_wi q' then (f_note (g_C G q') (f_code 5 id) s, p_nx (q_nl G q') (g_up (q_nx q') 41 (q_nx q' 41 + 1))) else (s, p_fr (p_wi q' (q_wi q' + 1) (q_us q')) ((0, v, 0, 0, 0) :: (2, .nil, 0, 0, 0) :: q_fr q'))).2 w' Γ) 15 (c : Int) w1 := by
    intro q' w1 H1 eA e26 n1 T1 ef ew hp1
    have HH := H1.1
    obtain ⟨nq, k1, -⟩ := HH
    have B := rRC_bd k1
    have S3 := k1.2.2.2.2.1.1
    have e62 : w1.1 73 62 = (((q_us q').length : Nat) : Int) := S3.1.symm
    have u12 : (((q_us q').length : Nat) : Int) ≤ 12 := S3.2.2
    obtain ⟨-, -, ⟨⟨⟨-, -, x3, -⟩, -⟩, -⟩, ⟨-, y3⟩, z3⟩ := _root_.id H1
    by_cases d : 12 ≤ q_wi q'
    · rw [if_pos d]
      have hz : f_code 5 id = 100000 * 5 + (10000 * w1.2 94 c + 100 * w1.2 95 c) := by
        unfold f_code
        rw [f_spot_e, eA, t4, t5]
        rfl
      obtain ⟨H2, X2, O2⟩ := rX_note (c := 5) H1 hz hn
      refine lk_227c (i := ((q_wi q' : Nat) : Int)) (by omega) (by omega) (by omega) x3 (by omega) ?_
      rw [cc]
      have n2 : (r_nt w1 5 (w1.2 94 c) (w1.2 95 c)).1 73 52 = (n : Int) := by rw [O2.1 73 52 (by omega)]; exact n1
      have T2 : rST (r_nt w1 5 (w1.2 94 c) (w1.2 95 c)) Γ 910 (rLm s) n l := rST_Ot X2 O2 (Nat.le_refl _) T1
      generalize r_nt w1 5 (w1.2 94 c) (w1.2 95 c) = w2 at H2 n2 T2 ⊢
      refine lk_227d (by omega) (rX_rn H2) ?_
      have H3 := rX_nl H2 (by omega)
      have e5 : (r_nl w2).2 105 41 = q_nx q' 41 := by rw [r_nl_2]; exact H2.2.2.2.2.1 41 (by omega)
      have H4 := rX_41 H3 (by rw [q_nl_f]; show q_nx q' 41 + 1 + ((q_wi q' : Nat) : Int) ≤ ((q_el q' : Nat) : Int); omega) e5
      have eN : q_nx (q_nl G q') = q_nx q' := by rw [q_nl_f]
      rw [eN] at H4
      refine lk_227e e5 ⟨rfl, ?_⟩
      have X : rXT w2 Γ (w_a (r_nl w2) 105 41 (q_nx q' 41 + 1)) Γ (-1) := rXT_same (fun j q => r_nl_ne w2 (by omega)) (fun b _ _ => by rw [w_a_2ne _ _ _ (by omega), r_nl_2])
      refine rX_fin (l := l) (n := n) H4 (by rw [q_nl_f]; show lT (q_fr q') = l; rw [ef]; exact e) ?_ (rST_mono X (Nat.le_refl _) n _ (fun i _ => by rw [w_a_2ne _ _ _ (by decide), w_a_2ne _ _ _ (by decide), w_a_2ne _ _ _ (by decide), w_a_2ne _ _ _ (by decide), r_nl_2]; exact ⟨rfl, rfl, rfl, rfl⟩) T2) (by rw [q_nl_f]; show rKf (q_fr q'); rw [ef]; exact hK)
      show (r_nl w2).1 73 52 = _
      rw [r_nl_ne w2 (by omega)]; exact n2
    · rw [if_neg d]
      have ua := uW_lt (w.2 92) (m := (w.2 93 c).toNat) (n := c) (by omega) (by rw [t1]; decide)
      refine lk_227f (i := ((q_wi q' : Nat) : Int)) (by omega) x3 (by omega) (by omega) ?_
      have N6 : ∀ j, j ≠ 61 → (w_f w1 73 61 (((q_wi q' : Nat) : Int) + 1)).1 73 j = w1.1 73 j := fun j a1 => w_f_ne _ _ _ _ _ _ (by omega)
      have h61 : (w_f w1 73 61 (((q_wi q' : Nat) : Int) + 1)).1 73 61 = ((q_wi q' + 1 : Nat) : Int) := by
        rw [w_f1, w_u_at, if_pos ⟨rfl, rfl⟩]; omega
      have A6 : (w_f w1 73 61 (((q_wi q' : Nat) : Int) + 1)).2 = w1.2 := rfl
      generalize w_f w1 73 61 (((q_wi q' : Nat) : Int) + 1) = w6 at N6 A6 h61 ⊢
      have H6 : rXC G sil s (p_wi q' (q_wi q' + 1) (q_us q')) w6 Γ := rX_wi H1 h61 (by rw [N6 62 (by decide)]; exact e62) (by omega) (fun i' id hi => by rw [A6]; exact y3 i' id hi) ⟨by omega, by omega⟩ (fun j _ a2 _ => N6 j a2) (fun b _ => by rw [A6])
      have n6 : w6.1 73 52 = (n : Int) := by rw [N6 52 (by decide)]; exact n1
      have T6 := rST_w (w := w1) (w' := w6) (Γ := Γ) (fun j a => N6 j (by omega)) (fun b _ a => by rw [A6]) ⟨by rw [A6], by rw [A6], by rw [A6], by rw [A6]⟩ T1
      have S1 := r_wt_WS w6 3 0 0 0
      obtain ⟨m1, ⟨y1, -, -, -⟩, -⟩ := r_wt_at (o := 3) (a := 0) (b := 0) (c := 0) n6
      have U1 := rST_push (o := 3) (a := 0) (b := 0) (c := 0) (l1 := [(2, .nil, 0, 0, 0)]) n6 T6 ⟨by omega, Or.inr (Or.inr (Or.inr (Or.inl ⟨y1, rfl⟩)))⟩
      have A93 : (r_wt w6 3 0 0 0).2 93 c = w.2 93 c := by rw [S1.2 93 (by omega), A6, eA]
      have e26' : (r_wt w6 3 0 0 0).1 73 26 = w.1 73 26 := by rw [S1.1 73 26 (by omega), N6 26 (by decide), e26]
      have A92 : (r_wt w6 3 0 0 0).2 92 = w.2 92 := by rw [S1.2 92 (by omega), A6, eA]
      have HS := rX_ws H6 S1
      generalize r_wt w6 3 0 0 0 = w7 at HS m1 U1 A93 e26' A92 ⊢
      have S2 := r_wt_WS w7 0 (w.2 93 c) 0 0
      obtain ⟨m2, ⟨z1, z2, -, -⟩, -⟩ := r_wt_at (o := 0) (a := w.2 93 c) (b := 0) (c := 0) m1
      have cr : cRl ([(2, .nil, 0, 0, 0)] ++ l) = cRl l := by rw [cRl_app]; exact Nat.zero_add _
      have U2 := rST_push (o := 0) (a := w.2 93 c) (b := 0) (c := 0) (l1 := (rFL v).map fP) m1 U1 ⟨by rw [cr]; omega, Or.inl ⟨z1, rFL v, rfl, by rw [z2]; exact rCC_mono (rWS_X (R := -1) S2) (⟨by omega, t3⟩ : rCC w7 Γ (w.2 93 c) (rFL v)), by rw [z2, S2.2 92 (by omega), A92, cr]; omega⟩⟩
      refine lk_227g (a := w.2 93 c) (by omega) (by omega) (by omega) (by rw [cc]; exact A93) ⟨rfl, rX_fr (rX_ws HS S2), ⟨n + 1 + 1, m2, ?_⟩, fun _ => hv, fun q => by omega, by rw [ef]; exact hK⟩
      show rST _ Γ 910 (rLm s) (n + 1 + 1) (lT ((0, v, 0, 0, 0) :: (2, .nil, 0, 0, 0) :: q_fr q'))
      rw [lT_cons, lT_cons, ef, e]
      exact U2
  obtain ⟨-, -, ⟨⟨⟨-, x2, -, -⟩, ⟨-, -, x7, -⟩, -, -⟩, ⟨-, ⟨-, -, b2, b2'⟩, ⟨-, -, -, -, b7, b8⟩, -⟩⟩, -⟩ := _root_.id H
  by_cases d : q_in q < q_pn q
  · rw [x_head_e (if_pos d)]
    refine lk_227a (by omega) (rX_rn H) (by rw [x2, x7]; unfold am_rg; omega) (by rw [x2, x7]; exact d) ?_
    have z := M (q_nl G q) (r_nl w) (rX_nl H (by omega)) (r_nl_2 w) (r_nl_ne w (by omega)) (by rw [r_nl_ne w (by omega)]; exact h52) (rST_w (w := w) (fun j _ => r_nl_ne w (by omega)) (fun b _ _ => by rw [r_nl_2]) (by rw [r_nl_2]; exact ⟨rfl, rfl, rfl, rfl⟩) hT) (by rw [q_nl_f]) (by rw [q_nl_f]) (by
      rw [q_nl_f]
      refine ⟨?_, ?_⟩
      · show (if q_ln q + 1 = G.2.2.2.2 then q_pg q + 1 else q_pg q) + ((q_wi q : Nat) : Int) + 1 ≤ 2 * ((q_el q : Nat) : Int)
        split <;> omega
      · exact hp.2)
    exact z
  · rw [x_head_e (if_neg d)]
    refine lk_227b (by omega) (by rw [x2, x7]; unfold am_rg; omega) (by rw [x2, x7]; omega) ?_
    have z := M q w H rfl rfl h52 hT rfl rfl ⟨by omega, hp.2⟩
    exact z
end
