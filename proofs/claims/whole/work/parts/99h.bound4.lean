/-! ===== the evaluator: it always comes to an end ===== -/
theorem ev1_B {n : Nat} {C : C_} {r1 r2 r4 : K_} (h1 : eBKn (n + 3) C r1) (h2 : eBKn (n + 2) C r2) (h4 : eBKn n C r4) (N2 : eNK r2) (M2 : eMK r2) (hC : ∀ f, c_sz (C.2.2.1 f) ≤ 60) : eBKn (n + 4) C (ev1 (2 * n + 1000) C r1 r2 r4) := by
  intro o j sil e E hb s H hc hE
  have htb := tb_lt H
  refine ⟨?_, fun v E1 s1 h hw => ?_⟩
  rotate_left
  · rcases ce_or e with ⟨k, n, id, a, b, c, rfl⟩ | he
    · rw [c_sz_ce']; omega
    · rw [he] at h
      cases h
      cases hw
  rcases ce_or e with ⟨k, n', id, a, b, c, rfl⟩ | he
  rotate_left
  · rw [he]
    refine ⟨_, _, _, rfl, eBQ_le (eBQ_br H) (Nat.le_refl _) (Nat.zero_le _), gv_W, ?_, hE⟩
    have := H.2.2.2.2.2.1
    show 0 + (o + kt s) ≤ s_tb s
    omega
  have hsz := c_sz_ce' k n' id a b c
  have H0 : eBH (n + 3 + 1) o j (0 + 1) s := eBH_le H (by omega)
  have HG : ∀ x, x + 1 ≤ c_sz (ce k n' id a b c) → eBH (n + 3) (o + 1) j x (u_go s) := fun x hx => eBH_go (eBH_le H hx)
  have hE1 := nG_go hE
  have B0 := eBQ_0 H0
  have hc1 : 0 + 1 ≤ c_sz (ce k n' id a b c) := by omega
  by_cases ko : k < 6 ∨ 31 < k
  · rw [ev1_oth ko, if_pos htb.1]
    exact eBR_of B0 eSO_refl (by omega) hc1 (by omega) (by omega) rfl gv_W (Nat.zero_le _) (nG_mono hE1 (by omega))
  -- the first part
  have P1 : ∀ x, c_sz a + x + 1 ≤ c_sz (ce k n' id a b c) → ∃ v E2 s2, r1 sil a E hb (u_go s) = some (v, E2, s2) ∧ eBQ (o + 1) (c_sz a) (u_go s) s2 ∧ gv v ∧ v_m v + (o + 1 + kt s2) ≤ s_tb s2 ∧ nG (s_tb s2 - (o + 1) - kt s2) E2 ∧ eBH (n + 3) (o + 1) j x s2 ∧ v_dp v ≤ 2 * n + 1000 ∧ (v_isW v = false → 1 ≤ c_sz a) := fun x hx => by
    have HA := HG (c_sz a) (by omega)
    obtain ⟨⟨v, E2, s2, hr, q1, q2, q3, q4⟩, q5⟩ := h1 (o + 1) j sil a E hb (u_go s) HA (by omega) hE1
    exact ⟨v, E2, s2, hr, q1, q2, q3, q4, eBH_step (HG (c_sz a + x) hx) q1, Nat.le_trans (eBH_L HA q1.2.1 (by omega)) (by omega), q5 v E2 s2 hr⟩
  have kk : k = 6 ∨ k = 7 ∨ k = 8 ∨ k = 16 ∨ k = 22 ∨ k = 23 ∨ k = 24 ∨ k = 25 ∨ k = 26 ∨ k = 27 ∨ k = 29 ∨ k = 14 ∨ k = 17 ∨ (k = 9 ∨ k = 10 ∨ k = 11 ∨ k = 12 ∨ k = 13 ∨ k = 30) ∨ (k = 15 ∨ k = 20 ∨ k = 21 ∨ k = 28 ∨ k = 31) ∨ (k = 18 ∨ k = 19) := by omega
  rcases kk with rfl | rfl | rfl | rfl | rfl | rfl | rfl | rfl | rfl | rfl | rfl | rfl | rfl | kk | kk | kk
  · rw [ev1_6, if_pos htb.1]
    exact eBR_of B0 eSO_refl (by omega) hc1 (by omega) (by omega) rfl (gv_N _) (Nat.zero_le _) (nG_mono hE1 (by omega))
  · rw [ev1_7, if_pos htb.1]
    exact o_name_B B0 hc1 hE1 fun v q => hE1 _ _ q
  · rw [ev1_8, if_pos htb.1, if_pos htb.2]
    have HA := HG (c_sz a) (by omega)
    have HB : eBH (n + 2 + 1) (o + 1) j (c_sz a) (u_rw (u_go s) (s_rw s + 1)) := by
      obtain ⟨a1, a2, a3, a4, a5, a6, a7, a8, a9, a10⟩ := HA
      refine ⟨a1, a2, a3, a4, a5, a6, a7, ?_, a9, ⟨a10.1, a10.2⟩⟩
      have := H.2.2.2.2.2.2.2.1
      show s_rw s + 1 + 3 * fcz s ≤ s_tb s + 1 + 226
      omega
    obtain ⟨v, E2, s2, g1, g2, g3, g4, g5, g6⟩ := t_block_B (sil := sil) h2 (L := 2 * n + 1000) (by omega) HB (by omega) (E := E) hE1
    rw [g1]
    obtain ⟨b1, b2, b3, b4, b5, b6, b7, b8, b9, b10, b11⟩ := g2
    have b6' : s_tb s + 1 ≤ s_tb s2 := b6
    have b7' : s_rw s2 + 3 * fcz s2 + (s_tb s + 1) ≤ s_rw s + 1 + 3 * fcz s + s_tb s2 := b7
    have b3' : fcz s2 ≤ fcz s := b3
    have g5' : v_m v + (o + 1 + kt s) ≤ s_tb s2 + 1 := g5
    have g3' : kt s2 = kt s := by show mk0 (s_tl s2) = mk0 (s_tl s); rw [g3]
    have Q : eBQ (o + 1) (c_sz a) (u_go s) (u_rw s2 (s_rw s2 - 1)) := by
      refine ⟨b1, b2, b3, b4, b5, b6, ?_, b8, ⟨b9.1, b9.2⟩, b10, fun e => b11 e⟩
      show s_rw s2 - 1 + 3 * fcz s2 + (s_tb s + 1) ≤ s_rw s + 3 * fcz s + s_tb s2
      omega
    refine eBR_of (x := 1) (r := 1) (c' := c_sz (ce 8 n' id a b c)) Q ⟨rfl, rfl, rfl, rfl, rfl, ?_, Nat.le_refl _⟩ (Nat.le_refl _) (by omega) (by omega) (by omega) rfl g4 ?_ (nG_mono hE ?_)
    · show s_rw s2 ≤ s_rw s2 - 1 + 1
      omega
    · show v_m v ≤ s_tb s2 - (o + 1) - kt s2 + 1
      omega
    · show _ ≤ s_tb s2 - (o + 1) - kt s2 + 1
      omega
  · rw [ev1_16, if_pos htb.1]
    refine o_mk_B (n := n + 3) (e := ce 16 n' id a b c) (Or.inr rfl) ?_ hc H hE
    show c_sz a + 1 ≤ _
    omega
  · rw [ev1_22, if_pos htb.1]
    refine o_mk_B (n := n + 3) (e := ce 22 n' id a b c) (Or.inl rfl) ?_ hc H hE
    show c_sz a + 1 ≤ _
    omega
  · rw [ev1_23, if_pos htb.1]
    exact o_ask_B B0 hc1 hE1
  · rw [ev1_24, if_pos htb.1]
    exact o_ask_B B0 hc1 hE1
  · rw [ev1_25, if_pos htb.1]
    exact o_ask_B B0 hc1 hE1
  · rw [ev1_26, if_pos htb.1]
    exact o_ask_B B0 hc1 hE1
  · rw [ev1_27, if_pos htb.1]
    exact o_ask_B B0 hc1 hE1
  · rw [ev1_29, if_pos htb.1]
    exact o_import_B h4 hC H0 hc1 hE
  · rw [ev1_14, if_pos htb.1]
    obtain ⟨v, E2, s2, hr, q1, q2, q3, q4, q5, -⟩ := P1 (c_sz b + c_sz c) (by omega)
    rw [hr]
    dsimp only
    by_cases cw : v_isW v = true
    · rw [if_pos cw]
      exact eBR_of q1 eSO_refl (by omega) (by omega) (by omega) (by omega) rfl gv_W (Nat.zero_le _) (nG_mono q4 (by omega))
    · rw [if_neg cw]
      cases cv : v_num v with
      | none => exact o_bad_B q1 (by omega) q4
      | some x =>
        dsimp only
        have hbr : c_sz (if x = 0 then c else b) ≤ c_sz b + c_sz c := by split <;> omega
        obtain ⟨⟨w, E3, s3, hr2, p1, p2, p3, p4⟩, -⟩ := h1 (o + 1) j sil (if x = 0 then c else b) E2 hb s2 (eBH_le q5 hbr) (by omega) q4
        rw [hr2]
        exact eBR_of (eBQ_tr q1 p1) eSO_refl (by omega) (by omega) (by omega) (by omega) rfl p2 (by omega) (nG_mono p4 (by omega))
  · rw [ev1_17, if_pos htb.1]
    obtain ⟨v, E2, s2, hr, q1, q2, q3, q4, q5, -, q7⟩ := P1 (c_sz b) (by omega)
    rw [hr]
    dsimp only
    by_cases cw : v_isW v = true
    · rw [if_pos cw]
      exact eBR_of q1 eSO_refl (by omega) (by omega) (by omega) (by omega) rfl gv_W (Nat.zero_le _) (nG_mono q4 (by omega))
    · rw [if_neg cw]
      by_cases cf : v_isF v = true
      · rw [if_pos cf]
        obtain ⟨⟨w, E3, s3, hr2, p1, p2, p3, p4⟩, p5⟩ := h1 (o + 1) j sil b E2 hb s2 q5 (by omega) q4
        rw [hr2]
        dsimp only
        have Q := eBQ_tr q1 p1
        unfold o_call
        by_cases dw : v_isW w = true
        · rw [if_pos dw]
          exact eBR_of Q eSO_refl (by omega) (by omega) (by omega) (by omega) rfl gv_W (Nat.zero_le _) (nG_mono p4 (by omega))
        · rw [if_neg dw]
          by_cases d8 : 8 ≤ s_dp s3
          · rw [if_pos d8]
            exact o_bad_B Q (by omega) p4
          · rw [if_neg d8]
            by_cases d3 : 300 ≤ s_b s3
            · rw [if_pos d3]
              exact o_bad_B Q (by omega) p4
            · rw [if_neg d3]
              have wf : ∀ x : T_, ¬ v_isW x = true → v_isW x = false := fun x hx => by
                cases q : v_isW x with
                | false => rfl
                | true => exact absurd q hx
              have ca : 1 ≤ c_sz a := q7 (wf _ cw)
              have cb : 1 ≤ c_sz b := p5 w E3 s3 hr2 (wf _ dw)
              have mv : v_m v ≤ s_tb s3 - (o + 1) - kt s3 := by
                have := p1.2.2.2.1
                omega
              have BD := fun (sl kp : Bool) (x y : Nat) => o_body_B (sl := sl) (kp := kp) (E3 := E3) h2 N2 M2 H Q ca cb (by omega) cf q2 mv p2 (by omega) p4 (by omega) (by omega) x y
              cases hfd : r_find C sil v w s3 with
              | none =>
                obtain ⟨u, s4, y1, y2⟩ := BD sil (r_keep C sil v w s3) (if sil = true then s_rn s3 else s_rn s3 + 1) (s_tk s3) (fun q => by
                  unfold r_keep at q
                  have q1 := (Bool.and_eq_true _ _).mp q
                  exact ⟨q1.2, ((Bool.and_eq_true _ _).mp q1.1).2⟩)
                dsimp only
                rw [y1]
                exact y2
              | some r =>
                obtain ⟨u, s4, y1, y2⟩ := BD true false (s_rn s3) (s_tk s3 + 1) (fun q => by cases q)
                dsimp only
                rw [y1]
                exact y2
      · rw [if_neg cf]
        exact o_bad_B q1 (by omega) q4
  · rw [ev1_two kk, if_pos htb.1]
    obtain ⟨v, E2, s2, hr, q1, q2, q3, q4, q5, -⟩ := P1 (c_sz b) (by omega)
    rw [hr]
    dsimp only
    obtain ⟨⟨w, E3, s3, hr2, p1, p2, p3, p4⟩, -⟩ := h1 (o + 1) j sil b E2 hb s2 q5 (by omega) q4
    rw [hr2]
    dsimp only
    have Q := eBQ_tr q1 p1
    have mv : v_m v ≤ s_tb s3 - (o + 1) - kt s3 := by
      have := p1.2.2.2.1
      omega
    have ho3 : o + 1 + kt s3 ≤ s_tb s3 := Q.2.2.2.2.2.2.2.2.2.1
    have HAB := HG (c_sz a + c_sz b) (by omega)
    exact o_pair_B Q (by omega) p4 q2 mv p2 (by omega) (Nat.le_trans (eBH_L HAB Q.2.1 (by omega)) (by omega)) (Nat.le_trans (eBH_L HAB Q.2.1 (by omega)) (by omega))
  · rw [ev1_one (by omega), if_pos htb.1]
    obtain ⟨v, E2, s2, hr, q1, q2, q3, q4, q5, q6, -⟩ := P1 0 (by omega)
    rw [hr]
    exact o_one_B q1 (by omega) q4 q2 (by omega) q6
  · cases hb with
    | false =>
      rw [ev1_pl kk, if_pos htb.1]
      exact o_bad_B B0 hc1 hE1
    | true =>
      rw [ev1_one (Or.inr (Or.inr (Or.inr (Or.inr (Or.inr ⟨kk, rfl⟩))))), if_pos htb.1]
      obtain ⟨v, E2, s2, hr, q1, q2, q3, q4, q5, q6, -⟩ := P1 0 (by omega)
      rw [hr]
      exact o_one_B q1 (by omega) q4 q2 (by omega) q6
theorem ev_B {C : C_} (hC : ∀ f, c_sz (C.2.2.1 f) ≤ 60) : ∀ n, eBKn n C (ev C n) := by
  have Z : ∀ n K, n < 4 → eBKn n C K := fun n K hn o j sil e E hb s H => by
    exfalso
    obtain ⟨a1, a2, a3, a4, a5, a6, a7, a8, a9, a10⟩ := H
    have hj : j = 0 ∨ j = 1 ∨ j = 2 := by omega
    rcases hj with rfl | rfl | rfl
    · omega
    · omega
    · omega
  intro n
  induction n using Nat.strongRecOn with
  | _ n ih =>
    match n, ih with
    | 0, _ => exact Z 0 _ (by omega)
    | 1, _ => exact Z 1 _ (by omega)
    | 2, _ => exact Z 2 _ (by omega)
    | 3, _ => exact Z 3 _ (by omega)
    | n + 4, ih =>
      rw [ev_4]
      exact ev1_B (ih (n + 3) (by omega)) (ih (n + 2) (by omega)) (ih n (by omega)) (ev_N C (n + 2)) (ev_M C (n + 2)) hC
