/-! ===== the evaluator: rounds always end ===== -/
theorem eBKn_le {n n' : Nat} {C : C_} {K : K_} (h : eBKn n' C K) (hn : n ≤ n') : eBKn n C K := fun o j sil e E hb s H => h o j sil e E hb s ⟨H.1, H.2.1, H.2.2.1, H.2.2.2.1, by have := H.2.2.2.2.1; omega, H.2.2.2.2.2⟩
theorem o_file_sh {L : Nat} {rec : K_} {C : C_} {sil : Bool} {f : Nat} {v : T_} {s s1 : S_} (h : o_file L rec C sil f s = some (v, s1)) : v = vE ∨ ∃ q, v = .tag 9 q := by
  unfold o_file t_block at h
  split at h
  · split at h
    · rename_i v E2 s2 hr
      cases h
      split at hr
      · rename_i q fl E3 s3 _
        cases hr
        by_cases c : fl = true
        · rw [if_pos c]; exact Or.inr ⟨q, rfl⟩
        · rw [if_neg c]; exact Or.inl rfl
      · cases hr
    · cases h
  · cases h
theorem x_run_1 {rec : C_ → K_} {G : G_} {sil : Bool} {n : Nat} {s : S_} {q : Q_} : x_run rec G sil (n + 1) s q = if (q_fr q).isEmpty = true then some (s, q) else if 20000 < (q_fr q).length ∨ 8000 < (q_rl q).length then none else match x_step rec G sil s q with
    | some (s1, q1) => x_run rec G sil n s1 q1
    | none => none := rfl
section
variable {G : G_} {sil : Bool}
/-- the file's text is run -/
theorem x_text (hG : GG G) (m : List R_) (rn tk : Nat) : ∃ v s1, o_file x_L (ev (g_C0 G) x_F) (g_C0 G) sil 0 (s_start m rn tk) = some (v, s1) ∧ XS 0 0 s1 ∧ (v = vE ∨ ∃ q, v = .tag 9 q ∧ cG (s_tb s1) q ∧ v_ff q = true ∧ v_m q + 1 ≤ s_tb s1) ∧ s_fs s1 0 = 2 := by
  have fz : fcz (s_start m rn tk) = 3 := rfl
  have k0 : kt (s_start m rn tk) = 0 := rfl
  have sg : sG (s_tb (s_start m rn tk) - 0 - kt (s_start m rn tk)) (s_start m rn tk) := ⟨fun g q => absurd rfl q.1, trivial, Nat.zero_le _, rfl⟩
  obtain ⟨v, s1, h, h1, h2, h3, h4, h5, h6, h7, h8, h9, h10, h11⟩ := o_file_B (n := 511) (L := x_L) (C := g_C0 G) (rec := ev (g_C0 G) x_F) (sil := sil) (eBKn_le (ev_B (C := g_C0 G) hG.1 512) (by decide)) (by decide) (o := 0) (j := 0) (f := 0) (s := s_start m rn tk) (by decide) rfl (hG.1 0) ⟨rfl, fun q => absurd q (by decide), fun _ => rfl, by decide, Nat.zero_le _, by rw [fz]; decide, by rw [fz]; show 0 + 3 * 3 ≤ 0 + 227; decide, Nat.le_refl _, sg⟩ (by rw [fz]; show max 0 740 + 500 * 3 + 500 * 0 ≤ 2240 + 60 * 0; decide) (by show 0 < 2040; decide)
  have M := o_file_M (ev_M (g_C0 G) x_F) h (Nat.le_refl _)
  obtain ⟨U1, U2⟩ := o_file_U (s := s_start m rn tk) (ev_U (C := g_C0 G) hG.2 x_F) (by decide) rfl (hG.2 0 (by decide)) h
  have W := o_file_W (ev_W (g_C0 G) x_F) h
  obtain ⟨V1, V2, V3, -⟩ := o_file_V (o := 0) (E := n_none) (ev_V (g_C0 G) x_F) h ⟨fun g q => absurd rfl q.1, ⟨Nat.le_refl _, trivial⟩, Nat.le_refl _⟩ (fun m x e => by cases e)
  have h4 : s_tl s1 = .nil := h4
  have k1 : kt s1 = 0 := by show mk0 (s_tl s1) = 0; rw [h4]; rfl
  have r1 : v_rn (s_tl s1) = 0 := by rw [h4]; rfl
  rw [fz] at h2 h3 h6 U2
  have h2 : max (s_tb s1) 740 + 500 * fcz s1 + 440 ≤ max 0 740 + 500 * 3 := h2
  have h6 : s_rw s1 + 3 * fcz s1 + 0 + 2 ≤ 0 + 3 * 3 + s_tb s1 := h6
  have U1 : s_b s1 + 3 * 0 ≤ 0 + 3 * s_tb s1 + 0 := U1
  have U2 : s_nt s1 + 130 * 0 + 300 * fcz s1 ≤ 0 + 130 * s_b s1 + 300 * 3 + 0 := U2
  have W : s_nd s1 + 11 * 0 ≤ 0 + 11 * s_tb s1 + 1 := W
  have h10 : v_m v + 0 ≤ s_tb s1 + 1 := h10
  have V3 : rv (s_tb s1 - 0 - v_rn (s_tl s1)) v := V3
  rw [r1] at V3
  rw [k1] at h8
  refine ⟨v, s1, h, ⟨⟨h1, h4, M.2.2.2.2.1⟩, ⟨by omega, by omega, by omega, h7⟩, ⟨h8, V2⟩, by omega, by omega, by omega⟩, ?_, h11⟩
  rcases o_file_sh h with hv | ⟨q, hv⟩
  · exact Or.inl hv
  · subst hv
    obtain ⟨g1, g2⟩ := h9
    have g1 : v_go q ∧ v_ff q = true := by cases q <;> exact g1
    obtain ⟨v1, v2, v3⟩ := V3
    rw [v_rg_9] at v2
    rw [v_R_9] at v3
    rw [v_m_9] at h10
    exact Or.inr ⟨q, rfl, ⟨g1.1, v2, by omega, v3⟩, g1.2, by omega⟩
theorem x_round_ok (hG : GG G) (m : List R_) (rn tk : Nat) : ∃ s1 q1, x_round G sil (s_start m rn tk) = some (s1, q1) ∧ XS (q_el q1) (q_el q1) s1 ∧ XQ (s_tb s1) (x_Y s1) q1 ∧ q_fr q1 = [] := by
  obtain ⟨v, s1, h, HS, hv, -⟩ := x_text (sil := sil) hG m rn tk
  unfold x_round
  rw [h]
  dsimp only
  have e : x_FR = 739999 + 1 := rfl
  have ne : ¬ ([((0, v, 0, 0, 0) : F_)]).isEmpty = true := fun z => by cases z
  rw [e, x_run_1]
  rw [if_neg (show ¬ (q_fr (q_start v)).isEmpty = true from ne), if_neg (show ¬ (20000 < (q_fr (q_start v)).length ∨ 8000 < (q_rl (q_start v)).length) from fun z => by
    have z : 20000 < 1 ∨ 8000 < 0 := z
    omega)]
  have hX := HS.2.1
  rcases hv with rfl | ⟨q, rfl, hc, hff, hm⟩
  · have e2 : x_step (fun C => ev C x_F) G sil s1 (q_start vE) = some (s1, p_fr (q_start vE) []) := rfl
    rw [e2]
    refine ⟨s1, p_fr (q_start vE) [], ?_, HS, ⟨⟨by show 0 ≤ 201; decide, fun z => absurd rfl z⟩, trivial, fun r hr => (by cases hr), Nat.zero_le _⟩, rfl⟩
    rw [show (739999 : Nat) = 739998 + 1 from rfl]
    exact x_run_1
  · have e2 : x_step (fun C => ev C x_F) G sil s1 (q_start (.tag 9 q)) = some (s1, p_fr (p_fr (q_start (.tag 9 q)) []) [(5, q, 0, 0, 0)]) := by cases q <;> rfl
    rw [e2]
    have hY : x_Y s1 = 0 ∧ s_tb s1 < 300 ∨ x_Y s1 = 1800 := by
      show (if s_b s1 < 300 then 0 else 1800) = 0 ∧ _ ∨ (if s_b s1 < 300 then 0 else 1800) = 1800
      by_cases c : s_b s1 < 300
      · rw [if_pos c]; exact Or.inl ⟨rfl, by omega⟩
      · rw [if_neg c]; exact Or.inr rfl
    obtain ⟨c1, c2, c3, c4⟩ := hc
    refine x_run_ok hG 739999 s1 _ HS ⟨⟨by show 0 ≤ 201; decide, fun _ => ⟨by show 0 ≤ 200; decide, rfl, Nat.zero_le _, rfl⟩⟩, ?_, fun r hr => (by cases hr), Nat.zero_le _⟩ ?_
    · show XF (s_tb s1) (x_Y s1) 0 ((5, q, 0, 0, 0) :: [])
      rw [XF_5]
      refine ⟨⟨⟨⟨c1, c2, c3, c4⟩, hff⟩, ?_, ?_⟩, trivial⟩
      · show 0 + (2 * v_m q + 2) ≤ 605 * (0 + 1) + 2 * x_Y s1
        omega
      · show 0 + v_R q ≤ 300 * (0 + 1) + x_Y s1
        omega
    · show (201 - 0) * 3610 + (0 + 0) + (2 * v_m q + 3) < 739999
      omega
theorem x_rounds_ok (hG : GG G) : ∀ (n : Nat) (bf : Nat → Int) (many : Nat) (m : List R_) (rn tk : Nat), n ≠ 0 → ∃ st cnt s1 q1, x_rounds G sil n bf many (s_start m rn tk) = some (st, cnt, (s1, q1)) ∧ XS (q_el q1) (q_el q1) s1 ∧ XQ (s_tb s1) (x_Y s1) q1 := by
  intro n
  induction n with
  | zero => intro _ _ _ _ _ h; exact absurd rfl h
  | succ n ih =>
    intro bf many m rn tk _
    have hG' : GG ((bf, G.2) : G_) := hG
    obtain ⟨s1, q1, h, h1, h2, -⟩ := x_round_ok (sil := sil) hG' m rn tk
    unfold x_rounds
    rw [h]
    dsimp only
    split
    · exact ⟨_, _, _, _, rfl, h1, h2⟩
    · cases n with
      | zero => exact ⟨_, _, _, _, rfl, h1, h2⟩
      | succ n => exact ih _ _ _ _ _ (Nat.succ_ne_zero n)
end
