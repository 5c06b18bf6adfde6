/-! ===== a round of the class: running, realizing ===== -/
/-- behind the runner's start -/
def P2 (G : G_) (sil : Bool) (o : Nat) (K0 : Int) (m : List R_) (rn tk : Nat) (w' : W_) : Prop := ∃ wB, (CR (g_C0 G) sil o 0 False K0 (f_list (g_C0 G) ((g_C0 G).2.2.2 0) (s_start m rn tk)) wB ∧ (flO (g_C0 G) (wB.2 3) (wB.2 5) (wB.2 7) ∧ wB.2 3 183 = 0 ∧ g0 (wB.2 7)) ∧ (wB.1 33 1 = 0 ∧ wB.1 41 12 = -1 ∧ wB.1 41 13 = -1 ∧ wB.1 41 10 = -1) ∧ (eR (wB.2 3) (wB.2 5) (wB.2 37) (fun g => if g = 0 then 1 else wB.2 46 g) 1 false ((g_C0 G).2.2.1 0) ∧ tI (wB.2 3) (wB.2 5) (wB.2 7) ((g_C0 G).2.2.1 0) ∧ w_g wB 37 (180 * 9) - 1 = it_id ((g_C0 G).2.2.1 0)) ∧ ((wB.1 50 15 = G.2.2.2.1 ∧ wB.1 50 16 = G.2.2.2.2) ∧ wB.1 o 4 = 0 ∧ (∀ k, k < 42 → wB.2 20 k = 0) ∧ yG G o K0 wB)) ∧ w' = w_opt (w_scp wB 20003) 180
/-- behind running -/
def P3 (G : G_) (sil : Bool) (o : Nat) (K0 : Int) (v : T_) (s1 : S_) (w' : W_) : Prop := CR (g_C0 G) sil o 0 False K0 s1 w' ∧ (flO (g_C0 G) (w'.2 3) (w'.2 5) (w'.2 7) ∧ w'.2 3 183 = 0 ∧ g0 (w'.2 7)) ∧ (w'.1 33 1 = 0 ∧ w'.1 41 12 = -1 ∧ w'.1 41 10 = -1) ∧ ((w'.1 50 15 = G.2.2.2.1 ∧ w'.1 50 16 = G.2.2.2.2) ∧ w'.1 o 4 = 0 ∧ (∀ k, k < 42 → w'.2 20 k = 0) ∧ yG G o K0 w') ∧ vW_ w' v (w'.1 41 11)
section
variable {G : G_} {sil : Bool} {o : Nat} {m : List R_} {rn tk : Nat} {w : W_} {K0 : Int} {s1 s2 : S_} {q2 : Q_} {v : T_} {fr : Nat} {Q : Option am_V → W_ → Prop}
theorem c_64 (H : BB G sil o K0 m rn tk w) : ww_Ct 64 4 [.inr (.inr (.inl 17))] w fun r w' => r = none ∧ w' = w_64 w o := lk_64 H.1.2 H.1.1
theorem c_74 (H : BB G sil o K0 m rn tk w) (hG : GG G) : ww_Ct 74 11 [.inr (.inr (.inl 41)), .inl (if sil = true then 0 else 1)] (w_64 w o) fun z w' => z = none ∧ P2 G sil o K0 m rn tk w' := by
  have HC := BB_CR H
  have HR := BB_rG H.1.1 H.2.2.2.2.2.2.2 (if sil = true then 0 else 1)
  obtain ⟨⟨ho, h17⟩, hc, hq, hp, ⟨hfl, h183, hg⟩, -, -⟩ := H
  have E1 : ∀ a j, ¬ (a = 33 ∧ j = 1) → ¬ (a = 41 ∧ 10 ≤ j) → ¬ (a = 17 ∧ (j = 3 ∨ j = 4 ∨ j = 5 ∨ j = 6)) → ¬ (a = o ∧ (j = 4 ∨ j = 5)) → (w_rs (w_64 w o) (if sil = true then 0 else 1)).1 a j = w.1 a j := fun a j h1 h2 h3 h4 => (rs_1 _ _ h1 h2).trans (w_64_1 w o h3 h4)
  have E2 : ∀ b, b ≠ 46 → b ≠ 18 → b ≠ 20 → (w_rs (w_64 w o) (if sil = true then 0 else 1)).2 b = w.2 b := fun b h1 h2 h3 => (rs_2 _ _ h1).trans (w_64_2 w o h2 h3)
  have z4 : (w_rs (w_64 w o) (if sil = true then 0 else 1)).1 o 4 = 0 := by
    rw [rs_1 _ _ (by omega) (by omega)]
    unfold w_64
    rw [w_f1, w_u_at, if_pos ⟨rfl, rfl⟩]
  have z20 : ∀ k, k < 42 → (w_rs (w_64 w o) (if sil = true then 0 else 1)).2 20 k = 0 := fun k hk => by
    rw [rs_2 _ _ (by decide)]
    exact w_64_20 w o hk
  have z33 : (w_rs (w_64 w o) (if sil = true then 0 else 1)).1 33 1 = 0 := rfl
  have z12 : (w_rs (w_64 w o) (if sil = true then 0 else 1)).1 41 12 = -1 := rfl
  have z13 : (w_rs (w_64 w o) (if sil = true then 0 else 1)).1 41 13 = -1 := rfl
  have z10 : (w_rs (w_64 w o) (if sil = true then 0 else 1)).1 41 10 = -1 := rfl
  have hr : (if sil = true then (0 : Int) else 1) = 0 ∨ (if sil = true then (0 : Int) else 1) = 1 := by
    cases sil
    · exact Or.inr rfl
    · exact Or.inl rfl
  have hflW : flO (g_C0 G) ((w_rs (w_64 w o) (if sil = true then 0 else 1)).2 3) ((w_rs (w_64 w o) (if sil = true then 0 else 1)).2 5) ((w_rs (w_64 w o) (if sil = true then 0 else 1)).2 7) := by
    rw [E2 3 (by decide) (by decide) (by decide), E2 5 (by decide) (by decide) (by decide), E2 7 (by decide) (by decide) (by decide)]
    exact hfl
  have hgW : g0 ((w_rs (w_64 w o) (if sil = true then 0 else 1)).2 7) := by
    rw [E2 7 (by decide) (by decide) (by decide)]
    exact hg
  have hRD := CR_read (f := 0) (a46 := fun g => if g = 0 then 1 else (w_rs (w_64 w o) (if sil = true then 0 else 1)).2 46 g) HC hflW hgW (by decide) (by
    show (if 0 = 0 then (1 : Int) else _) ≠ 0
    rw [if_pos rfl]
    decide) rfl (by
    show 0 + _ ≤ 1000000
    have h0 : ((g_C0 G).2.2.2 0).length ≤ 300 := hG.2 0 (by decide)
    omega)
  have hp' := hp.1
  rw [← E1 50 15 (by omega) (by omega) (by omega) (by omega), ← E1 50 16 (by omega) (by omega) (by omega) (by omega)] at hp'
  have h183W : (w_rs (w_64 w o) (if sil = true then 0 else 1)).2 3 183 = 0 := by
    rw [E2 3 (by decide) (by decide) (by decide)]
    exact h183
  have eo := (CR_o HC).1
  refine (lk_74 hr hRD fun w' hw => ⟨(hw.2.2.1 33 1 (by decide)).trans z33, (hw.2.2.1 41 12 (by decide)).trans z12⟩).mono ?_
  rintro z w' ⟨hz, wB, ⟨q1, q2, q3, ⟨q4, q5, q6⟩, ⟨q7, q8⟩, q9⟩, hw'⟩
  refine ⟨hz, wB, ⟨q1, ?_, ⟨(q3 33 1 (by decide)).trans z33, (q3 41 12 (by decide)).trans z12, (q3 41 13 (by decide)).trans z13, (q3 41 10 (by decide)).trans z10⟩, ?_, ?_⟩, hw'⟩
  · have x := (q2 0).2.2.2
    obtain ⟨-, -, ⟨-, -, -, x3, x5, x7, -⟩, -, -⟩ := x
    rw [x3, x5, x7]
    exact ⟨hflW, h183W, hgW⟩
  · have x := (q2 0).2.2.2
    obtain ⟨-, -, ⟨-, -, -, x3, x5, x7, -⟩, -, -⟩ := x
    rw [x3, x5, x7, q6]
    exact ⟨q7, q8, q9⟩
  · have x := (q2 0).2.2.2
    have hr := rG_x ho eo HR x
    obtain ⟨-, x50, ⟨-, -, x20, -⟩, ⟨-, -, x4⟩, -⟩ := x
    rw [eo] at x4
    rw [x50, x50, x20, x4]
    exact ⟨hp', z4, z20, hr⟩
theorem XS_b0 (H : XS 0 0 s1) : s_b s1 ≤ 5700 ∧ s_nt s1 ≤ 900000 := XS_b H (by decide)
theorem c_60a {w' : W_} (hP : P2 G sil o K0 m rn tk w') (hf : 20 ≤ fr) (hr : o_file x_L (ev (g_C0 G) x_F) (g_C0 G) sil 0 (s_start m rn tk) = some (v, s1)) (HS : XS 0 0 s1) : ww_Ct 60 fr [.inr (.inr (.inl 9))] w' fun z w1 => z = none ∧ P3 G sil o K0 v s1 w1 := by
  obtain ⟨wB, ⟨RB, ⟨hfl, h183, hg⟩, ⟨e33, e12, e13, e10⟩, ⟨BR, BI, Bi⟩, ⟨p1, p2, p3, pr⟩⟩, rfl⟩ := hP
  have hb := XS_b0 HS
  have eo := (CR_o RB).1
  refine lk_60 (tx_run (ev_sim x_F) RB ⟨hfl, Or.inr hg⟩ h183 e33 e12 e13 e10 BR BI Bi hf (fun _ => rfl) (Nat.le_refl _) rfl rfl (Nat.zero_le _) hr ⟨by omega, hb.2⟩ fun i' w1 i0 i1 H1 h33 h12 h10 X hv => ?_)
  refine dr_end ⟨i0, by omega⟩ (by omega) h10 h33 ⟨rfl, H1, ?_, ⟨h33, h12, h10⟩, ?_, hv⟩
  · obtain ⟨-, -, ⟨-, -, -, x3, x5, x7, -⟩, -, -⟩ := X
    rw [x3, x5, x7]
    exact ⟨hfl, h183, hg⟩
  · have hr := rG_x RB.1.1.1 eo pr X
    obtain ⟨-, x50, ⟨-, -, x20, -⟩, ⟨-, -, x4⟩, -⟩ := X
    rw [eo] at x4
    rw [x50, x50, x20, x4]
    exact ⟨p1, p2, p3, hr⟩
theorem c_112 {w' : W_} (hP : P3 G sil o K0 v s1 w') (hp : 3 ≤ G.2.2.2.1 ∧ G.2.2.2.1 ≤ 30 ∧ 1 ≤ G.2.2.2.2 ∧ G.2.2.2.2 ≤ 10) : ww_Ct 112 4 [.inr (.inr (.inl 50)), .inl (w'.1 41 11)] w' fun z w1 => z = none ∧ XR G sil o K0 s1 (q_start v) w1 := by
  obtain ⟨H1, ⟨hfl, h183, hg⟩, ⟨h33, h12, h10⟩, ⟨p1, p2, p3, pr⟩, hv⟩ := hP
  refine (lk_112 (x0 := w'.1 41 11) (w := w') ⟨by rw [h33]; decide, by rw [h33]; decide⟩).mono ?_
  rintro z w1 ⟨hz, rfl⟩
  exact ⟨hz, XR_st H1 ⟨hfl, Or.inr hg⟩ ⟨h183, pr⟩ h33 h10 h12 p1 hp p2 p3 hv.1⟩
/-- realizing, from its start -/
theorem c_60b {w' : W_} (hG : GG G) (H : XR G sil o K0 s1 (q_start v) w') (hf : 20 ≤ fr) (HS : XS 0 0 s1) (hv : v = vE ∨ ∃ q, v = .tag 9 q ∧ cG (s_tb s1) q ∧ v_ff q = true ∧ v_m q + 1 ≤ s_tb s1) (hr : x_run (fun C => ev C x_F) G sil x_FR s1 (q_start v) = some (s2, q2)) : ww_Ct 60 fr [.inr (.inr (.inl 9))] w' fun z w1 => z = none ∧ XR G sil o K0 s2 q2 w1 ∧ q_fr q2 = [] := by
  refine lk_60 ?_
  have e : x_FR = 739999 + 1 := rfl
  have ne : ¬ ([((0, v, 0, 0, 0) : F_)]).isEmpty = true := fun z => by cases z
  have hX := HS.2.1
  have nl : ¬ (20000 < (q_fr (q_start v)).length ∨ 8000 < (q_rl (q_start v)).length) := fun z => by
    have z : 20000 < 1 ∨ 8000 < 0 := z
    omega
  rw [e, x_run_1, if_neg (show ¬ (q_fr (q_start v)).isEmpty = true from ne), if_neg nl] at hr
  have fin : ∀ (q1 : Q_) (w1 : W_) (i : Int), XR G sil o K0 s1 q1 w1 → q_fr q1 = [] → s1 = s2 → q1 = q2 → 0 ≤ i ∧ i ≤ 1000000 → dr fr (fun z w1 => z = none ∧ XR G sil o K0 s2 q2 w1 ∧ q_fr q2 = []) i w1 := fun q1 w1 i H1 hq e1 e2 hi => by
    subst e1 e2
    have h33 := H1.2.2.2.2.2.1
    rw [hq] at h33
    exact dr_end hi (by omega) H1.2.2.2.2.2.2.1 h33 ⟨rfl, H1, hq⟩
  rcases hv with rfl | ⟨q, rfl, hc, hff, hm⟩
  · have e2 : x_step (fun C => ev C x_F) G sil s1 (q_start vE) = some (s1, p_fr (q_start vE) []) := rfl
    rw [e2] at hr
    have hr : x_run (fun C => ev C x_F) G sil 739999 s1 (p_fr (q_start vE) []) = some (s2, q2) := hr
    rw [show (739999 : Nat) = 739998 + 1 from rfl, x_run_1, if_pos (show (q_fr (p_fr (q_start vE) [])).isEmpty = true from rfl)] at hr
    injection hr with hr
    injection hr with e3 e4
    exact xs_pop H rfl (Or.inr (Or.inr (Or.inl ⟨_, rfl⟩))) (by decide) (by decide) hf fun w1 H1 => fin _ w1 _ H1 rfl e3 e4 (by decide)
  · have e2 : x_step (fun C => ev C x_F) G sil s1 (q_start (.tag 9 q)) = some (s1, p_fr (p_fr (q_start (.tag 9 q)) []) [(5, q, 0, 0, 0)]) := by cases q <;> rfl
    rw [e2] at hr
    have hr : x_run (fun C => ev C x_F) G sil 739999 s1 (p_fr (p_fr (q_start (.tag 9 q)) []) [(5, q, 0, 0, 0)]) = some (s2, q2) := hr
    have hY : x_Y s1 = 0 ∧ s_tb s1 < 300 ∨ x_Y s1 = 1800 := by
      show (if s_b s1 < 300 then 0 else 1800) = 0 ∧ _ ∨ (if s_b s1 < 300 then 0 else 1800) = 1800
      by_cases c : s_b s1 < 300
      · rw [if_pos c]; exact Or.inl ⟨rfl, by omega⟩
      · rw [if_neg c]; exact Or.inr rfl
    obtain ⟨c1, c2, c3, c4⟩ := hc
    have HQ : XQ (s_tb s1) (x_Y s1) (p_fr (p_fr (q_start (.tag 9 q)) []) [(5, q, 0, 0, 0)]) := by
      refine ⟨⟨by show 0 ≤ 201; decide, fun _ => ⟨by show 0 ≤ 200; decide, rfl, Nat.zero_le _, rfl⟩⟩, ?_, fun r hr => (by cases hr), Nat.zero_le _⟩
      show XF (s_tb s1) (x_Y s1) 0 ((5, q, 0, 0, 0) :: [])
      rw [XF_5]
      refine ⟨⟨⟨⟨c1, c2, c3, c4⟩, hff⟩, ?_, ?_⟩, trivial⟩
      · show 0 + (2 * v_m q + 2) ≤ 605 * (0 + 1) + 2 * x_Y s1
        omega
      · show 0 + v_R q ≤ 300 * (0 + 1) + x_Y s1
        omega
    have hP : x_P (p_fr (p_fr (q_start (.tag 9 q)) []) [(5, q, 0, 0, 0)]) = (201 - 0) * 3610 + (0 + 0) + (2 * v_m q + 3) := rfl
    refine xs_scope H rfl (by decide) (by decide) hf fun w1 H1 => ?_
    refine xr_run hG hf 739999 s1 _ w1 _ HS HQ H1 (by rw [hP]; omega) (by decide) (by
      rw [hP]
      show (0 : Int) + 1 + (((201 - 0) * 3610 + (0 + 0) + (2 * v_m q + 3) : Nat) : Int) + 12 * (5700 - (s_b s1 : Int)) + 3 * (201 - ((0 : Nat) : Int)) + 3 < 900000
      omega) fun s3 q3 w2 i3 g1 g2 g3 g4 g5 => ?_
    have g1' : some (s3, q3) = some (s2, q2) := g1.symm.trans hr
    injection g1' with g1'
    injection g1' with e3 e4
    subst e3 e4
    have h33 := g4.2.2.2.2.2.1
    rw [g3] at h33
    exact dr_end ⟨g5.1, by omega⟩ (by omega) g4.2.2.2.2.2.2.1 h33 ⟨rfl, g4, g3⟩
end
