/-! ===== the class runs as the evaluator: one expression of any kind but IMPORT ===== -/
/-- what is asked of IMPORT -/
def cI (C : C_) (sil : Bool) (o : Nat) (K0 : Int) (L : Nat) (r4 : K_) : Prop := ∀ (n : Int) (id : Nat) (a b c : T_) (E : N_) (hb : Bool) (s : S_) (v : T_) (E1 : N_) (s1 : S_), o_import L r4 C sil n id E (u_go s) = some (v, E1, s1) → ∀ (a0 : Nat) (D : Prop) (w : W_) (fr : Nat) (Q : Option am_V → W_ → Prop) (i : Int), RD C sil o a0 D K0 hb s E w → eW w 0 hb (ce 29 n id a b c) → w.1 41 10 = id → ¬ D → s_tb s < 2000 → 20 ≤ fr → 0 ≤ i → i + 12 * (s_b s1 : Int) ≤ 900000 + 12 * (s_b s : Int) → s_b s1 ≤ 90000 ∧ s_nt s1 ≤ 900000 → cK C sil o a0 D K0 hb s s1 E1 w v fr Q i → dr fr Q i w
theorem eR0_or {a3 a5 a37 a46 : Nat → Int} {hb : Bool} {t : T_} (h : eR a3 a5 a37 a46 0 hb t) : t = .nil ∨ ∃ k n id a b c, t = ce k n id a b c := by
  unfold eR at h
  split at h
  all_goals first
    | exact Or.inl rfl
    | exact h.elim
    | exact Or.inr ⟨_, _, _, _, _, _, rfl⟩
    | (exfalso; simp_all)
section
variable {C : C_} {sil : Bool} {o a0 : Nat} {D : Prop} {K0 : Int} {hb : Bool} {s s1 : S_} {E E1 : N_} {w : W_} {fr : Nat} {Q : Option am_V → W_ → Prop} {i : Int} {k : Nat} {n : Int} {id : Nat} {a b c v : T_}

theorem ev1_Q {L m : Nat} {r1 r4 : K_} (N1 : eNK r1) (M1 : eMK r1) (W1 : eWK r1) (T2 : eTK (ev C m)) (M4 : eMK r4) (h1 : cSK C sil o K0 r1) (h2 : ∀ K0, cSK C sil o K0 (ev C m)) (h29 : cI C sil o K0 L r4) : cSK C sil o K0 (ev1 L C r1 (ev C m) r4) := by
  intro e E hb s v E1 s1 h a0 D w fr Q i H he hd hD hf i0 ib hB K
  have hl : s_lt s ≤ s_b s := H.2.2.2.2.2.1
  have hl1 : s_lt (u_go s) ≤ s_b (u_go s) := Nat.le_succ_of_le hl
  have MM := ev1_M M1 (ev_M C m) M4 _ _ _ _ _ _ _ _ h hl
  have mm1 : s_b s ≤ s_b s1 := MM.1
  have mm2 : s_nt s ≤ s_nt s1 := MM.2.1
  have K : cK C sil o a0 D K0 hb s s1 E1 w v fr Q i := K
  have nd := H.1.2.2.1.2.2.2.2.1
  have ctw : 0 ≤ w.1 33 1 := H.2.2.2.1.1
  have htx : hb = true → w.1 41 13 < w.1 33 1 := fun q => (H.2.2.1 q).1.2
  rcases eR0_or he.1 with rfl | ⟨k, n, id, a, b, c, rfl⟩
  · have h : some ((vW : T_), E, u_b s (s_b s + 1)) = some (v, E1, s1) := h
    cases h
    have hB1 : s_b s + 1 ≤ 90000 := hB.1
    exact sim_nil H hd hf ⟨i0, by omega⟩ (by omega) K
  · have hd : w.1 41 10 = (id : Int) := hd
    obtain ⟨⟨g1, g2, g3, g4, g5, g6, g7, g8⟩, -, -, ga, gb, -, -⟩ := eW_ce he
    have M0 : ∀ {x : Nat}, s_b (u_go s) ≤ x → s_b s + 1 ≤ x := fun q => q
    have ask : ∀ q : Nat, q < 45 → (∀ P : W_ → Prop, (ww_Ct 83 5 [.inr (.inr (.inl 41)), .inl id, .inl q] (w_bg w) fun r w' => r = none ∧ P w') → ww_Ct 82 6 [.inr (.inr (.inl 41))] w fun r w' => r = none ∧ P w') → (if s_tb s < 2000 then o_ask C q id E (u_go s) else none) = some (v, E1, s1) → dr fr Q i w := fun q q45 hc hh => by
      split at hh
      · rename_i ht
        have z : s_b s + 1 ≤ s_b s1 := (o_ask_M (hb := hb) hh hl1).1
        exact sim_ask (q := q) H hd g1 q45 hf ⟨i0, by omega⟩ ht ⟨by omega, hB.2⟩ hc hh K
      · cases hh
    have kk : k = 6 ∨ k = 7 ∨ k = 8 ∨ k = 16 ∨ k = 22 ∨ k = 23 ∨ k = 24 ∨ k = 25 ∨ k = 26 ∨ k = 27 ∨ k = 29 ∨ k = 14 ∨ k = 17 ∨ (k = 9 ∨ k = 10 ∨ k = 11 ∨ k = 12 ∨ k = 13 ∨ k = 30) ∨ (k = 15 ∨ k = 20 ∨ k = 21 ∨ k = 28 ∨ k = 31) ∨ (k = 18 ∨ k = 19) := by omega
    rcases kk with rfl | rfl | rfl | rfl | rfl | rfl | rfl | rfl | rfl | rfl | rfl | rfl | rfl | kk | kk | kk
    · rw [ev1_6] at h
      split at h
      · rename_i ht
        cases h
        have hB1 : s_b s + 1 ≤ 90000 := hB.1
        exact sim_6 H he hd hf ⟨i0, by omega⟩ ht (by omega) K
      · cases h
    · rw [ev1_7] at h
      split at h
      · rename_i ht
        have z : s_b s + 1 ≤ s_b s1 := (o_name_M (hb := hb) h hl1).1
        exact sim_7 H he hd hf ⟨i0, by omega⟩ ht (by omega) hB.2 h K
      · cases h
    · rw [ev1_8] at h
      split at h
      · rename_i ht
        split at h
        · rename_i hrw
          split at h
          · rename_i w2 E2 s2 hr
            cases h
            exact sim_8 (ev_N C m) (ev_M C m) (ev_W C m) T2 (h2 K0) H he hd hf i0 ib ht hB (fun q => ⟨(e_imp_ce (hD q).1).2.1, (hD q).2⟩) hrw hr K
          · cases h
        · cases h
      · cases h
    · rw [ev1_16] at h
      split at h
      · rename_i ht
        have z : s_b s + 1 ≤ s_b s1 := (o_mk_M (hb := hb) h hl1).1
        exact sim_16 H he hd hf ⟨i0, by omega⟩ ht (by omega) h K
      · cases h
    · rw [ev1_22] at h
      split at h
      · rename_i ht
        have z : s_b s + 1 ≤ s_b s1 := (o_mk_M (hb := hb) h hl1).1
        exact sim_22 H he hd hf ⟨i0, by omega⟩ ht (by omega) h K
      · cases h
    · rw [ev1_23] at h
      refine ask (42 + (n % 3).toNat) (by omega) (fun P hP => ?_) h
      rw [show ((42 + (n % 3).toNat : Nat) : Int) = 42 + n % 3 by omega] at hP
      exact lk_82q23 hd (by omega) g2 g3 ⟨g4, g5⟩ hP
    · rw [ev1_24] at h
      refine ask (3 * (n / 3 % 10).toNat + (n % 3).toNat) (by omega) (fun P hP => ?_) h
      rw [show ((3 * (n / 3 % 10).toNat + (n % 3).toNat : Nat) : Int) = n / 3 % 10 * 3 + n % 3 by omega] at hP
      exact lk_82q24 hd (by omega) g2 g3 ⟨g4, g5⟩ hP
    · rw [ev1_25] at h
      refine ask (30 + (n % 10).toNat) (by omega) (fun P hP => ?_) h
      rw [show ((30 + (n % 10).toNat : Nat) : Int) = 30 + n % 10 by omega] at hP
      exact lk_82q25 hd (by omega) g2 g3 ⟨g4, g5⟩ hP
    · rw [ev1_26] at h
      exact ask 40 (by decide) (fun P hP => lk_82q26 hd (by omega) g2 g3 ⟨g4, g5⟩ hP) h
    · rw [ev1_27] at h
      exact ask 41 (by decide) (fun P hP => lk_82q27 hd (by omega) g2 g3 ⟨g4, g5⟩ hP) h
    · rw [ev1_29] at h
      split at h
      · rename_i ht
        exact h29 n id a b c E hb s v E1 s1 h a0 D w fr Q i H he hd (fun q => (e_imp_ce (hD q).1).1 rfl) ht hf i0 ib hB K
      · cases h
    · rw [ev1_14] at h
      split at h
      · rename_i ht
        split at h
        · rename_i x E2 s2 hr
          exact sim_14 N1 M1 h1 H he hd hf i0 ib ht hB hD hr h K
        · cases h
      · cases h
    · rw [ev1_17] at h
      split at h
      · rename_i ht
        split at h
        · rename_i x E2 s2 hr
          exact sim_17 N1 M1 h1 h2 H he hd hf i0 ib ht hB hD hr h K
        · cases h
      · cases h
    · rw [ev1_two kk] at h
      split at h
      · rename_i ht
        split at h
        · rename_i x E2 s2 hr
          split at h
          · rename_i y E3 s3 hr2
            have m1 := M1 _ _ _ _ _ _ _ _ hr hl1
            have m2 := M1 _ _ _ _ _ _ _ _ hr2 m1.2.2.2.2.1
            have m3 := o_pair_M (hb := hb) h m2.2.2.2.2.1
            have b3 : s_b s3 ≤ s_b s1 := m3.1
            have t3 : s_nt s3 ≤ s_nt s1 := m3.2.1
            have w1 : s_nd s2 + 11 * (s_tb s + 1) ≤ s_nd s + 11 * s_tb s2 := W1 _ _ _ _ _ _ _ _ hr
            have w2 := W1 _ _ _ _ _ _ _ _ hr2
            have jp : 2 ≤ j_par k := by rcases kk with rfl | rfl | rfl | rfl | rfl | rfl <;> decide
            have pa := eR_id (ga (by omega)).2.1
            have pb := eR_id (gb jp).2.1
            refine sim_two N1 M1 h1 H he kk hd hf i0 (by omega) ht ⟨by omega, by omega⟩ hD hr hr2 fun i' w' yy l1 l2 R c6 q6 f0 f1 f2 f3 vv vx d6 => ?_
            have e6 : eW w' 0 hb (ce k n id a b c) := eW_x q6.2.2.2 he
            have fin : ∀ w'', RD C sil o a0 D K0 hb s1 E1 w'' → w''.1 33 1 = w.1 33 1 → fQ (w.1 33 1) hb w w'' → vW_ w'' v (w''.1 41 11) → w''.1 41 10 = -1 → dr fr Q (i' + 1) w'' := fun w'' z1 z2 z3 z4 z5 => K (i' + 1) w'' (by omega) (by omega) z1 z2 z3 z4 z5
            have hi' : 0 ≤ i' ∧ i' ≤ 900000 := ⟨by omega, by omega⟩
            unfold o_pair at h
            by_cases k13 : k = 13
            · rw [if_pos k13] at h
              subst k13
              exact sim_13 e6 pa pb R ctw htx c6 q6 f0 f1 f2 f3 vv vx d6 hf hi' (by omega) hB.2 h fin
            · rw [if_neg k13] at h
              by_cases k30 : k = 30
              · rw [if_pos k30] at h
                subst k30
                cases h
                exact sim_30 e6 R ctw htx c6 q6 f0 f1 f2 f3 vv vx d6 hf hi' (by omega) fin
              · rw [if_neg k30] at h
                exact sim_arith (by omega) e6 R ctw htx c6 q6 f0 f1 f2 f3 vv vx d6 hf hi' hB.2 h fin
          · cases h
        · cases h
      · cases h
    · rw [ev1_one (by omega)] at h
      split at h
      · rename_i ht
        split at h
        · rename_i x E2 s2 hr
          have m1 := M1 _ _ _ _ _ _ _ _ hr hl1
          have m3 := o_one_M (hb := hb) (fun q => by omega) h m1.2.2.2.2.1
          have b3 : s_b s2 ≤ s_b s1 := m3.1
          have t3 : s_nt s2 ≤ s_nt s1 := m3.2.1
          have hDa : D → e_imp a = false ∧ n_ni E := fun q => ⟨(e_imp_ce (hD q).1).2.1, (hD q).2⟩
          have jp : 1 ≤ j_par k := by rcases kk with rfl | rfl | rfl | rfl | rfl <;> decide
          have pa := eR_id (ga jp).2.1
          rcases kk with rfl | rfl | rfl | rfl | rfl
          · have h : some (v0, n_set E2 (n % 10).toNat x, s2) = some (v, E1, s1) := h
            cases h
            exact sim_15 M1 h1 H he hd hf i0 (by omega) ht ⟨by omega, by omega⟩ hDa hr K
          · exact sim_20 M1 W1 h1 H he pa hd hf i0 (by omega) ht ⟨by omega, hB.2⟩ hDa hr h K
          · exact sim_21 M1 W1 h1 H he hd hf i0 (by omega) ht ⟨by omega, hB.2⟩ hDa hr h K
          · exact sim_28 M1 h1 H he pa hd hf i0 (by omega) ht ⟨by omega, hB.2⟩ hDa hr h K
          · exact sim_31 M1 h1 H he hd hf i0 (by omega) ht ⟨by omega, hB.2⟩ hDa hr h K
        · cases h
      · cases h
    · cases hb with
      | false =>
        rw [ev1_pl kk] at h
        split at h
        · rename_i ht
          cases h
          have hB1 : s_b s + 1 ≤ 90000 := hB.1
          have hB2 : s_nt s + 1 ≤ 900000 := hB.2
          exact sim_pl kk H he hd hf ⟨i0, by omega⟩ ht ⟨by omega, by omega⟩ K
        · cases h
      | true =>
        rw [ev1_one (Or.inr (Or.inr (Or.inr (Or.inr (Or.inr ⟨kk, rfl⟩)))))] at h
        split at h
        · rename_i ht
          split at h
          · rename_i x E2 s2 hr
            have m1 := M1 _ _ _ _ _ _ _ _ hr hl1
            have m3 := o_one_M (hb := true) (fun _ => rfl) h m1.2.2.2.2.1
            have b3 : s_b s2 ≤ s_b s1 := m3.1
            have t3 : s_nt s2 ≤ s_nt s1 := m3.2.1
            have hDa : D → e_imp a = false ∧ n_ni E := fun q => ⟨(e_imp_ce (hD q).1).2.1, (hD q).2⟩
            rcases kk with rfl | rfl
            · exact sim_18 M1 W1 h1 H he hd hf i0 (by omega) ht ⟨by omega, hB.2⟩ hDa hr h K
            · exact sim_19 M1 W1 h1 H he hd hf i0 (by omega) ht ⟨by omega, hB.2⟩ hDa hr rfl h K
          · cases h
        · cases h
/-- what a run in E's evaluator says of the class' run; IMPORT is asked for -/
theorem ev_Q (h29 : ∀ K0 m, cSK C sil o K0 (ev C m) → cI C sil o K0 (2 * m + 1000) (ev C m)) : ∀ m K0, cSK C sil o K0 (ev C m) := by
  intro m
  induction m using Nat.strongRecOn with
  | _ m ih =>
    match m, ih with
    | 0, _ => intro _ _ _ _ _ _ _ _ h; cases h
    | 1, _ => intro _ _ _ _ _ _ _ _ h; cases h
    | 2, _ => intro _ _ _ _ _ _ _ _ h; cases h
    | 3, _ => intro _ _ _ _ _ _ _ _ h; cases h
    | m + 4, ih =>
      intro K0
      rw [ev_4]
      exact ev1_Q (ev_N C _) (ev_M C _) (ev_W C _) (ev_T C _) (ev_M C _) (ih (m + 3) (by omega) K0) (ih (m + 2) (by omega)) (h29 K0 m (ih m (by omega) K0))
end
