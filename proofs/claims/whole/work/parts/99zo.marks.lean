/-! ===== the evaluator: marks have no width ===== -/
def mkW (t : T_) : Prop := ∀ z, (v_wq t z).1 = 0
def eTQ (s s1 : S_) : Prop := mkW (s_tl s) → mkW (s_tl s1)
theorem eTQ_M {s s1 : S_} (h : eMQ false s s1) : eTQ s s1 := by
  intro q
  have e : s_tl s1 = s_tl s := h.2.2.2.2.2.2.2.1 rfl
  unfold mkW at q ⊢
  rw [e]
  exact q
theorem mkW_chain {a b : T_} (ha : mkW a) (hb : mkW b) : mkW (v_chain a b) := by
  by_cases c : a = .nil
  · rw [c]; exact hb
  · rw [v_chain_ne c]
    intro z
    show m9 ((v_wq a z).1 + (v_wq b (v_wq a z).2).1) = 0
    rw [ha, hb]
    rfl
theorem mkW_10 (p : Nat) (x : Int) : mkW (.tag 10 (.tag p (.nest x .nil))) := by
  intro z
  cases p with
  | zero => rfl
  | succ p => rfl
theorem mkW_11 (t : T_) : mkW (.tag 11 t) := fun _ => rfl
theorem mkW_0 : mkW .nil := fun _ => rfl
theorem o_mark_T {C : C_} {k id : Nat} {n : Int} {v e : T_} {E E1 : N_} {s s1 : S_} {w : T_} (h : o_mark C k n id v e E s = some (w, E1, s1)) : eTQ s s1 := by
  unfold o_mark at h
  split at h
  · cases h; exact fun q => q
  · split at h
    · split at h
      · cases h
        exact fun q => mkW_chain q (mkW_10 _ _)
      · cases h; exact fun q => q
    · split at h
      · cases h
        exact fun q => mkW_chain q (mkW_11 _)
      · cases h; exact fun q => q
def eTK (K : K_) : Prop := ∀ sil e E hb s v E1 s1, K sil e E hb s = some (v, E1, s1) → s_lt s ≤ s_b s → eTQ s s1
theorem ev1_T {L : Nat} {C : C_} {r1 r2 r4 : K_} (h1 : eMK r1) (h2 : eMK r2) (h4 : eMK r4) (t1 : eTK r1) : eTK (ev1 L C r1 r2 r4) := by
  intro sil e E hb s v E1 s1 h hl
  have hg : eTQ s (u_go s) := fun q => q
  have hl1 : s_lt (u_go s) ≤ s_b (u_go s) := Nat.le_succ_of_le hl
  rcases ce_or e with ⟨k, n, id, a, b, c, rfl⟩ | he
  · by_cases ko : k < 6 ∨ 31 < k
    · rw [ev1_oth ko] at h
      split at h
      · cases h; exact hg
      · cases h
    · have kk : k = 6 ∨ k = 7 ∨ k = 8 ∨ k = 16 ∨ k = 22 ∨ k = 23 ∨ k = 24 ∨ k = 25 ∨ k = 26 ∨ k = 27 ∨ k = 29 ∨ k = 14 ∨ k = 17 ∨ (k = 9 ∨ k = 10 ∨ k = 11 ∨ k = 12 ∨ k = 13 ∨ k = 30) ∨ (k = 15 ∨ k = 20 ∨ k = 21 ∨ k = 28 ∨ k = 31) ∨ (k = 18 ∨ k = 19) := by omega
      rcases kk with rfl | rfl | rfl | rfl | rfl | rfl | rfl | rfl | rfl | rfl | rfl | rfl | rfl | kk | kk | kk
      · rw [ev1_6] at h
        split at h
        · cases h; exact hg
        · cases h
      · rw [ev1_7] at h
        split at h
        · exact (eTQ_M (s := u_go s) (o_name_M (hb := false) h hl1))
        · cases h
      · rw [ev1_8] at h
        split at h
        · split at h
          · split at h
            · rename_i w E2 s2 hr
              cases h
              exact eTQ_M (s := u_go s) (eMQ_rw0 (t_block_M (s := u_rw (u_go s) (s_rw s + 1)) h2 hr hl1))
            · cases h
          · cases h
        · cases h
      · rw [ev1_16] at h
        split at h
        · exact (eTQ_M (s := u_go s) (o_mk_M (hb := false) h hl1))
        · cases h
      · rw [ev1_22] at h
        split at h
        · exact (eTQ_M (s := u_go s) (o_mk_M (hb := false) h hl1))
        · cases h
      · rw [ev1_23] at h
        split at h
        · exact (eTQ_M (s := u_go s) (o_ask_M (hb := false) h hl1))
        · cases h
      · rw [ev1_24] at h
        split at h
        · exact (eTQ_M (s := u_go s) (o_ask_M (hb := false) h hl1))
        · cases h
      · rw [ev1_25] at h
        split at h
        · exact (eTQ_M (s := u_go s) (o_ask_M (hb := false) h hl1))
        · cases h
      · rw [ev1_26] at h
        split at h
        · exact (eTQ_M (s := u_go s) (o_ask_M (hb := false) h hl1))
        · cases h
      · rw [ev1_27] at h
        split at h
        · exact (eTQ_M (s := u_go s) (o_ask_M (hb := false) h hl1))
        · cases h
      · rw [ev1_29] at h
        split at h
        · exact (eTQ_M (s := u_go s) (o_import_M (hb := false) h4 h hl1))
        · cases h
      · rw [ev1_14] at h
        split at h
        · split at h
          · rename_i w E2 s2 hr
            have m1 := h1 _ _ _ _ _ _ _ _ hr hl1
            have g1 : eTQ (u_go s) s2 := t1 _ _ _ _ _ _ _ _ hr hl1
            have ml := m1.2.2.2.2.1
            split at h
            · cases h; exact g1
            · split at h
              · exact fun q => t1 _ _ _ _ _ _ _ _ h ml (g1 q)
              · exact fun q => eTQ_M (o_bad_M (hb := false) h ml) (g1 q)
          · cases h
        · cases h
      · rw [ev1_17] at h
        split at h
        · split at h
          · rename_i w E2 s2 hr
            have m1 := h1 _ _ _ _ _ _ _ _ hr hl1
            have g1 : eTQ (u_go s) s2 := t1 _ _ _ _ _ _ _ _ hr hl1
            have ml := m1.2.2.2.2.1
            split at h
            · cases h; exact g1
            · split at h
              · split at h
                · rename_i w2 E3 s3 hr2
                  have m2 := h1 _ _ _ _ _ _ _ _ hr2 ml
                  have g2 : eTQ s s3 := fun q => t1 _ _ _ _ _ _ _ _ hr2 ml (g1 q)
                  have ml2 := m2.2.2.2.2.1
                  exact fun q => eTQ_M (o_call_M (hb := false) h2 h ml2) (g2 q)
                · cases h
              · exact fun q => eTQ_M (o_bad_M (hb := false) h ml) (g1 q)
          · cases h
        · cases h
      · rw [ev1_two kk] at h
        split at h
        · split at h
          · rename_i w E2 s2 hr
            have m1 := h1 _ _ _ _ _ _ _ _ hr hl1
            have g1 : eTQ (u_go s) s2 := t1 _ _ _ _ _ _ _ _ hr hl1
            have ml := m1.2.2.2.2.1
            split at h
            · rename_i w2 E3 s3 hr2
              have m2 := h1 _ _ _ _ _ _ _ _ hr2 ml
              have g2 : eTQ s s3 := fun q => t1 _ _ _ _ _ _ _ _ hr2 ml (g1 q)
              have ml2 := m2.2.2.2.2.1
              exact fun q => eTQ_M (o_pair_M (hb := false) h ml2) (g2 q)
            · cases h
          · cases h
        · cases h
      · rw [ev1_one (by omega)] at h
        split at h
        · split at h
          · rename_i w E2 s2 hr
            have m1 := h1 _ _ _ _ _ _ _ _ hr hl1
            have g1 : eTQ (u_go s) s2 := t1 _ _ _ _ _ _ _ _ hr hl1
            have ml := m1.2.2.2.2.1
            exact fun q => eTQ_M (o_one_M (hb := false) (fun q => by omega) h ml) (g1 q)
          · cases h
        · cases h
      · cases hb with
        | false =>
          rw [ev1_pl kk] at h
          split at h
          · exact (eTQ_M (s := u_go s) (o_bad_M (hb := false) h hl1))
          · cases h
        | true =>
          rw [ev1_one (Or.inr (Or.inr (Or.inr (Or.inr (Or.inr ⟨kk, rfl⟩)))))] at h
          split at h
          · split at h
            · rename_i w E2 s2 hr
              have m1 := h1 _ _ _ _ _ _ _ _ hr hl1
              have g1 : eTQ (u_go s) s2 := t1 _ _ _ _ _ _ _ _ hr hl1
              have ml := m1.2.2.2.2.1
              exact fun q => (by rcases kk with rfl | rfl <;> exact o_mark_T h : eTQ s2 s1) (g1 q)
            · cases h
          · cases h
  · rw [he] at h
    cases h
    exact fun q => q
theorem ev_T (C : C_) : ∀ n, eTK (ev C n) := by
  intro n
  induction n using Nat.strongRecOn with
  | _ n ih =>
    match n, ih with
    | 0, _ => intro _ _ _ _ _ _ _ _ h; cases h
    | 1, _ => intro _ _ _ _ _ _ _ _ h; cases h
    | 2, _ => intro _ _ _ _ _ _ _ _ h; cases h
    | 3, _ => intro _ _ _ _ _ _ _ _ h; cases h
    | n + 4, ih =>
      rw [ev_4]
      exact ev1_T (ev_M C _) (ev_M C _) (ev_M C _) (ih (n + 3) (by omega))
