/-! ===== the evaluator: a silent run, bounds that stay ===== -/
def eSQ (sil : Bool) (s s1 : S_) : Prop := (s_tb s ≤ 2000 → s_tb s1 ≤ 2000) ∧ (s_rw s ≤ 2040 → s_rw s1 ≤ 2040) ∧ (sil = true → s_me s1 = s_me s ∧ s_rn s1 = s_rn s ∧ s_tk s1 = s_tk s) ∧ s_nd s ≤ s_nd s1 ∧ s_rw s ≤ s_rw s1
def eSK (K : K_) : Prop := ∀ sil e E hb s v E1 s1, K sil e E hb s = some (v, E1, s1) → e_imp e = false → n_ni E → eSQ sil s s1 ∧ v_ni v = true ∧ n_ni E1
theorem eSQ_e {sil : Bool} {s s1 : S_} (h1 : s_tb s1 = s_tb s) (h2 : s_rw s1 = s_rw s) (h3 : s_me s1 = s_me s) (h4 : s_rn s1 = s_rn s) (h5 : s_tk s1 = s_tk s) (h6 : s_nd s ≤ s_nd s1) : eSQ sil s s1 := ⟨fun q => by rw [h1]; exact q, fun q => by rw [h2]; exact q, fun _ => ⟨h3, h4, h5⟩, h6, Nat.le_of_eq h2.symm⟩
theorem eSQ_tr {sil : Bool} {s s1 s2 : S_} (h : eSQ sil s s1) (g : eSQ sil s1 s2) : eSQ sil s s2 := ⟨fun q => g.1 (h.1 q), fun q => g.2.1 (h.2.1 q), fun q => ⟨(g.2.2.1 q).1.trans (h.2.2.1 q).1, (g.2.2.1 q).2.1.trans (h.2.2.1 q).2.1, (g.2.2.1 q).2.2.trans (h.2.2.1 q).2.2⟩, Nat.le_trans h.2.2.2.1 g.2.2.2.1, Nat.le_trans h.2.2.2.2 g.2.2.2.2⟩
theorem eSQ_refl {sil : Bool} {s : S_} : eSQ sil s s := eSQ_e rfl rfl rfl rfl rfl (Nat.le_refl _)
theorem eSQ_go {sil : Bool} {s s1 : S_} (ht : s_tb s < 2000) (h : eSQ sil (u_go s) s1) : eSQ sil s s1 := ⟨fun _ => h.1 ht, h.2.1, h.2.2⟩
theorem eSQ_go0 {sil : Bool} {s : S_} (ht : s_tb s < 2000) : eSQ sil s (u_go s) := eSQ_go ht eSQ_refl
theorem eSQ_nd {sil : Bool} {s s1 : S_} {k : Nat} (h : eSQ sil s s1) : eSQ sil s (u_nd s1 k) := ⟨h.1, h.2.1, h.2.2.1, Nat.le_trans h.2.2.2.1 (Nat.le_add_right _ _), h.2.2.2.2⟩
theorem eSQ_rw0 {sil : Bool} {s s1 : S_} {k : Nat} (hr : k ≤ 2040) (hk : s_rw s ≤ k) (h : eSQ sil (u_rw s k) s1) : eSQ sil s s1 := ⟨h.1, fun _ => h.2.1 hr, h.2.2.1, h.2.2.2.1, Nat.le_trans hk h.2.2.2.2⟩
theorem eSQ_funs {sil : Bool} {s : S_} {C : C_} {v : T_} {id : Nat} : eSQ sil s (f_funs C v id s) := by
  unfold f_funs
  obtain ⟨l, h, -⟩ := f_notes_eq C (f_code 3 id) (min 60 (v_nf v)) s
  rw [h]
  exact eSQ_e rfl rfl rfl rfl rfl (Nat.le_refl _)
theorem o_bad_S {sil : Bool} {C : C_} {k id : Nat} {E E1 : N_} {s s1 : S_} {v : T_} (h : o_bad C k id E s = some (v, E1, s1)) (hE : n_ni E) : eSQ sil s s1 ∧ v_ni v = true ∧ n_ni E1 := by
  unfold o_bad at h
  cases h
  exact ⟨eSQ_e rfl rfl rfl rfl rfl (by first | exact Nat.le_refl _ | exact Nat.le_add_right _ _), rfl, hE⟩
theorem o_name_S {sil : Bool} {C : C_} {id : Nat} {o : Option T_} {E E1 : N_} {s s1 : S_} {v : T_} (h : o_name C id o E s = some (v, E1, s1)) (ho : ∀ x, o = some x → v_ni x = true) (hE : n_ni E) : eSQ sil s s1 ∧ v_ni v = true ∧ n_ni E1 := by
  cases o with
  | none => exact o_bad_S h hE
  | some x => cases h; exact ⟨eSQ_refl, ho _ rfl, hE⟩
theorem o_ask_S {sil : Bool} {C : C_} {q id : Nat} {E E1 : N_} {s s1 : S_} {v : T_} (h : o_ask C q id E s = some (v, E1, s1)) (hE : n_ni E) : eSQ sil s s1 ∧ v_ni v = true ∧ n_ni E1 := by
  unfold o_ask at h
  cases c : C.1 q with
  | none => rw [c] at h; exact o_bad_S h hE
  | some x =>
    rw [c] at h
    cases h
    exact ⟨eSQ_e rfl rfl rfl rfl rfl (by first | exact Nat.le_refl _ | exact Nat.le_add_right _ _), rfl, hE⟩
theorem o_mk_S {sil : Bool} {k : Nat} {e : T_} {E E1 : N_} {s s1 : S_} {v : T_} (hk : k = 7 ∨ k = 12 ∧ e_imp (e_part e) = false) (h : o_mk k e E s = some (v, E1, s1)) (hE : n_ni E) : eSQ sil s s1 ∧ v_ni v = true ∧ n_ni E1 := by
  unfold o_mk at h
  split at h
  · rename_i hrw
    cases h
    refine ⟨⟨fun q => q, fun _ => hrw, fun _ => ⟨rfl, rfl, rfl⟩, Nat.le_add_right _ _, Nat.le_succ _⟩, ?_, hE⟩
    rcases hk with rfl | ⟨rfl, he⟩
    · rfl
    · show (!e_imp (e_part e) && v_ni _) = true
      rw [he, n_clos_ni hE]
      rfl
  · cases h
theorem o_two_S {sil : Bool} {C : C_} {k id : Nat} {a b : T_} {E E1 : N_} {s s1 : S_} {v : T_} (h : o_two C k id a b E s = some (v, E1, s1)) (hE : n_ni E) : eSQ sil s s1 ∧ v_ni v = true ∧ n_ni E1 := by
  unfold o_two at h
  split at h
  · cases h; exact ⟨eSQ_refl, rfl, hE⟩
  · split at h
    · cases h; exact ⟨eSQ_refl, rfl, hE⟩
    · exact o_bad_S h hE
theorem o_mark_S {sil : Bool} {C : C_} {k id : Nat} {n : Int} {v e : T_} {E E1 : N_} {s s1 : S_} {w : T_} (h : o_mark C k n id v e E s = some (w, E1, s1)) (hE : n_ni E) : eSQ sil s s1 ∧ v_ni w = true ∧ n_ni E1 := by
  unfold o_mark at h
  split at h
  · cases h; exact ⟨eSQ_refl, rfl, hE⟩
  · split at h
    · split at h
      · cases h; exact ⟨eSQ_e rfl rfl rfl rfl rfl (by first | exact Nat.le_refl _ | exact Nat.le_add_right _ _), rfl, hE⟩
      · exact o_bad_S h hE
    · split at h
      · cases h; exact ⟨eSQ_e rfl rfl rfl rfl rfl (by first | exact Nat.le_refl _ | exact Nat.le_add_right _ _), rfl, hE⟩
      · exact o_bad_S h hE
theorem o_one_S {sil : Bool} {L : Nat} {C : C_} {k id : Nat} {n : Int} {a v e : T_} {E E1 : N_} {s s1 : S_} {w : T_} (h : o_one L C k n id a v e E s = some (w, E1, s1)) (hE : n_ni E) (hv : v_ni v = true) : eSQ sil s s1 ∧ v_ni w = true ∧ n_ni E1 := by
  by_cases ke : k ≠ 15 ∧ k ≠ 18 ∧ k ≠ 19 ∧ k ≠ 20 ∧ k ≠ 21 ∧ k ≠ 28
  · rcases pk_or v with ⟨x, y, rfl⟩ | hp
    · rw [pk_13 ke] at h
      cases h
      have h1 := (Bool.and_eq_true _ _).mp hv
      refine ⟨eSQ_refl, ?_, hE⟩
      split
      · exact h1.1
      · exact h1.2
    · rw [hp _ _ _ _ _ _ _ _ _ ke] at h
      split at h
      · cases h; exact ⟨eSQ_refl, rfl, hE⟩
      · exact o_bad_S h hE
  unfold o_one at h
  split at h
  · cases h; exact ⟨eSQ_refl, rfl, n_set_ni hE hv⟩
  · exact o_mark_S h hE
  · exact o_mark_S h hE
  · split at h
    · rename_i hf
      cases h
      obtain ⟨-, rfl⟩ := f_fu_inv hf
      exact ⟨eSQ_nd eSQ_funs, rfl, hE⟩
    · cases h
  · split at h
    · cases h; exact ⟨eSQ_refl, rfl, hE⟩
    · split at h
      · cases h; exact ⟨eSQ_e rfl rfl rfl rfl rfl (by first | exact Nat.le_refl _ | exact Nat.le_add_right _ _), rfl, hE⟩
      · exact o_bad_S h hE
  · split at h
    · rename_i hf
      cases h
      obtain ⟨-, rfl⟩ := f_fu_inv hf
      exact ⟨eSQ_funs, rfl, hE⟩
    · cases h
  · exfalso
    apply ke
    refine ⟨?_, ?_, ?_, ?_, ?_, ?_⟩ <;> assumption
theorem o_pair_S {sil : Bool} {L : Nat} {C : C_} {k id : Nat} {a b x y : T_} {E E1 : N_} {s s1 : S_} {w : T_} (h : o_pair L C k id a b x y E s = some (w, E1, s1)) (hE : n_ni E) (hx : v_ni x = true) (hy : v_ni y = true) : eSQ sil s s1 ∧ v_ni w = true ∧ n_ni E1 := by
  unfold o_pair at h
  split at h
  · split at h
    · rename_i hf
      split at h
      · rename_i hg
        cases h
        obtain ⟨-, rfl⟩ := f_fu_inv hf
        obtain ⟨-, rfl⟩ := f_fu_inv hg
        exact ⟨eSQ_nd (eSQ_tr eSQ_funs eSQ_funs), v_join_ni hx hy, hE⟩
      · cases h
    · cases h
  · split at h
    · cases h
      refine ⟨eSQ_e rfl rfl rfl rfl rfl (by first | exact Nat.le_refl _ | exact Nat.le_add_right _ _), ?_, hE⟩
      show (v_ni x && v_ni y) = true
      rw [hx, hy]
      rfl
    · exact o_two_S h hE
theorem t_frm_S {L : Nat} {rec : K_} {C : C_} {sil : Bool} (hK : eSK rec) : ∀ (m : Nat) (t : T_), it_len t ≤ m → ∀ (w : Nat) (E : N_) (s : S_) (w1 : Nat) (E1 : N_) (s1 : S_), t_frm L rec C sil t w E s = some (w1, E1, s1) → e_imp t = false → n_ni E → eSQ sil s s1 ∧ n_ni E1 := by
  intro m
  induction m with
  | zero =>
    intro t ht w E s w1 E1 s1 h hi hE
    rcases ct_or t with ⟨k, n, id, x, r, rfl⟩ | ⟨-, he⟩
    · rw [it_ct] at ht; omega
    · rw [he] at h
      cases h
      exact ⟨eSQ_refl, hE⟩
  | succ m ih =>
    intro t ht w E s w1 E1 s1 h hi hE
    rcases ct_or t with ⟨k, n, id, x, r, rfl⟩ | ⟨-, he⟩
    · rw [it_ct] at ht
      obtain ⟨hi1, hi2⟩ := e_imp_ct hi
      rw [t_frm_ct] at h
      split at h
      · split at h
        · split at h
          · rename_i v E2 s2 hr
            split at h
            · rename_i s3 hf
              obtain ⟨-, rfl⟩ := f_fu_inv hf
              obtain ⟨a1, a2, a3⟩ := hK _ _ _ _ _ _ _ _ hr hi1 hE
              obtain ⟨b1, b2⟩ := ih r (by omega) _ _ _ _ _ _ h hi2 a3
              exact ⟨eSQ_go (by assumption) (eSQ_tr a1 (eSQ_tr eSQ_funs b1)), b2⟩
            · cases h
          · cases h
        · obtain ⟨b1, b2⟩ := ih r (by omega) _ _ _ _ _ _ h hi2 hE
          exact ⟨eSQ_go (by assumption) b1, b2⟩
      · cases h
    · rw [he] at h
      cases h
      exact ⟨eSQ_refl, hE⟩
theorem t_item_S {L : Nat} {rec : K_} {C : C_} {sil : Bool} (hK : eSK rec) {k : Nat} {n : Int} {x : T_} {E E1 : N_} {s s1 : S_} {v : T_} (h : t_item L rec C sil k n x E s = some (v, E1, s1)) (ht : s_tb s < 2000) (hi : e_imp x = false) (hE : n_ni E) : eSQ sil s s1 ∧ n_ni E1 := by
  unfold t_item at h
  split at h
  · split at h
    · rename_i v E2 s2 hr
      split at h
      · rename_i s3 hf
        obtain ⟨-, rfl⟩ := f_fu_inv hf
        cases h
        obtain ⟨a1, a2, a3⟩ := hK _ _ _ _ _ _ _ _ hr hi hE
        exact ⟨eSQ_nd (eSQ_go ht (eSQ_tr a1 eSQ_funs)), a3⟩
      · cases h
    · cases h
  · split at h
    · split at h
      · rename_i w E2 s2 hr
        cases h
        obtain ⟨b1, b2⟩ := t_frm_S hK _ _ (Nat.le_refl _) _ _ _ _ _ _ hr hi hE
        exact ⟨eSQ_nd (eSQ_go ht b1), b2⟩
      · cases h
    · cases h
      exact ⟨eSQ_nd (eSQ_go0 ht), hE⟩
theorem t_run_S {L : Nat} {rec : K_} {C : C_} {sil : Bool} (hK : eSK rec) : ∀ (m : Nat) (t : T_), it_len t ≤ m → ∀ (q : T_) (f : Bool) (E : N_) (s : S_) (q1 : T_) (f1 : Bool) (E1 : N_) (s1 : S_), t_run L rec C sil t q f E s = some (q1, f1, E1, s1) → e_imp t = false → n_ni E → eSQ sil s s1 ∧ n_ni E1 := by
  intro m
  induction m with
  | zero =>
    intro t ht q f E s q1 f1 E1 s1 h hi hE
    rcases ct_or t with ⟨k, n, id, x, r, rfl⟩ | ⟨he, -⟩
    · rw [it_ct] at ht; omega
    · rw [he] at h
      cases h
      exact ⟨eSQ_refl, hE⟩
  | succ m ih =>
    intro t ht q f E s q1 f1 E1 s1 h hi hE
    rcases ct_or t with ⟨k, n, id, x, r, rfl⟩ | ⟨he, -⟩
    · rw [it_ct] at ht
      obtain ⟨hi1, hi2⟩ := e_imp_ct hi
      rw [t_run_ct] at h
      split at h
      · split at h
        · rename_i v E2 s2 hr
          obtain ⟨a1, a2⟩ := t_item_S hK hr (by assumption) hi1 hE
          obtain ⟨b1, b2⟩ := ih r (by omega) _ _ _ _ _ _ _ _ h hi2 a2
          exact ⟨eSQ_tr a1 ⟨b1.1, b1.2.1, b1.2.2⟩, b2⟩
        · cases h
      · cases h
    · rw [he] at h
      cases h
      exact ⟨eSQ_refl, hE⟩
theorem t_block_S {L : Nat} {rec : K_} {C : C_} {sil : Bool} (hK : eSK rec) {t : T_} {E E1 : N_} {s s1 : S_} {v : T_} (h : t_block L rec C sil t E s = some (v, E1, s1)) (hi : e_imp t = false) (hE : n_ni E) : eSQ sil s s1 ∧ v_ni v = true := by
  unfold t_block at h
  split at h
  · rename_i q f E2 s2 hr
    cases h
    obtain ⟨a1, a2⟩ := t_run_S hK _ _ (Nat.le_refl _) _ _ _ _ _ _ _ _ hr hi hE
    refine ⟨⟨a1.1, a1.2.1, a1.2.2.1, Nat.le_trans a1.2.2.2.1 (Nat.le_add_right _ _), a1.2.2.2.2⟩, ?_⟩
    split
    · exact v_ni_9 _
    · rfl
  · cases h
theorem o_body_S {rec : K_} {C : C_} {sil keep : Bool} (hK : eSK rec) {fn v w : T_} {s s2 : S_} (hk : sil = true → keep = false) (h : o_body rec C sil keep fn v s = some (w, s2)) (hf : v_isF fn = true) (hn : v_ni fn = true) (hv : v_ni v = true) : eSQ sil s s2 ∧ v_ni w = true := by
  obtain ⟨hrw, E1, s1, me, hr, -, rfl, hme⟩ := o_body_inv h
  obtain ⟨hi, hc⟩ := fn_ni hf hn
  obtain ⟨a1, a2, a3⟩ := hK _ _ _ _ _ _ _ _ hr hi (n_body_ni hc hv hn)
  refine ⟨⟨a1.1, fun _ => a1.2.1 hrw, fun q => ?_, a1.2.2.2.1, Nat.le_trans (Nat.le_succ _) a1.2.2.2.2⟩, a2⟩
  obtain ⟨b1, b2, b3⟩ := a1.2.2.1 q
  refine ⟨?_, b2, b3⟩
  show me = s_me s
  rcases hme with ⟨-, e⟩ | ⟨e, -⟩
  · rw [e]; exact b1
  · rw [hk q] at e; cases e.1
theorem r_find_sil {C : C_} {fn v : T_} {s : S_} : r_find C true fn v s = none := by
  unfold r_find
  split
  · rename_i h _
    cases h
  · rfl
theorem o_call_S {rec : K_} {C : C_} {sil : Bool} (hK : eSK rec) {id : Nat} {fn v w : T_} {E E1 : N_} {s s1 : S_} (h : o_call rec C sil id fn v E s = some (w, E1, s1)) (hf : v_isF fn = true) (hn : v_ni fn = true) (hv : v_ni v = true) (hE : n_ni E) : eSQ sil s s1 ∧ v_ni w = true ∧ n_ni E1 := by
  obtain ⟨rfl, ⟨-, rfl, rfl⟩ | ⟨-, ⟨-, rfl, rfl⟩ | ⟨-, ⟨-, rfl, rfl⟩ | ⟨-, ⟨r, hr, hq⟩ | ⟨-, hq⟩⟩⟩⟩⟩ := o_call_inv h
  · exact ⟨eSQ_refl, rfl, hE⟩
  · exact ⟨eSQ_e rfl rfl rfl rfl rfl (Nat.le_refl _), rfl, hE⟩
  · exact ⟨eSQ_e rfl rfl rfl rfl rfl (Nat.le_refl _), rfl, hE⟩
  · obtain ⟨a1, a2⟩ := o_body_S hK (fun _ => rfl) hq hf hn hv
    refine ⟨⟨a1.1, a1.2.1, fun q => ?_, a1.2.2.2⟩, a2, hE⟩
    rw [q, r_find_sil] at hr
    cases hr
  · obtain ⟨a1, a2⟩ := o_body_S hK (fun q => by unfold r_keep; rw [q]; rfl) hq hf hn hv
    refine ⟨⟨a1.1, a1.2.1, fun q => ?_, a1.2.2.2⟩, a2, hE⟩
    obtain ⟨b1, b2, b3⟩ := a1.2.2.1 q
    refine ⟨b1, b2.trans ?_, b3⟩
    show (if sil = true then s_rn s else s_rn s + 1) = s_rn s
    rw [if_pos q]
theorem ev1_S {L : Nat} {C : C_} {r1 r2 r4 : K_} (h1 : eSK r1) (h2 : eSK r2) : eSK (ev1 L C r1 r2 r4) := by
  intro sil e E hb s v E1 s1 h hi hE
  have K0 : s_tb s < 2000 → eSQ sil (u_go s) s1 ∧ v_ni v = true ∧ n_ni E1 → eSQ sil s s1 ∧ v_ni v = true ∧ n_ni E1 := fun ht k => ⟨eSQ_go ht k.1, k.2⟩
  rcases ce_or e with ⟨k, n, id, a, b, c, rfl⟩ | he
  · obtain ⟨k29, ia, ib, ic⟩ := e_imp_ce hi
    by_cases ko : k < 6 ∨ 31 < k
    · rw [ev1_oth ko] at h
      split at h
      · cases h; exact ⟨eSQ_go0 (by assumption), rfl, hE⟩
      · cases h
    · have kk : k = 6 ∨ k = 7 ∨ k = 8 ∨ k = 16 ∨ k = 22 ∨ k = 23 ∨ k = 24 ∨ k = 25 ∨ k = 26 ∨ k = 27 ∨ k = 14 ∨ k = 17 ∨ (k = 9 ∨ k = 10 ∨ k = 11 ∨ k = 12 ∨ k = 13 ∨ k = 30) ∨ (k = 15 ∨ k = 20 ∨ k = 21 ∨ k = 28 ∨ k = 31) ∨ (k = 18 ∨ k = 19) := by omega
      rcases kk with rfl | rfl | rfl | rfl | rfl | rfl | rfl | rfl | rfl | rfl | rfl | rfl | kk | kk | kk
      · rw [ev1_6] at h
        split at h
        · cases h; exact ⟨eSQ_go0 (by assumption), rfl, hE⟩
        · cases h
      · rw [ev1_7] at h
        split at h
        · exact K0 (by assumption) (o_name_S h (fun x q => hE _ _ q) hE)
        · cases h
      · rw [ev1_8] at h
        split at h
        · split at h
          · split at h
            · rename_i w E2 s2 hr
              cases h
              obtain ⟨a1, a2⟩ := t_block_S h2 hr ia hE
              exact ⟨eSQ_go (by assumption) (eSQ_rw0 (k := s_rw s + 1) (by assumption) (Nat.le_succ _) a1), a2, hE⟩
            · cases h
          · cases h
        · cases h
      · rw [ev1_16] at h
        split at h
        · exact K0 (by assumption) (o_mk_S (e := ce 16 n id a b c) (Or.inr ⟨rfl, ia⟩) h hE)
        · cases h
      · rw [ev1_22] at h
        split at h
        · exact K0 (by assumption) (o_mk_S (Or.inl rfl) h hE)
        · cases h
      · rw [ev1_23] at h
        split at h
        · exact K0 (by assumption) (o_ask_S h hE)
        · cases h
      · rw [ev1_24] at h
        split at h
        · exact K0 (by assumption) (o_ask_S h hE)
        · cases h
      · rw [ev1_25] at h
        split at h
        · exact K0 (by assumption) (o_ask_S h hE)
        · cases h
      · rw [ev1_26] at h
        split at h
        · exact K0 (by assumption) (o_ask_S h hE)
        · cases h
      · rw [ev1_27] at h
        split at h
        · exact K0 (by assumption) (o_ask_S h hE)
        · cases h
      · rw [ev1_14] at h
        split at h
        · split at h
          · rename_i w E2 s2 hr
            obtain ⟨a1, a2, a3⟩ := h1 _ _ _ _ _ _ _ _ hr ia hE
            split at h
            · cases h; exact K0 (by assumption) ⟨a1, rfl, a3⟩
            · split at h
              · obtain ⟨b1, b2⟩ := h1 _ _ _ _ _ _ _ _ h (by split <;> assumption) a3
                exact K0 (by assumption) ⟨eSQ_tr a1 b1, b2⟩
              · obtain ⟨b1, b2⟩ := o_bad_S h a3
                exact K0 (by assumption) ⟨eSQ_tr a1 b1, b2⟩
          · cases h
        · cases h
      · rw [ev1_17] at h
        split at h
        · split at h
          · rename_i w E2 s2 hr
            obtain ⟨a1, a2, a3⟩ := h1 _ _ _ _ _ _ _ _ hr ia hE
            split at h
            · cases h; exact K0 (by assumption) ⟨a1, rfl, a3⟩
            · split at h
              · rename_i hf
                split at h
                · rename_i w2 E3 s3 hr2
                  obtain ⟨b1, b2, b3⟩ := h1 _ _ _ _ _ _ _ _ hr2 ib a3
                  obtain ⟨d1, d2⟩ := o_call_S h2 h hf a2 b2 b3
                  exact K0 (by assumption) ⟨eSQ_tr a1 (eSQ_tr b1 d1), d2⟩
                · cases h
              · obtain ⟨b1, b2⟩ := o_bad_S h a3
                exact K0 (by assumption) ⟨eSQ_tr a1 b1, b2⟩
          · cases h
        · cases h
      · rw [ev1_two kk] at h
        split at h
        · split at h
          · rename_i w E2 s2 hr
            obtain ⟨a1, a2, a3⟩ := h1 _ _ _ _ _ _ _ _ hr ia hE
            split at h
            · rename_i w2 E3 s3 hr2
              obtain ⟨b1, b2, b3⟩ := h1 _ _ _ _ _ _ _ _ hr2 ib a3
              obtain ⟨d1, d2⟩ := o_pair_S h b3 a2 b2
              exact K0 (by assumption) ⟨eSQ_tr a1 (eSQ_tr b1 d1), d2⟩
            · cases h
          · cases h
        · cases h
      · rw [ev1_one (by omega)] at h
        split at h
        · split at h
          · rename_i w E2 s2 hr
            obtain ⟨a1, a2, a3⟩ := h1 _ _ _ _ _ _ _ _ hr ia hE
            obtain ⟨d1, d2⟩ := o_one_S h a3 a2
            exact K0 (by assumption) ⟨eSQ_tr a1 d1, d2⟩
          · cases h
        · cases h
      · cases hb with
        | false =>
          rw [ev1_pl kk] at h
          split at h
          · exact K0 (by assumption) (o_bad_S h hE)
          · cases h
        | true =>
          rw [ev1_one (Or.inr (Or.inr (Or.inr (Or.inr (Or.inr ⟨kk, rfl⟩)))))] at h
          split at h
          · split at h
            · rename_i w E2 s2 hr
              obtain ⟨a1, a2, a3⟩ := h1 _ _ _ _ _ _ _ _ hr ia hE
              obtain ⟨d1, d2⟩ := o_one_S h a3 a2
              exact K0 (by assumption) ⟨eSQ_tr a1 d1, d2⟩
            · cases h
          · cases h
  · rw [he] at h
    cases h
    exact ⟨eSQ_e rfl rfl rfl rfl rfl (by first | exact Nat.le_refl _ | exact Nat.le_add_right _ _), rfl, hE⟩
theorem ev_S (C : C_) : ∀ n, eSK (ev C n) := by
  intro n
  induction n using Nat.strongRecOn with
  | _ n ih =>
    match n, ih with
    | 0, _ => intro _ _ _ _ _ _ _ _ h; cases h
    | 1, _ => intro _ _ _ _ _ _ _ _ h; cases h
    | 2, _ => intro _ _ _ _ _ _ _ _ h; cases h
    | 3, _ => intro _ _ _ _ _ _ _ _ h; cases h
    | n + 4, ih =>
      rw [ev_4]
      exact ev1_S (ih (n + 3) (by omega)) (ih (n + 2) (by omega))
