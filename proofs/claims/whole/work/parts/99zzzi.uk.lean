/-! ===== the evaluator: how many are begun, how many faults there are ===== -/
def eUO (k l : Nat) (s s1 : S_) : Prop := s_b s1 + 3 * s_tb s ≤ s_b s + 3 * s_tb s1 + k ∧ s_nt s1 + 130 * s_b s + 300 * fcz s1 ≤ s_nt s + 130 * s_b s1 + 300 * fcz s + l
def eUK (K : K_) : Prop := ∀ sil e E hb s v E1 s1, K sil e E hb s = some (v, E1, s1) → eUO 1 0 s s1
theorem eUO_tr {k l k' l' : Nat} {s s1 s2 : S_} (h : eUO k l s s1) (g : eUO k' l' s1 s2) : eUO (k + k') (l + l') s s2 := by
  unfold eUO at *
  omega
theorem eUO_le {k l k' l' : Nat} {s s1 : S_} (h : eUO k l s s1) (hk : k ≤ k') (hl : l ≤ l') : eUO k' l' s s1 := by
  unfold eUO at *
  omega
theorem eUO_go {k l : Nat} {s s1 : S_} (h : eUO k l (u_go s) s1) (hk : k ≤ 3) (hl : l ≤ 130) : eUO 1 0 s s1 := by
  obtain ⟨h1, h2⟩ := h
  have h1 : s_b s1 + 3 * (s_tb s + 1) ≤ s_b s + 1 + 3 * s_tb s1 + k := h1
  have h2 : s_nt s1 + 130 * (s_b s + 1) + 300 * fcz s1 ≤ s_nt s + 130 * s_b s1 + 300 * fcz s + l := h2
  unfold eUO
  omega
theorem eUO_g0 {k l : Nat} {s s1 : S_} (h : eUO k l (u_go s) s1) (hk : k ≤ 2) (hl : l ≤ 130) : eUO 0 0 s s1 := by
  obtain ⟨h1, h2⟩ := h
  have h1 : s_b s1 + 3 * (s_tb s + 1) ≤ s_b s + 1 + 3 * s_tb s1 + k := h1
  have h2 : s_nt s1 + 130 * (s_b s + 1) + 300 * fcz s1 ≤ s_nt s + 130 * s_b s1 + 300 * fcz s + l := h2
  unfold eUO
  omega
theorem eUO_refl {k l : Nat} {s : S_} : eUO k l s s := by
  unfold eUO
  omega
/-- only faults are more -/
theorem eUO_nt {k l : Nat} {s s1 : S_} (e1 : s_b s1 = s_b s) (e2 : s_tb s1 = s_tb s) (e3 : s_fs s1 = s_fs s) (e4 : s_nt s1 ≤ s_nt s + l) : eUO k l s s1 := by
  unfold eUO fcz
  rw [e1, e2, e3]
  omega
theorem eUO_funs {k : Nat} {C : C_} {v : T_} {id : Nat} {s : S_} : eUO k 60 s (f_funs C v id s) := by
  unfold f_funs
  obtain ⟨l, h, -⟩ := f_notes_eq C (f_code 3 id) (min 60 (v_nf v)) s
  rw [h]
  exact eUO_nt rfl rfl rfl (by show s_nt s + min 60 (v_nf v) ≤ s_nt s + 60; omega)
theorem eUO_fn {k : Nat} {C : C_} {v : T_} {id : Nat} {s : S_} {x : Nat} : eUO k 60 s (u_nd (f_funs C v id s) x) := by
  unfold f_funs
  obtain ⟨l, h, -⟩ := f_notes_eq C (f_code 3 id) (min 60 (v_nf v)) s
  rw [h]
  exact eUO_nt rfl rfl rfl (by show s_nt s + min 60 (v_nf v) ≤ s_nt s + 60; omega)
theorem o_bad_U {C : C_} {k id : Nat} {E E1 : N_} {s s1 : S_} {v : T_} {m l : Nat} (h : o_bad C k id E s = some (v, E1, s1)) (hl : 1 ≤ l) : eUO m l s s1 := by
  unfold o_bad at h
  cases h
  exact eUO_nt rfl rfl rfl (by show s_nt s + 1 ≤ s_nt s + l; omega)
theorem o_name_U {C : C_} {id : Nat} {o : Option T_} {E E1 : N_} {s s1 : S_} {v : T_} {m l : Nat} (h : o_name C id o E s = some (v, E1, s1)) (hl : 1 ≤ l) : eUO m l s s1 := by
  cases o with
  | none => exact o_bad_U h hl
  | some x => cases h; exact eUO_refl
theorem o_ask_U {C : C_} {q id : Nat} {E E1 : N_} {s s1 : S_} {v : T_} {m l : Nat} (h : o_ask C q id E s = some (v, E1, s1)) (hl : 1 ≤ l) : eUO m l s s1 := by
  unfold o_ask at h
  cases c : C.1 q with
  | none => rw [c] at h; exact o_bad_U h hl
  | some x =>
    rw [c] at h
    cases h
    exact eUO_nt rfl rfl rfl (Nat.le_add_right _ _)
theorem o_mk_U {k : Nat} {e : T_} {E E1 : N_} {s s1 : S_} {v : T_} {m l : Nat} (h : o_mk k e E s = some (v, E1, s1)) : eUO m l s s1 := by
  unfold o_mk at h
  split at h
  · cases h
    exact eUO_nt rfl rfl rfl (Nat.le_add_right _ _)
  · cases h
theorem o_two_U {C : C_} {k id : Nat} {a b : T_} {E E1 : N_} {s s1 : S_} {v : T_} {m l : Nat} (h : o_two C k id a b E s = some (v, E1, s1)) (hl : 1 ≤ l) : eUO m l s s1 := by
  unfold o_two at h
  split at h
  · cases h; exact eUO_refl
  · split at h
    · cases h; exact eUO_refl
    · exact o_bad_U h hl
theorem eUO_nd {k l : Nat} {s : S_} {x : Nat} : eUO k l s (u_nd s x) := eUO_nt rfl rfl rfl (Nat.le_add_right _ _)
theorem o_mark_U {C : C_} {k id : Nat} {n : Int} {v e : T_} {E E1 : N_} {s s1 : S_} {w : T_} {m l : Nat} (h : o_mark C k n id v e E s = some (w, E1, s1)) (hl : 1 ≤ l) : eUO m l s s1 := by
  unfold o_mark at h
  split at h
  · cases h; exact eUO_refl
  · split at h
    · split at h
      · cases h; exact eUO_nt rfl rfl rfl (Nat.le_add_right _ _)
      · exact o_bad_U h hl
    · split at h
      · cases h; exact eUO_nt rfl rfl rfl (Nat.le_add_right _ _)
      · exact o_bad_U h hl
theorem o_one_U {L : Nat} {C : C_} {k id : Nat} {n : Int} {a v e : T_} {E E1 : N_} {s s1 : S_} {w : T_} (h : o_one L C k n id a v e E s = some (w, E1, s1)) : eUO 0 120 s s1 := by
  by_cases ke : k ≠ 15 ∧ k ≠ 18 ∧ k ≠ 19 ∧ k ≠ 20 ∧ k ≠ 21 ∧ k ≠ 28
  · rcases pk_or v with ⟨x, y, rfl⟩ | hp
    · rw [pk_13 ke] at h
      cases h
      exact eUO_refl
    · rw [hp _ _ _ _ _ _ _ _ _ ke] at h
      split at h
      · cases h; exact eUO_refl
      · exact o_bad_U h (by decide)
  unfold o_one at h
  split at h
  · cases h; exact eUO_refl
  · exact o_mark_U h (by decide)
  · exact o_mark_U h (by decide)
  · split at h
    · rename_i hf
      cases h
      obtain ⟨-, rfl⟩ := f_fu_inv hf
      exact eUO_le eUO_fn (Nat.le_refl _) (by decide)
    · cases h
  · split at h
    · cases h; exact eUO_refl
    · split at h
      · cases h; exact eUO_nd
      · exact o_bad_U h (by decide)
  · split at h
    · rename_i hf
      cases h
      obtain ⟨-, rfl⟩ := f_fu_inv hf
      exact eUO_le eUO_funs (Nat.le_refl _) (by decide)
    · cases h
  · exfalso
    apply ke
    refine ⟨?_, ?_, ?_, ?_, ?_, ?_⟩ <;> assumption
theorem o_pair_U {L : Nat} {C : C_} {k id : Nat} {a b x y : T_} {E E1 : N_} {s s1 : S_} {w : T_} (h : o_pair L C k id a b x y E s = some (w, E1, s1)) : eUO 0 120 s s1 := by
  unfold o_pair at h
  split at h
  · split at h
    · rename_i hf
      split at h
      · rename_i hg
        cases h
        obtain ⟨-, rfl⟩ := f_fu_inv hf
        obtain ⟨-, rfl⟩ := f_fu_inv hg
        exact eUO_tr (k := 0) (k' := 0) (l := 60) (l' := 60) eUO_funs eUO_fn
      · cases h
    · cases h
  · split at h
    · cases h; exact eUO_nd
    · exact o_two_U h (by decide)
theorem eUK_O {K : K_} (h : eUK K) {sil : Bool} {e : T_} {E : N_} {hb : Bool} {s : S_} {v : T_} {E1 : N_} {s1 : S_} (q : K sil e E hb s = some (v, E1, s1)) : eUO 1 0 s s1 := h _ _ _ _ _ _ _ _ q
theorem t_frm_U {L : Nat} {rec : K_} {C : C_} {sil : Bool} (hK : eUK rec) : ∀ (m : Nat) (t : T_), it_len t ≤ m → ∀ (w : Nat) (E : N_) (s : S_) (w1 : Nat) (E1 : N_) (s1 : S_), t_frm L rec C sil t w E s = some (w1, E1, s1) → eUO 0 0 s s1 := by
  intro m
  induction m with
  | zero =>
    intro t ht w E s w1 E1 s1 h
    rcases ct_or t with ⟨k, n, id, x, r, rfl⟩ | ⟨-, he⟩
    · rw [it_ct] at ht; omega
    · rw [he] at h
      cases h
      exact eUO_refl
  | succ m ih =>
    intro t ht w E s w1 E1 s1 h
    rcases ct_or t with ⟨k, n, id, x, r, rfl⟩ | ⟨-, he⟩
    · rw [it_ct] at ht
      rw [t_frm_ct] at h
      split at h
      · split at h
        · split at h
          · rename_i v E2 s2 hr
            split at h
            · rename_i s3 hf
              obtain ⟨-, rfl⟩ := f_fu_inv hf
              exact eUO_g0 (eUO_tr (eUK_O hK hr) (eUO_tr (k := 0) eUO_funs (ih r (by omega) _ _ _ _ _ _ h))) (by decide) (by decide)
            · cases h
          · cases h
        · exact eUO_g0 (ih r (by omega) _ _ _ _ _ _ h) (by decide) (by decide)
      · cases h
    · rw [he] at h
      cases h
      exact eUO_refl
theorem t_item_U {L : Nat} {rec : K_} {C : C_} {sil : Bool} (hK : eUK rec) {k : Nat} {n : Int} {x : T_} {E E1 : N_} {s s1 : S_} {v : T_} (h : t_item L rec C sil k n x E s = some (v, E1, s1)) : eUO 0 0 s s1 := by
  unfold t_item at h
  split at h
  · split at h
    · rename_i v E2 s2 hr
      split at h
      · rename_i s3 hf
        obtain ⟨-, rfl⟩ := f_fu_inv hf
        cases h
        exact eUO_g0 (eUO_tr (k' := 0) (eUK_O hK hr) eUO_fn) (by decide) (by decide)
      · cases h
    · cases h
  · split at h
    · split at h
      · rename_i w E2 s2 hr
        cases h
        exact eUO_g0 (eUO_tr (k' := 0) (l' := 0) (t_frm_U hK _ _ (Nat.le_refl _) _ _ _ _ _ _ hr) eUO_nd) (by decide) (by decide)
      · cases h
    · cases h
      exact eUO_g0 (k := 0) (l := 0) eUO_nd (by decide) (by decide)
theorem t_run_U {L : Nat} {rec : K_} {C : C_} {sil : Bool} (hK : eUK rec) : ∀ (m : Nat) (t : T_), it_len t ≤ m → ∀ (q : T_) (f : Bool) (E : N_) (s : S_) (q1 : T_) (f1 : Bool) (E1 : N_) (s1 : S_), t_run L rec C sil t q f E s = some (q1, f1, E1, s1) → eUO 0 0 s s1 := by
  intro m
  induction m with
  | zero =>
    intro t ht q f E s q1 f1 E1 s1 h
    rcases ct_or t with ⟨k, n, id, x, r, rfl⟩ | ⟨he, -⟩
    · rw [it_ct] at ht; omega
    · rw [he] at h
      cases h
      exact eUO_refl
  | succ m ih =>
    intro t ht q f E s q1 f1 E1 s1 h
    rcases ct_or t with ⟨k, n, id, x, r, rfl⟩ | ⟨he, -⟩
    · rw [it_ct] at ht
      rw [t_run_ct] at h
      split at h
      · split at h
        · rename_i v E2 s2 hr
          have h1 := t_item_U hK hr
          have h2 : eUO 0 0 s2 s1 := by
            have z := ih r (by omega) _ _ _ _ _ _ _ _ h
            unfold eUO fcz at z ⊢
            exact z
          exact eUO_tr h1 h2
        · cases h
      · cases h
    · rw [he] at h
      cases h
      exact eUO_refl
theorem t_block_U {L : Nat} {rec : K_} {C : C_} {sil : Bool} (hK : eUK rec) {t : T_} {E E1 : N_} {s s1 : S_} {v : T_} (h : t_block L rec C sil t E s = some (v, E1, s1)) : eUO 0 0 s s1 := by
  unfold t_block at h
  split at h
  · rename_i q f E2 s2 hr
    cases h
    have z := t_run_U hK _ _ (Nat.le_refl _) _ _ _ _ _ _ _ _ hr
    unfold eUO fcz at z ⊢
    exact z
  · cases h
theorem o_body_U {rec : K_} {C : C_} {sil keep : Bool} (hK : eUK rec) {fn v w : T_} {s s2 : S_} (h : o_body rec C sil keep fn v s = some (w, s2)) : eUO 1 0 s s2 := by
  obtain ⟨-, E1, s1, me, hr, -, rfl, -⟩ := o_body_inv h
  have h1 := hK _ _ _ _ _ _ _ _ hr
  unfold eUO fcz at h1 ⊢
  exact h1
theorem o_call_U {rec : K_} {C : C_} {sil : Bool} (hK : eUK rec) {id : Nat} {fn v w : T_} {E E1 : N_} {s s1 : S_} (h : o_call rec C sil id fn v E s = some (w, E1, s1)) : eUO 1 1 s s1 := by
  obtain ⟨-, ⟨-, -, rfl⟩ | ⟨-, ⟨-, -, rfl⟩ | ⟨-, ⟨-, -, rfl⟩ | ⟨-, ⟨r, -, hq⟩ | ⟨-, hq⟩⟩⟩⟩⟩ := o_call_inv h
  · exact eUO_refl
  · exact eUO_nt rfl rfl rfl (Nat.le_refl _)
  · exact eUO_nt rfl rfl rfl (Nat.le_refl _)
  · have z := eUO_le (o_body_U hK hq) (Nat.le_refl 1) (Nat.zero_le 1)
    unfold eUO fcz at z ⊢
    exact z
  · have z := eUO_le (o_body_U hK hq) (Nat.le_refl 1) (Nat.zero_le 1)
    unfold eUO fcz at z ⊢
    exact z
theorem o_file_U {L : Nat} {rec : K_} {C : C_} {sil : Bool} (hK : eUK rec) {f : Nat} {v : T_} {s s1 : S_} (hf : f < 3) (h0 : s_fs s f = 0) (hC : (C.2.2.2 f).length ≤ 300) (h : o_file L rec C sil f s = some (v, s1)) : eUO 0 0 s s1 := by
  have fz := fcz_set (y := s_fe s) hf h0
  unfold o_file at h
  split at h
  · obtain ⟨l, el, -⟩ := f_list_eq C (C.2.2.2 f) (u_fs s (fun g => if g = f then 1 else s_fs s g) (s_fe s))
    rw [el] at h
    split at h
    · rename_i v E s2 hr
      cases h
      obtain ⟨z1, z2⟩ := t_block_U hK hr
      have z1 : s_b s2 + 3 * s_tb s ≤ s_b s + 3 * s_tb s2 + 0 := z1
      have z2 : s_nt s2 + 130 * s_b s + 300 * fcz s2 ≤ s_nt s + (C.2.2.2 f).length + 130 * s_b s2 + 300 * fcz (u_fs s (fun g => if g = f then 1 else s_fs s g) (s_fe s)) + 0 := z2
      have z3 : fcz (u_fs s2 (fun g => if g = f then 2 else s_fs s2 g) (fun g => if g = f then E else s_fe s2 g)) ≤ fcz s2 := fcz_le fun g q => by
        have q : (if g = f then 2 else s_fs s2 g) = 0 := q
        by_cases c : g = f
        · rw [if_pos c] at q; cases q
        · rw [if_neg c] at q; exact q
      refine ⟨z1, ?_⟩
      show s_nt s2 + 130 * s_b s + 300 * fcz (u_fs s2 (fun g => if g = f then 2 else s_fs s2 g) (fun g => if g = f then E else s_fe s2 g)) ≤ s_nt s + 130 * s_b s2 + 300 * fcz s + 0
      omega
    · cases h
  · cases h
theorem o_import_U {L : Nat} {rec : K_} {C : C_} {sil : Bool} (hC : ∀ f, f < 3 → (C.2.2.2 f).length ≤ 300) (hK : eUK rec) {n : Int} {id : Nat} {E E1 : N_} {v : T_} {s s1 : S_} (h : o_import L rec C sil n id E s = some (v, E1, s1)) : eUO 0 1 s s1 := by
  unfold o_import at h
  dsimp only at h
  split at h
  · exact o_bad_U h (Nat.le_refl _)
  · split at h
    · rename_i c0
      split at h
      · rename_i w s2 hr
        have z := o_file_U (s := u_dp s 0) hK (by omega) c0 (hC _ (by omega)) hr
        have z2 := o_name_U (m := 0) h (Nat.le_refl 1)
        have z : eUO 0 0 s (u_dp s2 (s_dp s)) := by
          unfold eUO fcz at z ⊢
          exact z
        exact eUO_tr z z2
      · cases h
    · exact o_name_U h (Nat.le_refl _)
theorem ev1_U {L : Nat} {C : C_} (hC : ∀ f, f < 3 → (C.2.2.2 f).length ≤ 300) {r1 r2 r4 : K_} (h1 : eUK r1) (h2 : eUK r2) (h4 : eUK r4) : eUK (ev1 L C r1 r2 r4) := by
  intro sil e E hb s v E1 s1 h
  show eUO 1 0 s s1
  rcases ce_or e with ⟨k, n, id, a, b, c, rfl⟩ | he
  · by_cases ko : k < 6 ∨ 31 < k
    · rw [ev1_oth ko] at h
      split at h
      · cases h; exact eUO_go (k := 0) (l := 0) eUO_refl (by decide) (by decide)
      · cases h
    · have kk : k = 6 ∨ k = 7 ∨ k = 8 ∨ k = 16 ∨ k = 22 ∨ k = 23 ∨ k = 24 ∨ k = 25 ∨ k = 26 ∨ k = 27 ∨ k = 29 ∨ k = 14 ∨ k = 17 ∨ (k = 9 ∨ k = 10 ∨ k = 11 ∨ k = 12 ∨ k = 13 ∨ k = 30) ∨ (k = 15 ∨ k = 20 ∨ k = 21 ∨ k = 28 ∨ k = 31) ∨ (k = 18 ∨ k = 19) := by omega
      rcases kk with rfl | rfl | rfl | rfl | rfl | rfl | rfl | rfl | rfl | rfl | rfl | rfl | rfl | kk | kk | kk
      · rw [ev1_6] at h
        split at h
        · cases h; exact eUO_go (k := 0) (l := 0) eUO_refl (by decide) (by decide)
        · cases h
      · rw [ev1_7] at h
        split at h
        · exact eUO_go (k := 0) (l := 1) (o_name_U h (Nat.le_refl 1)) (by decide) (by decide)
        · cases h
      · rw [ev1_8] at h
        split at h
        · split at h
          · split at h
            · rename_i w E2 s2 hr
              cases h
              have z := t_block_U h2 hr
              unfold eUO fcz at z
              exact eUO_go (k := 0) (l := 0) (s := s) (by unfold eUO fcz; exact z) (by decide) (by decide)
            · cases h
          · cases h
        · cases h
      · rw [ev1_16] at h
        split at h
        · exact eUO_go (k := 0) (l := 0) (o_mk_U h) (by decide) (by decide)
        · cases h
      · rw [ev1_22] at h
        split at h
        · exact eUO_go (k := 0) (l := 0) (o_mk_U h) (by decide) (by decide)
        · cases h
      · rw [ev1_23] at h
        split at h
        · exact eUO_go (k := 0) (l := 1) (o_ask_U h (Nat.le_refl 1)) (by decide) (by decide)
        · cases h
      · rw [ev1_24] at h
        split at h
        · exact eUO_go (k := 0) (l := 1) (o_ask_U h (Nat.le_refl 1)) (by decide) (by decide)
        · cases h
      · rw [ev1_25] at h
        split at h
        · exact eUO_go (k := 0) (l := 1) (o_ask_U h (Nat.le_refl 1)) (by decide) (by decide)
        · cases h
      · rw [ev1_26] at h
        split at h
        · exact eUO_go (k := 0) (l := 1) (o_ask_U h (Nat.le_refl 1)) (by decide) (by decide)
        · cases h
      · rw [ev1_27] at h
        split at h
        · exact eUO_go (k := 0) (l := 1) (o_ask_U h (Nat.le_refl 1)) (by decide) (by decide)
        · cases h
      · rw [ev1_29] at h
        split at h
        · exact eUO_go (o_import_U hC h4 h) (by decide) (by decide)
        · cases h
      · rw [ev1_14] at h
        split at h
        · split at h
          · rename_i w E2 s2 hr
            split at h
            · cases h; exact eUO_go (eUK_O h1 hr) (by decide) (by decide)
            · split at h
              · exact eUO_go (eUO_tr (eUK_O h1 hr) (eUK_O h1 h)) (by decide) (by decide)
              · exact eUO_go (eUO_tr (k' := 0) (l' := 1) (eUK_O h1 hr) (o_bad_U h (Nat.le_refl 1))) (by decide) (by decide)
          · cases h
        · cases h
      · rw [ev1_17] at h
        split at h
        · split at h
          · rename_i w E2 s2 hr
            split at h
            · cases h; exact eUO_go (eUK_O h1 hr) (by decide) (by decide)
            · split at h
              · split at h
                · rename_i w2 E3 s3 hr2
                  exact eUO_go (eUO_tr (eUK_O h1 hr) (eUO_tr (eUK_O h1 hr2) (o_call_U h2 h))) (by decide) (by decide)
                · cases h
              · exact eUO_go (eUO_tr (k' := 0) (l' := 1) (eUK_O h1 hr) (o_bad_U h (Nat.le_refl 1))) (by decide) (by decide)
          · cases h
        · cases h
      · rw [ev1_two kk] at h
        split at h
        · split at h
          · rename_i w E2 s2 hr
            split at h
            · rename_i w2 E3 s3 hr2
              exact eUO_go (eUO_tr (eUK_O h1 hr) (eUO_tr (eUK_O h1 hr2) (o_pair_U h))) (by decide) (by decide)
            · cases h
          · cases h
        · cases h
      · rw [ev1_one (by omega)] at h
        split at h
        · split at h
          · rename_i w E2 s2 hr
            exact eUO_go (eUO_tr (eUK_O h1 hr) (o_one_U h)) (by decide) (by decide)
          · cases h
        · cases h
      · cases hb with
        | false =>
          rw [ev1_pl kk] at h
          split at h
          · exact eUO_go (k := 0) (l := 1) (o_bad_U h (Nat.le_refl 1)) (by decide) (by decide)
          · cases h
        | true =>
          rw [ev1_one (Or.inr (Or.inr (Or.inr (Or.inr (Or.inr ⟨kk, rfl⟩)))))] at h
          split at h
          · split at h
            · rename_i w E2 s2 hr
              exact eUO_go (eUO_tr (eUK_O h1 hr) (o_one_U h)) (by decide) (by decide)
            · cases h
          · cases h
  · rw [he] at h
    cases h
    refine ⟨?_, ?_⟩
    · show s_b s + 1 + 3 * s_tb s ≤ s_b s + 3 * s_tb s + 1
      omega
    · show s_nt s + 130 * s_b s + 300 * fcz s ≤ s_nt s + 130 * (s_b s + 1) + 300 * fcz s + 0
      omega
theorem ev_U {C : C_} (hC : ∀ f, f < 3 → (C.2.2.2 f).length ≤ 300) : ∀ n, eUK (ev C n) := by
  intro n
  induction n using Nat.strongRecOn with
  | _ n ih =>
    match n, ih with
    | 0, _ => intro _ _ _ _ _ _ _ _ h; cases h
    | 1, _ => intro _ _ _ _ _ _ _ _ h; cases h
    | 2, _ => intro _ _ _ _ _ _ _ _ h; cases h
    | 3, _ => intro _ _ _ _ _ _ _ _ h; cases h
    | n + 4, ih =>
      rw [ev_4]
      exact ev1_U hC (ih (n + 3) (by omega)) (ih (n + 2) (by omega)) (ih n (by omega))
