/-! ===== the evaluator: nodes and tokens ===== -/
def eWO (k : Nat) (s s1 : S_) : Prop := s_nd s1 + 11 * s_tb s ≤ s_nd s + 11 * s_tb s1 + k
theorem eWO_tr {k l : Nat} {s s1 s2 : S_} (h : eWO k s s1) (g : eWO l s1 s2) : eWO (k + l) s s2 := by
  unfold eWO at *
  omega
theorem eWO_go {k : Nat} {s s1 : S_} (h : eWO k (u_go s) s1) (hk : k ≤ 11) : eWO 0 s s1 := by
  have h : s_nd s1 + 11 * (s_tb s + 1) ≤ s_nd s + 11 * s_tb s1 + k := h
  unfold eWO
  omega
theorem eWO_refl {k : Nat} {s : S_} : eWO k s s := by
  unfold eWO
  omega
theorem funs_W {C : C_} {v : T_} {id : Nat} {s : S_} : s_nd (f_funs C v id s) = s_nd s ∧ s_tb (f_funs C v id s) = s_tb s := by
  unfold f_funs
  obtain ⟨l, h, -⟩ := f_notes_eq C (f_code 3 id) (min 60 (v_nf v)) s
  rw [h]
  exact ⟨rfl, rfl⟩
theorem eWO_funs {k : Nat} {C : C_} {v : T_} {id : Nat} {s : S_} : eWO k s (f_funs C v id s) := by
  unfold eWO
  rw [funs_W.1, funs_W.2]
  omega
theorem o_bad_W {C : C_} {k id : Nat} {E E1 : N_} {s s1 : S_} {v : T_} {m : Nat} (h : o_bad C k id E s = some (v, E1, s1)) : eWO m s s1 := by
  unfold o_bad at h
  cases h
  exact (eWO_refl (s := s) : s_nd s + 11 * s_tb s ≤ s_nd s + 11 * s_tb s + m)
theorem o_name_W {C : C_} {id : Nat} {o : Option T_} {E E1 : N_} {s s1 : S_} {v : T_} {m : Nat} (h : o_name C id o E s = some (v, E1, s1)) : eWO m s s1 := by
  cases o with
  | none => exact o_bad_W h
  | some x => cases h; exact eWO_refl
theorem o_ask_W {C : C_} {q id : Nat} {E E1 : N_} {s s1 : S_} {v : T_} {m : Nat} (h : o_ask C q id E s = some (v, E1, s1)) : eWO m s s1 := by
  unfold o_ask at h
  cases c : C.1 q with
  | none => rw [c] at h; exact o_bad_W h
  | some x =>
    rw [c] at h
    cases h
    exact (eWO_refl (s := s) : s_nd s + 11 * s_tb s ≤ s_nd s + 11 * s_tb s + m)
theorem o_mk_W {k : Nat} {e : T_} {E E1 : N_} {s s1 : S_} {v : T_} (h : o_mk k e E s = some (v, E1, s1)) : eWO 11 s s1 := by
  unfold o_mk at h
  split at h
  · cases h
    show s_nd s + (1 + min 10 (c_sz (e_part e))) + 11 * s_tb s ≤ s_nd s + 11 * s_tb s + 11
    omega
  · cases h
theorem o_two_W {C : C_} {k id : Nat} {a b : T_} {E E1 : N_} {s s1 : S_} {v : T_} {m : Nat} (h : o_two C k id a b E s = some (v, E1, s1)) : eWO m s s1 := by
  unfold o_two at h
  split at h
  · cases h; exact eWO_refl
  · split at h
    · cases h; exact eWO_refl
    · exact o_bad_W h
theorem o_mark_W {C : C_} {k id : Nat} {n : Int} {v e : T_} {E E1 : N_} {s s1 : S_} {w : T_} (h : o_mark C k n id v e E s = some (w, E1, s1)) : eWO 11 s s1 := by
  have Z : s_nd s + 2 + 11 * s_tb s ≤ s_nd s + 11 * s_tb s + 11 := by omega
  unfold o_mark at h
  split at h
  · cases h; exact eWO_refl
  · split at h
    · split at h
      · cases h; exact Z
      · exact o_bad_W h
    · split at h
      · cases h; exact Z
      · exact o_bad_W h
theorem eWO_fn {C : C_} {v : T_} {id : Nat} {s : S_} {x k : Nat} (hx : x ≤ k) : eWO k s (u_nd (f_funs C v id s) x) := by
  show s_nd (f_funs C v id s) + x + 11 * s_tb s ≤ s_nd s + 11 * s_tb (f_funs C v id s) + k
  rw [funs_W.1, funs_W.2]
  omega
theorem eWO_nd {s : S_} {x k : Nat} (hx : x ≤ k) : eWO k s (u_nd s x) := by
  show s_nd s + x + 11 * s_tb s ≤ s_nd s + 11 * s_tb s + k
  omega
theorem o_one_W {L : Nat} {C : C_} {k id : Nat} {n : Int} {a v e : T_} {E E1 : N_} {s s1 : S_} {w : T_} (h : o_one L C k n id a v e E s = some (w, E1, s1)) : eWO 11 s s1 := by
  by_cases ke : k ≠ 15 ∧ k ≠ 18 ∧ k ≠ 19 ∧ k ≠ 20 ∧ k ≠ 21 ∧ k ≠ 28
  · rcases pk_or v with ⟨x, y, rfl⟩ | hp
    · rw [pk_13 ke] at h
      cases h
      exact eWO_refl
    · rw [hp _ _ _ _ _ _ _ _ _ ke] at h
      split at h
      · cases h; exact eWO_refl
      · exact o_bad_W h
  unfold o_one at h
  split at h
  · cases h; exact eWO_refl
  · exact o_mark_W h
  · exact o_mark_W h
  · split at h
    · rename_i hf
      cases h
      obtain ⟨-, rfl⟩ := f_fu_inv hf
      exact eWO_fn (by decide)
    · cases h
  · split at h
    · cases h; exact eWO_refl
    · split at h
      · cases h; exact eWO_nd (by decide)
      · exact o_bad_W h
  · split at h
    · rename_i hf
      cases h
      obtain ⟨-, rfl⟩ := f_fu_inv hf
      exact eWO_funs
    · cases h
  · exfalso
    apply ke
    refine ⟨?_, ?_, ?_, ?_, ?_, ?_⟩ <;> assumption
theorem o_pair_W {L : Nat} {C : C_} {k id : Nat} {a b x y : T_} {E E1 : N_} {s s1 : S_} {w : T_} (h : o_pair L C k id a b x y E s = some (w, E1, s1)) : eWO 11 s s1 := by
  unfold o_pair at h
  split at h
  · split at h
    · rename_i hf
      split at h
      · rename_i hg
        cases h
        obtain ⟨-, rfl⟩ := f_fu_inv hf
        obtain ⟨-, rfl⟩ := f_fu_inv hg
        exact eWO_tr (k := 0) (l := 11) eWO_funs (eWO_fn (by decide))
      · cases h
    · cases h
  · split at h
    · cases h; exact eWO_nd (by decide)
    · exact o_two_W h
theorem eWK_O {K : K_} (h : eWK K) {sil : Bool} {e : T_} {E : N_} {hb : Bool} {s : S_} {v : T_} {E1 : N_} {s1 : S_} (q : K sil e E hb s = some (v, E1, s1)) : eWO 0 s s1 := h _ _ _ _ _ _ _ _ q
theorem t_frm_W {L : Nat} {rec : K_} {C : C_} {sil : Bool} (hK : eWK rec) : ∀ (m : Nat) (t : T_), it_len t ≤ m → ∀ (w : Nat) (E : N_) (s : S_) (w1 : Nat) (E1 : N_) (s1 : S_), t_frm L rec C sil t w E s = some (w1, E1, s1) → eWO 0 s s1 := by
  intro m
  induction m with
  | zero =>
    intro t ht w E s w1 E1 s1 h
    rcases ct_or t with ⟨k, n, id, x, r, rfl⟩ | ⟨-, he⟩
    · rw [it_ct] at ht; omega
    · rw [he] at h
      cases h
      exact eWO_refl
  | succ m ih =>
    intro t ht w E s w1 E1 s1 h
    rcases ct_or t with ⟨k, n, id, x, r, rfl⟩ | ⟨-, he⟩
    · rw [it_ct] at ht
      rw [t_frm_ct] at h
      split at h
      · split at h
        · split at h
          · rename_i v E2 s2 hr
            split at h
            · rename_i s3 hf
              obtain ⟨-, rfl⟩ := f_fu_inv hf
              exact eWO_go (eWO_tr (eWK_O hK hr) (eWO_tr (k := 0) eWO_funs (ih r (by omega) _ _ _ _ _ _ h))) (by decide)
            · cases h
          · cases h
        · exact eWO_go (ih r (by omega) _ _ _ _ _ _ h) (by decide)
      · cases h
    · rw [he] at h
      cases h
      exact eWO_refl
theorem t_item_W {L : Nat} {rec : K_} {C : C_} {sil : Bool} (hK : eWK rec) {k : Nat} {n : Int} {x : T_} {E E1 : N_} {s s1 : S_} {v : T_} (h : t_item L rec C sil k n x E s = some (v, E1, s1)) : eWO 0 s s1 := by
  unfold t_item at h
  split at h
  · split at h
    · rename_i v E2 s2 hr
      split at h
      · rename_i s3 hf
        obtain ⟨-, rfl⟩ := f_fu_inv hf
        cases h
        exact eWO_go (eWO_tr (l := 11) (eWK_O hK hr) (eWO_fn (by decide))) (by decide)
      · cases h
    · cases h
  · split at h
    · split at h
      · rename_i w E2 s2 hr
        cases h
        exact eWO_go (eWO_tr (l := 11) (t_frm_W hK _ _ (Nat.le_refl _) _ _ _ _ _ _ hr) (eWO_nd (by decide))) (by decide)
      · cases h
    · cases h
      exact eWO_go (k := 11) (eWO_nd (by decide)) (by decide)
theorem t_run_W {L : Nat} {rec : K_} {C : C_} {sil : Bool} (hK : eWK rec) : ∀ (m : Nat) (t : T_), it_len t ≤ m → ∀ (q : T_) (f : Bool) (E : N_) (s : S_) (q1 : T_) (f1 : Bool) (E1 : N_) (s1 : S_), t_run L rec C sil t q f E s = some (q1, f1, E1, s1) → eWO 0 s s1 := by
  intro m
  induction m with
  | zero =>
    intro t ht q f E s q1 f1 E1 s1 h
    rcases ct_or t with ⟨k, n, id, x, r, rfl⟩ | ⟨he, -⟩
    · rw [it_ct] at ht; omega
    · rw [he] at h
      cases h
      exact eWO_refl
  | succ m ih =>
    intro t ht q f E s q1 f1 E1 s1 h
    rcases ct_or t with ⟨k, n, id, x, r, rfl⟩ | ⟨he, -⟩
    · rw [it_ct] at ht
      rw [t_run_ct] at h
      split at h
      · split at h
        · rename_i v E2 s2 hr
          have h1 := t_item_W hK hr
          have h2 : eWO 0 s2 s1 := by
            have z := ih r (by omega) _ _ _ _ _ _ _ _ h
            unfold eWO at z ⊢
            exact z
          exact eWO_tr h1 h2
        · cases h
      · cases h
    · rw [he] at h
      cases h
      exact eWO_refl
theorem t_block_W {L : Nat} {rec : K_} {C : C_} {sil : Bool} (hK : eWK rec) {t : T_} {E E1 : N_} {s s1 : S_} {v : T_} (h : t_block L rec C sil t E s = some (v, E1, s1)) : eWO 1 s s1 := by
  unfold t_block at h
  split at h
  · rename_i q f E2 s2 hr
    cases h
    have h1 : s_nd s2 + 11 * s_tb s ≤ s_nd s + 11 * s_tb s2 + 0 := by
      have z := t_run_W hK _ _ (Nat.le_refl _) _ _ _ _ _ _ _ _ hr
      unfold eWO at z
      exact z
    show s_nd s2 + 1 + 11 * s_tb s ≤ s_nd s + 11 * s_tb s2 + 1
    omega
  · cases h
theorem o_body_W {rec : K_} {C : C_} {sil keep : Bool} (hK : eWK rec) {fn v w : T_} {s s2 : S_} (h : o_body rec C sil keep fn v s = some (w, s2)) : eWO 0 s s2 := by
  obtain ⟨-, E1, s1, me, hr, -, rfl, -⟩ := o_body_inv h
  have h1 := hK _ _ _ _ _ _ _ _ hr
  exact h1
theorem o_call_W {rec : K_} {C : C_} {sil : Bool} (hK : eWK rec) {id : Nat} {fn v w : T_} {E E1 : N_} {s s1 : S_} (h : o_call rec C sil id fn v E s = some (w, E1, s1)) : eWO 0 s s1 := by
  obtain ⟨-, ⟨-, -, rfl⟩ | ⟨-, ⟨-, -, rfl⟩ | ⟨-, ⟨-, -, rfl⟩ | ⟨-, ⟨r, -, hq⟩ | ⟨-, hq⟩⟩⟩⟩⟩ := o_call_inv h
  · exact eWO_refl
  · exact (eWO_refl (k := 0) (s := s) : s_nd s + 11 * s_tb s ≤ s_nd s + 11 * s_tb s + 0)
  · exact (eWO_refl (k := 0) (s := s) : s_nd s + 11 * s_tb s ≤ s_nd s + 11 * s_tb s + 0)
  · have z := o_body_W hK hq
    unfold eWO at z ⊢
    exact z
  · have z := o_body_W hK hq
    unfold eWO at z ⊢
    exact z
theorem o_file_W {L : Nat} {rec : K_} {C : C_} {sil : Bool} (hK : eWK rec) {f : Nat} {v : T_} {s s1 : S_} (h : o_file L rec C sil f s = some (v, s1)) : eWO 1 s s1 := by
  unfold o_file at h
  split at h
  · obtain ⟨l, el, -⟩ := f_list_eq C (C.2.2.2 f) (u_fs s (fun g => if g = f then 1 else s_fs s g) (s_fe s))
    rw [el] at h
    split at h
    · rename_i v E s2 hr
      cases h
      have z := t_block_W hK hr
      unfold eWO at z ⊢
      exact z
    · cases h
  · cases h
theorem o_import_W {L : Nat} {rec : K_} {C : C_} {sil : Bool} (hK : eWK rec) {n : Int} {id : Nat} {E E1 : N_} {v : T_} {s s1 : S_} (h : o_import L rec C sil n id E s = some (v, E1, s1)) : eWO 11 s s1 := by
  unfold o_import at h
  dsimp only at h
  split at h
  · exact o_bad_W h
  · split at h
    · split at h
      · rename_i w s2 hr
        have h1 : s_nd s2 + 11 * s_tb s ≤ s_nd s + 11 * s_tb s2 + 1 := by
          have z := o_file_W hK hr
          unfold eWO at z
          exact z
        have h2 : s_nd s1 + 11 * s_tb s2 ≤ s_nd s2 + 11 * s_tb s1 + 0 := by
          have z := o_name_W (m := 0) h
          unfold eWO at z
          exact z
        show s_nd s1 + 11 * s_tb s ≤ s_nd s + 11 * s_tb s1 + 11
        omega
      · cases h
    · exact o_name_W h
theorem ev1_W {L : Nat} {C : C_} {r1 r2 r4 : K_} (h1 : eWK r1) (h2 : eWK r2) (h4 : eWK r4) : eWK (ev1 L C r1 r2 r4) := by
  intro sil e E hb s v E1 s1 h
  show eWO 0 s s1
  rcases ce_or e with ⟨k, n, id, a, b, c, rfl⟩ | he
  · by_cases ko : k < 6 ∨ 31 < k
    · rw [ev1_oth ko] at h
      split at h
      · cases h; exact eWO_go (k := 0) eWO_refl (by decide)
      · cases h
    · have kk : k = 6 ∨ k = 7 ∨ k = 8 ∨ k = 16 ∨ k = 22 ∨ k = 23 ∨ k = 24 ∨ k = 25 ∨ k = 26 ∨ k = 27 ∨ k = 29 ∨ k = 14 ∨ k = 17 ∨ (k = 9 ∨ k = 10 ∨ k = 11 ∨ k = 12 ∨ k = 13 ∨ k = 30) ∨ (k = 15 ∨ k = 20 ∨ k = 21 ∨ k = 28 ∨ k = 31) ∨ (k = 18 ∨ k = 19) := by omega
      rcases kk with rfl | rfl | rfl | rfl | rfl | rfl | rfl | rfl | rfl | rfl | rfl | rfl | rfl | kk | kk | kk
      · rw [ev1_6] at h
        split at h
        · cases h; exact eWO_go (k := 0) eWO_refl (by decide)
        · cases h
      · rw [ev1_7] at h
        split at h
        · exact eWO_go (k := 0) (o_name_W h) (by decide)
        · cases h
      · rw [ev1_8] at h
        split at h
        · split at h
          · split at h
            · rename_i w E2 s2 hr
              cases h
              have z := t_block_W h2 hr
              unfold eWO at z
              exact eWO_go (k := 1) (s := s) (by unfold eWO; exact z) (by decide)
            · cases h
          · cases h
        · cases h
      · rw [ev1_16] at h
        split at h
        · exact eWO_go (o_mk_W h) (by decide)
        · cases h
      · rw [ev1_22] at h
        split at h
        · exact eWO_go (o_mk_W h) (by decide)
        · cases h
      · rw [ev1_23] at h
        split at h
        · exact eWO_go (k := 0) (o_ask_W h) (by decide)
        · cases h
      · rw [ev1_24] at h
        split at h
        · exact eWO_go (k := 0) (o_ask_W h) (by decide)
        · cases h
      · rw [ev1_25] at h
        split at h
        · exact eWO_go (k := 0) (o_ask_W h) (by decide)
        · cases h
      · rw [ev1_26] at h
        split at h
        · exact eWO_go (k := 0) (o_ask_W h) (by decide)
        · cases h
      · rw [ev1_27] at h
        split at h
        · exact eWO_go (k := 0) (o_ask_W h) (by decide)
        · cases h
      · rw [ev1_29] at h
        split at h
        · exact eWO_go (o_import_W h4 h) (by decide)
        · cases h
      · rw [ev1_14] at h
        split at h
        · split at h
          · rename_i w E2 s2 hr
            split at h
            · cases h; exact eWO_go (eWK_O h1 hr) (by decide)
            · split at h
              · exact eWO_go (eWO_tr (eWK_O h1 hr) (eWK_O h1 h)) (by decide)
              · exact eWO_go (eWO_tr (l := 0) (eWK_O h1 hr) (o_bad_W h)) (by decide)
          · cases h
        · cases h
      · rw [ev1_17] at h
        split at h
        · split at h
          · rename_i w E2 s2 hr
            split at h
            · cases h; exact eWO_go (eWK_O h1 hr) (by decide)
            · split at h
              · split at h
                · rename_i w2 E3 s3 hr2
                  exact eWO_go (eWO_tr (eWK_O h1 hr) (eWO_tr (eWK_O h1 hr2) (o_call_W h2 h))) (by decide)
                · cases h
              · exact eWO_go (eWO_tr (l := 0) (eWK_O h1 hr) (o_bad_W h)) (by decide)
          · cases h
        · cases h
      · rw [ev1_two kk] at h
        split at h
        · split at h
          · rename_i w E2 s2 hr
            split at h
            · rename_i w2 E3 s3 hr2
              exact eWO_go (eWO_tr (eWK_O h1 hr) (eWO_tr (eWK_O h1 hr2) (o_pair_W h))) (by decide)
            · cases h
          · cases h
        · cases h
      · rw [ev1_one (by omega)] at h
        split at h
        · split at h
          · rename_i w E2 s2 hr
            exact eWO_go (eWO_tr (eWK_O h1 hr) (o_one_W h)) (by decide)
          · cases h
        · cases h
      · cases hb with
        | false =>
          rw [ev1_pl kk] at h
          split at h
          · exact eWO_go (k := 0) (o_bad_W h) (by decide)
          · cases h
        | true =>
          rw [ev1_one (Or.inr (Or.inr (Or.inr (Or.inr (Or.inr ⟨kk, rfl⟩)))))] at h
          split at h
          · split at h
            · rename_i w E2 s2 hr
              exact eWO_go (eWO_tr (eWK_O h1 hr) (o_one_W h)) (by decide)
            · cases h
          · cases h
  · rw [he] at h
    cases h
    exact (eWO_refl (k := 0) (s := s) : s_nd s + 11 * s_tb s ≤ s_nd s + 11 * s_tb s + 0)
theorem ev_W (C : C_) : ∀ n, eWK (ev C n) := by
  intro n
  induction n using Nat.strongRecOn with
  | _ n ih =>
    match n, ih with
    | 0, _ => intro _ _ _ _ _ _ _ _ h; cases h
    | 1, _ => intro _ _ _ _ _ _ _ _ h; cases h
    | 2, _ => intro _ _ _ _ _ _ _ _ h; cases h
    | 3, _ => intro _ _ _ _ _ _ _ _ h; cases h
    | n + 4, ih =>
      rw [ev_4]
      exact ev1_W (ih (n + 3) (by omega)) (ih (n + 2) (by omega)) (ih n (by omega))
