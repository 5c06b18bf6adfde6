/-! ===== the evaluator: a file that was read stays read ===== -/
def eFO (s s1 : S_) : Prop := True ∧ ∀ f, s_fs s f = 2 → s_fs s1 f = 2
def eFK (K : K_) : Prop := ∀ sil e E hb s v E1 s1, K sil e E hb s = some (v, E1, s1) → eFO s s1
theorem eFO_tr {s s1 s2 : S_} (h : eFO s s1) (g : eFO s1 s2) : eFO s s2 := ⟨trivial, fun f q => g.2 f (h.2 f q)⟩
theorem eFO_go {s s1 : S_} (h : eFO (u_go s) s1) (_ : True) : eFO s s1 := ⟨trivial, h.2⟩
theorem eFO_refl {s : S_} : eFO s s := ⟨trivial, fun _ q => q⟩
theorem funs_Fs {C : C_} {v : T_} {id : Nat} {s : S_} : s_fs (f_funs C v id s) = s_fs s := by
  unfold f_funs
  obtain ⟨l, h, -⟩ := f_notes_eq C (f_code 3 id) (min 60 (v_nf v)) s
  rw [h]
theorem eFO_funs {C : C_} {v : T_} {id : Nat} {s : S_} : eFO s (f_funs C v id s) := ⟨trivial, fun f q => by rw [funs_Fs]; exact q⟩
theorem o_bad_Fs {C : C_} {k id : Nat} {E E1 : N_} {s s1 : S_} {v : T_} (h : o_bad C k id E s = some (v, E1, s1)) : eFO s s1 := by
  unfold o_bad at h
  cases h
  exact ⟨trivial, fun _ q => q⟩
theorem o_name_Fs {C : C_} {id : Nat} {o : Option T_} {E E1 : N_} {s s1 : S_} {v : T_} (h : o_name C id o E s = some (v, E1, s1)) : eFO s s1 := by
  cases o with
  | none => exact o_bad_Fs h
  | some x => cases h; exact eFO_refl
theorem o_ask_Fs {C : C_} {q id : Nat} {E E1 : N_} {s s1 : S_} {v : T_} (h : o_ask C q id E s = some (v, E1, s1)) : eFO s s1 := by
  unfold o_ask at h
  cases c : C.1 q with
  | none => rw [c] at h; exact o_bad_Fs h
  | some x =>
    rw [c] at h
    cases h
    exact ⟨trivial, fun _ q => q⟩
theorem o_mk_Fs {k : Nat} {e : T_} {E E1 : N_} {s s1 : S_} {v : T_} (h : o_mk k e E s = some (v, E1, s1)) : eFO s s1 := by
  unfold o_mk at h
  split at h
  · cases h
    exact ⟨trivial, fun _ q => q⟩
  · cases h
theorem o_two_Fs {C : C_} {k id : Nat} {a b : T_} {E E1 : N_} {s s1 : S_} {v : T_} (h : o_two C k id a b E s = some (v, E1, s1)) : eFO s s1 := by
  unfold o_two at h
  split at h
  · cases h; exact eFO_refl
  · split at h
    · cases h; exact eFO_refl
    · exact o_bad_Fs h
theorem o_mark_Fs {C : C_} {k id : Nat} {n : Int} {v e : T_} {E E1 : N_} {s s1 : S_} {w : T_} (h : o_mark C k n id v e E s = some (w, E1, s1)) : eFO s s1 := by
  unfold o_mark at h
  split at h
  · cases h; exact eFO_refl
  · split at h
    · split at h
      · cases h; exact ⟨trivial, fun _ q => q⟩
      · exact o_bad_Fs h
    · split at h
      · cases h; exact ⟨trivial, fun _ q => q⟩
      · exact o_bad_Fs h
theorem eFO_fn {C : C_} {v : T_} {id : Nat} {s : S_} {x : Nat} (_ : True) : eFO s (u_nd (f_funs C v id s) x) := ⟨trivial, fun f q => by
  show s_fs (f_funs C v id s) f = 2
  rw [funs_Fs]
  exact q⟩
theorem eFO_nd {s : S_} {x : Nat} (_ : True) : eFO s (u_nd s x) := ⟨trivial, fun _ q => q⟩
theorem o_one_Fs {L : Nat} {C : C_} {k id : Nat} {n : Int} {a v e : T_} {E E1 : N_} {s s1 : S_} {w : T_} (h : o_one L C k n id a v e E s = some (w, E1, s1)) : eFO s s1 := by
  by_cases ke : k ≠ 15 ∧ k ≠ 18 ∧ k ≠ 19 ∧ k ≠ 20 ∧ k ≠ 21 ∧ k ≠ 28
  · rcases pk_or v with ⟨x, y, rfl⟩ | hp
    · rw [pk_13 ke] at h
      cases h
      exact eFO_refl
    · rw [hp _ _ _ _ _ _ _ _ _ ke] at h
      split at h
      · cases h; exact eFO_refl
      · exact o_bad_Fs h
  unfold o_one at h
  split at h
  · cases h; exact eFO_refl
  · exact o_mark_Fs h
  · exact o_mark_Fs h
  · split at h
    · rename_i hf
      cases h
      obtain ⟨-, rfl⟩ := f_fu_inv hf
      exact eFO_fn (by decide)
    · cases h
  · split at h
    · cases h; exact eFO_refl
    · split at h
      · cases h; exact eFO_nd (by decide)
      · exact o_bad_Fs h
  · split at h
    · rename_i hf
      cases h
      obtain ⟨-, rfl⟩ := f_fu_inv hf
      exact eFO_funs
    · cases h
  · exfalso
    apply ke
    refine ⟨?_, ?_, ?_, ?_, ?_, ?_⟩ <;> assumption
theorem o_pair_Fs {L : Nat} {C : C_} {k id : Nat} {a b x y : T_} {E E1 : N_} {s s1 : S_} {w : T_} (h : o_pair L C k id a b x y E s = some (w, E1, s1)) : eFO s s1 := by
  unfold o_pair at h
  split at h
  · split at h
    · rename_i hf
      split at h
      · rename_i hg
        cases h
        obtain ⟨-, rfl⟩ := f_fu_inv hf
        obtain ⟨-, rfl⟩ := f_fu_inv hg
        exact eFO_tr eFO_funs (eFO_fn (by decide))
      · cases h
    · cases h
  · split at h
    · cases h; exact eFO_nd (by decide)
    · exact o_two_Fs h
theorem eFK_O {K : K_} (h : eFK K) {sil : Bool} {e : T_} {E : N_} {hb : Bool} {s : S_} {v : T_} {E1 : N_} {s1 : S_} (q : K sil e E hb s = some (v, E1, s1)) : eFO s s1 := h _ _ _ _ _ _ _ _ q
theorem t_frm_Fs {L : Nat} {rec : K_} {C : C_} {sil : Bool} (hK : eFK rec) : ∀ (m : Nat) (t : T_), it_len t ≤ m → ∀ (w : Nat) (E : N_) (s : S_) (w1 : Nat) (E1 : N_) (s1 : S_), t_frm L rec C sil t w E s = some (w1, E1, s1) → eFO s s1 := by
  intro m
  induction m with
  | zero =>
    intro t ht w E s w1 E1 s1 h
    rcases ct_or t with ⟨k, n, id, x, r, rfl⟩ | ⟨-, he⟩
    · rw [it_ct] at ht; omega
    · rw [he] at h
      cases h
      exact eFO_refl
  | succ m ih =>
    intro t ht w E s w1 E1 s1 h
    rcases ct_or t with ⟨k, n, id, x, r, rfl⟩ | ⟨-, he⟩
    · rw [it_ct] at ht
      rw [t_frm_ct] at h
      split at h
      · split at h
        · split at h
          · rename_i v E2 s2 hr
            split at h
            · rename_i s3 hf
              obtain ⟨-, rfl⟩ := f_fu_inv hf
              exact eFO_go (eFO_tr (eFK_O hK hr) (eFO_tr eFO_funs (ih r (by omega) _ _ _ _ _ _ h))) (by decide)
            · cases h
          · cases h
        · exact eFO_go (ih r (by omega) _ _ _ _ _ _ h) (by decide)
      · cases h
    · rw [he] at h
      cases h
      exact eFO_refl
theorem t_item_Fs {L : Nat} {rec : K_} {C : C_} {sil : Bool} (hK : eFK rec) {k : Nat} {n : Int} {x : T_} {E E1 : N_} {s s1 : S_} {v : T_} (h : t_item L rec C sil k n x E s = some (v, E1, s1)) : eFO s s1 := by
  unfold t_item at h
  split at h
  · split at h
    · rename_i v E2 s2 hr
      split at h
      · rename_i s3 hf
        obtain ⟨-, rfl⟩ := f_fu_inv hf
        cases h
        exact eFO_go (eFO_tr (eFK_O hK hr) (eFO_fn (by decide))) (by decide)
      · cases h
    · cases h
  · split at h
    · split at h
      · rename_i w E2 s2 hr
        cases h
        exact eFO_go (eFO_tr (t_frm_Fs hK _ _ (Nat.le_refl _) _ _ _ _ _ _ hr) (eFO_nd (by decide))) (by decide)
      · cases h
    · cases h
      exact eFO_go (eFO_nd (by decide)) (by decide)
theorem t_run_Fs {L : Nat} {rec : K_} {C : C_} {sil : Bool} (hK : eFK rec) : ∀ (m : Nat) (t : T_), it_len t ≤ m → ∀ (q : T_) (f : Bool) (E : N_) (s : S_) (q1 : T_) (f1 : Bool) (E1 : N_) (s1 : S_), t_run L rec C sil t q f E s = some (q1, f1, E1, s1) → eFO s s1 := by
  intro m
  induction m with
  | zero =>
    intro t ht q f E s q1 f1 E1 s1 h
    rcases ct_or t with ⟨k, n, id, x, r, rfl⟩ | ⟨he, -⟩
    · rw [it_ct] at ht; omega
    · rw [he] at h
      cases h
      exact eFO_refl
  | succ m ih =>
    intro t ht q f E s q1 f1 E1 s1 h
    rcases ct_or t with ⟨k, n, id, x, r, rfl⟩ | ⟨he, -⟩
    · rw [it_ct] at ht
      rw [t_run_ct] at h
      split at h
      · split at h
        · rename_i v E2 s2 hr
          have h1 := t_item_Fs hK hr
          have h2 : eFO s2 s1 := by
            have z := ih r (by omega) _ _ _ _ _ _ _ _ h
            exact ⟨trivial, z.2⟩
          exact eFO_tr h1 h2
        · cases h
      · cases h
    · rw [he] at h
      cases h
      exact eFO_refl
theorem t_block_Fs {L : Nat} {rec : K_} {C : C_} {sil : Bool} (hK : eFK rec) {t : T_} {E E1 : N_} {s s1 : S_} {v : T_} (h : t_block L rec C sil t E s = some (v, E1, s1)) : eFO s s1 := by
  unfold t_block at h
  split at h
  · rename_i q f E2 s2 hr
    cases h
    have z := t_run_Fs hK _ _ (Nat.le_refl _) _ _ _ _ _ _ _ _ hr
    exact ⟨trivial, z.2⟩
  · cases h
theorem o_body_Fs {rec : K_} {C : C_} {sil keep : Bool} (hK : eFK rec) {fn v w : T_} {s s2 : S_} (h : o_body rec C sil keep fn v s = some (w, s2)) : eFO s s2 := by
  obtain ⟨-, E1, s1, me, hr, -, rfl, -⟩ := o_body_inv h
  have h1 := hK _ _ _ _ _ _ _ _ hr
  exact ⟨trivial, h1.2⟩
theorem o_call_Fs {rec : K_} {C : C_} {sil : Bool} (hK : eFK rec) {id : Nat} {fn v w : T_} {E E1 : N_} {s s1 : S_} (h : o_call rec C sil id fn v E s = some (w, E1, s1)) : eFO s s1 := by
  obtain ⟨-, ⟨-, -, rfl⟩ | ⟨-, ⟨-, -, rfl⟩ | ⟨-, ⟨-, -, rfl⟩ | ⟨-, ⟨r, -, hq⟩ | ⟨-, hq⟩⟩⟩⟩⟩ := o_call_inv h
  · exact eFO_refl
  · exact ⟨trivial, fun _ q => q⟩
  · exact ⟨trivial, fun _ q => q⟩
  · have z := o_body_Fs hK hq
    exact ⟨trivial, z.2⟩
  · have z := o_body_Fs hK hq
    exact ⟨trivial, z.2⟩
theorem o_file_Fs {L : Nat} {rec : K_} {C : C_} {sil : Bool} (hK : eFK rec) {f : Nat} {v : T_} {s s1 : S_} (h : o_file L rec C sil f s = some (v, s1)) : eFO s s1 := by
  unfold o_file at h
  split at h
  · obtain ⟨l, el, -⟩ := f_list_eq C (C.2.2.2 f) (u_fs s (fun g => if g = f then 1 else s_fs s g) (s_fe s))
    rw [el] at h
    split at h
    · rename_i v E s2 hr
      cases h
      have z := t_block_Fs hK hr
      refine ⟨trivial, fun g hg => ?_⟩
      show (if g = f then 2 else s_fs s2 g) = 2
      by_cases c : g = f
      · rw [if_pos c]
      · rw [if_neg c]
        refine z.2 g ?_
        show (if g = f then 1 else s_fs s g) = 2
        rw [if_neg c]
        exact hg
    · cases h
  · cases h
theorem o_import_Fs {L : Nat} {rec : K_} {C : C_} {sil : Bool} (hK : eFK rec) {n : Int} {id : Nat} {E E1 : N_} {v : T_} {s s1 : S_} (h : o_import L rec C sil n id E s = some (v, E1, s1)) : eFO s s1 := by
  unfold o_import at h
  dsimp only at h
  split at h
  · exact o_bad_Fs h
  · split at h
    · split at h
      · rename_i w s2 hr
        have h1 := o_file_Fs hK hr
        have h2 := o_name_Fs h
        exact ⟨trivial, fun f q => h2.2 f (h1.2 f q)⟩
      · cases h
    · exact o_name_Fs h
theorem ev1_Fs {L : Nat} {C : C_} {r1 r2 r4 : K_} (h1 : eFK r1) (h2 : eFK r2) (h4 : eFK r4) : eFK (ev1 L C r1 r2 r4) := by
  intro sil e E hb s v E1 s1 h
  show eFO s s1
  rcases ce_or e with ⟨k, n, id, a, b, c, rfl⟩ | he
  · by_cases ko : k < 6 ∨ 31 < k
    · rw [ev1_oth ko] at h
      split at h
      · cases h; exact eFO_go eFO_refl (by decide)
      · cases h
    · have kk : k = 6 ∨ k = 7 ∨ k = 8 ∨ k = 16 ∨ k = 22 ∨ k = 23 ∨ k = 24 ∨ k = 25 ∨ k = 26 ∨ k = 27 ∨ k = 29 ∨ k = 14 ∨ k = 17 ∨ (k = 9 ∨ k = 10 ∨ k = 11 ∨ k = 12 ∨ k = 13 ∨ k = 30) ∨ (k = 15 ∨ k = 20 ∨ k = 21 ∨ k = 28 ∨ k = 31) ∨ (k = 18 ∨ k = 19) := by omega
      rcases kk with rfl | rfl | rfl | rfl | rfl | rfl | rfl | rfl | rfl | rfl | rfl | rfl | rfl | kk | kk | kk
      · rw [ev1_6] at h
        split at h
        · cases h; exact eFO_go eFO_refl (by decide)
        · cases h
      · rw [ev1_7] at h
        split at h
        · exact eFO_go (o_name_Fs h) (by decide)
        · cases h
      · rw [ev1_8] at h
        split at h
        · split at h
          · split at h
            · rename_i w E2 s2 hr
              cases h
              have z := t_block_Fs h2 hr
              exact ⟨trivial, z.2⟩
            · cases h
          · cases h
        · cases h
      · rw [ev1_16] at h
        split at h
        · exact eFO_go (o_mk_Fs h) (by decide)
        · cases h
      · rw [ev1_22] at h
        split at h
        · exact eFO_go (o_mk_Fs h) (by decide)
        · cases h
      · rw [ev1_23] at h
        split at h
        · exact eFO_go (o_ask_Fs h) (by decide)
        · cases h
      · rw [ev1_24] at h
        split at h
        · exact eFO_go (o_ask_Fs h) (by decide)
        · cases h
      · rw [ev1_25] at h
        split at h
        · exact eFO_go (o_ask_Fs h) (by decide)
        · cases h
      · rw [ev1_26] at h
        split at h
        · exact eFO_go (o_ask_Fs h) (by decide)
        · cases h
      · rw [ev1_27] at h
        split at h
        · exact eFO_go (o_ask_Fs h) (by decide)
        · cases h
      · rw [ev1_29] at h
        split at h
        · exact eFO_go (o_import_Fs h4 h) (by decide)
        · cases h
      · rw [ev1_14] at h
        split at h
        · split at h
          · rename_i w E2 s2 hr
            split at h
            · cases h; exact eFO_go (eFK_O h1 hr) (by decide)
            · split at h
              · exact eFO_go (eFO_tr (eFK_O h1 hr) (eFK_O h1 h)) (by decide)
              · exact eFO_go (eFO_tr (eFK_O h1 hr) (o_bad_Fs h)) (by decide)
          · cases h
        · cases h
      · rw [ev1_17] at h
        split at h
        · split at h
          · rename_i w E2 s2 hr
            split at h
            · cases h; exact eFO_go (eFK_O h1 hr) (by decide)
            · split at h
              · split at h
                · rename_i w2 E3 s3 hr2
                  exact eFO_go (eFO_tr (eFK_O h1 hr) (eFO_tr (eFK_O h1 hr2) (o_call_Fs h2 h))) (by decide)
                · cases h
              · exact eFO_go (eFO_tr (eFK_O h1 hr) (o_bad_Fs h)) (by decide)
          · cases h
        · cases h
      · rw [ev1_two kk] at h
        split at h
        · split at h
          · rename_i w E2 s2 hr
            split at h
            · rename_i w2 E3 s3 hr2
              exact eFO_go (eFO_tr (eFK_O h1 hr) (eFO_tr (eFK_O h1 hr2) (o_pair_Fs h))) (by decide)
            · cases h
          · cases h
        · cases h
      · rw [ev1_one (by omega)] at h
        split at h
        · split at h
          · rename_i w E2 s2 hr
            exact eFO_go (eFO_tr (eFK_O h1 hr) (o_one_Fs h)) (by decide)
          · cases h
        · cases h
      · cases hb with
        | false =>
          rw [ev1_pl kk] at h
          split at h
          · exact eFO_go (o_bad_Fs h) (by decide)
          · cases h
        | true =>
          rw [ev1_one (Or.inr (Or.inr (Or.inr (Or.inr (Or.inr ⟨kk, rfl⟩)))))] at h
          split at h
          · split at h
            · rename_i w E2 s2 hr
              exact eFO_go (eFO_tr (eFK_O h1 hr) (o_one_Fs h)) (by decide)
            · cases h
          · cases h
  · rw [he] at h
    cases h
    exact ⟨trivial, fun _ q => q⟩
theorem ev_Fs (C : C_) : ∀ n, eFK (ev C n) := by
  intro n
  induction n using Nat.strongRecOn with
  | _ n ih =>
    match n, ih with
    | 0, _ => intro _ _ _ _ _ _ _ _ h; cases h
    | 1, _ => intro _ _ _ _ _ _ _ _ h; cases h
    | 2, _ => intro _ _ _ _ _ _ _ _ h; cases h
    | 3, _ => intro _ _ _ _ _ _ _ _ h; cases h
    | n + 4, ih =>
      rw [ev_4]
      exact ev1_Fs (ih (n + 3) (by omega)) (ih (n + 2) (by omega)) (ih n (by omega))
theorem x_step_F {G : G_} {sil : Bool} {s s1 : S_} {q q1 : Q_} (hx : x_step (fun C => ev C x_F) G sil s q = some (s1, q1)) : ∀ f, s_fs s f = 2 → s_fs s1 f = 2 := by
  have R : ∀ (s : S_) (q : Q_) (r el : T_), x_rule (fun C => ev C x_F) G sil r el s q = some (s1, q1) → ∀ f, s_fs s f = 2 → s_fs s1 f = 2 := fun s q r el hx => by
    unfold x_rule at hx
    split at hx
    · split at hx
      · cases hx; exact fun _ q => q
      · split at hx
        · cases hx; exact fun _ q => q
        · split at hx
          · split at hx
            · rename_i v E1 sb hr2
              split at hx
              · rename_i s2 hfu
                cases hx
                obtain ⟨-, e2⟩ := f_fu_inv hfu
                rw [e2]
                intro f hf
                rw [funs_Fs]
                exact (ev_Fs _ x_F _ _ _ _ _ _ _ _ hr2).2 f hf
              · cases hx
            · cases hx
          · cases hx
    · cases hx
  have L : ∀ (s : S_) (q : Q_) (e cl : T_), x_late (fun C => ev C x_F) G sil e cl s q = some (s1, q1) → ∀ f, s_fs s f = 2 → s_fs s1 f = 2 := fun s q e cl hx => by
    unfold x_late at hx
    split at hx
    · cases hx; exact fun _ q => q
    · split at hx
      · cases hx; exact fun _ q => q
      · split at hx
        · split at hx
          · rename_i v E1 sb hr2
            split at hx
            · rename_i s2 hfu
              cases hx
              obtain ⟨-, e2⟩ := f_fu_inv hfu
              rw [e2]
              intro f hf
              rw [funs_Fs]
              exact (ev_Fs _ x_F _ _ _ _ _ _ _ _ hr2).2 f hf
            · cases hx
          · cases hx
        · cases hx
  have SH : ∀ (s : S_) (q : Q_) (el : T_), x_show (fun C => ev C x_F) G sil el s q = some (s1, q1) → ∀ f, s_fs s f = 2 → s_fs s1 f = 2 := fun s q el hx => by
    unfold x_show at hx
    split at hx
    · exact R _ _ _ _ hx
    · split at hx
      · injection hx with hx
        have e1 := congrArg (fun z : X_ => s_fs z.1) hx
        have e1 : s_fs (x_head G _ _ s q).1 = s_fs s1 := e1
        have e2 : ∀ id v, s_fs (x_head G id v s q).1 = s_fs s := fun id v => by
          unfold x_head
          dsimp only
          split <;> split <;> rfl
        intro f hf
        rw [← e1, e2]
        exact hf
      · cases hx; exact fun _ q => q
      · cases hx; exact fun _ q => q
      · cases hx
  have RE : ∀ (s : S_) (q : Q_) (el : T_), x_real (fun C => ev C x_F) G sil el s q = some (s1, q1) → ∀ f, s_fs s f = 2 → s_fs s1 f = 2 := fun s q el hx => by
    unfold x_real at hx
    dsimp only at hx
    split at hx
    · cases hx; exact fun _ q => q
    · split at hx
      · cases hx; exact fun _ q => q
      · cases hx; exact fun _ q => q
      · cases hx; exact fun _ q => q
      · exact L _ _ _ _ hx
      · exact SH _ _ _ hx
  unfold x_step at hx
  split at hx
  · cases hx; exact fun _ q => q
  · dsimp only at hx
    split at hx
    · exact RE (u_nd s 1) _ _ hx
    · cases hx; exact fun _ q => q
    · cases hx; exact fun _ q => q
    · cases hx; exact fun _ q => q
    · cases hx; exact fun _ q => q
    · cases hx; exact fun _ q => q
    · cases hx; exact fun _ q => q
    · split at hx
      · exact RE _ _ _ hx
      · cases hx; exact fun _ q => q
    · cases hx; exact fun _ q => q
  · cases hx; exact fun _ q => q
  · cases hx; exact fun _ q => q
  · cases hx; exact fun _ q => q
  · cases hx; exact fun _ q => q
  · cases hx; exact fun _ q => q
theorem x_run_F {G : G_} {sil : Bool} : ∀ (n : Nat) {s s1 : S_} {q q1 : Q_}, x_run (fun C => ev C x_F) G sil n s q = some (s1, q1) → ∀ f, s_fs s f = 2 → s_fs s1 f = 2 := by
  intro n
  induction n with
  | zero => intro s s1 q q1 h; cases h
  | succ n ih =>
    intro s s1 q q1 h f hf
    rw [x_run_1] at h
    split at h
    · cases h; exact hf
    · split at h
      · cases h
      · split at h
        · rename_i s2 q2 hx
          exact ih h f (x_step_F hx f hf)
        · cases h
