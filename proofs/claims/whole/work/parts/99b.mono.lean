/-! ===== the evaluator: what only grows ===== -/
def eMQ (hb : Bool) (s s1 : S_) : Prop := s_b s ≤ s_b s1 ∧ s_nt s ≤ s_nt s1 ∧ s_sn s ≤ s_sn s1 ∧ s_lt s ≤ s_lt s1 ∧ s_lt s1 ≤ s_b s1 ∧ s_dp s1 = s_dp s ∧ (∀ q, s_as s q = true → s_as s1 q = true) ∧ (hb = false → s_tl s1 = s_tl s) ∧ s_tb s ≤ s_tb s1 ∧ s_tb s1 + s_b s ≤ s_b s1 + s_tb s ∧ (s_nt s1 = s_nt s → s_fl s1 = s_fl s) ∧ ∃ l, s_me s1 = s_me s ++ l
theorem eMQ_tr {hb : Bool} {s s1 s2 : S_} (h : eMQ hb s s1) (g : eMQ hb s1 s2) : eMQ hb s s2 := by
  obtain ⟨a1, a2, a3, a4, a5, a6, a7, a8, a9, a10, a11, l, a12⟩ := h
  obtain ⟨b1, b2, b3, b4, b5, b6, b7, b8, b9, b10, b11, m, b12⟩ := g
  refine ⟨Nat.le_trans a1 b1, Nat.le_trans a2 b2, Nat.le_trans a3 b3, Nat.le_trans a4 b4, b5, b6.trans a6, fun q x => b7 q (a7 q x), fun x => (b8 x).trans (a8 x), Nat.le_trans a9 b9, ?_, fun q => ?_, l ++ m, ?_⟩
  · clear a11 a12 b11 b12 a7 b7 a8 b8; omega
  · have e2 : s_nt s2 = s_nt s1 := Nat.le_antisymm (by rw [q]; exact a2) b2
    have e1 : s_nt s1 = s_nt s := Nat.le_antisymm (by rw [← q]; exact b2) a2
    exact (b11 e2).trans (a11 e1)
  · rw [b12, a12, List.append_assoc]
theorem eMQ_t {hb : Bool} {s s1 : S_} (h : eMQ false s s1) : eMQ hb s s1 := by
  obtain ⟨a1, a2, a3, a4, a5, a6, a7, a8, a9, a10, a11, a12⟩ := h
  exact ⟨a1, a2, a3, a4, a5, a6, a7, fun _ => a8 rfl, a9, a10, a11, a12⟩
theorem eMQ_refl {hb : Bool} {s : S_} (hl : s_lt s ≤ s_b s) : eMQ hb s s := ⟨Nat.le_refl _, Nat.le_refl _, Nat.le_refl _, Nat.le_refl _, hl, rfl, fun _ h => h, fun _ => rfl, Nat.le_refl _, by omega, fun _ => rfl, [], (List.append_nil _).symm⟩
theorem eMQ_go {hb : Bool} {s : S_} (hl : s_lt s ≤ s_b s) : eMQ hb s (u_go s) := ⟨Nat.le_succ _, Nat.le_refl _, Nat.le_refl _, Nat.le_refl _, Nat.le_succ_of_le hl, rfl, fun _ h => h, fun _ => rfl, Nat.le_succ _, by show s_tb s + 1 + s_b s ≤ s_b s + 1 + s_tb s; omega, fun _ => rfl, [], (List.append_nil _).symm⟩
theorem eMQ_br {hb : Bool} {s : S_} (hl : s_lt s ≤ s_b s) : eMQ hb s (u_b s (s_b s + 1)) := ⟨Nat.le_succ _, Nat.le_refl _, Nat.le_refl _, Nat.le_refl _, Nat.le_succ_of_le hl, rfl, fun _ h => h, fun _ => rfl, Nat.le_refl _, by show s_tb s + s_b s ≤ s_b s + 1 + s_tb s; omega, fun _ => rfl, [], (List.append_nil _).symm⟩
theorem eMQ_flt {hb : Bool} {s : S_} {n : Nat} {l : List Int} (hl : s_lt s ≤ s_b s) (hn : n = 0 → l = s_fl s) : eMQ hb s (u_flt s (s_nt s + n) l) := ⟨Nat.le_refl _, Nat.le_add_right _ _, Nat.le_refl _, Nat.le_refl _, hl, rfl, fun _ h => h, fun _ => rfl, Nat.le_refl _, by show s_tb s + s_b s ≤ s_b s + s_tb s; omega, fun q => hn (by
  have q' : s_nt s + n = s_nt s := q
  omega), [], (List.append_nil _).symm⟩
theorem eMQ_note {hb : Bool} {s : S_} {C : C_} {f : Int} (hl : s_lt s ≤ s_b s) : eMQ hb s (f_note C f s) := eMQ_flt (n := 1) hl fun h => absurd h (by decide)
theorem eMQ_funs {hb : Bool} {s : S_} {C : C_} {v : T_} {id : Nat} (hl : s_lt s ≤ s_b s) : eMQ hb s (f_funs C v id s) := by
  unfold f_funs
  obtain ⟨l, h, h0, -⟩ := f_notes_eq C (f_code 3 id) (min 60 (v_nf v)) s
  rw [h]
  exact eMQ_flt hl h0
theorem eMQ_list {hb : Bool} {s : S_} {C : C_} {fs : List Int} (hl : s_lt s ≤ s_b s) : eMQ hb s (f_list C fs s) := by
  obtain ⟨l, h, h0⟩ := f_list_eq C fs s
  rw [h]
  exact eMQ_flt hl h0
theorem eMQ_nd {hb : Bool} {s s1 : S_} {k : Nat} (h : eMQ hb s s1) : eMQ hb s (u_nd s1 k) := ⟨h.1, h.2.1, h.2.2.1, h.2.2.2.1, h.2.2.2.2.1, h.2.2.2.2.2.1, h.2.2.2.2.2.2.1, h.2.2.2.2.2.2.2.1, h.2.2.2.2.2.2.2.2.1, h.2.2.2.2.2.2.2.2.2.1, h.2.2.2.2.2.2.2.2.2.2.1, h.2.2.2.2.2.2.2.2.2.2.2⟩
theorem eMQ_rw {hb : Bool} {s s1 : S_} {k : Nat} (h : eMQ hb s s1) : eMQ hb s (u_rw s1 k) := ⟨h.1, h.2.1, h.2.2.1, h.2.2.2.1, h.2.2.2.2.1, h.2.2.2.2.2.1, h.2.2.2.2.2.2.1, h.2.2.2.2.2.2.2.1, h.2.2.2.2.2.2.2.2.1, h.2.2.2.2.2.2.2.2.2.1, h.2.2.2.2.2.2.2.2.2.2.1, h.2.2.2.2.2.2.2.2.2.2.2⟩
theorem eMQ_rw0 {hb : Bool} {s s1 : S_} {k : Nat} (h : eMQ hb (u_rw s k) s1) : eMQ hb s s1 := ⟨h.1, h.2.1, h.2.2.1, h.2.2.2.1, h.2.2.2.2.1, h.2.2.2.2.2.1, h.2.2.2.2.2.2.1, h.2.2.2.2.2.2.2.1, h.2.2.2.2.2.2.2.2.1, h.2.2.2.2.2.2.2.2.2.1, h.2.2.2.2.2.2.2.2.2.2.1, h.2.2.2.2.2.2.2.2.2.2.2⟩
theorem eMQ_rn0 {hb : Bool} {s s1 : S_} {k l : Nat} (h : eMQ hb (u_rn s k l) s1) : eMQ hb s s1 := ⟨h.1, h.2.1, h.2.2.1, h.2.2.2.1, h.2.2.2.2.1, h.2.2.2.2.2.1, h.2.2.2.2.2.2.1, h.2.2.2.2.2.2.2.1, h.2.2.2.2.2.2.2.2.1, h.2.2.2.2.2.2.2.2.2.1, h.2.2.2.2.2.2.2.2.2.2.1, h.2.2.2.2.2.2.2.2.2.2.2⟩
theorem eMQ_fs {hb : Bool} {s s1 : S_} {x : Nat → Nat} {y : Nat → N_} (h : eMQ hb s s1) : eMQ hb s (u_fs s1 x y) := ⟨h.1, h.2.1, h.2.2.1, h.2.2.2.1, h.2.2.2.2.1, h.2.2.2.2.2.1, h.2.2.2.2.2.2.1, h.2.2.2.2.2.2.2.1, h.2.2.2.2.2.2.2.2.1, h.2.2.2.2.2.2.2.2.2.1, h.2.2.2.2.2.2.2.2.2.2.1, h.2.2.2.2.2.2.2.2.2.2.2⟩
theorem eMQ_tl0 {s s1 : S_} {x : T_} (h : eMQ true s s1) : eMQ true s (u_tl s1 x) := ⟨h.1, h.2.1, h.2.2.1, h.2.2.2.1, h.2.2.2.2.1, h.2.2.2.2.2.1, h.2.2.2.2.2.2.1, fun q => Bool.noConfusion q, h.2.2.2.2.2.2.2.2.1, h.2.2.2.2.2.2.2.2.2.1, h.2.2.2.2.2.2.2.2.2.2.1, h.2.2.2.2.2.2.2.2.2.2.2⟩
def eMK (K : K_) : Prop := ∀ sil e E hb s v E1 s1, K sil e E hb s = some (v, E1, s1) → s_lt s ≤ s_b s → eMQ hb s s1
theorem o_bad_M {C : C_} {k id : Nat} {E E1 : N_} {s s1 : S_} {v : T_} {hb : Bool} (h : o_bad C k id E s = some (v, E1, s1)) (hl : s_lt s ≤ s_b s) : eMQ hb s s1 := by
  unfold o_bad at h
  cases h
  exact eMQ_note hl
theorem o_name_M {C : C_} {id : Nat} {o : Option T_} {E E1 : N_} {s s1 : S_} {v : T_} {hb : Bool} (h : o_name C id o E s = some (v, E1, s1)) (hl : s_lt s ≤ s_b s) : eMQ hb s s1 := by
  cases o with
  | none => exact o_bad_M h hl
  | some x => cases h; exact eMQ_refl hl
theorem o_ask_M {C : C_} {q id : Nat} {E E1 : N_} {s s1 : S_} {v : T_} {hb : Bool} (h : o_ask C q id E s = some (v, E1, s1)) (hl : s_lt s ≤ s_b s) : eMQ hb s s1 := by
  unfold o_ask at h
  cases c : C.1 q with
  | none => rw [c] at h; exact o_bad_M h hl
  | some x =>
    rw [c] at h
    cases h
    exact ⟨Nat.le_refl _, Nat.le_refl _, Nat.le_refl _, Nat.le_refl _, hl, rfl, fun p x => by show (p == q || s_as s p) = true; rw [x, Bool.or_true], fun _ => rfl, Nat.le_refl _, Nat.le_of_eq (Nat.add_comm _ _), fun _ => rfl, [], (List.append_nil _).symm⟩
theorem o_mk_M {k : Nat} {e : T_} {E E1 : N_} {s s1 : S_} {v : T_} {hb : Bool} (h : o_mk k e E s = some (v, E1, s1)) (hl : s_lt s ≤ s_b s) : eMQ hb s s1 := by
  unfold o_mk at h
  split at h
  · cases h; exact eMQ_nd (eMQ_rw (eMQ_refl hl))
  · cases h
theorem o_two_M {C : C_} {k id : Nat} {a b : T_} {E E1 : N_} {s s1 : S_} {v : T_} {hb : Bool} (h : o_two C k id a b E s = some (v, E1, s1)) (hl : s_lt s ≤ s_b s) : eMQ hb s s1 := by
  unfold o_two at h
  split at h
  · cases h; exact eMQ_refl hl
  · split at h
    · cases h; exact eMQ_refl hl
    · exact o_bad_M h hl
theorem eMQ_tl {s : S_} {x : T_} {k : Nat} (hl : s_lt s ≤ s_b s) : eMQ true s (u_tl (u_nd s k) x) := ⟨Nat.le_refl _, Nat.le_refl _, Nat.le_refl _, Nat.le_refl _, hl, rfl, fun _ h => h, (fun q => absurd q Bool.noConfusion), Nat.le_refl _, Nat.le_of_eq (Nat.add_comm _ _), fun _ => rfl, [], (List.append_nil _).symm⟩
theorem o_mark_M {C : C_} {k id : Nat} {n : Int} {v e : T_} {E E1 : N_} {s s1 : S_} {w : T_} (h : o_mark C k n id v e E s = some (w, E1, s1)) (hl : s_lt s ≤ s_b s) : eMQ true s s1 := by
  unfold o_mark at h
  split at h
  · cases h; exact eMQ_refl hl
  · split at h
    · split at h
      · cases h; exact eMQ_tl hl
      · exact o_bad_M h hl
    · split at h
      · cases h; exact eMQ_tl hl
      · exact o_bad_M h hl
theorem o_one_M {L : Nat} {C : C_} {k id : Nat} {n : Int} {a v e : T_} {E E1 : N_} {s s1 : S_} {w : T_} {hb : Bool} (hk : (k = 18 ∨ k = 19) → hb = true) (h : o_one L C k n id a v e E s = some (w, E1, s1)) (hl : s_lt s ≤ s_b s) : eMQ hb s s1 := by
  unfold o_one at h
  split at h
  · cases h; exact eMQ_refl hl
  · cases hk (Or.inl rfl); exact o_mark_M h hl
  · cases hk (Or.inr rfl); exact o_mark_M h hl
  · split at h
    · rename_i hf
      cases h
      obtain ⟨-, rfl⟩ := f_fu_inv hf
      exact eMQ_nd (eMQ_funs hl)
    · cases h
  · split at h
    · cases h; exact eMQ_refl hl
    · split at h
      · cases h; exact eMQ_nd (eMQ_refl hl)
      · exact o_bad_M h hl
  · split at h
    · rename_i hf
      cases h
      obtain ⟨-, rfl⟩ := f_fu_inv hf
      exact eMQ_funs hl
    · cases h
  · split at h
    · cases h; exact eMQ_refl hl
    · split at h
      · cases h; exact eMQ_refl hl
      · exact o_bad_M h hl
theorem o_pair_M {L : Nat} {C : C_} {k id : Nat} {a b x y : T_} {E E1 : N_} {s s1 : S_} {w : T_} {hb : Bool} (h : o_pair L C k id a b x y E s = some (w, E1, s1)) (hl : s_lt s ≤ s_b s) : eMQ hb s s1 := by
  unfold o_pair at h
  split at h
  · split at h
    · rename_i hf
      split at h
      · rename_i hg
        cases h
        obtain ⟨-, rfl⟩ := f_fu_inv hf
        obtain ⟨-, rfl⟩ := f_fu_inv hg
        have h1 : eMQ hb s (f_funs C x (e_id a) s) := eMQ_funs hl
        exact eMQ_nd (eMQ_tr h1 (eMQ_funs (hb := hb) h1.2.2.2.2.1))
      · cases h
    · cases h
  · split at h
    · cases h; exact eMQ_nd (eMQ_refl hl)
    · exact o_two_M h hl
theorem t_frm_M {L : Nat} {rec : K_} {C : C_} {sil : Bool} (hK : eMK rec) : ∀ (m : Nat) (t : T_), it_len t ≤ m → ∀ (w : Nat) (E : N_) (s : S_) (w1 : Nat) (E1 : N_) (s1 : S_), t_frm L rec C sil t w E s = some (w1, E1, s1) → s_lt s ≤ s_b s → eMQ false s s1 := by
  intro m
  induction m with
  | zero =>
    intro t ht w E s w1 E1 s1 h hl
    rcases ct_or t with ⟨k, n, id, x, r, rfl⟩ | ⟨-, he⟩
    · rw [it_ct] at ht; omega
    · rw [he] at h
      cases h
      exact eMQ_refl hl
  | succ m ih =>
    intro t ht w E s w1 E1 s1 h hl
    rcases ct_or t with ⟨k, n, id, x, r, rfl⟩ | ⟨-, he⟩
    · rw [it_ct] at ht
      rw [t_frm_ct] at h
      split at h
      · split at h
        · split at h
          · rename_i v E2 s2 hr
            split at h
            · rename_i s3 hf
              obtain ⟨-, rfl⟩ := f_fu_inv hf
              have h1 := eMQ_tr (eMQ_go hl) (hK _ _ _ _ _ _ _ _ hr (Nat.le_succ_of_le hl))
              have h2 := eMQ_tr h1 (eMQ_funs (C := C) (v := v) (id := e_id x) h1.2.2.2.2.1)
              exact eMQ_tr h2 (ih r (by omega) _ _ _ _ _ _ h h2.2.2.2.2.1)
            · cases h
          · cases h
        · exact eMQ_tr (eMQ_go hl) (ih r (by omega) _ _ _ _ _ _ h (Nat.le_succ_of_le hl))
      · cases h
    · rw [he] at h
      cases h
      exact eMQ_refl hl
theorem t_item_M {L : Nat} {rec : K_} {C : C_} {sil : Bool} (hK : eMK rec) {k : Nat} {n : Int} {x : T_} {E E1 : N_} {s s1 : S_} {v : T_} (h : t_item L rec C sil k n x E s = some (v, E1, s1)) (hl : s_lt s ≤ s_b s) : eMQ true s s1 := by
  unfold t_item at h
  split at h
  · split at h
    · rename_i v E2 s2 hr
      split at h
      · rename_i s3 hf
        obtain ⟨-, rfl⟩ := f_fu_inv hf
        cases h
        have h1 := eMQ_tr (eMQ_go hl) (hK _ _ _ _ _ _ _ _ hr (Nat.le_succ_of_le hl))
        exact eMQ_nd (eMQ_tr h1 (eMQ_funs (hb := true) h1.2.2.2.2.1))
      · cases h
    · cases h
  · split at h
    · split at h
      · rename_i w E2 s2 hr
        cases h
        exact eMQ_nd (eMQ_t (eMQ_tr (eMQ_go hl) (t_frm_M hK _ _ (Nat.le_refl _) _ _ _ _ _ _ hr (Nat.le_succ_of_le hl))))
      · cases h
    · cases h
      exact eMQ_nd (eMQ_go (hb := true) hl)
theorem t_run_M {L : Nat} {rec : K_} {C : C_} {sil : Bool} (hK : eMK rec) : ∀ (m : Nat) (t : T_), it_len t ≤ m → ∀ (q : T_) (f : Bool) (E : N_) (s : S_) (q1 : T_) (f1 : Bool) (E1 : N_) (s1 : S_), t_run L rec C sil t q f E s = some (q1, f1, E1, s1) → s_lt s ≤ s_b s → eMQ true s s1 := by
  intro m
  induction m with
  | zero =>
    intro t ht q f E s q1 f1 E1 s1 h hl
    rcases ct_or t with ⟨k, n, id, x, r, rfl⟩ | ⟨he, -⟩
    · rw [it_ct] at ht; omega
    · rw [he] at h
      cases h
      exact eMQ_refl hl
  | succ m ih =>
    intro t ht q f E s q1 f1 E1 s1 h hl
    rcases ct_or t with ⟨k, n, id, x, r, rfl⟩ | ⟨he, -⟩
    · rw [it_ct] at ht
      rw [t_run_ct] at h
      split at h
      · split at h
        · rename_i v E2 s2 hr
          have h1 := t_item_M hK hr hl
          have h2 : eMQ true s (u_tl s2 .nil) := eMQ_tl0 h1
          exact eMQ_tr h2 (ih r (by omega) _ _ _ _ _ _ _ _ h h2.2.2.2.2.1)
        · cases h
      · cases h
    · rw [he] at h
      cases h
      exact eMQ_refl hl
theorem t_block_M {L : Nat} {rec : K_} {C : C_} {sil : Bool} (hK : eMK rec) {t : T_} {E E1 : N_} {s s1 : S_} {v : T_} (h : t_block L rec C sil t E s = some (v, E1, s1)) (hl : s_lt s ≤ s_b s) : eMQ false s s1 := by
  unfold t_block at h
  split at h
  · rename_i q f E2 s2 hr
    cases h
    obtain ⟨a1, a2, a3, a4, a5, a6, a7, a8, a9, a10, a11, a12⟩ := t_run_M hK _ _ (Nat.le_refl _) _ _ _ _ _ _ _ _ hr hl
    exact ⟨a1, a2, a3, a4, a5, a6, a7, fun _ => rfl, a9, a10, a11, a12⟩
  · cases h
theorem o_body_M {rec : K_} {C : C_} {sil keep : Bool} (hK : eMK rec) {fn v w : T_} {s s2 : S_} {hb : Bool} (h : o_body rec C sil keep fn v s = some (w, s2)) (hl : s_lt s ≤ s_b s) : eMQ hb s s2 := by
  obtain ⟨-, E1, s1, me, hr, -, rfl, hm⟩ := o_body_inv h
  obtain ⟨a1, a2, a3, a4, a5, a6, a7, a8, a9, a10, a11, l, a12⟩ := hK _ _ _ _ _ _ _ _ hr (Nat.le_refl _)
  refine ⟨a1, a2, Nat.le_max_left _ _, Nat.le_trans hl a4, a5, rfl, fun q x => ?_, fun _ => a8 rfl, a9, a10, a11, ?_⟩
  · show (s_as s q || s_as s1 q) = true
    rw [x]
    rfl
  · rcases hm with ⟨-, rfl⟩ | ⟨-, rfl⟩
    · exact ⟨l, a12⟩
    · refine ⟨l ++ [r_rec C fn v w s s1], ?_⟩
      have a12 : s_me s1 = s_me s ++ l := a12
      show s_me s1 ++ [r_rec C fn v w s s1] = s_me s ++ (l ++ [r_rec C fn v w s s1])
      rw [a12, List.append_assoc]
theorem o_call_M {rec : K_} {C : C_} {sil : Bool} (hK : eMK rec) {id : Nat} {fn v w : T_} {E E1 : N_} {s s1 : S_} {hb : Bool} (h : o_call rec C sil id fn v E s = some (w, E1, s1)) (hl : s_lt s ≤ s_b s) : eMQ hb s s1 := by
  obtain ⟨-, ⟨-, -, rfl⟩ | ⟨-, ⟨-, -, rfl⟩ | ⟨-, ⟨-, -, rfl⟩ | ⟨-, ⟨r, -, hq⟩ | ⟨-, hq⟩⟩⟩⟩⟩ := o_call_inv h
  · exact eMQ_refl hl
  · exact eMQ_note hl
  · exact eMQ_note hl
  · exact eMQ_rn0 (o_body_M (hb := hb) hK hq hl)
  · exact eMQ_rn0 (o_body_M (hb := hb) hK hq hl)
theorem o_file_M {L : Nat} {rec : K_} {C : C_} {sil : Bool} (hK : eMK rec) {f : Nat} {v : T_} {s s1 : S_} (h : o_file L rec C sil f s = some (v, s1)) (hl : s_lt s ≤ s_b s) : eMQ false s s1 := by
  unfold o_file at h
  split at h
  · split at h
    · rename_i v E s2 hr
      cases h
      have h0 : eMQ false s (f_list C (C.2.2.2 f) (u_fs s (fun g => if g = f then 1 else s_fs s g) (s_fe s))) := by
        have h1 : eMQ false s (u_fs s (fun g => if g = f then 1 else s_fs s g) (s_fe s)) := eMQ_fs (eMQ_refl hl)
        exact eMQ_tr h1 (eMQ_list h1.2.2.2.2.1)
      exact eMQ_fs (eMQ_tr h0 (eMQ_rw0 (t_block_M hK hr h0.2.2.2.2.1)))
    · cases h
  · cases h
theorem o_import_M {L : Nat} {rec : K_} {C : C_} {sil : Bool} (hK : eMK rec) {n : Int} {id : Nat} {E E1 : N_} {v : T_} {s s1 : S_} {hb : Bool} (h : o_import L rec C sil n id E s = some (v, E1, s1)) (hl : s_lt s ≤ s_b s) : eMQ hb s s1 := by
  unfold o_import at h
  dsimp only at h
  split at h
  · exact o_bad_M h hl
  · split at h
    · split at h
      · rename_i w s2 hr
        obtain ⟨a1, a2, a3, a4, a5, a6, a7, a8, a9, a10, a11, a12⟩ := o_file_M hK hr hl
        have h1 : eMQ hb s (u_dp s2 (s_dp s)) := ⟨a1, a2, a3, a4, a5, rfl, a7, fun _ => a8 rfl, a9, a10, a11, a12⟩
        exact eMQ_tr h1 (o_name_M h a5)
      · cases h
    · exact o_name_M h hl
theorem ev1_M {L : Nat} {C : C_} {r1 r2 r4 : K_} (h1 : eMK r1) (h2 : eMK r2) (h4 : eMK r4) : eMK (ev1 L C r1 r2 r4) := by
  intro sil e E hb s v E1 s1 h hl
  have hg : eMQ hb s (u_go s) := eMQ_go hl
  have hl1 : s_lt (u_go s) ≤ s_b (u_go s) := Nat.le_succ_of_le hl
  rcases ce_or e with ⟨k, n, id, a, b, c, rfl⟩ | he
  · by_cases ko : k < 6 ∨ 31 < k
    · rw [ev1_oth ko] at h
      split at h
      · cases h; exact hg
      · cases h
    · have kk : k = 6 ∨ k = 7 ∨ k = 8 ∨ k = 16 ∨ k = 22 ∨ k = 23 ∨ k = 24 ∨ k = 25 ∨ k = 26 ∨ k = 27 ∨ k = 29 ∨ k = 14 ∨ k = 17 ∨ (k = 9 ∨ k = 10 ∨ k = 11 ∨ k = 12 ∨ k = 13 ∨ k = 30) ∨ (k = 15 ∨ k = 20 ∨ k = 21 ∨ k = 28 ∨ k = 31) ∨ (k = 18 ∨ k = 19) := by omega
      rcases kk with rfl | rfl | rfl | rfl | rfl | rfl | rfl | rfl | rfl | rfl | rfl | rfl | rfl | kk | kk | kk
      · rw [ev1_6] at h
        split at h
        · cases h; exact hg
        · cases h
      · rw [ev1_7] at h
        split at h
        · exact eMQ_tr hg (o_name_M h hl1)
        · cases h
      · rw [ev1_8] at h
        split at h
        · split at h
          · split at h
            · rename_i w E2 s2 hr
              cases h
              exact eMQ_tr hg (eMQ_t (eMQ_rw0 (t_block_M (s := u_rw (u_go s) (s_rw s + 1)) h2 hr hl1)))
            · cases h
          · cases h
        · cases h
      · rw [ev1_16] at h
        split at h
        · exact eMQ_tr hg (o_mk_M h hl1)
        · cases h
      · rw [ev1_22] at h
        split at h
        · exact eMQ_tr hg (o_mk_M h hl1)
        · cases h
      · rw [ev1_23] at h
        split at h
        · exact eMQ_tr hg (o_ask_M h hl1)
        · cases h
      · rw [ev1_24] at h
        split at h
        · exact eMQ_tr hg (o_ask_M h hl1)
        · cases h
      · rw [ev1_25] at h
        split at h
        · exact eMQ_tr hg (o_ask_M h hl1)
        · cases h
      · rw [ev1_26] at h
        split at h
        · exact eMQ_tr hg (o_ask_M h hl1)
        · cases h
      · rw [ev1_27] at h
        split at h
        · exact eMQ_tr hg (o_ask_M h hl1)
        · cases h
      · rw [ev1_29] at h
        split at h
        · exact eMQ_tr hg (o_import_M h4 h hl1)
        · cases h
      · rw [ev1_14] at h
        split at h
        · split at h
          · rename_i w E2 s2 hr
            have g1 := eMQ_tr hg (h1 _ _ _ _ _ _ _ _ hr hl1)
            split at h
            · cases h; exact g1
            · split at h
              · exact eMQ_tr g1 (h1 _ _ _ _ _ _ _ _ h g1.2.2.2.2.1)
              · exact eMQ_tr g1 (o_bad_M h g1.2.2.2.2.1)
          · cases h
        · cases h
      · rw [ev1_17] at h
        split at h
        · split at h
          · rename_i w E2 s2 hr
            have g1 := eMQ_tr hg (h1 _ _ _ _ _ _ _ _ hr hl1)
            split at h
            · cases h; exact g1
            · split at h
              · split at h
                · rename_i w2 E3 s3 hr2
                  have g2 := eMQ_tr g1 (h1 _ _ _ _ _ _ _ _ hr2 g1.2.2.2.2.1)
                  exact eMQ_tr g2 (o_call_M h2 h g2.2.2.2.2.1)
                · cases h
              · exact eMQ_tr g1 (o_bad_M h g1.2.2.2.2.1)
          · cases h
        · cases h
      · rw [ev1_two kk] at h
        split at h
        · split at h
          · rename_i w E2 s2 hr
            have g1 := eMQ_tr hg (h1 _ _ _ _ _ _ _ _ hr hl1)
            split at h
            · rename_i w2 E3 s3 hr2
              have g2 := eMQ_tr g1 (h1 _ _ _ _ _ _ _ _ hr2 g1.2.2.2.2.1)
              exact eMQ_tr g2 (o_pair_M h g2.2.2.2.2.1)
            · cases h
          · cases h
        · cases h
      · rw [ev1_one (by omega)] at h
        split at h
        · split at h
          · rename_i w E2 s2 hr
            have g1 := eMQ_tr hg (h1 _ _ _ _ _ _ _ _ hr hl1)
            exact eMQ_tr g1 (o_one_M (fun q => by omega) h g1.2.2.2.2.1)
          · cases h
        · cases h
      · cases hb with
        | false =>
          rw [ev1_pl kk] at h
          split at h
          · exact eMQ_tr hg (o_bad_M h hl1)
          · cases h
        | true =>
          rw [ev1_one (Or.inr (Or.inr (Or.inr (Or.inr (Or.inr ⟨kk, rfl⟩)))))] at h
          split at h
          · split at h
            · rename_i w E2 s2 hr
              have g1 := eMQ_tr hg (h1 _ _ _ _ _ _ _ _ hr hl1)
              exact eMQ_tr g1 (o_one_M (fun _ => rfl) h g1.2.2.2.2.1)
            · cases h
          · cases h
  · rw [he] at h
    cases h
    exact eMQ_br hl
theorem ev_M (C : C_) : ∀ n, eMK (ev C n) := by
  intro n
  induction n using Nat.strongRecOn with
  | _ n ih =>
    match n, ih with
    | 0, _ => intro _ _ _ _ _ _ _ _ h; cases h
    | 1, _ => intro _ _ _ _ _ _ _ _ h; cases h
    | 2, _ => intro _ _ _ _ _ _ _ _ h; cases h
    | 3, _ => intro _ _ _ _ _ _ _ _ h; cases h
    | n + 4, ih =>
      rw [ev_4]
      exact ev1_M (ih (n + 3) (by omega)) (ih (n + 2) (by omega)) (ih n (by omega))
