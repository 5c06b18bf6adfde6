/-! ===== the evaluator: what is run again comes to the same ===== -/
/-- no function in it has an IMPORT in its body -/
def v_ni : T_ → Bool
  | .tag 12 (.append e cl) => !e_imp (e_part e) && v_ni cl
  | .tag 13 (.append a b) => v_ni a && v_ni b
  | .append (.tag _ v) r => v_ni v && v_ni r
  | _ => true
def n_ni (E : N_) : Prop := ∀ m v, E m = some v → v_ni v = true
theorem e_imp_ce {k : Nat} {n : Int} {id : Nat} {a b c : T_} (h : e_imp (ce k n id a b c) = false) : k ≠ 29 ∧ e_imp a = false ∧ e_imp b = false ∧ e_imp c = false := by
  unfold ce at h
  rw [e_imp] at h
  have h1 := Bool.or_eq_false_iff.mp h
  have h2 := Bool.or_eq_false_iff.mp h1.1
  have h3 := Bool.or_eq_false_iff.mp h2.1
  exact ⟨fun q => by rw [q] at h3; exact absurd h3.1 (by decide), h3.2, h2.2, h1.2⟩
theorem e_imp_ct {k : Nat} {n : Int} {id : Nat} {x r : T_} (h : e_imp (ct k n id x r) = false) : e_imp x = false ∧ e_imp r = false := by
  cases r with
  | append b c =>
    have h1 := e_imp_ce (a := x) (b := b) (c := c) h
    exact ⟨h1.2.1, rfl⟩
  | _ =>
    have h1 := Bool.or_eq_false_iff.mp h
    exact h1
theorem n_get_ni : ∀ (cl : T_), v_ni cl = true → n_ni (n_get cl) := by
  intro cl
  induction cl with
  | append x r ihx ihr =>
    cases x with
    | tag m v0 =>
      intro h k v e
      have h1 := (Bool.and_eq_true _ _).mp h
      have e1 : (if k = m then some v0 else n_get r k) = some v := e
      by_cases c : k = m
      · rw [if_pos c] at e1
        cases e1
        exact h1.1
      · rw [if_neg c] at e1
        exact ihr h1.2 k v e1
    | _ => intro _ k v e; cases e
  | _ => intro _ k v e; cases e
theorem n_set_ni {E : N_} {m : Nat} {v : T_} (h : n_ni E) (hv : v_ni v = true) : n_ni (n_set E m v) := by
  intro k w e
  have e1 : (if k = m then some v else E k) = some w := e
  by_cases c : k = m
  · rw [if_pos c] at e1
    cases e1
    exact hv
  · rw [if_neg c] at e1
    exact h k w e1
theorem n_clos_ni {E : N_} {u : Nat → Bool} (h : n_ni E) : ∀ k, v_ni (n_clos E u k) = true := by
  intro k
  induction k with
  | zero => rfl
  | succ k ih =>
    rw [n_clos]
    split
    · rename_i v hu hv
      show (v_ni v && v_ni _) = true
      rw [h _ _ hv, ih]
      rfl
    · exact ih
theorem v_isF_of {f : T_} (h : v_isF f = true) : ∃ x, f = .tag 12 x := by
  unfold v_isF at h
  split at h
  · exact ⟨_, rfl⟩
  · cases h
theorem fn_ni {f : T_} (h : v_isF f = true) (hn : v_ni f = true) : e_imp (e_part (v_code f)) = false ∧ v_ni (v_clos f) = true := by
  obtain ⟨x, rfl⟩ := v_isF_of h
  cases x with
  | append e cl =>
    have h1 := (Bool.and_eq_true _ _).mp hn
    refine ⟨?_, h1.2⟩
    have h2 := h1.1
    show e_imp (e_part e) = false
    cases q : e_imp (e_part e) with
    | false => rfl
    | true => rw [q] at h2; cases h2
  | _ => exact ⟨rfl, rfl⟩
theorem n_body_ni {code clos v f : T_} (hc : v_ni clos = true) (hv : v_ni v = true) (hf : v_ni f = true) : n_ni (n_body code clos v f) := by
  unfold n_body
  refine n_set_ni ?_ hv
  split
  · exact n_set_ni (n_get_ni _ hc) hf
  · exact n_get_ni _ hc
theorem v_ni_9 (q : T_) : v_ni (.tag 9 q) = true := by cases q <;> rfl
theorem v_join_ni {a b : T_} (ha : v_ni a = true) (hb : v_ni b = true) : v_ni (v_join a b) = true := by
  unfold v_join
  split
  · rfl
  · split
    · exact ha
    · split
      · exact hb
      · rfl
def eRQ (hb : Bool) (s s1 s' s1' : S_) : Prop := s_b s1' + s_b s = s_b s1 + s_b s' ∧ s_nt s1' = s_nt s' ∧ (∃ X : Nat → Bool, (s_as s1 = fun q => s_as s q || X q) ∧ s_as s1' = fun q => s_as s' q || X q) ∧ (∃ k, s_sn s1 = max (s_sn s) k ∧ s_sn s1' = max (s_sn s') k) ∧ (s_lt s1 = s_lt s ∧ s_lt s1' = s_lt s' ∨ s_lt s1' + s_b s = s_lt s1 + s_b s') ∧ (hb = true → s_tl s1' = s_tl s1)
theorem eRQ_tr {hb : Bool} {s s1 s2 s' s1' s2' : S_} (h : eRQ hb s s1 s' s1') (g : eRQ hb s1 s2 s1' s2') : eRQ hb s s2 s' s2' := by
  obtain ⟨a1, a2, ⟨X, a3, a3'⟩, ⟨k, a4, a4'⟩, a5, a6⟩ := h
  obtain ⟨b1, b2, ⟨Y, b3, b3'⟩, ⟨l, b4, b4'⟩, b5, b6⟩ := g
  refine ⟨by clear a3 a3' b3 b3'; omega, b2.trans a2, ⟨fun q => X q || Y q, ?_, ?_⟩, ⟨max k l, ?_, ?_⟩, ?_, b6⟩
  · rw [b3, a3]; funext q; exact Bool.or_assoc _ _ _
  · rw [b3', a3']; funext q; exact Bool.or_assoc _ _ _
  · rw [b4, a4, Nat.max_assoc]
  · rw [b4', a4', Nat.max_assoc]
  · clear a3 a3' b3 b3' a4 a4' b4 b4' a6 b6
    rcases a5 with a5 | a5 <;> rcases b5 with b5 | b5
    · exact Or.inl ⟨b5.1.trans a5.1, b5.2.trans a5.2⟩
    all_goals (right; omega)
theorem eRQ_id {hb : Bool} {s s' : S_} (h : hb = true → s_tl s' = s_tl s) : eRQ hb s s s' s' := ⟨Nat.add_comm _ _, rfl, ⟨fun _ => false, by funext q; exact (Bool.or_false _).symm, by funext q; exact (Bool.or_false _).symm⟩, ⟨0, (Nat.max_zero _).symm, (Nat.max_zero _).symm⟩, Or.inl ⟨rfl, rfl⟩, h⟩
theorem eRQ_go {hb : Bool} {s s' : S_} (h : hb = true → s_tl s' = s_tl s) : eRQ hb s (u_go s) s' (u_go s') := ⟨by show s_b s' + 1 + s_b s = s_b s + 1 + s_b s'; omega, rfl, ⟨fun _ => false, by funext q; exact (Bool.or_false _).symm, by funext q; exact (Bool.or_false _).symm⟩, ⟨0, (Nat.max_zero _).symm, (Nat.max_zero _).symm⟩, Or.inl ⟨rfl, rfl⟩, h⟩
theorem eRQ_br {hb : Bool} {s s' : S_} (h : hb = true → s_tl s' = s_tl s) : eRQ hb s (u_b s (s_b s + 1)) s' (u_b s' (s_b s' + 1)) := ⟨by show s_b s' + 1 + s_b s = s_b s + 1 + s_b s'; omega, rfl, ⟨fun _ => false, by funext q; exact (Bool.or_false _).symm, by funext q; exact (Bool.or_false _).symm⟩, ⟨0, (Nat.max_zero _).symm, (Nat.max_zero _).symm⟩, Or.inl ⟨rfl, rfl⟩, h⟩
theorem eRQ_nd {hb : Bool} {s s1 s' s1' : S_} {k k' : Nat} (h : eRQ hb s s1 s' s1') : eRQ hb s (u_nd s1 k) s' (u_nd s1' k') := ⟨h.1, h.2.1, h.2.2.1, h.2.2.2.1, h.2.2.2.2.1, h.2.2.2.2.2⟩
theorem eRQ_rw {hb : Bool} {s s1 s' s1' : S_} {k k' : Nat} (h : eRQ hb s s1 s' s1') : eRQ hb s (u_rw s1 k) s' (u_rw s1' k') := ⟨h.1, h.2.1, h.2.2.1, h.2.2.2.1, h.2.2.2.2.1, h.2.2.2.2.2⟩
theorem eRQ_rw0 {hb : Bool} {s s1 s' s1' : S_} {k k' : Nat} (h : eRQ hb (u_rw s k) s1 (u_rw s' k') s1') : eRQ hb s s1 s' s1' := ⟨h.1, h.2.1, h.2.2.1, h.2.2.2.1, h.2.2.2.2.1, h.2.2.2.2.2⟩
theorem eRQ_rn0 {hb : Bool} {s s1 s' s1' : S_} {k l k' l' : Nat} (h : eRQ hb (u_rn s k l) s1 (u_rn s' k' l') s1') : eRQ hb s s1 s' s1' := ⟨h.1, h.2.1, h.2.2.1, h.2.2.2.1, h.2.2.2.2.1, h.2.2.2.2.2⟩
/-- what holds ahead of what is run again: s to s1 is the first run, s' where it begins now -/
def eRH (hb : Bool) (C C' : C_) (s s1 s' : S_) : Prop := s_nt s1 = s_nt s ∧ (hb = true → s_tl s' = s_tl s) ∧ s_lt s ≤ s_b s ∧ s_lt s' ≤ s_b s' ∧ s_dp s' + s_sn s1 ≤ 8 ∧ s_b s' + s_lt s1 < 300 + s_b s ∧ ∀ q, s_as s1 q = true → C'.1 q = C.1 q
theorem eRH_nd {hb : Bool} {C C' : C_} {s s1 s' : S_} {k : Nat} (h : eRH hb C C' s (u_nd s1 k) s') : eRH hb C C' s s1 s' := ⟨h.1, h.2.1, h.2.2.1, h.2.2.2.1, h.2.2.2.2.1, h.2.2.2.2.2.1, h.2.2.2.2.2.2⟩
theorem eRH_rw {hb : Bool} {C C' : C_} {s s1 s' : S_} {k k' : Nat} (h : eRH hb C C' s s1 s') : eRH hb C C' (u_rw s k) s1 (u_rw s' k') := ⟨h.1, h.2.1, h.2.2.1, h.2.2.2.1, h.2.2.2.2.1, h.2.2.2.2.2.1, h.2.2.2.2.2.2⟩
theorem eRH_rn {hb : Bool} {C C' : C_} {s s1 s' : S_} {k l k' l' : Nat} (h : eRH hb C C' s s1 s') : eRH hb C C' (u_rn s k l) s1 (u_rn s' k' l') := ⟨h.1, h.2.1, h.2.2.1, h.2.2.2.1, h.2.2.2.2.1, h.2.2.2.2.2.1, h.2.2.2.2.2.2⟩
theorem eRH_1 {hb : Bool} {C C' : C_} {s s1 s2 s' : S_} (m1 : eMQ hb s s1) (m2 : eMQ hb s1 s2) (h : eRH hb C C' s s2 s') : eRH hb C C' s s1 s' := by
  obtain ⟨h1, h2, h3, h4, h5, h6, h7⟩ := h
  have e1 := m1.2.1
  have e2 := m2.2.1
  have e3 := m2.2.2.1
  have e4 := m2.2.2.2.1
  exact ⟨by omega, h2, h3, h4, by omega, by omega, fun q x => h7 q (m2.2.2.2.2.2.2.1 q x)⟩
theorem eRH_2 {hb : Bool} {C C' : C_} {s s1 s2 s' s1' : S_} (m1 : eMQ hb s s1) (m2 : eMQ hb s1 s2) (m' : eMQ hb s' s1') (r : eRQ hb s s1 s' s1') (h : eRH hb C C' s s2 s') : eRH hb C C' s1 s2 s1' := by
  obtain ⟨h1, h2, h3, h4, h5, h6, h7⟩ := h
  have e1 := m1.2.1
  have e2 := m2.2.1
  have e3 := m1.2.2.2.2.1
  have e4 := m'.2.2.2.2.1
  have e5 := m'.2.2.2.2.2.1
  have e6 := r.1
  exact ⟨by omega, r.2.2.2.2.2, e3, e4, by omega, by omega, h7⟩
def eRK (K K' : K_) (C C' : C_) : Prop := ∀ sil sil' e E hb s s' v E1 s1 v' E1' s1', K sil e E hb s = some (v, E1, s1) → K' sil' e E hb s' = some (v', E1', s1') → e_imp e = false → n_ni E → eRH hb C C' s s1 s' → v' = v ∧ E1' = E1 ∧ eRQ hb s s1 s' s1' ∧ v_ni v = true ∧ n_ni E1
theorem o_bad_F {C : C_} {k id : Nat} {E E1 : N_} {s s1 : S_} {v : T_} (h : o_bad C k id E s = some (v, E1, s1)) (hn : s_nt s1 = s_nt s) : False := by
  unfold o_bad at h
  cases h
  exact absurd hn (Nat.succ_ne_self _)
theorem f_fu_R {L : Nat} {C : C_} {v : T_} {id : Nat} {s s1 : S_} (h : f_fu L C v id s = some s1) (hn : s_nt s1 = s_nt s) : s1 = s ∧ v_nf v = 0 := by
  obtain ⟨-, rfl⟩ := f_fu_inv h
  unfold f_funs at hn ⊢
  obtain ⟨l, e, -⟩ := f_notes_eq C (f_code 3 id) (min 60 (v_nf v)) s
  rw [e] at hn
  have hn : s_nt s + min 60 (v_nf v) = s_nt s := hn
  have h0 : min 60 (v_nf v) = 0 := by omega
  rw [h0]
  exact ⟨rfl, by omega⟩
theorem f_fu_0 {L : Nat} {C : C_} {v : T_} {id : Nat} {s s1 : S_} (h : f_fu L C v id s = some s1) (h0 : v_nf v = 0) : s1 = s := by
  obtain ⟨-, rfl⟩ := f_fu_inv h
  unfold f_funs
  rw [h0]
  rfl
theorem o_name_R {C C' : C_} {id : Nat} {o : Option T_} {E E1 E1' : N_} {s s1 s' s1' : S_} {v v' : T_} {hb : Bool} (h : o_name C id o E s = some (v, E1, s1)) (h' : o_name C' id o E s' = some (v', E1', s1')) (hE : n_ni E) (ho : ∀ x, o = some x → v_ni x = true) (H : eRH hb C C' s s1 s') : v' = v ∧ E1' = E1 ∧ eRQ hb s s1 s' s1' ∧ v_ni v = true ∧ n_ni E1 := by
  cases o with
  | none => exact (o_bad_F h H.1).elim
  | some x =>
    cases h
    cases h'
    exact ⟨rfl, rfl, eRQ_id H.2.1, ho _ rfl, hE⟩
theorem o_ask_R {C C' : C_} {q id : Nat} {E E1 E1' : N_} {s s1 s' s1' : S_} {v v' : T_} {hb : Bool} (h : o_ask C q id E s = some (v, E1, s1)) (h' : o_ask C' q id E s' = some (v', E1', s1')) (hE : n_ni E) (H : eRH hb C C' s s1 s') : v' = v ∧ E1' = E1 ∧ eRQ hb s s1 s' s1' ∧ v_ni v = true ∧ n_ni E1 := by
  unfold o_ask at h h'
  cases c : C.1 q with
  | none => rw [c] at h; exact (o_bad_F h H.1).elim
  | some x =>
    rw [c] at h
    cases h
    have e : C'.1 q = C.1 q := H.2.2.2.2.2.2 q (by show (q == q || s_as s q) = true; rw [beq_self_eq_true]; rfl)
    rw [e, c] at h'
    cases h'
    refine ⟨rfl, rfl, ⟨Nat.add_comm _ _, rfl, ⟨fun p => p == q, ?_, ?_⟩, ⟨0, (Nat.max_zero _).symm, (Nat.max_zero _).symm⟩, Or.inl ⟨rfl, rfl⟩, H.2.1⟩, rfl, hE⟩
    · funext p; exact Bool.or_comm _ _
    · funext p; exact Bool.or_comm _ _
theorem o_mk_R {C C' : C_} {k : Nat} {e : T_} {E E1 E1' : N_} {s s1 s' s1' : S_} {v v' : T_} {hb : Bool} (hk : k = 7 ∨ k = 12 ∧ e_imp (e_part e) = false) (h : o_mk k e E s = some (v, E1, s1)) (h' : o_mk k e E s' = some (v', E1', s1')) (hE : n_ni E) (H : eRH hb C C' s s1 s') : v' = v ∧ E1' = E1 ∧ eRQ hb s s1 s' s1' ∧ v_ni v = true ∧ n_ni E1 := by
  unfold o_mk at h h'
  split at h
  · split at h'
    · cases h
      cases h'
      refine ⟨rfl, rfl, eRQ_nd (eRQ_rw (eRQ_id H.2.1)), ?_, hE⟩
      rcases hk with rfl | ⟨rfl, he⟩
      · rfl
      · show (!e_imp (e_part e) && v_ni _) = true
        rw [he, n_clos_ni hE]
        rfl
    · cases h'
  · cases h
theorem o_two_R {C C' : C_} {k id : Nat} {a b : T_} {E E1 E1' : N_} {s s1 s' s1' : S_} {v v' : T_} {hb : Bool} (h : o_two C k id a b E s = some (v, E1, s1)) (h' : o_two C' k id a b E s' = some (v', E1', s1')) (hE : n_ni E) (H : eRH hb C C' s s1 s') : v' = v ∧ E1' = E1 ∧ eRQ hb s s1 s' s1' ∧ v_ni v = true ∧ n_ni E1 := by
  unfold o_two at h h'
  by_cases c : v_isW a = true ∨ v_isW b = true
  · rw [if_pos c] at h h'
    cases h
    cases h'
    exact ⟨rfl, rfl, eRQ_id H.2.1, rfl, hE⟩
  · rw [if_neg c] at h h'
    cases ca : v_num a with
    | none =>
      rw [ca] at h
      exact (o_bad_F h H.1).elim
    | some x =>
      cases cb : v_num b with
      | none =>
        rw [ca, cb] at h
        exact (o_bad_F h H.1).elim
      | some y =>
        rw [ca, cb] at h h'
        cases h
        cases h'
        exact ⟨rfl, rfl, eRQ_id H.2.1, rfl, hE⟩
theorem o_mark_R {C C' : C_} {k id : Nat} {n : Int} {v e : T_} {E E1 E1' : N_} {s s1 s' s1' : S_} {w w' : T_} (h : o_mark C k n id v e E s = some (w, E1, s1)) (h' : o_mark C' k n id v e E s' = some (w', E1', s1')) (hE : n_ni E) (H : eRH true C C' s s1 s') : w' = w ∧ E1' = E1 ∧ eRQ true s s1 s' s1' ∧ v_ni w = true ∧ n_ni E1 := by
  have et : s_tl s' = s_tl s := H.2.1 rfl
  have Q : ∀ (x : T_), eRQ true s (u_tl (u_nd s 2) (v_chain (s_tl s) x)) s' (u_tl (u_nd s' 2) (v_chain (s_tl s') x)) := fun x => ⟨Nat.add_comm _ _, rfl, ⟨fun _ => false, by funext q; exact (Bool.or_false _).symm, by funext q; exact (Bool.or_false _).symm⟩, ⟨0, (Nat.max_zero _).symm, (Nat.max_zero _).symm⟩, Or.inl ⟨rfl, rfl⟩, fun _ => by show v_chain (s_tl s') x = v_chain (s_tl s) x; rw [et]⟩
  unfold o_mark at h h'
  by_cases c : v_isW v = true
  · rw [if_pos c] at h h'
    cases h
    cases h'
    exact ⟨rfl, rfl, eRQ_id H.2.1, rfl, hE⟩
  · rw [if_neg c] at h h'
    by_cases c2 : k = 18
    · rw [if_pos c2] at h h'
      cases ca : v_num v with
      | none => rw [ca] at h; exact (o_bad_F h H.1).elim
      | some x =>
        rw [ca] at h h'
        cases h
        cases h'
        exact ⟨rfl, rfl, Q _, rfl, hE⟩
    · rw [if_neg c2] at h h'
      by_cases c3 : v_isF v = true
      · rw [if_pos c3] at h h'
        cases h
        cases h'
        exact ⟨rfl, rfl, Q _, rfl, hE⟩
      · rw [if_neg c3] at h
        exact (o_bad_F h H.1).elim
theorem pk_or (v : T_) : (∃ x y, v = .tag 13 (.append x y)) ∨ ∀ (L : Nat) (C : C_) (k : Nat) (n : Int) (id : Nat) (a e : T_) (E : N_) (s : S_), (k ≠ 15 ∧ k ≠ 18 ∧ k ≠ 19 ∧ k ≠ 20 ∧ k ≠ 21 ∧ k ≠ 28) → o_one L C k n id a v e E s = if v_isW v = true then some (vW, E, s) else o_bad C 3 id E s := by
  by_cases h : ∃ x y, v = .tag 13 (.append x y)
  · exact Or.inl h
  · refine Or.inr fun L C k n id a e E s hk => ?_
    obtain ⟨h1, h2, h3, h4, h5, h6⟩ := hk
    unfold o_one
    split <;> first | contradiction | skip
    by_cases c : v_isW v = true
    · rw [if_pos c, if_pos c]
    · rw [if_neg c, if_neg c]
      split
      · exact absurd ⟨_, _, rfl⟩ h
      · rfl
theorem pk_13 {L : Nat} {C : C_} {k : Nat} {n : Int} {id : Nat} {a e x y : T_} {E : N_} {s : S_} (hk : k ≠ 15 ∧ k ≠ 18 ∧ k ≠ 19 ∧ k ≠ 20 ∧ k ≠ 21 ∧ k ≠ 28) : o_one L C k n id a (.tag 13 (.append x y)) e E s = some (if n % 2 = 0 then x else y, E, s) := by
  obtain ⟨h1, h2, h3, h4, h5, h6⟩ := hk
  unfold o_one
  split <;> first | contradiction | rfl
theorem o_one_20 {L : Nat} {C : C_} {n : Int} {id : Nat} {a v e : T_} {E : N_} {s : S_} : o_one L C 20 n id a v e E s = match f_fu L C v (e_id a) s with
    | some s1 => some (.tag 5 (.tag id v), E, u_nd s1 1)
    | none => none := rfl
theorem o_one_21 {L : Nat} {C : C_} {n : Int} {id : Nat} {a v e : T_} {E : N_} {s : S_} : o_one L C 21 n id a v e E s = if v_isW v = true then some (vW, E, s) else match v_num v with
    | some x => some (.tag 6 (.tag (n % 3).toNat (.nest x .nil)), E, u_nd s 1)
    | none => o_bad C 3 id E s := rfl
theorem o_one_28 {L : Nat} {C : C_} {n : Int} {id : Nat} {a v e : T_} {E : N_} {s : S_} : o_one L C 28 n id a v e E s = match f_fu L C v (e_id a) s with
    | some s1 => some (vN (v_wd v 1), E, s1)
    | none => none := rfl
theorem o_one_R {L L' : Nat} {C C' : C_} {k id : Nat} {n : Int} {a v e : T_} {E E1 E1' : N_} {s s1 s' s1' : S_} {w w' : T_} {hb : Bool} (hk : (k = 18 ∨ k = 19) → hb = true) (h : o_one L C k n id a v e E s = some (w, E1, s1)) (h' : o_one L' C' k n id a v e E s' = some (w', E1', s1')) (hE : n_ni E) (hv : v_ni v = true) (H : eRH hb C C' s s1 s') : w' = w ∧ E1' = E1 ∧ eRQ hb s s1 s' s1' ∧ v_ni w = true ∧ n_ni E1 := by
  by_cases k15 : k = 15
  · subst k15
    cases h
    cases h'
    exact ⟨rfl, rfl, eRQ_id H.2.1, rfl, n_set_ni hE hv⟩
  · by_cases k18 : k = 18
    · subst k18
      cases hk (Or.inl rfl)
      exact o_mark_R h h' hE H
    · by_cases k19 : k = 19
      · subst k19
        cases hk (Or.inr rfl)
        exact o_mark_R h h' hE H
      · by_cases k20 : k = 20
        · subst k20
          rw [o_one_20] at h h'
          split at h
          · rename_i s2 hf
            split at h'
            · rename_i s2' hf'
              cases h
              cases h'
              obtain ⟨rfl, h0⟩ := f_fu_R hf H.1
              cases f_fu_0 hf' h0
              exact ⟨rfl, rfl, eRQ_nd (eRQ_id H.2.1), rfl, hE⟩
            · cases h'
          · cases h
        · by_cases k21 : k = 21
          · subst k21
            rw [o_one_21] at h h'
            by_cases c : v_isW v = true
            · rw [if_pos c] at h h'
              cases h
              cases h'
              exact ⟨rfl, rfl, eRQ_id H.2.1, rfl, hE⟩
            · rw [if_neg c] at h h'
              cases ca : v_num v with
              | none => rw [ca] at h; exact (o_bad_F h H.1).elim
              | some x =>
                rw [ca] at h h'
                cases h
                cases h'
                exact ⟨rfl, rfl, eRQ_nd (eRQ_id H.2.1), rfl, hE⟩
          · by_cases k28 : k = 28
            · subst k28
              rw [o_one_28] at h h'
              split at h
              · rename_i s2 hf
                split at h'
                · rename_i s2' hf'
                  cases h
                  cases h'
                  obtain ⟨rfl, h0⟩ := f_fu_R hf H.1
                  cases f_fu_0 hf' h0
                  exact ⟨rfl, rfl, eRQ_id H.2.1, rfl, hE⟩
                · cases h'
              · cases h
            · have ke : k ≠ 15 ∧ k ≠ 18 ∧ k ≠ 19 ∧ k ≠ 20 ∧ k ≠ 21 ∧ k ≠ 28 := ⟨k15, k18, k19, k20, k21, k28⟩
              rcases pk_or v with ⟨x, y, rfl⟩ | hp
              · rw [pk_13 ke] at h h'
                cases h
                cases h'
                have h1 := (Bool.and_eq_true _ _).mp hv
                refine ⟨rfl, rfl, eRQ_id H.2.1, ?_, hE⟩
                split
                · exact h1.1
                · exact h1.2
              · rw [hp _ _ _ _ _ _ _ _ _ ke] at h h'
                by_cases c : v_isW v = true
                · rw [if_pos c] at h h'
                  cases h
                  cases h'
                  exact ⟨rfl, rfl, eRQ_id H.2.1, rfl, hE⟩
                · rw [if_neg c] at h
                  exact (o_bad_F h H.1).elim
theorem o_pair_R {L L' : Nat} {C C' : C_} {k id : Nat} {a b x y : T_} {E E1 E1' : N_} {s s1 s' s1' : S_} {w w' : T_} {hb : Bool} (h : o_pair L C k id a b x y E s = some (w, E1, s1)) (h' : o_pair L' C' k id a b x y E s' = some (w', E1', s1')) (hE : n_ni E) (hx : v_ni x = true) (hy : v_ni y = true) (H : eRH hb C C' s s1 s') : w' = w ∧ E1' = E1 ∧ eRQ hb s s1 s' s1' ∧ v_ni w = true ∧ n_ni E1 := by
  unfold o_pair at h h'
  by_cases c : k = 13
  · rw [if_pos c] at h h'
    split at h
    · rename_i s2 hf
      split at h
      · rename_i s3 hg
        split at h'
        · rename_i s2' hf'
          split at h'
          · rename_i s3' hg'
            cases h
            cases h'
            have hl : s_lt s ≤ s_b s := H.2.2.1
            have m1 : s_nt s ≤ s_nt s2 := by obtain ⟨-, rfl⟩ := f_fu_inv hf; exact (eMQ_funs (hb := true) hl).2.1
            have m2 : s_nt s2 ≤ s_nt s3 := by
              obtain ⟨-, e2⟩ := f_fu_inv hg
              obtain ⟨-, e1⟩ := f_fu_inv hf
              have g1 : eMQ true s s2 := by rw [e1]; exact eMQ_funs hl
              rw [e2]
              exact (eMQ_funs (hb := true) g1.2.2.2.2.1).2.1
            have n3 : s_nt s3 = s_nt s := H.1
            obtain ⟨rfl, h0⟩ := f_fu_R hf (by omega)
            cases f_fu_0 hf' h0
            obtain ⟨rfl, h0⟩ := f_fu_R hg (by omega)
            cases f_fu_0 hg' h0
            exact ⟨rfl, rfl, eRQ_nd (eRQ_id H.2.1), v_join_ni hx hy, hE⟩
          · cases h'
        · cases h'
      · cases h
    · cases h
  · rw [if_neg c] at h h'
    by_cases c2 : k = 30
    · rw [if_pos c2] at h h'
      cases h
      cases h'
      refine ⟨rfl, rfl, eRQ_nd (eRQ_id H.2.1), ?_, hE⟩
      show (v_ni x && v_ni y) = true
      rw [hx, hy]
      rfl
    · rw [if_neg c2] at h h'
      exact o_two_R h h' hE H
theorem t_frm_R {L L' : Nat} {rec rec' : K_} {C C' : C_} {sil sil' : Bool} (hK : eMK rec) (hK' : eMK rec') (hR : eRK rec rec' C C') : ∀ (m : Nat) (t : T_), it_len t ≤ m → ∀ (w : Nat) (E : N_) (s s' : S_) (w1 : Nat) (E1 : N_) (s1 : S_) (w1' : Nat) (E1' : N_) (s1' : S_), t_frm L rec C sil t w E s = some (w1, E1, s1) → t_frm L' rec' C' sil' t w E s' = some (w1', E1', s1') → e_imp t = false → n_ni E → eRH false C C' s s1 s' → w1' = w1 ∧ E1' = E1 ∧ eRQ false s s1 s' s1' ∧ n_ni E1 := by
  intro m
  induction m with
  | zero =>
    intro t ht w E s s' w1 E1 s1 w1' E1' s1' h h' hi hE H
    rcases ct_or t with ⟨k, n, id, x, r, rfl⟩ | ⟨-, he⟩
    · rw [it_ct] at ht; omega
    · rw [he] at h h'
      cases h
      cases h'
      exact ⟨rfl, rfl, eRQ_id H.2.1, hE⟩
  | succ m ih =>
    intro t ht w E s s' w1 E1 s1 w1' E1' s1' h h' hi hE H
    rcases ct_or t with ⟨k, n, id, x, r, rfl⟩ | ⟨-, he⟩
    · rw [it_ct] at ht
      obtain ⟨hi1, hi2⟩ := e_imp_ct hi
      have hl := H.2.2.1
      have hl' := H.2.2.2.1
      rw [t_frm_ct] at h h'
      split at h
      · split at h'
        · by_cases c : k = 3
          · rw [if_pos c] at h h'
            split at h
            · rename_i v E2 s2 hr
              split at h
              · rename_i s3 hf
                split at h'
                · rename_i v' E2' s2' hr'
                  split at h'
                  · rename_i s3' hf'
                    have q0 : eMQ false s (u_go s) := eMQ_go hl
                    have q1 := hK _ _ _ _ _ _ _ _ hr (Nat.le_succ_of_le hl)
                    have q2 : eMQ false s2 s3 := by obtain ⟨-, rfl⟩ := f_fu_inv hf; exact eMQ_funs q1.2.2.2.2.1
                    have q3 := t_frm_M hK _ _ (Nat.le_refl _) _ _ _ _ _ _ h q2.2.2.2.2.1
                    have p0 : eMQ false s' (u_go s') := eMQ_go hl'
                    have p1 := hK' _ _ _ _ _ _ _ _ hr' (Nat.le_succ_of_le hl')
                    have H1 := eRH_2 q0 (eMQ_tr q1 (eMQ_tr q2 q3)) p0 (eRQ_go H.2.1) H
                    obtain ⟨rfl, rfl, a1, a2, a3⟩ := hR _ _ _ _ _ _ _ _ _ _ _ _ _ hr hr' hi1 hE (eRH_1 q1 (eMQ_tr q2 q3) H1)
                    have H2 := eRH_2 q1 (eMQ_tr q2 q3) p1 a1 H1
                    obtain ⟨rfl, h0⟩ := f_fu_R hf (eRH_1 q2 q3 H2).1
                    cases f_fu_0 hf' h0
                    obtain ⟨b1, b2, b3, b4⟩ := ih r (by omega) _ _ _ _ _ _ _ _ _ _ h h' hi2 a3 H2
                    exact ⟨b1, b2, eRQ_tr (eRQ_go H.2.1) (eRQ_tr a1 b3), b4⟩
                  · cases h'
                · cases h'
              · cases h
            · cases h
          · rw [if_neg c] at h h'
            have q0 : eMQ false s (u_go s) := eMQ_go hl
            have q3 := t_frm_M hK _ _ (Nat.le_refl _) _ _ _ _ _ _ h (Nat.le_succ_of_le hl)
            have p0 : eMQ false s' (u_go s') := eMQ_go hl'
            have H1 := eRH_2 q0 q3 p0 (eRQ_go H.2.1) H
            obtain ⟨b1, b2, b3, b4⟩ := ih r (by omega) _ _ _ _ _ _ _ _ _ _ h h' hi2 hE H1
            exact ⟨b1, b2, eRQ_tr (eRQ_go H.2.1) b3, b4⟩
        · cases h'
      · cases h
    · rw [he] at h h'
      cases h
      cases h'
      exact ⟨rfl, rfl, eRQ_id H.2.1, hE⟩
theorem eRQ_t {hb : Bool} {s s1 s' s1' : S_} (h : eRQ false s s1 s' s1') (ht : hb = true → s_tl s1' = s_tl s1) : eRQ hb s s1 s' s1' := ⟨h.1, h.2.1, h.2.2.1, h.2.2.2.1, h.2.2.2.2.1, ht⟩
theorem t_item_R {L L' : Nat} {rec rec' : K_} {C C' : C_} {sil sil' : Bool} (hK : eMK rec) (hK' : eMK rec') (hR : eRK rec rec' C C') {k : Nat} {n : Int} {x : T_} {E E1 E1' : N_} {s s1 s' s1' : S_} {v v' : T_} (h : t_item L rec C sil k n x E s = some (v, E1, s1)) (h' : t_item L' rec' C' sil' k n x E s' = some (v', E1', s1')) (hi : e_imp x = false) (hE : n_ni E) (H : eRH true C C' s s1 s') : v' = v ∧ E1' = E1 ∧ eRQ true s s1 s' s1' ∧ n_ni E1 := by
  have hl := H.2.2.1
  have hl' := H.2.2.2.1
  unfold t_item at h h'
  by_cases c : k = 3
  · rw [if_pos c] at h h'
    split at h
    · rename_i v E2 s2 hr
      split at h
      · rename_i s3 hf
        split at h'
        · rename_i v' E2' s2' hr'
          split at h'
          · rename_i s3' hf'
            cases h
            cases h'
            have q0 : eMQ true s (u_go s) := eMQ_go hl
            have q1 := hK _ _ _ _ _ _ _ _ hr (Nat.le_succ_of_le hl)
            have q2 : eMQ true s2 s3 := by obtain ⟨-, rfl⟩ := f_fu_inv hf; exact eMQ_funs q1.2.2.2.2.1
            have p0 : eMQ true s' (u_go s') := eMQ_go hl'
            have H1 : eRH true C C' (u_go s) s3 (u_go s') := eRH_2 q0 (eMQ_tr q1 q2) p0 (eRQ_go H.2.1) (eRH_nd H)
            obtain ⟨rfl, rfl, a1, a2, a3⟩ := hR _ _ _ _ _ _ _ _ _ _ _ _ _ hr hr' hi hE (eRH_1 q1 q2 H1)
            have n2 : s_nt s2 = s_nt s := (eRH_1 q1 q2 H1).1
            have n3 : s_nt s3 = s_nt s := H.1
            obtain ⟨rfl, h0⟩ := f_fu_R hf (by omega)
            cases f_fu_0 hf' h0
            exact ⟨rfl, rfl, eRQ_nd (eRQ_tr (eRQ_go H.2.1) a1), a3⟩
          · cases h'
        · cases h'
      · cases h
    · cases h
  · rw [if_neg c] at h h'
    by_cases c4 : k = 4
    · rw [if_pos c4] at h h'
      split at h
      · rename_i w E2 s2 hr
        split at h'
        · rename_i w' E2' s2' hr'
          cases h
          cases h'
          have q0 : eMQ true s (u_go s) := eMQ_go hl
          have q1 := t_frm_M hK _ _ (Nat.le_refl _) _ _ _ _ _ _ hr (Nat.le_succ_of_le hl)
          have p0 : eMQ true s' (u_go s') := eMQ_go hl'
          have p1 := t_frm_M hK' _ _ (Nat.le_refl _) _ _ _ _ _ _ hr' (Nat.le_succ_of_le hl')
          have H1 : eRH true C C' (u_go s) s2 (u_go s') := eRH_2 q0 (eMQ_t q1) p0 (eRQ_go H.2.1) (eRH_nd H)
          obtain ⟨rfl, rfl, a1, a3⟩ := t_frm_R hK hK' hR _ _ (Nat.le_refl _) _ _ _ _ _ _ _ _ _ _ hr hr' hi hE ⟨H1.1, fun q => Bool.noConfusion q, H1.2.2⟩
          have et : s_tl s2' = s_tl s2 := by rw [p1.2.2.2.2.2.2.2.1 rfl, q1.2.2.2.2.2.2.2.1 rfl]; exact H.2.1 rfl
          exact ⟨rfl, rfl, eRQ_nd (eRQ_tr (eRQ_go H.2.1) (eRQ_t a1 fun _ => et)), a3⟩
        · cases h'
      · cases h
    · rw [if_neg c4] at h h'
      cases h
      cases h'
      exact ⟨rfl, rfl, eRQ_nd (eRQ_go (hb := true) H.2.1), hE⟩
theorem t_run_R {L L' : Nat} {rec rec' : K_} {C C' : C_} {sil sil' : Bool} (hK : eMK rec) (hK' : eMK rec') (hR : eRK rec rec' C C') : ∀ (m : Nat) (t : T_), it_len t ≤ m → ∀ (q : T_) (f : Bool) (E : N_) (s s' : S_) (q1 : T_) (f1 : Bool) (E1 : N_) (s1 : S_) (q1' : T_) (f1' : Bool) (E1' : N_) (s1' : S_), t_run L rec C sil t q f E s = some (q1, f1, E1, s1) → t_run L' rec' C' sil' t q f E s' = some (q1', f1', E1', s1') → e_imp t = false → n_ni E → eRH true C C' s s1 s' → q1' = q1 ∧ f1' = f1 ∧ E1' = E1 ∧ eRQ true s s1 s' s1' ∧ n_ni E1 := by
  intro m
  induction m with
  | zero =>
    intro t ht q f E s s' q1 f1 E1 s1 q1' f1' E1' s1' h h' hi hE H
    rcases ct_or t with ⟨k, n, id, x, r, rfl⟩ | ⟨he, -⟩
    · rw [it_ct] at ht; omega
    · rw [he] at h h'
      cases h
      cases h'
      exact ⟨rfl, rfl, rfl, eRQ_id H.2.1, hE⟩
  | succ m ih =>
    intro t ht q f E s s' q1 f1 E1 s1 q1' f1' E1' s1' h h' hi hE H
    rcases ct_or t with ⟨k, n, id, x, r, rfl⟩ | ⟨he, -⟩
    · rw [it_ct] at ht
      obtain ⟨hi1, hi2⟩ := e_imp_ct hi
      have hl := H.2.2.1
      have hl' := H.2.2.2.1
      rw [t_run_ct] at h h'
      split at h
      · split at h'
        · split at h
          · rename_i v E2 s2 hr
            split at h'
            · rename_i v' E2' s2' hr'
              have q1 := t_item_M hK hr hl
              have q2 : eMQ true s2 (u_tl s2 .nil) := eMQ_tl0 (eMQ_refl q1.2.2.2.2.1)
              have q3 := t_run_M hK _ _ (Nat.le_refl _) _ _ _ _ _ _ _ _ h q1.2.2.2.2.1
              have p1 := t_item_M hK' hr' hl'
              have p2 : eMQ true s2' (u_tl s2' .nil) := eMQ_tl0 (eMQ_refl p1.2.2.2.2.1)
              obtain ⟨rfl, rfl, a1, a2⟩ := t_item_R hK hK' hR hr hr' hi1 hE (eRH_1 q1 (eMQ_tr q2 q3) H)
              have et : s_tl s2' = s_tl s2 := a1.2.2.2.2.2 rfl
              have em : ∀ z, t_mks z s2' = t_mks z s2 := fun z => by unfold t_mks; rw [et]
              rw [em] at h'
              have a4 : eRQ true s (u_tl s2 .nil) s' (u_tl s2' .nil) := ⟨a1.1, a1.2.1, a1.2.2.1, a1.2.2.2.1, a1.2.2.2.2.1, fun _ => rfl⟩
              obtain ⟨b0, b1, b2, b3, b4⟩ := ih r (by omega) _ _ _ _ _ _ _ _ _ _ _ _ _ h h' hi2 a2 (eRH_2 (eMQ_tr q1 q2) q3 (eMQ_tr p1 p2) a4 H)
              exact ⟨b0, b1, b2, eRQ_tr a4 b3, b4⟩
            · cases h'
          · cases h
        · cases h'
      · cases h
    · rw [he] at h h'
      cases h
      cases h'
      exact ⟨rfl, rfl, rfl, eRQ_id H.2.1, hE⟩
theorem t_block_R {L L' : Nat} {rec rec' : K_} {C C' : C_} {sil sil' : Bool} (hK : eMK rec) (hK' : eMK rec') (hR : eRK rec rec' C C') {t : T_} {E E1 E1' : N_} {s s1 s' s1' : S_} {v v' : T_} {hb : Bool} (h : t_block L rec C sil t E s = some (v, E1, s1)) (h' : t_block L' rec' C' sil' t E s' = some (v', E1', s1')) (hi : e_imp t = false) (hE : n_ni E) (H : eRH hb C C' s s1 s') : v' = v ∧ E1' = E1 ∧ eRQ hb s s1 s' s1' ∧ v_ni v = true := by
  unfold t_block at h h'
  split at h
  · rename_i q f E2 s2 hr
    split at h'
    · rename_i q' f' E2' s2' hr'
      cases h
      cases h'
      obtain ⟨rfl, rfl, rfl, a1, a2⟩ := t_run_R hK hK' hR _ _ (Nat.le_refl _) _ _ _ _ _ _ _ _ _ _ _ _ _ hr hr' hi hE ⟨H.1, fun _ => rfl, H.2.2⟩
      refine ⟨rfl, rfl, ⟨a1.1, a1.2.1, a1.2.2.1, a1.2.2.2.1, a1.2.2.2.2.1, H.2.1⟩, ?_⟩
      split
      · exact v_ni_9 _
      · rfl
    · cases h'
  · cases h
theorem o_body_lo {rec : K_} {C : C_} {sil keep : Bool} (hK : eMK rec) {fn v w : T_} {s s2 : S_} (h : o_body rec C sil keep fn v s = some (w, s2)) : 1 ≤ s_sn s2 ∧ s_b s ≤ s_lt s2 := by
  obtain ⟨-, E1, s1, me, hr, -, rfl, -⟩ := o_body_inv h
  have m := hK _ _ _ _ _ _ _ _ hr (Nat.le_refl _)
  exact ⟨Nat.le_trans (Nat.le_add_left 1 _) (Nat.le_max_right _ _), m.2.2.2.1⟩
theorem o_body_R {rec rec' : K_} {C C' : C_} {sil sil' keep keep' : Bool} (hK : eMK rec) (hK' : eMK rec') (hR : eRK rec rec' C C') {fn v w w' : T_} {s s2 s' s2' : S_} {hb : Bool} (h : o_body rec C sil keep fn v s = some (w, s2)) (h' : o_body rec' C' sil' keep' fn v s' = some (w', s2')) (hf : v_isF fn = true) (hn : v_ni fn = true) (hv : v_ni v = true) (H : eRH hb C C' s s2 s') : w' = w ∧ eRQ hb s s2 s' s2' ∧ v_ni w = true := by
  obtain ⟨-, E1, s1, me, hr, -, rfl, -⟩ := o_body_inv h
  obtain ⟨-, E1', s1', me', hr', -, rfl, -⟩ := o_body_inv h'
  obtain ⟨h1, h2, h3, h4, h5, h6, h7⟩ := H
  obtain ⟨hi, hc⟩ := fn_ni hf hn
  have g5 : s_dp s' + max (s_sn s) (s_sn s1 + 1) ≤ 8 := h5
  have H1 : eRH false C C' (s_in s) s1 (s_in s') := ⟨h1, fun q => Bool.noConfusion q, Nat.le_refl _, Nat.le_refl _, by show s_dp s' + 1 + s_sn s1 ≤ 8; omega, h6, fun q x => h7 q (by show (s_as s q || s_as s1 q) = true; rw [x, Bool.or_true])⟩
  obtain ⟨rfl, -, ⟨a1, a2, ⟨X, a3, a3'⟩, ⟨k, a4, a4'⟩, a5, -⟩, a7, -⟩ := hR _ _ _ _ _ _ _ _ _ _ _ _ _ hr hr' hi (n_body_ni hc hv hn) H1
  have ea : s_as s1' = s_as s1 := by rw [a3', a3]; rfl
  have es : s_sn s1' = s_sn s1 := by rw [a4', a4]; rfl
  have t1 : s_tl s1 = s_tl s := (hK _ _ _ _ _ _ _ _ hr (Nat.le_refl _)).2.2.2.2.2.2.2.1 rfl
  have t2 : s_tl s1' = s_tl s' := (hK' _ _ _ _ _ _ _ _ hr' (Nat.le_refl _)).2.2.2.2.2.2.2.1 rfl
  refine ⟨rfl, ⟨a1, a2, ⟨s_as s1, rfl, ?_⟩, ⟨s_sn s1 + 1, rfl, ?_⟩, Or.inr ?_, fun q => ?_⟩, a7⟩
  · show (fun q => s_as s' q || s_as s1' q) = _
    rw [ea]
  · show max (s_sn s') (s_sn s1' + 1) = _
    rw [es]
  · show s_lt s1' + s_b s = s_lt s1 + s_b s'
    rcases a5 with ⟨b1, b2⟩ | b1
    · have b1 : s_lt s1 = s_b s := b1
      have b2 : s_lt s1' = s_b s' := b2
      omega
    · exact b1
  · show s_tl s1' = s_tl s1
    rw [t1, t2]
    exact h2 q
theorem o_call_R {rec rec' : K_} {C C' : C_} {sil sil' : Bool} (hK : eMK rec) (hK' : eMK rec') (hR : eRK rec rec' C C') {id : Nat} {fn v w w' : T_} {E E1 E1' : N_} {s s1 s' s1' : S_} {hb : Bool} (h : o_call rec C sil id fn v E s = some (w, E1, s1)) (h' : o_call rec' C' sil' id fn v E s' = some (w', E1', s1')) (hf : v_isF fn = true) (hn : v_ni fn = true) (hv : v_ni v = true) (hE : n_ni E) (H : eRH hb C C' s s1 s') : w' = w ∧ E1' = E1 ∧ eRQ hb s s1 s' s1' ∧ v_ni w = true ∧ n_ni E1 := by
  obtain ⟨rfl, hc⟩ := o_call_inv h
  obtain ⟨rfl, hc'⟩ := o_call_inv h'
  rcases hc with ⟨c0, rfl, rfl⟩ | ⟨c0, ⟨-, -, rfl⟩ | ⟨-, ⟨-, -, rfl⟩ | ⟨-, hc⟩⟩⟩
  · rcases hc' with ⟨-, rfl, rfl⟩ | ⟨c1, -⟩
    · exact ⟨rfl, rfl, eRQ_id H.2.1, rfl, hE⟩
    · rw [c0] at c1; cases c1
  · exact absurd H.1 (Nat.succ_ne_self _)
  · exact absurd H.1 (Nat.succ_ne_self _)
  · obtain ⟨sl, kp, x, y, hq⟩ : ∃ sl kp x y, o_body rec C sl kp fn v (u_rn s x y) = some (w, s1) := by
      rcases hc with ⟨r, -, hq⟩ | ⟨-, hq⟩
      · exact ⟨_, _, _, _, hq⟩
      · exact ⟨_, _, _, _, hq⟩
    obtain ⟨o1, o2⟩ := o_body_lo hK hq
    have o2 : s_b s ≤ s_lt s1 := o2
    have H5 := H.2.2.2.2.1
    have H6 := H.2.2.2.2.2.1
    rcases hc' with ⟨c1, -⟩ | ⟨-, ⟨c2, -⟩ | ⟨-, ⟨c3, -⟩ | ⟨-, hc'⟩⟩⟩
    · rw [c0] at c1; cases c1
    · omega
    · omega
    · obtain ⟨sl', kp', x', y', hq'⟩ : ∃ sl kp x y, o_body rec' C' sl kp fn v (u_rn s' x y) = some (w', s1') := by
        rcases hc' with ⟨r, -, hq⟩ | ⟨-, hq⟩
        · exact ⟨_, _, _, _, hq⟩
        · exact ⟨_, _, _, _, hq⟩
      obtain ⟨a1, a2, a3⟩ := o_body_R (hb := hb) hK hK' hR hq hq' hf hn hv (eRH_rn H)
      exact ⟨a1, rfl, eRQ_rn0 a2, a3, hE⟩
theorem ev1_R {L L' : Nat} {C C' : C_} {r1 r2 r4 r1' r2' r4' : K_} (h1 : eMK r1) (h2 : eMK r2) (h1' : eMK r1') (h2' : eMK r2') (R1 : eRK r1 r1' C C') (R2 : eRK r2 r2' C C') : eRK (ev1 L C r1 r2 r4) (ev1 L' C' r1' r2' r4') C C' := by
  intro sil sil' e E hb s s' v E1 s1 v' E1' s1' h h' hi hE H
  have hl := H.2.2.1
  have hl' := H.2.2.2.1
  have hg : eMQ hb s (u_go s) := eMQ_go hl
  have hg' : eMQ hb s' (u_go s') := eMQ_go hl'
  have hl1 : s_lt (u_go s) ≤ s_b (u_go s) := Nat.le_succ_of_le hl
  have hl1' : s_lt (u_go s') ≤ s_b (u_go s') := Nat.le_succ_of_le hl'
  have gR := eRQ_go H.2.1
  -- behind the first row
  have K0 : eMQ hb (u_go s) s1 → (eRH hb C C' (u_go s) s1 (u_go s') → v' = v ∧ E1' = E1 ∧ eRQ hb (u_go s) s1 (u_go s') s1' ∧ v_ni v = true ∧ n_ni E1) → v' = v ∧ E1' = E1 ∧ eRQ hb s s1 s' s1' ∧ v_ni v = true ∧ n_ni E1 := fun m k => by
    obtain ⟨a1, a2, a3, a4⟩ := k (eRH_2 hg m hg' gR H)
    exact ⟨a1, a2, eRQ_tr gR a3, a4⟩
  rcases ce_or e with ⟨k, n, id, a, b, c, rfl⟩ | he
  · obtain ⟨k29, ia, ib, ic⟩ := e_imp_ce hi
    by_cases ko : k < 6 ∨ 31 < k
    · rw [ev1_oth ko] at h h'
      split at h
      · split at h'
        · cases h
          cases h'
          exact ⟨rfl, rfl, gR, rfl, hE⟩
        · cases h'
      · cases h
    · have kk : k = 6 ∨ k = 7 ∨ k = 8 ∨ k = 16 ∨ k = 22 ∨ k = 23 ∨ k = 24 ∨ k = 25 ∨ k = 26 ∨ k = 27 ∨ k = 14 ∨ k = 17 ∨ (k = 9 ∨ k = 10 ∨ k = 11 ∨ k = 12 ∨ k = 13 ∨ k = 30) ∨ (k = 15 ∨ k = 20 ∨ k = 21 ∨ k = 28 ∨ k = 31) ∨ (k = 18 ∨ k = 19) := by omega
      rcases kk with rfl | rfl | rfl | rfl | rfl | rfl | rfl | rfl | rfl | rfl | rfl | rfl | kk | kk | kk
      · rw [ev1_6] at h h'
        split at h
        · split at h'
          · cases h
            cases h'
            exact ⟨rfl, rfl, gR, rfl, hE⟩
          · cases h'
        · cases h
      · rw [ev1_7] at h h'
        split at h
        · split at h'
          · exact K0 (o_name_M h hl1) fun H1 => o_name_R h h' hE (fun x q => hE _ _ q) H1
          · cases h'
        · cases h
      · rw [ev1_8] at h h'
        split at h
        · split at h'
          · split at h
            · split at h'
              · split at h
                · rename_i w E2 s2 hr
                  split at h'
                  · rename_i w' E2' s2' hr'
                    cases h
                    cases h'
                    refine K0 (eMQ_t (eMQ_rw0 (t_block_M (s := u_rw (u_go s) (s_rw s + 1)) h2 hr hl1))) fun H1 => ?_
                    obtain ⟨a1, -, a3, a4⟩ := t_block_R (hb := hb) (s := u_rw (u_go s) (s_rw s + 1)) (s' := u_rw (u_go s') (s_rw s' + 1)) h2 h2' R2 hr hr' ia hE (eRH_rw H1)
                    exact ⟨a1, rfl, eRQ_rw0 a3, a4, hE⟩
                  · cases h'
                · cases h
              · cases h'
            · cases h
          · cases h'
        · cases h
      · rw [ev1_16] at h h'
        split at h
        · split at h'
          · exact K0 (o_mk_M h hl1) fun H1 => o_mk_R (e := ce 16 n id a b c) (Or.inr ⟨rfl, ia⟩) h h' hE H1
          · cases h'
        · cases h
      · rw [ev1_22] at h h'
        split at h
        · split at h'
          · exact K0 (o_mk_M h hl1) fun H1 => o_mk_R (Or.inl rfl) h h' hE H1
          · cases h'
        · cases h
      · rw [ev1_23] at h h'
        split at h
        · split at h'
          · exact K0 (o_ask_M h hl1) fun H1 => o_ask_R h h' hE H1
          · cases h'
        · cases h
      · rw [ev1_24] at h h'
        split at h
        · split at h'
          · exact K0 (o_ask_M h hl1) fun H1 => o_ask_R h h' hE H1
          · cases h'
        · cases h
      · rw [ev1_25] at h h'
        split at h
        · split at h'
          · exact K0 (o_ask_M h hl1) fun H1 => o_ask_R h h' hE H1
          · cases h'
        · cases h
      · rw [ev1_26] at h h'
        split at h
        · split at h'
          · exact K0 (o_ask_M h hl1) fun H1 => o_ask_R h h' hE H1
          · cases h'
        · cases h
      · rw [ev1_27] at h h'
        split at h
        · split at h'
          · exact K0 (o_ask_M h hl1) fun H1 => o_ask_R h h' hE H1
          · cases h'
        · cases h
      · rw [ev1_14] at h h'
        split at h
        · split at h'
          · split at h
            · rename_i w E2 s2 hr
              split at h'
              · rename_i w' E2' s2' hr'
                have g1 := h1 _ _ _ _ _ _ _ _ hr hl1
                have g1' := h1' _ _ _ _ _ _ _ _ hr' hl1'
                have gm : eMQ hb s2 s1 := by
                  split at h
                  · cases h; exact eMQ_refl g1.2.2.2.2.1
                  · split at h
                    · exact h1 _ _ _ _ _ _ _ _ h g1.2.2.2.2.1
                    · exact o_bad_M h g1.2.2.2.2.1
                refine K0 (eMQ_tr g1 gm) fun H1 => ?_
                obtain ⟨rfl, rfl, a1, a2, a3⟩ := R1 _ _ _ _ _ _ _ _ _ _ _ _ _ hr hr' ia hE (eRH_1 g1 gm H1)
                have H2 := eRH_2 g1 gm g1' a1 H1
                by_cases c0 : v_isW w' = true
                · rw [if_pos c0] at h h'
                  cases h
                  cases h'
                  exact ⟨rfl, rfl, a1, rfl, a3⟩
                · rw [if_neg c0] at h h'
                  cases ca : v_num w' with
                  | none => rw [ca] at h; exact (o_bad_F h H2.1).elim
                  | some x =>
                    rw [ca] at h h'
                    dsimp only at h h'
                    obtain ⟨b0, b1, b2, b3⟩ := R1 _ _ _ _ _ _ _ _ _ _ _ _ _ h h' (by split <;> assumption) a3 H2
                    exact ⟨b0, b1, eRQ_tr a1 b2, b3⟩
              · cases h'
            · cases h
          · cases h'
        · cases h
      · rw [ev1_17] at h h'
        split at h
        · split at h'
          · split at h
            · rename_i w E2 s2 hr
              split at h'
              · rename_i w' E2' s2' hr'
                have g1 := h1 _ _ _ _ _ _ _ _ hr hl1
                have g1' := h1' _ _ _ _ _ _ _ _ hr' hl1'
                have gm : eMQ hb s2 s1 := by
                  split at h
                  · cases h; exact eMQ_refl g1.2.2.2.2.1
                  · split at h
                    · split at h
                      · rename_i w2 E3 s3 hr2
                        have g2 := h1 _ _ _ _ _ _ _ _ hr2 g1.2.2.2.2.1
                        exact eMQ_tr g2 (o_call_M h2 h g2.2.2.2.2.1)
                      · cases h
                    · exact o_bad_M h g1.2.2.2.2.1
                refine K0 (eMQ_tr g1 gm) fun H1 => ?_
                obtain ⟨rfl, rfl, a1, a2, a3⟩ := R1 _ _ _ _ _ _ _ _ _ _ _ _ _ hr hr' ia hE (eRH_1 g1 gm H1)
                have H2 := eRH_2 g1 gm g1' a1 H1
                by_cases c0 : v_isW w' = true
                · rw [if_pos c0] at h h'
                  cases h
                  cases h'
                  exact ⟨rfl, rfl, a1, rfl, a3⟩
                · rw [if_neg c0] at h h'
                  by_cases cf : v_isF w' = true
                  · rw [if_pos cf] at h h'
                    split at h
                    · rename_i w2 E3 s3 hr2
                      split at h'
                      · rename_i w2' E3' s3' hr2'
                        have g2 := h1 _ _ _ _ _ _ _ _ hr2 g1.2.2.2.2.1
                        have g2' := h1' _ _ _ _ _ _ _ _ hr2' g1'.2.2.2.2.1
                        have g3 : eMQ hb s3 s1 := o_call_M h2 h g2.2.2.2.2.1
                        obtain ⟨rfl, rfl, b1, b2, b3⟩ := R1 _ _ _ _ _ _ _ _ _ _ _ _ _ hr2 hr2' ib a3 (eRH_1 g2 g3 H2)
                        have H3 := eRH_2 g2 g3 g2' b1 H2
                        obtain ⟨d0, d1, d2, d3⟩ := o_call_R h2 h2' R2 h h' cf a2 b2 b3 H3
                        exact ⟨d0, d1, eRQ_tr a1 (eRQ_tr b1 d2), d3⟩
                      · cases h'
                    · cases h
                  · rw [if_neg cf] at h
                    exact (o_bad_F h H2.1).elim
              · cases h'
            · cases h
          · cases h'
        · cases h
      · rw [ev1_two kk] at h h'
        split at h
        · split at h'
          · split at h
            · rename_i w E2 s2 hr
              split at h
              · rename_i w2 E3 s3 hr2
                split at h'
                · rename_i w' E2' s2' hr'
                  split at h'
                  · rename_i w2' E3' s3' hr2'
                    have g1 := h1 _ _ _ _ _ _ _ _ hr hl1
                    have g1' := h1' _ _ _ _ _ _ _ _ hr' hl1'
                    have g2 := h1 _ _ _ _ _ _ _ _ hr2 g1.2.2.2.2.1
                    have g2' := h1' _ _ _ _ _ _ _ _ hr2' g1'.2.2.2.2.1
                    have g3 : eMQ hb s3 s1 := o_pair_M h g2.2.2.2.2.1
                    refine K0 (eMQ_tr g1 (eMQ_tr g2 g3)) fun H1 => ?_
                    obtain ⟨rfl, rfl, a1, a2, a3⟩ := R1 _ _ _ _ _ _ _ _ _ _ _ _ _ hr hr' ia hE (eRH_1 g1 (eMQ_tr g2 g3) H1)
                    have H2 := eRH_2 g1 (eMQ_tr g2 g3) g1' a1 H1
                    obtain ⟨rfl, rfl, b1, b2, b3⟩ := R1 _ _ _ _ _ _ _ _ _ _ _ _ _ hr2 hr2' ib a3 (eRH_1 g2 g3 H2)
                    have H3 := eRH_2 g2 g3 g2' b1 H2
                    obtain ⟨d0, d1, d2, d3⟩ := o_pair_R h h' b3 a2 b2 H3
                    exact ⟨d0, d1, eRQ_tr a1 (eRQ_tr b1 d2), d3⟩
                  · cases h'
                · cases h'
              · cases h
            · cases h
          · cases h'
        · cases h
      · rw [ev1_one (by omega)] at h h'
        split at h
        · split at h'
          · split at h
            · rename_i w E2 s2 hr
              split at h'
              · rename_i w' E2' s2' hr'
                have g1 := h1 _ _ _ _ _ _ _ _ hr hl1
                have g1' := h1' _ _ _ _ _ _ _ _ hr' hl1'
                have gm : eMQ hb s2 s1 := o_one_M (fun q => by omega) h g1.2.2.2.2.1
                refine K0 (eMQ_tr g1 gm) fun H1 => ?_
                obtain ⟨rfl, rfl, a1, a2, a3⟩ := R1 _ _ _ _ _ _ _ _ _ _ _ _ _ hr hr' ia hE (eRH_1 g1 gm H1)
                obtain ⟨d0, d1, d2, d3⟩ := o_one_R (fun q => by omega) h h' a3 a2 (eRH_2 g1 gm g1' a1 H1)
                exact ⟨d0, d1, eRQ_tr a1 d2, d3⟩
              · cases h'
            · cases h
          · cases h'
        · cases h
      · cases hb with
        | false =>
          rw [ev1_pl kk] at h
          split at h
          · exact (o_bad_F h H.1).elim
          · cases h
        | true =>
          rw [ev1_one (Or.inr (Or.inr (Or.inr (Or.inr (Or.inr ⟨kk, rfl⟩)))))] at h h'
          split at h
          · split at h'
            · split at h
              · rename_i w E2 s2 hr
                split at h'
                · rename_i w' E2' s2' hr'
                  have g1 := h1 _ _ _ _ _ _ _ _ hr hl1
                  have g1' := h1' _ _ _ _ _ _ _ _ hr' hl1'
                  have gm : eMQ true s2 s1 := o_one_M (fun _ => rfl) h g1.2.2.2.2.1
                  refine K0 (eMQ_tr g1 gm) fun H1 => ?_
                  obtain ⟨rfl, rfl, a1, a2, a3⟩ := R1 _ _ _ _ _ _ _ _ _ _ _ _ _ hr hr' ia hE (eRH_1 g1 gm H1)
                  obtain ⟨d0, d1, d2, d3⟩ := o_one_R (fun _ => rfl) h h' a3 a2 (eRH_2 g1 gm g1' a1 H1)
                  exact ⟨d0, d1, eRQ_tr a1 d2, d3⟩
                · cases h'
              · cases h
            · cases h'
          · cases h
  · rw [he] at h h'
    cases h
    cases h'
    exact ⟨rfl, rfl, eRQ_br H.2.1, rfl, hE⟩
theorem ev_R (C C' : C_) : ∀ n n', eRK (ev C n) (ev C' n') C C' := by
  intro n
  induction n using Nat.strongRecOn with
  | _ n ih =>
    intro n'
    match n, n', ih with
    | 0, _, _ => intro _ _ _ _ _ _ _ _ _ _ _ _ _ h; cases h
    | 1, _, _ => intro _ _ _ _ _ _ _ _ _ _ _ _ _ h; cases h
    | 2, _, _ => intro _ _ _ _ _ _ _ _ _ _ _ _ _ h; cases h
    | 3, _, _ => intro _ _ _ _ _ _ _ _ _ _ _ _ _ h; cases h
    | n + 4, 0, _ => intro _ _ _ _ _ _ _ _ _ _ _ _ _ _ h; cases h
    | n + 4, 1, _ => intro _ _ _ _ _ _ _ _ _ _ _ _ _ _ h; cases h
    | n + 4, 2, _ => intro _ _ _ _ _ _ _ _ _ _ _ _ _ _ h; cases h
    | n + 4, 3, _ => intro _ _ _ _ _ _ _ _ _ _ _ _ _ _ h; cases h
    | n + 4, n' + 4, ih =>
      rw [ev_4, ev_4]
      exact ev1_R (ev_M _ _) (ev_M _ _) (ev_M _ _) (ev_M _ _) (ih (n + 3) (by omega) (n' + 3)) (ih (n + 2) (by omega) (n' + 2))
