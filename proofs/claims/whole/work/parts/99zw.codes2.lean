/-! ===== the evaluator: the codes of values, questions ===== -/
/-- a FUNC or a LATE -/
def isFL (e : T_) : Prop := ∃ k n id a b c, e = ce k n id a b c ∧ (k = 16 ∨ k = 22)
def v_cd (P : T_ → Prop) : T_ → Prop
  | .tag 12 (.append e cl) => (P e ∧ isFL e) ∧ v_cd P cl
  | .tag 7 (.append e cl) => (P e ∧ isFL e) ∧ v_cd P cl
  | .tag 13 (.append a b) => v_cd P a ∧ v_cd P b
  | .tag 8 (.append a b) => v_cd P a ∧ v_cd P b
  | .tag 5 (.tag _ v) => v_cd P v
  | .tag 9 v => v_cd P v
  | .tag 11 (.tag _ (.append _ f)) => v_cd P f
  | .append (.tag _ v) r => v_cd P v ∧ v_cd P r
  | _ => True
def n_cd (P : T_ → Prop) (E : N_) : Prop := ∀ m v, E m = some v → v_cd P v
def cP (P : T_ → Prop) : Prop := (∀ e, P e → e_imp e = false) ∧ P .nil ∧ (∀ k n id a b c, P (ce k n id a b c) → P a ∧ P b ∧ P c) ∧ ∀ k n id x r, P (ct k n id x r) → P x ∧ P r
def eCQ (P : T_ → Prop) (C : C_) (s s1 : S_) : Prop := (v_cd P (s_tl s) → v_cd P (s_tl s1)) ∧ ∀ q, s_as s1 q = true → s_as s q = true ∨ q < 45 ∧ (C.1 q).isSome = true
section
variable {P : T_ → Prop}
theorem v_cd_9 {q : T_} : v_cd P (.tag 9 q) = v_cd P q := by cases q <;> rfl
theorem v_cd_W : v_cd P vW := trivial
theorem v_cd_N (x : Int) : v_cd P (vN x) := trivial
theorem chain_cd {a b : T_} (ha : v_cd P a) (hb : v_cd P b) : v_cd P (v_chain a b) := by
  by_cases c : a = .nil
  · rw [c]; exact hb
  · rw [v_chain_ne c]; exact ⟨ha, hb⟩
theorem join_cd {a b : T_} (ha : v_cd P a) (hb : v_cd P b) : v_cd P (v_join a b) := by
  unfold v_join
  split
  · exact trivial
  · split
    · exact ha
    · split
      · exact hb
      · refine ⟨?_, ?_⟩
        · split
          · exact ha
          · exact trivial
        · split
          · exact hb
          · exact trivial
theorem n_get_cd : ∀ (cl : T_), v_cd P cl → n_cd P (n_get cl) := by
  intro cl
  induction cl with
  | append x r ihx ihr =>
    cases x with
    | tag m v0 =>
      intro h k v e
      have h1 : v_cd P v0 ∧ v_cd P r := h
      have e1 : (if k = m then some v0 else n_get r k) = some v := e
      by_cases c : k = m
      · rw [if_pos c] at e1
        cases e1
        exact h1.1
      · rw [if_neg c] at e1
        exact ihr h1.2 k v e1
    | _ => intro _ k v e; cases e
  | _ => intro _ k v e; cases e
theorem n_set_cd {E : N_} {m : Nat} {v : T_} (h : n_cd P E) (hv : v_cd P v) : n_cd P (n_set E m v) := by
  intro k w e
  have e1 : (if k = m then some v else E k) = some w := e
  by_cases c : k = m
  · rw [if_pos c] at e1
    cases e1
    exact hv
  · rw [if_neg c] at e1
    exact h k w e1
theorem n_clos_cd {E : N_} {u : Nat → Bool} (h : n_cd P E) : ∀ k, v_cd P (n_clos E u k) := by
  intro k
  induction k with
  | zero => exact trivial
  | succ k ih =>
    rw [n_clos]
    split
    · rename_i v hu hv
      exact ⟨h _ _ hv, ih⟩
    · exact ih
theorem part_cd (hP : cP P) {e : T_} (h : P e) : P (e_part e) := by
  unfold e_part
  split
  · rename_i k n id a x
    rcases na_or x with ⟨b, c, rfl⟩ | hn
    · exact (hP.2.2.1 k n id a b c h).1
    · exact (hP.2.2.2 k n id a x h).1
  · exact hP.2.1
theorem fn_cd (hP : cP P) {f : T_} (h : v_isF f = true) (hn : v_cd P f) : P (e_part (v_code f)) ∧ v_cd P (v_clos f) := by
  obtain ⟨x, rfl⟩ := v_isF_of h
  cases x with
  | append e cl =>
    have h1 : (P e ∧ isFL e) ∧ v_cd P cl := hn
    exact ⟨part_cd hP h1.1.1, h1.2⟩
  | _ => exact ⟨hP.2.1, trivial⟩
theorem n_body_cd {code clos v f : T_} (hc : v_cd P clos) (hv : v_cd P v) (hf : v_cd P f) : n_cd P (n_body code clos v f) := by
  unfold n_body
  refine n_set_cd ?_ hv
  split
  · exact n_set_cd (n_get_cd _ hc) hf
  · exact n_get_cd _ hc
theorem eCQ_e {C : C_} {s s1 : S_} (h1 : s_tl s1 = s_tl s) (h2 : s_as s1 = s_as s) : eCQ P C s s1 := ⟨fun q => by rw [h1]; exact q, fun q h => Or.inl (by rw [h2] at h; exact h)⟩
theorem eCQ_tr {C : C_} {s s1 s2 : S_} (h : eCQ P C s s1) (g : eCQ P C s1 s2) : eCQ P C s s2 := ⟨fun q => g.1 (h.1 q), fun q x => (g.2 q x).elim (fun y => h.2 q y) Or.inr⟩
theorem eCQ_refl {C : C_} {s : S_} : eCQ P C s s := eCQ_e rfl rfl
theorem eCQ_go {C : C_} {s s1 : S_} (h : eCQ P C (u_go s) s1) : eCQ P C s s1 := ⟨h.1, h.2⟩
theorem eCQ_nd {C : C_} {s s1 : S_} {k : Nat} (h : eCQ P C s s1) : eCQ P C s (u_nd s1 k) := ⟨h.1, h.2⟩
theorem eCQ_funs {s : S_} {C : C_} {v : T_} {id : Nat} : eCQ P C s (f_funs C v id s) := by
  unfold f_funs
  obtain ⟨l, h, -⟩ := f_notes_eq C (f_code 3 id) (min 60 (v_nf v)) s
  rw [h]
  exact eCQ_e rfl rfl
def eCK (P : T_ → Prop) (C : C_) (K : K_) : Prop := ∀ sil e E hb s v E1 s1, K sil e E hb s = some (v, E1, s1) → P e → n_cd P E → eCQ P C s s1 ∧ v_cd P v ∧ n_cd P E1
theorem o_bad_C {C : C_} {k id : Nat} {E E1 : N_} {s s1 : S_} {v : T_} (h : o_bad C k id E s = some (v, E1, s1)) (hE : n_cd P E) : eCQ P C s s1 ∧ v_cd P v ∧ n_cd P E1 := by
  unfold o_bad at h
  cases h
  exact ⟨eCQ_e rfl rfl, trivial, hE⟩
theorem o_name_C {C : C_} {id : Nat} {o : Option T_} {E E1 : N_} {s s1 : S_} {v : T_} (h : o_name C id o E s = some (v, E1, s1)) (ho : ∀ x, o = some x → v_cd P x) (hE : n_cd P E) : eCQ P C s s1 ∧ v_cd P v ∧ n_cd P E1 := by
  cases o with
  | none => exact o_bad_C h hE
  | some x => cases h; exact ⟨eCQ_refl, ho _ rfl, hE⟩
theorem o_ask_C {C : C_} {q id : Nat} {E E1 : N_} {s s1 : S_} {v : T_} (hq : q < 45) (h : o_ask C q id E s = some (v, E1, s1)) (hE : n_cd P E) : eCQ P C s s1 ∧ v_cd P v ∧ n_cd P E1 := by
  unfold o_ask at h
  cases c : C.1 q with
  | none => rw [c] at h; exact o_bad_C h hE
  | some x =>
    rw [c] at h
    cases h
    refine ⟨⟨fun q => q, fun p hp => ?_⟩, trivial, hE⟩
    have hp : (p == q || s_as s p) = true := hp
    rcases (Bool.or_eq_true _ _).mp hp with z | z
    · have := eq_of_beq z
      exact Or.inr ⟨by omega, by rw [this, c]; rfl⟩
    · exact Or.inl z
theorem o_mk_C {C : C_} {k : Nat} {e : T_} {E E1 : N_} {s s1 : S_} {v : T_} (hk : k = 7 ∨ k = 12) (he : P e ∧ isFL e) (h : o_mk k e E s = some (v, E1, s1)) (hE : n_cd P E) : eCQ P C s s1 ∧ v_cd P v ∧ n_cd P E1 := by
  unfold o_mk at h
  split at h
  · cases h
    refine ⟨eCQ_e rfl rfl, ?_, hE⟩
    rcases hk with rfl | rfl
    · exact ⟨he, n_clos_cd hE 10⟩
    · exact ⟨he, n_clos_cd hE 10⟩
  · cases h
theorem o_two_C {C : C_} {k id : Nat} {a b : T_} {E E1 : N_} {s s1 : S_} {v : T_} (h : o_two C k id a b E s = some (v, E1, s1)) (hE : n_cd P E) : eCQ P C s s1 ∧ v_cd P v ∧ n_cd P E1 := by
  unfold o_two at h
  split at h
  · cases h; exact ⟨eCQ_refl, trivial, hE⟩
  · split at h
    · cases h; exact ⟨eCQ_refl, trivial, hE⟩
    · exact o_bad_C h hE
theorem o_mark_C {C : C_} {k id : Nat} {n : Int} {v e : T_} {E E1 : N_} {s s1 : S_} {w : T_} (h : o_mark C k n id v e E s = some (w, E1, s1)) (hE : n_cd P E) (hv : v_cd P v) : eCQ P C s s1 ∧ v_cd P w ∧ n_cd P E1 := by
  unfold o_mark at h
  split at h
  · cases h; exact ⟨eCQ_refl, trivial, hE⟩
  · split at h
    · split at h
      · cases h; exact ⟨⟨fun q => chain_cd q trivial, fun _ z => Or.inl z⟩, trivial, hE⟩
      · exact o_bad_C h hE
    · split at h
      · cases h; exact ⟨⟨fun q => chain_cd q hv, fun _ z => Or.inl z⟩, trivial, hE⟩
      · exact o_bad_C h hE
theorem o_one_C {L : Nat} {C : C_} {k id : Nat} {n : Int} {a v e : T_} {E E1 : N_} {s s1 : S_} {w : T_} (h : o_one L C k n id a v e E s = some (w, E1, s1)) (hE : n_cd P E) (hv : v_cd P v) : eCQ P C s s1 ∧ v_cd P w ∧ n_cd P E1 := by
  by_cases ke : k ≠ 15 ∧ k ≠ 18 ∧ k ≠ 19 ∧ k ≠ 20 ∧ k ≠ 21 ∧ k ≠ 28
  · rcases pk_or v with ⟨x, y, rfl⟩ | hp
    · rw [pk_13 ke] at h
      cases h
      have h1 : v_cd P x ∧ v_cd P y := hv
      refine ⟨eCQ_refl, ?_, hE⟩
      split
      · exact h1.1
      · exact h1.2
    · rw [hp _ _ _ _ _ _ _ _ _ ke] at h
      split at h
      · cases h; exact ⟨eCQ_refl, trivial, hE⟩
      · exact o_bad_C h hE
  unfold o_one at h
  split at h
  · cases h; exact ⟨eCQ_refl, trivial, n_set_cd hE hv⟩
  · exact o_mark_C h hE hv
  · exact o_mark_C h hE hv
  · split at h
    · rename_i hf
      cases h
      obtain ⟨-, rfl⟩ := f_fu_inv hf
      exact ⟨eCQ_nd eCQ_funs, hv, hE⟩
    · cases h
  · split at h
    · cases h; exact ⟨eCQ_refl, trivial, hE⟩
    · split at h
      · cases h; exact ⟨eCQ_e rfl rfl, trivial, hE⟩
      · exact o_bad_C h hE
  · split at h
    · rename_i hf
      cases h
      obtain ⟨-, rfl⟩ := f_fu_inv hf
      exact ⟨eCQ_funs, trivial, hE⟩
    · cases h
  · exfalso
    apply ke
    refine ⟨?_, ?_, ?_, ?_, ?_, ?_⟩ <;> assumption
theorem o_pair_C {L : Nat} {C : C_} {k id : Nat} {a b x y : T_} {E E1 : N_} {s s1 : S_} {w : T_} (h : o_pair L C k id a b x y E s = some (w, E1, s1)) (hE : n_cd P E) (hx : v_cd P x) (hy : v_cd P y) : eCQ P C s s1 ∧ v_cd P w ∧ n_cd P E1 := by
  unfold o_pair at h
  split at h
  · split at h
    · rename_i hf
      split at h
      · rename_i hg
        cases h
        obtain ⟨-, rfl⟩ := f_fu_inv hf
        obtain ⟨-, rfl⟩ := f_fu_inv hg
        exact ⟨eCQ_nd (eCQ_tr eCQ_funs eCQ_funs), join_cd hx hy, hE⟩
      · cases h
    · cases h
  · split at h
    · cases h
      exact ⟨eCQ_e rfl rfl, ⟨hx, hy⟩, hE⟩
    · exact o_two_C h hE
theorem t_frm_C {L : Nat} {rec : K_} {C : C_} {sil : Bool} (hP : cP P) (hK : eCK P C rec) : ∀ (m : Nat) (t : T_), it_len t ≤ m → ∀ (w : Nat) (E : N_) (s : S_) (w1 : Nat) (E1 : N_) (s1 : S_), t_frm L rec C sil t w E s = some (w1, E1, s1) → P t → n_cd P E → eCQ P C s s1 ∧ n_cd P E1 := by
  intro m
  induction m with
  | zero =>
    intro t ht w E s w1 E1 s1 h hi hE
    rcases ct_or t with ⟨k, n, id, x, r, rfl⟩ | ⟨-, he⟩
    · rw [it_ct] at ht; omega
    · rw [he] at h
      cases h
      exact ⟨eCQ_refl, hE⟩
  | succ m ih =>
    intro t ht w E s w1 E1 s1 h hi hE
    rcases ct_or t with ⟨k, n, id, x, r, rfl⟩ | ⟨-, he⟩
    · rw [it_ct] at ht
      obtain ⟨hi1, hi2⟩ := hP.2.2.2 _ _ _ _ _ hi
      rw [t_frm_ct] at h
      split at h
      · split at h
        · split at h
          · rename_i v E2 s2 hr
            split at h
            · rename_i s3 hf
              obtain ⟨-, rfl⟩ := f_fu_inv hf
              obtain ⟨a1, a2, a3⟩ := hK _ _ _ _ _ _ _ _ hr hi1 hE
              obtain ⟨b1, b2⟩ := ih r (by omega) _ _ _ _ _ _ h hi2 a3
              exact ⟨eCQ_go (eCQ_tr a1 (eCQ_tr eCQ_funs b1)), b2⟩
            · cases h
          · cases h
        · obtain ⟨b1, b2⟩ := ih r (by omega) _ _ _ _ _ _ h hi2 hE
          exact ⟨eCQ_go b1, b2⟩
      · cases h
    · rw [he] at h
      cases h
      exact ⟨eCQ_refl, hE⟩
theorem t_leaf_cd {k : Nat} {n : Int} : v_cd P (t_leaf k n) := by
  unfold t_leaf
  split
  · exact trivial
  · split
    · exact trivial
    · exact trivial
theorem t_item_C {L : Nat} {rec : K_} {C : C_} {sil : Bool} (hP : cP P) (hK : eCK P C rec) {k : Nat} {n : Int} {x : T_} {E E1 : N_} {s s1 : S_} {v : T_} (h : t_item L rec C sil k n x E s = some (v, E1, s1)) (hi : P x) (hE : n_cd P E) : eCQ P C s s1 ∧ v_cd P v ∧ n_cd P E1 := by
  unfold t_item at h
  split at h
  · split at h
    · rename_i v E2 s2 hr
      split at h
      · rename_i s3 hf
        obtain ⟨-, rfl⟩ := f_fu_inv hf
        cases h
        obtain ⟨a1, a2, a3⟩ := hK _ _ _ _ _ _ _ _ hr hi hE
        exact ⟨eCQ_nd (eCQ_go (eCQ_tr a1 eCQ_funs)), a2, a3⟩
      · cases h
    · cases h
  · split at h
    · split at h
      · rename_i w E2 s2 hr
        cases h
        obtain ⟨b1, b2⟩ := t_frm_C hP hK _ _ (Nat.le_refl _) _ _ _ _ _ _ hr hi hE
        exact ⟨eCQ_nd (eCQ_go b1), trivial, b2⟩
      · cases h
    · cases h
      exact ⟨eCQ_e rfl rfl, t_leaf_cd, hE⟩
theorem t_run_C {L : Nat} {rec : K_} {C : C_} {sil : Bool} (hP : cP P) (hK : eCK P C rec) : ∀ (m : Nat) (t : T_), it_len t ≤ m → ∀ (q : T_) (f : Bool) (E : N_) (s : S_) (q1 : T_) (f1 : Bool) (E1 : N_) (s1 : S_), t_run L rec C sil t q f E s = some (q1, f1, E1, s1) → P t → n_cd P E → v_cd P q → v_cd P (s_tl s) → v_cd P q1 ∧ (∀ z, s_as s1 z = true → s_as s z = true ∨ z < 45 ∧ (C.1 z).isSome = true) := by
  intro m
  induction m with
  | zero =>
    intro t ht q f E s q1 f1 E1 s1 h hi hE hq htl
    rcases ct_or t with ⟨k, n, id, x, r, rfl⟩ | ⟨he, -⟩
    · rw [it_ct] at ht; omega
    · rw [he] at h
      cases h
      exact ⟨hq, fun _ z => Or.inl z⟩
  | succ m ih =>
    intro t ht q f E s q1 f1 E1 s1 h hi hE hq htl
    rcases ct_or t with ⟨k, n, id, x, r, rfl⟩ | ⟨he, -⟩
    · rw [it_ct] at ht
      obtain ⟨hi1, hi2⟩ := hP.2.2.2 _ _ _ _ _ hi
      rw [t_run_ct] at h
      split at h
      · split at h
        · rename_i v E2 s2 hr
          obtain ⟨a1, a2, a3⟩ := t_item_C hP hK hr hi1 hE
          have qa : v_cd P (t_app q f v).1 := by
            unfold t_app
            split
            · exact chain_cd hq a2
            · exact hq
          have qm : v_cd P (t_mks (t_app q f v).1 s2) := by
            by_cases c : s_tl s2 = .nil
            · rw [t_mks_0 c]; exact qa
            · rw [t_mks_1 c]; exact chain_cd qa (a1.1 htl)
          obtain ⟨b1, b2⟩ := ih r (by omega) _ _ _ _ _ _ _ _ h hi2 a3 qm trivial
          exact ⟨b1, fun z y => (b2 z y).elim (fun y => a1.2 z y) Or.inr⟩
        · cases h
      · cases h
    · rw [he] at h
      cases h
      exact ⟨hq, fun _ z => Or.inl z⟩
theorem t_block_C {L : Nat} {rec : K_} {C : C_} {sil : Bool} (hP : cP P) (hK : eCK P C rec) {t : T_} {E E1 : N_} {s s1 : S_} {v : T_} (h : t_block L rec C sil t E s = some (v, E1, s1)) (hi : P t) (hE : n_cd P E) : eCQ P C s s1 ∧ v_cd P v := by
  unfold t_block at h
  split at h
  · rename_i q f E2 s2 hr
    cases h
    obtain ⟨a1, a2⟩ := t_run_C hP hK _ _ (Nat.le_refl _) _ _ _ _ _ _ _ _ hr hi hE trivial trivial
    refine ⟨⟨fun q => q, a2⟩, ?_⟩
    split
    · rw [v_cd_9]; exact a1
    · exact trivial
  · cases h
theorem o_body_C {rec : K_} {C : C_} {sil keep : Bool} (hP : cP P) (hK : eCK P C rec) {fn v w : T_} {s s2 : S_} (hM : eMK rec) (h : o_body rec C sil keep fn v s = some (w, s2)) (hf : v_isF fn = true) (hn : v_cd P fn) (hv : v_cd P v) : eCQ P C s s2 ∧ v_cd P w := by
  obtain ⟨-, E1, s1, me, hr, -, rfl, -⟩ := o_body_inv h
  obtain ⟨hi, hc⟩ := fn_cd hP hf hn
  obtain ⟨a1, a2, a3⟩ := hK _ _ _ _ _ _ _ _ hr hi (n_body_cd hc hv hn)
  have t1 : s_tl s1 = s_tl s := (hM _ _ _ _ _ _ _ _ hr (Nat.le_refl _)).2.2.2.2.2.2.2.1 rfl
  refine ⟨⟨fun q => ?_, fun z y => ?_⟩, a2⟩
  · show v_cd P (s_tl s1)
    rw [t1]
    exact q
  · have y : (s_as s z || s_as s1 z) = true := y
    rcases (Bool.or_eq_true _ _).mp y with y | y
    · exact Or.inl y
    · rcases a1.2 z y with y | y
      · cases y
      · exact Or.inr y
theorem o_call_C {rec : K_} {C : C_} {sil : Bool} (hP : cP P) (hK : eCK P C rec) (hM : eMK rec) {id : Nat} {fn v w : T_} {E E1 : N_} {s s1 : S_} (h : o_call rec C sil id fn v E s = some (w, E1, s1)) (hf : v_isF fn = true) (hn : v_cd P fn) (hv : v_cd P v) (hE : n_cd P E) : eCQ P C s s1 ∧ v_cd P w ∧ n_cd P E1 := by
  obtain ⟨rfl, ⟨-, rfl, rfl⟩ | ⟨-, ⟨-, rfl, rfl⟩ | ⟨-, ⟨-, rfl, rfl⟩ | ⟨-, ⟨r, -, hq⟩ | ⟨-, hq⟩⟩⟩⟩⟩ := o_call_inv h
  · exact ⟨eCQ_refl, trivial, hE⟩
  · exact ⟨eCQ_e rfl rfl, trivial, hE⟩
  · exact ⟨eCQ_e rfl rfl, trivial, hE⟩
  · obtain ⟨a1, a2⟩ := o_body_C hP hK hM hq hf hn hv
    exact ⟨⟨a1.1, a1.2⟩, a2, hE⟩
  · obtain ⟨a1, a2⟩ := o_body_C hP hK hM hq hf hn hv
    exact ⟨⟨a1.1, a1.2⟩, a2, hE⟩
theorem ev1_C {L : Nat} {C : C_} {r1 r2 r4 : K_} (hP : cP P) (h1 : eCK P C r1) (h2 : eCK P C r2) (M2 : eMK r2) : eCK P C (ev1 L C r1 r2 r4) := by
  intro sil e E hb s v E1 s1 h hi hE
  have K0 : eCQ P C (u_go s) s1 ∧ v_cd P v ∧ n_cd P E1 → eCQ P C s s1 ∧ v_cd P v ∧ n_cd P E1 := fun k => ⟨eCQ_go k.1, k.2⟩
  rcases ce_or e with ⟨k, n, id, a, b, c, rfl⟩ | he
  · obtain ⟨k29, -⟩ := e_imp_ce (hP.1 _ hi)
    obtain ⟨ia, ib, ic⟩ := hP.2.2.1 _ _ _ _ _ _ hi
    by_cases ko : k < 6 ∨ 31 < k
    · rw [ev1_oth ko] at h
      split at h
      · cases h; exact ⟨eCQ_e rfl rfl, trivial, hE⟩
      · cases h
    · have kk : k = 6 ∨ k = 7 ∨ k = 8 ∨ k = 16 ∨ k = 22 ∨ k = 23 ∨ k = 24 ∨ k = 25 ∨ k = 26 ∨ k = 27 ∨ k = 14 ∨ k = 17 ∨ (k = 9 ∨ k = 10 ∨ k = 11 ∨ k = 12 ∨ k = 13 ∨ k = 30) ∨ (k = 15 ∨ k = 20 ∨ k = 21 ∨ k = 28 ∨ k = 31) ∨ (k = 18 ∨ k = 19) := by omega
      rcases kk with rfl | rfl | rfl | rfl | rfl | rfl | rfl | rfl | rfl | rfl | rfl | rfl | kk | kk | kk
      · rw [ev1_6] at h
        split at h
        · cases h; exact ⟨eCQ_e rfl rfl, trivial, hE⟩
        · cases h
      · rw [ev1_7] at h
        split at h
        · exact K0 (o_name_C h (fun x q => hE _ _ q) hE)
        · cases h
      · rw [ev1_8] at h
        split at h
        · split at h
          · split at h
            · rename_i w E2 s2 hr
              cases h
              obtain ⟨a1, a2⟩ := t_block_C hP h2 hr ia hE
              exact ⟨⟨a1.1, a1.2⟩, a2, hE⟩
            · cases h
          · cases h
        · cases h
      · rw [ev1_16] at h
        split at h
        · exact K0 (o_mk_C (Or.inr rfl) ⟨hi, 16, n, id, a, b, c, rfl, Or.inl rfl⟩ h hE)
        · cases h
      · rw [ev1_22] at h
        split at h
        · exact K0 (o_mk_C (Or.inl rfl) ⟨hi, 22, n, id, a, b, c, rfl, Or.inr rfl⟩ h hE)
        · cases h
      · rw [ev1_23] at h
        split at h
        · exact K0 (o_ask_C (by omega) h hE)
        · cases h
      · rw [ev1_24] at h
        split at h
        · exact K0 (o_ask_C (by omega) h hE)
        · cases h
      · rw [ev1_25] at h
        split at h
        · exact K0 (o_ask_C (by omega) h hE)
        · cases h
      · rw [ev1_26] at h
        split at h
        · exact K0 (o_ask_C (by omega) h hE)
        · cases h
      · rw [ev1_27] at h
        split at h
        · exact K0 (o_ask_C (by omega) h hE)
        · cases h
      · rw [ev1_14] at h
        split at h
        · split at h
          · rename_i w E2 s2 hr
            obtain ⟨a1, a2, a3⟩ := h1 _ _ _ _ _ _ _ _ hr ia hE
            split at h
            · cases h; exact K0 ⟨a1, trivial, a3⟩
            · split at h
              · obtain ⟨b1, b2⟩ := h1 _ _ _ _ _ _ _ _ h (by split <;> assumption) a3
                exact K0 ⟨eCQ_tr a1 b1, b2⟩
              · obtain ⟨b1, b2⟩ := o_bad_C h a3
                exact K0 ⟨eCQ_tr a1 b1, b2⟩
          · cases h
        · cases h
      · rw [ev1_17] at h
        split at h
        · split at h
          · rename_i w E2 s2 hr
            obtain ⟨a1, a2, a3⟩ := h1 _ _ _ _ _ _ _ _ hr ia hE
            split at h
            · cases h; exact K0 ⟨a1, trivial, a3⟩
            · split at h
              · rename_i hf
                split at h
                · rename_i w2 E3 s3 hr2
                  obtain ⟨b1, b2, b3⟩ := h1 _ _ _ _ _ _ _ _ hr2 ib a3
                  obtain ⟨d1, d2⟩ := o_call_C hP h2 M2 h hf a2 b2 b3
                  exact K0 ⟨eCQ_tr a1 (eCQ_tr b1 d1), d2⟩
                · cases h
              · obtain ⟨b1, b2⟩ := o_bad_C h a3
                exact K0 ⟨eCQ_tr a1 b1, b2⟩
          · cases h
        · cases h
      · rw [ev1_two kk] at h
        split at h
        · split at h
          · rename_i w E2 s2 hr
            obtain ⟨a1, a2, a3⟩ := h1 _ _ _ _ _ _ _ _ hr ia hE
            split at h
            · rename_i w2 E3 s3 hr2
              obtain ⟨b1, b2, b3⟩ := h1 _ _ _ _ _ _ _ _ hr2 ib a3
              obtain ⟨d1, d2⟩ := o_pair_C h b3 a2 b2
              exact K0 ⟨eCQ_tr a1 (eCQ_tr b1 d1), d2⟩
            · cases h
          · cases h
        · cases h
      · rw [ev1_one (by omega)] at h
        split at h
        · split at h
          · rename_i w E2 s2 hr
            obtain ⟨a1, a2, a3⟩ := h1 _ _ _ _ _ _ _ _ hr ia hE
            obtain ⟨d1, d2⟩ := o_one_C h a3 a2
            exact K0 ⟨eCQ_tr a1 d1, d2⟩
          · cases h
        · cases h
      · cases hb with
        | false =>
          rw [ev1_pl kk] at h
          split at h
          · exact K0 (o_bad_C h hE)
          · cases h
        | true =>
          rw [ev1_one (Or.inr (Or.inr (Or.inr (Or.inr (Or.inr ⟨kk, rfl⟩)))))] at h
          split at h
          · split at h
            · rename_i w E2 s2 hr
              obtain ⟨a1, a2, a3⟩ := h1 _ _ _ _ _ _ _ _ hr ia hE
              obtain ⟨d1, d2⟩ := o_one_C h a3 a2
              exact K0 ⟨eCQ_tr a1 d1, d2⟩
            · cases h
          · cases h
  · rw [he] at h
    cases h
    exact ⟨eCQ_e rfl rfl, trivial, hE⟩
theorem ev_C (hP : cP P) (C : C_) : ∀ n, eCK P C (ev C n) := by
  intro n
  induction n using Nat.strongRecOn with
  | _ n ih =>
    match n, ih with
    | 0, _ => intro _ _ _ _ _ _ _ _ h; cases h
    | 1, _ => intro _ _ _ _ _ _ _ _ h; cases h
    | 2, _ => intro _ _ _ _ _ _ _ _ h; cases h
    | 3, _ => intro _ _ _ _ _ _ _ _ h; cases h
    | n + 4, ih =>
      rw [ev_4]
      exact ev1_C hP (ih (n + 3) (by omega)) (ih (n + 2) (by omega)) (ev_M C _)
/-- parts of a code, where it has no IMPORT -/
theorem cP_in {T : T_} (h : e_imp T = false) : cP fun t => e_in t T ∨ t = .nil := by
  refine ⟨fun e q => ?_, Or.inr rfl, fun k n id a b c q => ?_, fun k n id x r q => ?_⟩
  · rcases q with q | q
    · exact e_in_imp T q h
    · rw [q]; rfl
  · rcases q with q | q
    · obtain ⟨a, b, c⟩ := e_in_c q
      exact ⟨Or.inl a, Or.inl b, Or.inl c⟩
    · cases q
  · rcases q with q | q
    · obtain ⟨a, b⟩ := e_in_t q
      exact ⟨Or.inl a, Or.inl b⟩
    · cases q
end
