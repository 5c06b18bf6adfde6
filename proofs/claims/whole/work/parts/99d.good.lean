/-! ===== values: their measure ===== -/
/-- what of a chain is filled -/
def v_ff : T_ → Bool
  | .tag 8 (.append a b) => v_ff a || v_ff b
  | v => v_fl v
/-- how many marks are in a chain -/
def v_mk : T_ → Nat
  | .tag 8 (.append a b) => v_mk a + v_mk b
  | _ => 1
def mk0 (q : T_) : Nat := match q with
  | .nil => 0
  | q => v_mk q
/-- a measure of values: no more than the tokens that made it -/
def v_m : T_ → Nat
  | .tag 5 (.tag _ v) => v_m v + 1
  | .tag 7 (.append _ cl) => v_m cl + 1
  | .tag 12 (.append _ cl) => v_m cl + 1
  | .tag 8 (.append a b) => max (v_m a) (v_m b) + (if v_ff a = true then (if v_ff b = true then 1 else v_mk b) else (if v_ff b = true then v_mk a else 0))
  | .tag 13 (.append a b) => max (v_m a) (v_m b) + 1
  | .tag 9 v => v_m v + 2
  | .tag 11 (.tag _ (.append _ v)) => v_m v
  | .append (.tag _ v) r => max (v_m v) (v_m r)
  | _ => 0
/-- bodies are of 58 tokens at most; what is to be filled is -/
def v_go : T_ → Prop
  | .tag 13 (.append a b) => v_go a ∧ v_go b ∧ (v_fl a = true → v_ff a = true) ∧ (v_fl b = true → v_ff b = true)
  | .tag 12 (.append e cl) => c_sz (e_part e) ≤ 58 ∧ v_go cl ∧ ∃ E : N_, cl = n_clos E (e_use e) 10
  | .tag 7 (.append e cl) => c_sz (e_part e) ≤ 58 ∧ v_go cl
  | .append (.tag _ v) r => v_go v ∧ (v_fl v = true → v_ff v = true) ∧ v_go r
  | .tag 8 (.append a b) => v_go a ∧ v_go b
  | .tag 5 (.tag _ v) => v_go v ∧ (v_fl v = true → v_ff v = true)
  | .tag 9 v => v_go v ∧ v_ff v = true
  | .tag 11 (.tag _ (.append _ v)) => v_go v ∧ v_isF v = true
  | .tag 1 (.nest _ _) => True
  | .tag 3 (.nest _ _) => True
  | .tag 4 (.nest _ _) => True
  | .tag 6 (.tag _ (.nest _ _)) => True
  | .tag 10 (.tag _ (.nest _ _)) => True
  | .tag 1 _ => False
  | .tag 3 _ => False
  | .tag 4 _ => False
  | .tag 5 _ => False
  | .tag 6 _ => False
  | .tag 7 _ => False
  | .tag 8 _ => False
  | .tag 10 _ => False
  | .tag 11 _ => False
  | _ => True
def gv (v : T_) : Prop := v_go v ∧ (v_fl v = true → v_ff v = true)
def nG (T : Nat) (E : N_) : Prop := ∀ m v, E m = some v → gv v ∧ v_m v ≤ T
def sG (T : Nat) (s : S_) : Prop := (∀ g, s_fs s g ≠ 0 ∧ s_fs s g ≠ 1 → nG T (s_fe s g)) ∧ v_go (s_tl s) ∧ v_m (s_tl s) ≤ T ∧ v_ff (s_tl s) = false
abbrev kt (s : S_) : Nat := mk0 (s_tl s)
def fcz (s : S_) : Nat := (if s_fs s 0 = 0 then 1 else 0) + (if s_fs s 1 = 0 then 1 else 0) + (if s_fs s 2 = 0 then 1 else 0)
def Kd (d : Nat) : Nat := 300 + 55 * (8 - d)
theorem nG_mono {T T' : Nat} {E : N_} (h : nG T E) (hT : T ≤ T') : nG T' E := fun m v e => ⟨(h m v e).1, Nat.le_trans (h m v e).2 hT⟩
theorem sG_mono {T T' : Nat} {s : S_} (h : sG T s) (hT : T ≤ T') : sG T' s := ⟨fun g q => nG_mono (h.1 g q) hT, h.2.1, Nat.le_trans h.2.2.1 hT, h.2.2.2⟩
theorem v_dp_le (v : T_) : v_dp v ≤ v_m v := by
  induction v using v_dp.induct with
  | case1 a b ih1 ih2 =>
    show max (v_dp a) (v_dp b) + 1 ≤ max (v_m a) (v_m b) + 1
    omega
  | case2 x hx =>
    unfold v_dp
    split
    · rename_i a b
      exact (hx a b rfl).elim
    · exact Nat.zero_le _
theorem gv_N (x : Int) : gv (vN x) := ⟨trivial, fun _ => rfl⟩
theorem gv_0 : gv v0 := ⟨trivial, fun h => by cases h⟩
theorem gv_W : gv vW := ⟨trivial, fun h => by cases h⟩
theorem gv_E : gv vE := ⟨trivial, fun h => by cases h⟩
theorem v_go_9 {q : T_} (h : v_go q) (hf : v_ff q = true) : gv (.tag 9 q) := by
  refine ⟨?_, fun _ => ?_⟩
  · cases q <;> exact ⟨h, hf⟩
  · cases q <;> rfl
theorem v_m_9 (q : T_) : v_m (.tag 9 q) = v_m q + 2 := by cases q <;> rfl
theorem v_ff_8 (a b : T_) : v_ff (.tag 8 (.append a b)) = (v_ff a || v_ff b) := rfl
theorem v_go_8 (a b : T_) : v_go (.tag 8 (.append a b)) = (v_go a ∧ v_go b) := rfl
theorem v_m_8 (a b : T_) : v_m (.tag 8 (.append a b)) = max (v_m a) (v_m b) + (if v_ff a = true then (if v_ff b = true then 1 else v_mk b) else (if v_ff b = true then v_mk a else 0)) := rfl
theorem v_mk_8 (a b : T_) : v_mk (.tag 8 (.append a b)) = v_mk a + v_mk b := rfl
theorem v_mk_pos (v : T_) : 1 ≤ v_mk v := by
  induction v using v_mk.induct with
  | case1 a b ih1 ih2 => show 1 ≤ v_mk a + v_mk b; omega
  | case2 x hx =>
    unfold v_mk
    split
    · rename_i a b
      exact (hx a b rfl).elim
    · exact Nat.le_refl _
theorem v_chain_nil (b : T_) : v_chain .nil b = b := rfl
theorem v_chain_ne {a b : T_} (h : a ≠ .nil) : v_chain a b = .tag 8 (.append a b) := by
  cases a with
  | nil => exact absurd rfl h
  | _ => rfl
theorem mk0_ne {a : T_} (h : a ≠ .nil) : mk0 a = v_mk a := by
  cases a with
  | nil => exact absurd rfl h
  | _ => rfl
theorem mk0_le (a : T_) : mk0 a ≤ v_mk a := by
  by_cases h : a = .nil
  · rw [h]; exact Nat.zero_le _
  · rw [mk0_ne h]; exact Nat.le_refl _
theorem chain_ff (a b : T_) : v_ff (v_chain a b) = (v_ff a || v_ff b) := by
  by_cases h : a = .nil
  · rw [h]; rfl
  · rw [v_chain_ne h]; rfl
theorem chain_go {a b : T_} (ha : v_go a) (hb : v_go b) : v_go (v_chain a b) := by
  by_cases h : a = .nil
  · rw [h]; exact hb
  · rw [v_chain_ne h]; exact ⟨ha, hb⟩
theorem chain_mk0 {a b : T_} : mk0 (v_chain a b) ≤ mk0 a + v_mk b := by
  by_cases h : a = .nil
  · rw [h]; exact Nat.le_trans (mk0_le _) (Nat.le_add_left _ _)
  · rw [v_chain_ne h, mk0_ne h]; exact Nat.le_refl _
/-- a chain of marks, one more -/
theorem chain_m0 {a b : T_} {T : Nat} (ha : v_m a ≤ T) (hb : v_m b ≤ T) (fa : v_ff a = false) (fb : v_ff b = false) : v_m (v_chain a b) ≤ T := by
  by_cases h : a = .nil
  · rw [h]; exact hb
  · rw [v_chain_ne h, v_m_8, fa, fb]
    show max (v_m a) (v_m b) + 0 ≤ T
    omega
/-- something filled behind marks, or behind nothing -/
theorem chain_m1 {a b : T_} {T : Nat} (ha : v_m a ≤ T) (hb : v_m b ≤ T) (fa : v_ff a = false) (fb : v_ff b = true) : v_m (v_chain a b) ≤ T + mk0 a := by
  by_cases h : a = .nil
  · rw [h]; exact hb
  · rw [v_chain_ne h, v_m_8, fa, fb, mk0_ne h]
    show max (v_m a) (v_m b) + v_mk a ≤ T + v_mk a
    omega
theorem chain_m2 {a b : T_} {T : Nat} (ha : v_m a ≤ T) (hb : v_m b ≤ T) (fa : v_ff a = true) (fb : v_ff b = true) : v_m (v_chain a b) ≤ T + 1 := by
  have h : a ≠ .nil := fun q => by rw [q] at fa; cases fa
  rw [v_chain_ne h, v_m_8, fa, fb]
  show max (v_m a) (v_m b) + 1 ≤ T + 1
  omega
/-- marks behind what is filled -/
theorem chain_m3 {a b : T_} {T : Nat} (ha : v_m a ≤ T) (hb : v_m b ≤ T) (fa : v_ff a = true) (fb : v_ff b = false) : v_m (v_chain a b) ≤ T + v_mk b := by
  have h : a ≠ .nil := fun q => by rw [q] at fa; cases fa
  rw [v_chain_ne h, v_m_8, fa, fb]
  show max (v_m a) (v_m b) + v_mk b ≤ T + v_mk b
  omega
theorem n_clos_G {T : Nat} {E : N_} {u : Nat → Bool} (h : nG T E) : ∀ k, v_go (n_clos E u k) ∧ v_m (n_clos E u k) ≤ T := by
  intro k
  induction k with
  | zero => exact ⟨trivial, Nat.zero_le _⟩
  | succ k ih =>
    rw [n_clos]
    split
    · rename_i v hu hv
      obtain ⟨⟨a1, a2⟩, a3⟩ := h _ _ hv
      refine ⟨⟨a1, a2, ih.1⟩, ?_⟩
      have i2 := ih.2
      show max (v_m v) (v_m _) ≤ T
      omega
    · exact ih
theorem n_get_G : ∀ (cl : T_) (T : Nat), v_go cl → v_m cl ≤ T → nG T (n_get cl) := by
  intro cl
  induction cl with
  | append x r ihx ihr =>
    cases x with
    | tag m v0 =>
      intro T h hm k v e
      obtain ⟨a1, a2, a3⟩ := h
      have hm1 : max (v_m v0) (v_m r) ≤ T := hm
      have e1 : (if k = m then some v0 else n_get r k) = some v := e
      by_cases c : k = m
      · rw [if_pos c] at e1
        cases e1
        exact ⟨⟨a1, a2⟩, by omega⟩
      · rw [if_neg c] at e1
        exact ihr T a3 (by omega) k v e1
    | _ => intro T _ _ k v e; cases e
  | _ => intro T _ _ k v e; cases e
theorem n_set_G {T : Nat} {E : N_} {m : Nat} {v : T_} (h : nG T E) (hv : gv v) (hm : v_m v ≤ T) : nG T (n_set E m v) := by
  intro k w e
  have e1 : (if k = m then some v else E k) = some w := e
  by_cases c : k = m
  · rw [if_pos c] at e1
    cases e1
    exact ⟨hv, hm⟩
  · rw [if_neg c] at e1
    exact h k w e1
theorem fn_G {f : T_} (h : v_isF f = true) (hg : v_go f) : c_sz (e_part (v_code f)) ≤ 58 ∧ v_go (v_clos f) ∧ v_m (v_clos f) ≤ v_m f := by
  obtain ⟨x, rfl⟩ := v_isF_of h
  cases x with
  | append e cl => exact ⟨hg.1, hg.2.1, Nat.le_succ _⟩
  | _ => exact ⟨Nat.zero_le _, trivial, Nat.zero_le _⟩
theorem n_body_G {f v : T_} {T : Nat} (h : v_isF f = true) (hg : gv f) (hm : v_m f ≤ T) (hv : gv v) (hw : v_m v ≤ T) : nG T (n_body (v_code f) (v_clos f) v f) := by
  obtain ⟨-, a2, a3⟩ := fn_G h hg.1
  have h0 := n_get_G (v_clos f) T a2 (Nat.le_trans a3 hm)
  unfold n_body
  refine n_set_G ?_ hv hw
  split
  · exact n_set_G h0 hg hm
  · exact h0
theorem v_join_G {a b : T_} {T : Nat} (ha : gv a) (hb : gv b) (ma : v_m a ≤ T) (mb : v_m b ≤ T) : gv (v_join a b) ∧ v_m (v_join a b) ≤ T + 1 := by
  unfold v_join
  by_cases c1 : v_fl a = false ∧ v_fl b = false
  · rw [if_pos c1]
    exact ⟨gv_E, Nat.zero_le _⟩
  · rw [if_neg c1]
    by_cases c2 : v_fl b = false ∧ v_isC a = true
    · rw [if_pos c2]
      exact ⟨ha, by omega⟩
    · rw [if_neg c2]
      by_cases c3 : v_fl a = false ∧ v_isC b = true
      · rw [if_pos c3]
        exact ⟨hb, by omega⟩
      · rw [if_neg c3]
        cases fa : v_fl a with
        | true =>
          cases fb : v_fl b with
          | true =>
            rw [if_pos rfl, if_pos rfl]
            refine ⟨⟨⟨ha.1, hb.1⟩, fun _ => by rw [v_ff_8, ha.2 fa]; rfl⟩, ?_⟩
            rw [v_m_8, ha.2 fa, hb.2 fb]
            show max (v_m a) (v_m b) + 1 ≤ T + 1
            omega
          | false =>
            rw [if_pos rfl, if_neg (by decide)]
            refine ⟨⟨⟨ha.1, trivial⟩, fun _ => by rw [v_ff_8, ha.2 fa]; rfl⟩, ?_⟩
            rw [v_m_8, ha.2 fa]
            show max (v_m a) 0 + 1 ≤ T + 1
            omega
        | false =>
          cases fb : v_fl b with
          | true =>
            rw [if_neg (by decide), if_pos rfl]
            refine ⟨⟨⟨trivial, hb.1⟩, fun _ => by rw [v_ff_8, hb.2 fb]; rfl⟩, ?_⟩
            rw [v_m_8, hb.2 fb]
            show max 0 (v_m b) + 1 ≤ T + 1
            omega
          | false => exact absurd ⟨fa, fb⟩ c1
theorem c_sz_ct' (k : Nat) (n : Int) (id : Nat) (x r : T_) : 1 + c_sz x + c_sz r ≤ c_sz (ct k n id x r) := by
  cases r with
  | append b c => show 1 + c_sz x + 0 ≤ 1 + c_sz x + c_sz b + c_sz c; omega
  | _ => exact Nat.le_refl _
theorem c_sz_ce' (k : Nat) (n : Int) (id : Nat) (a b c : T_) : c_sz (ce k n id a b c) = 1 + c_sz a + c_sz b + c_sz c := rfl
theorem n_get_clos (E : N_) (u : Nat → Bool) : ∀ k m, n_get (n_clos E u k) m = if m < k ∧ u m = true then E m else none := by
  intro k
  induction k with
  | zero => intro m; rw [if_neg (fun q => absurd q.1 (Nat.not_lt_zero _))]; rfl
  | succ k ih =>
    intro m
    rw [n_clos]
    split
    · rename_i v hu hv
      show (if m = k then some v else n_get (n_clos E u k) m) = _
      by_cases c : m = k
      · rw [if_pos c, c, if_pos ⟨Nat.lt_succ_self k, hu⟩, hv]
      · rw [if_neg c, ih m]
        by_cases d : m < k ∧ u m = true
        · rw [if_pos d, if_pos ⟨Nat.lt_succ_of_lt d.1, d.2⟩]
        · rw [if_neg d, if_neg (fun q => d ⟨by omega, q.2⟩)]
    · rename_i hx
      rw [ih m]
      by_cases d : m < k ∧ u m = true
      · rw [if_pos d, if_pos ⟨Nat.lt_succ_of_lt d.1, d.2⟩]
      · rw [if_neg d]
        by_cases d2 : m < k + 1 ∧ u m = true
        · rw [if_pos d2]
          have e : m = k := by
            have : ¬ m < k := fun q => d ⟨q, d2.2⟩
            omega
          subst e
          cases hv : E m with
          | none => rfl
          | some v => exact (hx v d2.2 hv).elim
        · rw [if_neg d2]
theorem n_clos_ni' {E : N_} {u : Nat → Bool} : ∀ k, (∀ m v, m < k → u m = true → E m = some v → v_ni v = true) → v_ni (n_clos E u k) = true := by
  intro k
  induction k with
  | zero => intro _; rfl
  | succ k ih =>
    intro h
    rw [n_clos]
    split
    · rename_i v hu hv
      show (v_ni v && v_ni _) = true
      rw [h k v (Nat.lt_succ_self k) hu hv, ih fun m v hm => h m v (Nat.lt_succ_of_lt hm)]
      rfl
    · exact ih fun m v hm => h m v (Nat.lt_succ_of_lt hm)
theorem v_num_some {v : T_} (h : (v_num v).isSome = true) : ∃ x, v = vN x ∧ v_num v = some x := by
  unfold v_num at h
  split at h
  · exact ⟨_, rfl, rfl⟩
  · cases h
/-- a call that may be kept: nothing in it is imported -/
theorem fit_ni {f : T_} (h : v_isF f = true) (hg : v_go f) (hk : k_fit (v_code f) (v_clos f) = true) : v_ni f = true := by
  obtain ⟨x, rfl⟩ := v_isF_of h
  cases x with
  | append e cl =>
    obtain ⟨-, -, E, rfl⟩ := hg
    have hk1 := (Bool.and_eq_true _ _).mp hk
    have hi : (!e_imp (e_part e)) = true := hk1.1
    have ha : ((List.range 10).all fun m => !e_use e m || (k_nums e (n_clos E (e_use e) 10) m).isSome) = true := hk1.2
    rw [List.all_eq_true] at ha
    show (!e_imp (e_part e) && v_ni _) = true
    rw [hi, n_clos_ni' 10 fun m v hm hu hv => ?_]
    · rfl
    · have h1 := ha m (List.mem_range.mpr hm)
      rw [hu] at h1
      have h1 : (k_nums e (n_clos E (e_use e) 10) m).isSome = true := h1
      unfold k_nums at h1
      rw [if_pos hu, n_get_clos, if_pos ⟨hm, hu⟩, hv] at h1
      obtain ⟨x, rfl, -⟩ := v_num_some h1
      rfl
  | _ => rfl
/-! ===== the evaluator: no IMPORT, no file ===== -/
def eNQ (s s1 : S_) : Prop := s_fs s1 = s_fs s ∧ s_fe s1 = s_fe s
def eNK (K : K_) : Prop := ∀ sil e E hb s v E1 s1, K sil e E hb s = some (v, E1, s1) → e_imp e = false → n_ni E → eNQ s s1 ∧ v_ni v = true ∧ n_ni E1
theorem eNQ_tr {s s1 s2 : S_} (h : eNQ s s1) (g : eNQ s1 s2) : eNQ s s2 := ⟨g.1.trans h.1, g.2.trans h.2⟩
theorem eNQ_refl {s : S_} : eNQ s s := ⟨rfl, rfl⟩
theorem eNQ_go {s s1 : S_} (h : eNQ (u_go s) s1) : eNQ s s1 := ⟨h.1, h.2⟩
theorem eNQ_nd {s s1 : S_} {k : Nat} (h : eNQ s s1) : eNQ s (u_nd s1 k) := ⟨h.1, h.2⟩
theorem eNQ_funs {s : S_} {C : C_} {v : T_} {id : Nat} : eNQ s (f_funs C v id s) := by
  unfold f_funs
  obtain ⟨l, h, -⟩ := f_notes_eq C (f_code 3 id) (min 60 (v_nf v)) s
  rw [h]
  exact ⟨rfl, rfl⟩
theorem o_bad_N {C : C_} {k id : Nat} {E E1 : N_} {s s1 : S_} {v : T_} (h : o_bad C k id E s = some (v, E1, s1)) (hE : n_ni E) : eNQ s s1 ∧ v_ni v = true ∧ n_ni E1 := by
  unfold o_bad at h
  cases h
  exact ⟨⟨rfl, rfl⟩, rfl, hE⟩
theorem o_name_N {C : C_} {id : Nat} {o : Option T_} {E E1 : N_} {s s1 : S_} {v : T_} (h : o_name C id o E s = some (v, E1, s1)) (ho : ∀ x, o = some x → v_ni x = true) (hE : n_ni E) : eNQ s s1 ∧ v_ni v = true ∧ n_ni E1 := by
  cases o with
  | none => exact o_bad_N h hE
  | some x => cases h; exact ⟨eNQ_refl, ho _ rfl, hE⟩
theorem o_ask_N {C : C_} {q id : Nat} {E E1 : N_} {s s1 : S_} {v : T_} (h : o_ask C q id E s = some (v, E1, s1)) (hE : n_ni E) : eNQ s s1 ∧ v_ni v = true ∧ n_ni E1 := by
  unfold o_ask at h
  cases c : C.1 q with
  | none => rw [c] at h; exact o_bad_N h hE
  | some x =>
    rw [c] at h
    cases h
    exact ⟨⟨rfl, rfl⟩, rfl, hE⟩
theorem o_mk_N {k : Nat} {e : T_} {E E1 : N_} {s s1 : S_} {v : T_} (hk : k = 7 ∨ k = 12 ∧ e_imp (e_part e) = false) (h : o_mk k e E s = some (v, E1, s1)) (hE : n_ni E) : eNQ s s1 ∧ v_ni v = true ∧ n_ni E1 := by
  unfold o_mk at h
  split at h
  · cases h
    refine ⟨⟨rfl, rfl⟩, ?_, hE⟩
    rcases hk with rfl | ⟨rfl, he⟩
    · rfl
    · show (!e_imp (e_part e) && v_ni _) = true
      rw [he, n_clos_ni hE]
      rfl
  · cases h
theorem o_two_N {C : C_} {k id : Nat} {a b : T_} {E E1 : N_} {s s1 : S_} {v : T_} (h : o_two C k id a b E s = some (v, E1, s1)) (hE : n_ni E) : eNQ s s1 ∧ v_ni v = true ∧ n_ni E1 := by
  unfold o_two at h
  split at h
  · cases h; exact ⟨eNQ_refl, rfl, hE⟩
  · split at h
    · cases h; exact ⟨eNQ_refl, rfl, hE⟩
    · exact o_bad_N h hE
theorem o_mark_N {C : C_} {k id : Nat} {n : Int} {v e : T_} {E E1 : N_} {s s1 : S_} {w : T_} (h : o_mark C k n id v e E s = some (w, E1, s1)) (hE : n_ni E) : eNQ s s1 ∧ v_ni w = true ∧ n_ni E1 := by
  unfold o_mark at h
  split at h
  · cases h; exact ⟨eNQ_refl, rfl, hE⟩
  · split at h
    · split at h
      · cases h; exact ⟨⟨rfl, rfl⟩, rfl, hE⟩
      · exact o_bad_N h hE
    · split at h
      · cases h; exact ⟨⟨rfl, rfl⟩, rfl, hE⟩
      · exact o_bad_N h hE
theorem o_one_N {L : Nat} {C : C_} {k id : Nat} {n : Int} {a v e : T_} {E E1 : N_} {s s1 : S_} {w : T_} (h : o_one L C k n id a v e E s = some (w, E1, s1)) (hE : n_ni E) (hv : v_ni v = true) : eNQ s s1 ∧ v_ni w = true ∧ n_ni E1 := by
  by_cases ke : k ≠ 15 ∧ k ≠ 18 ∧ k ≠ 19 ∧ k ≠ 20 ∧ k ≠ 21 ∧ k ≠ 28
  · rcases pk_or v with ⟨x, y, rfl⟩ | hp
    · rw [pk_13 ke] at h
      cases h
      have h1 := (Bool.and_eq_true _ _).mp hv
      refine ⟨eNQ_refl, ?_, hE⟩
      split
      · exact h1.1
      · exact h1.2
    · rw [hp _ _ _ _ _ _ _ _ _ ke] at h
      split at h
      · cases h; exact ⟨eNQ_refl, rfl, hE⟩
      · exact o_bad_N h hE
  unfold o_one at h
  split at h
  · cases h; exact ⟨eNQ_refl, rfl, n_set_ni hE hv⟩
  · exact o_mark_N h hE
  · exact o_mark_N h hE
  · split at h
    · rename_i hf
      cases h
      obtain ⟨-, rfl⟩ := f_fu_inv hf
      exact ⟨eNQ_nd eNQ_funs, rfl, hE⟩
    · cases h
  · split at h
    · cases h; exact ⟨eNQ_refl, rfl, hE⟩
    · split at h
      · cases h; exact ⟨⟨rfl, rfl⟩, rfl, hE⟩
      · exact o_bad_N h hE
  · split at h
    · rename_i hf
      cases h
      obtain ⟨-, rfl⟩ := f_fu_inv hf
      exact ⟨eNQ_funs, rfl, hE⟩
    · cases h
  · exfalso
    apply ke
    refine ⟨?_, ?_, ?_, ?_, ?_, ?_⟩ <;> assumption
theorem o_pair_N {L : Nat} {C : C_} {k id : Nat} {a b x y : T_} {E E1 : N_} {s s1 : S_} {w : T_} (h : o_pair L C k id a b x y E s = some (w, E1, s1)) (hE : n_ni E) (hx : v_ni x = true) (hy : v_ni y = true) : eNQ s s1 ∧ v_ni w = true ∧ n_ni E1 := by
  unfold o_pair at h
  split at h
  · split at h
    · rename_i hf
      split at h
      · rename_i hg
        cases h
        obtain ⟨-, rfl⟩ := f_fu_inv hf
        obtain ⟨-, rfl⟩ := f_fu_inv hg
        exact ⟨eNQ_nd (eNQ_tr eNQ_funs eNQ_funs), v_join_ni hx hy, hE⟩
      · cases h
    · cases h
  · split at h
    · cases h
      refine ⟨⟨rfl, rfl⟩, ?_, hE⟩
      show (v_ni x && v_ni y) = true
      rw [hx, hy]
      rfl
    · exact o_two_N h hE
theorem t_frm_N {L : Nat} {rec : K_} {C : C_} {sil : Bool} (hK : eNK rec) : ∀ (m : Nat) (t : T_), it_len t ≤ m → ∀ (w : Nat) (E : N_) (s : S_) (w1 : Nat) (E1 : N_) (s1 : S_), t_frm L rec C sil t w E s = some (w1, E1, s1) → e_imp t = false → n_ni E → eNQ s s1 ∧ n_ni E1 := by
  intro m
  induction m with
  | zero =>
    intro t ht w E s w1 E1 s1 h hi hE
    rcases ct_or t with ⟨k, n, id, x, r, rfl⟩ | ⟨-, he⟩
    · rw [it_ct] at ht; omega
    · rw [he] at h
      cases h
      exact ⟨eNQ_refl, hE⟩
  | succ m ih =>
    intro t ht w E s w1 E1 s1 h hi hE
    rcases ct_or t with ⟨k, n, id, x, r, rfl⟩ | ⟨-, he⟩
    · rw [it_ct] at ht
      obtain ⟨hi1, hi2⟩ := e_imp_ct hi
      rw [t_frm_ct] at h
      split at h
      · split at h
        · split at h
          · rename_i v E2 s2 hr
            split at h
            · rename_i s3 hf
              obtain ⟨-, rfl⟩ := f_fu_inv hf
              obtain ⟨a1, a2, a3⟩ := hK _ _ _ _ _ _ _ _ hr hi1 hE
              obtain ⟨b1, b2⟩ := ih r (by omega) _ _ _ _ _ _ h hi2 a3
              exact ⟨eNQ_go (eNQ_tr a1 (eNQ_tr eNQ_funs b1)), b2⟩
            · cases h
          · cases h
        · obtain ⟨b1, b2⟩ := ih r (by omega) _ _ _ _ _ _ h hi2 hE
          exact ⟨eNQ_go b1, b2⟩
      · cases h
    · rw [he] at h
      cases h
      exact ⟨eNQ_refl, hE⟩
theorem t_item_N {L : Nat} {rec : K_} {C : C_} {sil : Bool} (hK : eNK rec) {k : Nat} {n : Int} {x : T_} {E E1 : N_} {s s1 : S_} {v : T_} (h : t_item L rec C sil k n x E s = some (v, E1, s1)) (hi : e_imp x = false) (hE : n_ni E) : eNQ s s1 ∧ n_ni E1 := by
  unfold t_item at h
  split at h
  · split at h
    · rename_i v E2 s2 hr
      split at h
      · rename_i s3 hf
        obtain ⟨-, rfl⟩ := f_fu_inv hf
        cases h
        obtain ⟨a1, a2, a3⟩ := hK _ _ _ _ _ _ _ _ hr hi hE
        exact ⟨eNQ_nd (eNQ_go (eNQ_tr a1 eNQ_funs)), a3⟩
      · cases h
    · cases h
  · split at h
    · split at h
      · rename_i w E2 s2 hr
        cases h
        obtain ⟨b1, b2⟩ := t_frm_N hK _ _ (Nat.le_refl _) _ _ _ _ _ _ hr hi hE
        exact ⟨eNQ_nd (eNQ_go b1), b2⟩
      · cases h
    · cases h
      exact ⟨⟨rfl, rfl⟩, hE⟩
theorem t_run_N {L : Nat} {rec : K_} {C : C_} {sil : Bool} (hK : eNK rec) : ∀ (m : Nat) (t : T_), it_len t ≤ m → ∀ (q : T_) (f : Bool) (E : N_) (s : S_) (q1 : T_) (f1 : Bool) (E1 : N_) (s1 : S_), t_run L rec C sil t q f E s = some (q1, f1, E1, s1) → e_imp t = false → n_ni E → eNQ s s1 ∧ n_ni E1 := by
  intro m
  induction m with
  | zero =>
    intro t ht q f E s q1 f1 E1 s1 h hi hE
    rcases ct_or t with ⟨k, n, id, x, r, rfl⟩ | ⟨he, -⟩
    · rw [it_ct] at ht; omega
    · rw [he] at h
      cases h
      exact ⟨eNQ_refl, hE⟩
  | succ m ih =>
    intro t ht q f E s q1 f1 E1 s1 h hi hE
    rcases ct_or t with ⟨k, n, id, x, r, rfl⟩ | ⟨he, -⟩
    · rw [it_ct] at ht
      obtain ⟨hi1, hi2⟩ := e_imp_ct hi
      rw [t_run_ct] at h
      split at h
      · split at h
        · rename_i v E2 s2 hr
          obtain ⟨a1, a2⟩ := t_item_N hK hr hi1 hE
          obtain ⟨b1, b2⟩ := ih r (by omega) _ _ _ _ _ _ _ _ h hi2 a2
          exact ⟨eNQ_tr a1 ⟨b1.1, b1.2⟩, b2⟩
        · cases h
      · cases h
    · rw [he] at h
      cases h
      exact ⟨eNQ_refl, hE⟩
theorem t_block_N {L : Nat} {rec : K_} {C : C_} {sil : Bool} (hK : eNK rec) {t : T_} {E E1 : N_} {s s1 : S_} {v : T_} (h : t_block L rec C sil t E s = some (v, E1, s1)) (hi : e_imp t = false) (hE : n_ni E) : eNQ s s1 ∧ v_ni v = true := by
  unfold t_block at h
  split at h
  · rename_i q f E2 s2 hr
    cases h
    obtain ⟨a1, a2⟩ := t_run_N hK _ _ (Nat.le_refl _) _ _ _ _ _ _ _ _ hr hi hE
    refine ⟨⟨a1.1, a1.2⟩, ?_⟩
    split
    · exact v_ni_9 _
    · rfl
  · cases h
theorem o_body_N {rec : K_} {C : C_} {sil keep : Bool} (hK : eNK rec) {fn v w : T_} {s s2 : S_} (h : o_body rec C sil keep fn v s = some (w, s2)) (hf : v_isF fn = true) (hn : v_ni fn = true) (hv : v_ni v = true) : eNQ s s2 ∧ v_ni w = true := by
  obtain ⟨-, E1, s1, me, hr, -, rfl, -⟩ := o_body_inv h
  obtain ⟨hi, hc⟩ := fn_ni hf hn
  obtain ⟨a1, a2, a3⟩ := hK _ _ _ _ _ _ _ _ hr hi (n_body_ni hc hv hn)
  exact ⟨⟨a1.1, a1.2⟩, a2⟩
theorem o_call_N {rec : K_} {C : C_} {sil : Bool} (hK : eNK rec) {id : Nat} {fn v w : T_} {E E1 : N_} {s s1 : S_} (h : o_call rec C sil id fn v E s = some (w, E1, s1)) (hf : v_isF fn = true) (hn : v_ni fn = true) (hv : v_ni v = true) (hE : n_ni E) : eNQ s s1 ∧ v_ni w = true ∧ n_ni E1 := by
  obtain ⟨rfl, ⟨-, rfl, rfl⟩ | ⟨-, ⟨-, rfl, rfl⟩ | ⟨-, ⟨-, rfl, rfl⟩ | ⟨-, ⟨r, -, hq⟩ | ⟨-, hq⟩⟩⟩⟩⟩ := o_call_inv h
  · exact ⟨eNQ_refl, rfl, hE⟩
  · exact ⟨⟨rfl, rfl⟩, rfl, hE⟩
  · exact ⟨⟨rfl, rfl⟩, rfl, hE⟩
  · obtain ⟨a1, a2⟩ := o_body_N hK hq hf hn hv
    exact ⟨⟨a1.1, a1.2⟩, a2, hE⟩
  · obtain ⟨a1, a2⟩ := o_body_N hK hq hf hn hv
    exact ⟨⟨a1.1, a1.2⟩, a2, hE⟩
theorem ev1_N {L : Nat} {C : C_} {r1 r2 r4 : K_} (h1 : eNK r1) (h2 : eNK r2) : eNK (ev1 L C r1 r2 r4) := by
  intro sil e E hb s v E1 s1 h hi hE
  have K0 : eNQ (u_go s) s1 ∧ v_ni v = true ∧ n_ni E1 → eNQ s s1 ∧ v_ni v = true ∧ n_ni E1 := fun k => ⟨eNQ_go k.1, k.2⟩
  rcases ce_or e with ⟨k, n, id, a, b, c, rfl⟩ | he
  · obtain ⟨k29, ia, ib, ic⟩ := e_imp_ce hi
    by_cases ko : k < 6 ∨ 31 < k
    · rw [ev1_oth ko] at h
      split at h
      · cases h; exact ⟨⟨rfl, rfl⟩, rfl, hE⟩
      · cases h
    · have kk : k = 6 ∨ k = 7 ∨ k = 8 ∨ k = 16 ∨ k = 22 ∨ k = 23 ∨ k = 24 ∨ k = 25 ∨ k = 26 ∨ k = 27 ∨ k = 14 ∨ k = 17 ∨ (k = 9 ∨ k = 10 ∨ k = 11 ∨ k = 12 ∨ k = 13 ∨ k = 30) ∨ (k = 15 ∨ k = 20 ∨ k = 21 ∨ k = 28 ∨ k = 31) ∨ (k = 18 ∨ k = 19) := by omega
      rcases kk with rfl | rfl | rfl | rfl | rfl | rfl | rfl | rfl | rfl | rfl | rfl | rfl | kk | kk | kk
      · rw [ev1_6] at h
        split at h
        · cases h; exact ⟨⟨rfl, rfl⟩, rfl, hE⟩
        · cases h
      · rw [ev1_7] at h
        split at h
        · exact K0 (o_name_N h (fun x q => hE _ _ q) hE)
        · cases h
      · rw [ev1_8] at h
        split at h
        · split at h
          · split at h
            · rename_i w E2 s2 hr
              cases h
              obtain ⟨a1, a2⟩ := t_block_N h2 hr ia hE
              exact ⟨⟨a1.1, a1.2⟩, a2, hE⟩
            · cases h
          · cases h
        · cases h
      · rw [ev1_16] at h
        split at h
        · exact K0 (o_mk_N (e := ce 16 n id a b c) (Or.inr ⟨rfl, ia⟩) h hE)
        · cases h
      · rw [ev1_22] at h
        split at h
        · exact K0 (o_mk_N (Or.inl rfl) h hE)
        · cases h
      · rw [ev1_23] at h
        split at h
        · exact K0 (o_ask_N h hE)
        · cases h
      · rw [ev1_24] at h
        split at h
        · exact K0 (o_ask_N h hE)
        · cases h
      · rw [ev1_25] at h
        split at h
        · exact K0 (o_ask_N h hE)
        · cases h
      · rw [ev1_26] at h
        split at h
        · exact K0 (o_ask_N h hE)
        · cases h
      · rw [ev1_27] at h
        split at h
        · exact K0 (o_ask_N h hE)
        · cases h
      · rw [ev1_14] at h
        split at h
        · split at h
          · rename_i w E2 s2 hr
            obtain ⟨a1, a2, a3⟩ := h1 _ _ _ _ _ _ _ _ hr ia hE
            split at h
            · cases h; exact K0 ⟨a1, rfl, a3⟩
            · split at h
              · obtain ⟨b1, b2⟩ := h1 _ _ _ _ _ _ _ _ h (by split <;> assumption) a3
                exact K0 ⟨eNQ_tr a1 b1, b2⟩
              · obtain ⟨b1, b2⟩ := o_bad_N h a3
                exact K0 ⟨eNQ_tr a1 b1, b2⟩
          · cases h
        · cases h
      · rw [ev1_17] at h
        split at h
        · split at h
          · rename_i w E2 s2 hr
            obtain ⟨a1, a2, a3⟩ := h1 _ _ _ _ _ _ _ _ hr ia hE
            split at h
            · cases h; exact K0 ⟨a1, rfl, a3⟩
            · split at h
              · rename_i hf
                split at h
                · rename_i w2 E3 s3 hr2
                  obtain ⟨b1, b2, b3⟩ := h1 _ _ _ _ _ _ _ _ hr2 ib a3
                  obtain ⟨d1, d2⟩ := o_call_N h2 h hf a2 b2 b3
                  exact K0 ⟨eNQ_tr a1 (eNQ_tr b1 d1), d2⟩
                · cases h
              · obtain ⟨b1, b2⟩ := o_bad_N h a3
                exact K0 ⟨eNQ_tr a1 b1, b2⟩
          · cases h
        · cases h
      · rw [ev1_two kk] at h
        split at h
        · split at h
          · rename_i w E2 s2 hr
            obtain ⟨a1, a2, a3⟩ := h1 _ _ _ _ _ _ _ _ hr ia hE
            split at h
            · rename_i w2 E3 s3 hr2
              obtain ⟨b1, b2, b3⟩ := h1 _ _ _ _ _ _ _ _ hr2 ib a3
              obtain ⟨d1, d2⟩ := o_pair_N h b3 a2 b2
              exact K0 ⟨eNQ_tr a1 (eNQ_tr b1 d1), d2⟩
            · cases h
          · cases h
        · cases h
      · rw [ev1_one (by omega)] at h
        split at h
        · split at h
          · rename_i w E2 s2 hr
            obtain ⟨a1, a2, a3⟩ := h1 _ _ _ _ _ _ _ _ hr ia hE
            obtain ⟨d1, d2⟩ := o_one_N h a3 a2
            exact K0 ⟨eNQ_tr a1 d1, d2⟩
          · cases h
        · cases h
      · cases hb with
        | false =>
          rw [ev1_pl kk] at h
          split at h
          · exact K0 (o_bad_N h hE)
          · cases h
        | true =>
          rw [ev1_one (Or.inr (Or.inr (Or.inr (Or.inr (Or.inr ⟨kk, rfl⟩)))))] at h
          split at h
          · split at h
            · rename_i w E2 s2 hr
              obtain ⟨a1, a2, a3⟩ := h1 _ _ _ _ _ _ _ _ hr ia hE
              obtain ⟨d1, d2⟩ := o_one_N h a3 a2
              exact K0 ⟨eNQ_tr a1 d1, d2⟩
            · cases h
          · cases h
  · rw [he] at h
    cases h
    exact ⟨⟨rfl, rfl⟩, rfl, hE⟩
theorem ev_N (C : C_) : ∀ n, eNK (ev C n) := by
  intro n
  induction n using Nat.strongRecOn with
  | _ n ih =>
    match n, ih with
    | 0, _ => intro _ _ _ _ _ _ _ _ h; cases h
    | 1, _ => intro _ _ _ _ _ _ _ _ h; cases h
    | 2, _ => intro _ _ _ _ _ _ _ _ h; cases h
    | 3, _ => intro _ _ _ _ _ _ _ _ h; cases h
    | n + 4, ih =>
      rw [ev_4]
      exact ev1_N (ih (n + 3) (by omega)) (ih (n + 2) (by omega))
