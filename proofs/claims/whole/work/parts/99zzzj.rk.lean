/-! ===== the evaluator: rules that hold at once ===== -/
/-- rules told in a chain -/
def v_rn : T_ → Nat
  | .tag 8 (.append a b) => v_rn a + v_rn b
  | .tag 13 (.append a b) => v_rn a + v_rn b
  | .tag 11 _ => 1
  | _ => 0
/-- rules that hold at once while it is realized -/
def v_R : T_ → Nat
  | .tag 8 (.append a b) => max (v_R a) (v_rn a + v_R b)
  | .tag 13 (.append a b) => max (v_R a) (v_rn a + v_R b)
  | .tag 9 v => v_R v
  | .tag 5 (.tag _ v) => v_R v
  | .tag 11 (.tag _ (.append _ f)) => max 1 (v_R f)
  | .tag 12 (.append _ cl) => v_R cl
  | .tag 7 (.append _ cl) => v_R cl
  | .append (.tag _ v) r => max (v_R v) (v_R r)
  | _ => 0
/-- what has a name, or is the part of a value, is no mark -/
def v_rg : T_ → Prop
  | .tag 8 (.append a b) => v_rg a ∧ v_rg b
  | .tag 13 (.append a b) => v_rn a = 0 ∧ v_rn b = 0 ∧ v_rg a ∧ v_rg b
  | .tag 9 v => v_rg v
  | .tag 5 (.tag _ v) => v_rn v = 0 ∧ v_rg v
  | .tag 11 (.tag _ (.append _ f)) => v_rg f
  | .tag 12 (.append _ cl) => v_rg cl
  | .tag 7 (.append _ cl) => v_rg cl
  | .append (.tag _ v) r => v_rn v = 0 ∧ v_rg v ∧ v_rg r
  | _ => True
def rv (T : Nat) (v : T_) : Prop := v_rn v = 0 ∧ v_rg v ∧ v_R v ≤ T
def nV (T : Nat) (E : N_) : Prop := ∀ m v, E m = some v → rv T v
abbrev rT (o : Nat) (s : S_) : Nat := s_tb s - o - v_rn (s_tl s)
def sV (o : Nat) (s : S_) : Prop := (∀ g, s_fs s g ≠ 0 ∧ s_fs s g ≠ 1 → nV (rT o s) (s_fe s g)) ∧ (v_R (s_tl s) + o ≤ s_tb s ∧ v_rg (s_tl s)) ∧ o + v_rn (s_tl s) ≤ s_tb s
def sM (s s1 : S_) : Prop := s_tb s + v_rn (s_tl s1) ≤ s_tb s1 + v_rn (s_tl s) ∧ s_tb s ≤ s_tb s1
def eVQ (o : Nat) (s : S_) (v : T_) (E1 : N_) (s1 : S_) : Prop := sM s s1 ∧ sV o s1 ∧ rv (rT o s1) v ∧ nV (rT o s1) E1
def eVK (K : K_) : Prop := ∀ o sil e E hb s v E1 s1, K sil e E hb s = some (v, E1, s1) → sV o s → nV (rT o s) E → eVQ o s v E1 s1
theorem rv_mono {T T' : Nat} {v : T_} (h : rv T v) (hT : T ≤ T') : rv T' v := ⟨h.1, h.2.1, Nat.le_trans h.2.2 hT⟩
theorem nV_mono {T T' : Nat} {E : N_} (h : nV T E) (hT : T ≤ T') : nV T' E := fun m v e => rv_mono (h m v e) hT
theorem sM_tr {s s1 s2 : S_} (h : sM s s1) (g : sM s1 s2) : sM s s2 := by
  unfold sM at *
  omega
theorem sM_refl {s : S_} : sM s s := ⟨Nat.le_refl _, Nat.le_refl _⟩
theorem rT_le {o : Nat} {s s1 : S_} (h : sM s s1) : rT o s ≤ rT o s1 := by
  have := h.1
  show s_tb s - o - v_rn (s_tl s) ≤ s_tb s1 - o - v_rn (s_tl s1)
  omega
theorem rv_N {T : Nat} (x : Int) : rv T (vN x) := ⟨rfl, trivial, Nat.zero_le _⟩
theorem rv_0 {T : Nat} : rv T v0 := ⟨rfl, trivial, Nat.zero_le _⟩
theorem rv_W {T : Nat} : rv T vW := ⟨rfl, trivial, Nat.zero_le _⟩
theorem rv_E {T : Nat} : rv T vE := ⟨rfl, trivial, Nat.zero_le _⟩
theorem v_rn_9 (q : T_) : v_rn (.tag 9 q) = 0 := by cases q <;> rfl
theorem v_R_9 (q : T_) : v_R (.tag 9 q) = v_R q := by cases q <;> rfl
theorem v_rg_9 (q : T_) : v_rg (.tag 9 q) = v_rg q := by cases q <;> rfl
theorem v_rn_8 (a b : T_) : v_rn (.tag 8 (.append a b)) = v_rn a + v_rn b := rfl
theorem v_R_8 (a b : T_) : v_R (.tag 8 (.append a b)) = max (v_R a) (v_rn a + v_R b) := rfl
theorem ch_V (a b : T_) : v_rn (v_chain a b) = v_rn a + v_rn b ∧ v_R (v_chain a b) ≤ max (v_R a) (v_rn a + v_R b) ∧ (v_rg a → v_rg b → v_rg (v_chain a b)) := by
  by_cases c : a = .nil
  · subst c
    rw [v_chain_nil]
    refine ⟨?_, ?_, fun _ h => h⟩
    · show v_rn b = 0 + v_rn b
      omega
    · show v_R b ≤ max 0 (0 + v_R b)
      omega
  · rw [v_chain_ne c]
    exact ⟨rfl, Nat.le_refl _, fun h g => ⟨h, g⟩⟩
theorem n_clos_V {T : Nat} {E : N_} {u : Nat → Bool} (h : nV T E) : ∀ k, v_rg (n_clos E u k) ∧ v_R (n_clos E u k) ≤ T := by
  intro k
  induction k with
  | zero => exact ⟨trivial, Nat.zero_le _⟩
  | succ k ih =>
    rw [n_clos]
    split
    · rename_i v hu hv
      obtain ⟨a1, a2, a3⟩ := h _ _ hv
      refine ⟨⟨a1, a2, ih.1⟩, ?_⟩
      have i2 := ih.2
      show max (v_R v) (v_R _) ≤ T
      omega
    · exact ih
theorem n_get_V : ∀ (cl : T_) (T : Nat), v_rg cl → v_R cl ≤ T → nV T (n_get cl) := by
  intro cl
  induction cl with
  | append x r ihx ihr =>
    cases x with
    | tag m v0 =>
      intro T h hm k v e
      obtain ⟨a1, a2, a3⟩ := h
      have hm1 : max (v_R v0) (v_R r) ≤ T := hm
      have e1 : (if k = m then some v0 else n_get r k) = some v := e
      by_cases c : k = m
      · rw [if_pos c] at e1
        cases e1
        exact ⟨a1, a2, by omega⟩
      · rw [if_neg c] at e1
        exact ihr T a3 (by omega) k v e1
    | _ => intro T _ _ k v e; cases e
  | _ => intro T _ _ k v e; cases e
theorem n_set_V {T : Nat} {E : N_} {m : Nat} {v : T_} (h : nV T E) (hv : rv T v) : nV T (n_set E m v) := by
  intro k w e
  have e1 : (if k = m then some v else E k) = some w := e
  by_cases c : k = m
  · rw [if_pos c] at e1
    cases e1
    exact hv
  · rw [if_neg c] at e1
    exact h k w e1
theorem n_body_V {f v : T_} {T : Nat} (h : v_isF f = true) (hf : rv T f) (hv : rv T v) : nV T (n_body (v_code f) (v_clos f) v f) := by
  have h0 : nV T (n_get (v_clos f)) := by
    obtain ⟨x, rfl⟩ := v_isF_of h
    cases x with
    | append e cl => exact n_get_V cl T hf.2.1 hf.2.2
    | _ => intro k w e; cases e
  unfold n_body
  refine n_set_V ?_ hv
  split
  · exact n_set_V h0 hf
  · exact h0
theorem v_join_V {a b : T_} {T : Nat} (ha : rv T a) (hb : rv T b) : rv T (v_join a b) := by
  obtain ⟨a1, a2, a3⟩ := ha
  obtain ⟨b1, b2, b3⟩ := hb
  have G : ∀ x y : T_, rv T x → rv T y → rv T (.tag 8 (.append x y)) := fun x y ⟨x1, x2, x3⟩ ⟨y1, y2, y3⟩ => ⟨by rw [v_rn_8]; omega, ⟨x2, y2⟩, by rw [v_R_8]; omega⟩
  unfold v_join
  split
  · exact rv_E
  · split
    · exact ⟨a1, a2, a3⟩
    · split
      · exact ⟨b1, b2, b3⟩
      · refine G _ _ ?_ ?_
        · split
          · exact ⟨a1, a2, a3⟩
          · exact rv_0
        · split
          · exact ⟨b1, b2, b3⟩
          · exact rv_0
/-- nothing that matters is another -/
theorem sV_eq {o : Nat} {s s1 : S_} (h : sV o s) (e1 : s_tb s1 = s_tb s) (e2 : s_tl s1 = s_tl s) (e3 : s_fs s1 = s_fs s) (e4 : s_fe s1 = s_fe s) : sV o s1 ∧ sM s s1 ∧ rT o s1 = rT o s := by
  unfold sV sM rT
  rw [e1, e2, e3, e4]
  exact ⟨h, ⟨Nat.le_refl _, Nat.le_refl _⟩, rfl⟩
/-- one more is open -/
theorem sV_go {o : Nat} {s : S_} (h : sV o s) : sV (o + 1) (u_go s) ∧ rT (o + 1) (u_go s) = rT o s := by
  have e : rT (o + 1) (u_go s) = rT o s := by
    show s_tb s + 1 - (o + 1) - v_rn (s_tl s) = s_tb s - o - v_rn (s_tl s)
    omega
  refine ⟨⟨fun g q => ?_, ⟨?_, h.2.1.2⟩, ?_⟩, e⟩
  · rw [e]
    exact h.1 g q
  · have := h.2.1.1
    show v_R (s_tl s) + (o + 1) ≤ s_tb s + 1
    omega
  · have := h.2.2
    show o + 1 + v_rn (s_tl s) ≤ s_tb s + 1
    omega
theorem sV_le {o o' : Nat} {s : S_} (h : sV o s) (ho : o' ≤ o) : sV o' s := by
  obtain ⟨h1, h2, h3⟩ := h
  exact ⟨fun g q => nV_mono (h1 g q) (by show s_tb s - o - _ ≤ s_tb s - o' - _; omega), ⟨by omega, h2.2⟩, by omega⟩
theorem rT_o {o o' : Nat} {s : S_} (ho : o' ≤ o) : rT o s ≤ rT o' s := by
  show s_tb s - o - v_rn (s_tl s) ≤ s_tb s - o' - v_rn (s_tl s)
  omega
/-- what an operation leaves -/
def oVQ (o : Nat) (s : S_) (v : T_) (E1 : N_) (s1 : S_) : Prop := sM s s1 ∧ sV o s1 ∧ rv (rT o s1) v ∧ nV (rT o s1) E1
theorem eV_end {o : Nat} {s s1 : S_} {v : T_} {E1 : N_} (h : eVQ (o + 1) (u_go s) v E1 s1) : eVQ o s v E1 s1 := by
  obtain ⟨h1, h2, h3, h4⟩ := h
  refine ⟨⟨?_, ?_⟩, sV_le h2 (Nat.le_succ o), rv_mono h3 (rT_o (Nat.le_succ o)), nV_mono h4 (rT_o (Nat.le_succ o))⟩
  · have : s_tb s + 1 + v_rn (s_tl s1) ≤ s_tb s1 + v_rn (s_tl s) := h1.1
    omega
  · have : s_tb s + 1 ≤ s_tb s1 := h1.2
    omega
theorem eV_tr {o : Nat} {s s1 s2 : S_} {v : T_} {E2 : N_} (h : sM s s1) (g : eVQ o s1 v E2 s2) : eVQ o s v E2 s2 := ⟨sM_tr h g.1, g.2⟩
theorem eV_same {o : Nat} {s s1 : S_} {v : T_} {E : N_} (h : sV o s) (e1 : s_tb s1 = s_tb s) (e2 : s_tl s1 = s_tl s) (e3 : s_fs s1 = s_fs s) (e4 : s_fe s1 = s_fe s) (hv : rv (rT o s) v) (hE : nV (rT o s) E) : eVQ o s v E s1 := by
  obtain ⟨h1, h2, h3⟩ := sV_eq h e1 e2 e3 e4
  exact ⟨h2, h1, by rw [h3]; exact hv, by rw [h3]; exact hE⟩
theorem funs_same (C : C_) (v : T_) (id : Nat) (s : S_) : s_tb (f_funs C v id s) = s_tb s ∧ s_tl (f_funs C v id s) = s_tl s ∧ s_fs (f_funs C v id s) = s_fs s ∧ s_fe (f_funs C v id s) = s_fe s := by
  unfold f_funs
  obtain ⟨l, h, -⟩ := f_notes_eq C (f_code 3 id) (min 60 (v_nf v)) s
  rw [h]
  exact ⟨rfl, rfl, rfl, rfl⟩
theorem o_bad_V {o : Nat} {C : C_} {k id : Nat} {E E1 : N_} {s s1 : S_} {v : T_} (h : o_bad C k id E s = some (v, E1, s1)) (H : sV o s) (hE : nV (rT o s) E) : eVQ o s v E1 s1 := by
  unfold o_bad at h
  cases h
  exact eV_same H rfl rfl rfl rfl rv_W hE
theorem o_name_V {o : Nat} {C : C_} {id : Nat} {x : Option T_} {E E1 : N_} {s s1 : S_} {v : T_} (h : o_name C id x E s = some (v, E1, s1)) (H : sV o s) (hE : nV (rT o s) E) (hx : ∀ y, x = some y → rv (rT o s) y) : eVQ o s v E1 s1 := by
  cases x with
  | none => exact o_bad_V h H hE
  | some x => cases h; exact eV_same H rfl rfl rfl rfl (hx _ rfl) hE
theorem o_ask_V {o : Nat} {C : C_} {q id : Nat} {E E1 : N_} {s s1 : S_} {v : T_} (h : o_ask C q id E s = some (v, E1, s1)) (H : sV o s) (hE : nV (rT o s) E) : eVQ o s v E1 s1 := by
  unfold o_ask at h
  cases c : C.1 q with
  | none => rw [c] at h; exact o_bad_V h H hE
  | some x =>
    rw [c] at h
    cases h
    exact eV_same H rfl rfl rfl rfl (rv_N _) hE
theorem o_mk_V {o k : Nat} {e : T_} {E E1 : N_} {s s1 : S_} {v : T_} (hk : k = 7 ∨ k = 12) (h : o_mk k e E s = some (v, E1, s1)) (H : sV o s) (hE : nV (rT o s) E) : eVQ o s v E1 s1 := by
  unfold o_mk at h
  split at h
  · cases h
    have q := n_clos_V (u := e_use e) hE 10
    refine eV_same H rfl rfl rfl rfl ?_ hE
    rcases hk with rfl | rfl
    · exact ⟨rfl, q.1, q.2⟩
    · exact ⟨rfl, q.1, q.2⟩
  · cases h
theorem o_two_V {o : Nat} {C : C_} {k id : Nat} {a b : T_} {E E1 : N_} {s s1 : S_} {v : T_} (h : o_two C k id a b E s = some (v, E1, s1)) (H : sV o s) (hE : nV (rT o s) E) : eVQ o s v E1 s1 := by
  unfold o_two at h
  split at h
  · cases h; exact eV_same H rfl rfl rfl rfl rv_W hE
  · split at h
    · cases h; exact eV_same H rfl rfl rfl rfl (rv_N _) hE
    · exact o_bad_V h H hE
/-- a mark is told -/
theorem eV_mk {o x : Nat} {s s1 : S_} {m v : T_} {E : N_} (Q : eVQ (o + 1) (u_go s) v E s1) (h1 : v_rn m ≤ 1) (h2 : v_R m ≤ max 1 (rT (o + 1) s1)) (h3 : v_rg m) : eVQ o s v0 E (u_tl (u_nd s1 x) (v_chain (s_tl s1) m)) := by
  obtain ⟨c1, c2, c3⟩ := ch_V (s_tl s1) m
  obtain ⟨⟨M1, M2⟩, ⟨H1, ⟨H2, H3⟩, H4⟩, -, hE⟩ := Q
  have M1 : s_tb s + 1 + v_rn (s_tl s1) ≤ s_tb s1 + v_rn (s_tl s) := M1
  have M2 : s_tb s + 1 ≤ s_tb s1 := M2
  have e : rT (o + 1) s1 ≤ s_tb s1 - o - v_rn (v_chain (s_tl s1) m) := by
    show s_tb s1 - (o + 1) - v_rn (s_tl s1) ≤ _
    omega
  have h2' : v_R m ≤ max 1 (s_tb s1 - (o + 1) - v_rn (s_tl s1)) := h2
  refine ⟨⟨?_, ?_⟩, ⟨fun g q => nV_mono (H1 g q) e, ⟨?_, c3 H3 h3⟩, ?_⟩, rv_0, nV_mono hE e⟩
  · show s_tb s + v_rn (v_chain (s_tl s1) m) ≤ s_tb s1 + v_rn (s_tl s)
    omega
  · show s_tb s ≤ s_tb s1
    omega
  · show v_R (v_chain (s_tl s1) m) + o ≤ s_tb s1
    omega
  · show o + v_rn (v_chain (s_tl s1) m) ≤ s_tb s1
    omega
theorem o_mark_V {o : Nat} {C : C_} {k id : Nat} {n : Int} {v e : T_} {E1 E2 : N_} {s s1 s2 : S_} {w : T_} (Q : eVQ (o + 1) (u_go s) v E1 s1) (h : o_mark C k n id v e E1 s1 = some (w, E2, s2)) : eVQ o s w E2 s2 := by
  have bad : ∀ {k : Nat}, o_bad C k id E1 s1 = some (w, E2, s2) → eVQ o s w E2 s2 := fun h => eV_end (eV_tr Q.1 (o_bad_V h Q.2.1 Q.2.2.2))
  have wr : some ((vW : T_), E1, s1) = some (w, E2, s2) → eVQ o s w E2 s2 := fun h => by
    cases h
    exact eV_end ⟨Q.1, Q.2.1, rv_W, Q.2.2.2⟩
  unfold o_mark at h
  split at h
  · exact wr h
  · split at h
    · split at h
      · cases h
        exact eV_mk Q (Nat.zero_le _) (Nat.zero_le _) trivial
      · exact bad h
    · split at h
      · cases h
        exact eV_mk Q (Nat.le_refl _) (by
          have := Q.2.2.1.2.2
          show max 1 (v_R v) ≤ _
          omega) Q.2.2.1.2.1
      · exact bad h
theorem o_one_V {L o : Nat} {C : C_} {k id : Nat} {n : Int} {a v e : T_} {E1 E2 : N_} {s s1 s2 : S_} {w : T_} (Q : eVQ (o + 1) (u_go s) v E1 s1) (h : o_one L C k n id a v e E1 s1 = some (w, E2, s2)) : eVQ o s w E2 s2 := by
  have bad : ∀ {k : Nat}, o_bad C k id E1 s1 = some (w, E2, s2) → eVQ o s w E2 s2 := fun h => eV_end (eV_tr Q.1 (o_bad_V h Q.2.1 Q.2.2.2))
  have wr : some ((vW : T_), E1, s1) = some (w, E2, s2) → eVQ o s w E2 s2 := fun h => by
    cases h
    exact eV_end ⟨Q.1, Q.2.1, rv_W, Q.2.2.2⟩
  obtain ⟨V1, V2, V3⟩ := Q.2.2.1
  by_cases ke : k ≠ 15 ∧ k ≠ 18 ∧ k ≠ 19 ∧ k ≠ 20 ∧ k ≠ 21 ∧ k ≠ 28
  · rcases pk_or v with ⟨x, y, rfl⟩ | hp
    · rw [pk_13 ke] at h
      cases h
      obtain ⟨g1, g2, g3, g4⟩ := V2
      have V3 : max (v_R x) (v_rn x + v_R y) ≤ rT (o + 1) s1 := V3
      refine eV_end ⟨Q.1, Q.2.1, ?_, Q.2.2.2⟩
      split
      · exact ⟨g1, g3, by omega⟩
      · exact ⟨g2, g4, by omega⟩
    · rw [hp _ _ _ _ _ _ _ _ _ ke] at h
      split at h
      · exact wr h
      · exact bad h
  unfold o_one at h
  split at h
  · cases h
    exact eV_end ⟨Q.1, Q.2.1, rv_0, n_set_V Q.2.2.2 Q.2.2.1⟩
  · exact o_mark_V Q h
  · exact o_mark_V Q h
  · split at h
    · rename_i hf
      cases h
      obtain ⟨-, rfl⟩ := f_fu_inv hf
      obtain ⟨q1, q2, q3, q4⟩ := funs_same C v (e_id a) s1
      refine eV_end (eV_tr Q.1 (eV_same (s := s1) Q.2.1 q1 q2 q3 q4 ?_ Q.2.2.2))
      exact ⟨rfl, ⟨V1, V2⟩, V3⟩
    · cases h
  · split at h
    · exact wr h
    · split at h
      · cases h
        exact eV_end (eV_tr Q.1 (eV_same (s := s1) Q.2.1 rfl rfl rfl rfl ⟨rfl, trivial, Nat.zero_le _⟩ Q.2.2.2))
      · exact bad h
  · split at h
    · rename_i hf
      cases h
      obtain ⟨-, rfl⟩ := f_fu_inv hf
      obtain ⟨q1, q2, q3, q4⟩ := funs_same C v (e_id a) s1
      exact eV_end (eV_tr Q.1 (eV_same (s := s1) Q.2.1 q1 q2 q3 q4 (rv_N _) Q.2.2.2))
    · cases h
  · exfalso
    apply ke
    refine ⟨?_, ?_, ?_, ?_, ?_, ?_⟩ <;> assumption
theorem o_pair_V {L o : Nat} {C : C_} {k id : Nat} {a b x y : T_} {E E1 : N_} {s s1 : S_} {w : T_} (h : o_pair L C k id a b x y E s = some (w, E1, s1)) (H : sV o s) (hE : nV (rT o s) E) (hx : rv (rT o s) x) (hy : rv (rT o s) y) : eVQ o s w E1 s1 := by
  unfold o_pair at h
  split at h
  · split at h
    · rename_i hf
      split at h
      · rename_i hg
        cases h
        obtain ⟨-, rfl⟩ := f_fu_inv hf
        obtain ⟨-, rfl⟩ := f_fu_inv hg
        obtain ⟨q1, q2, q3, q4⟩ := funs_same C x (e_id a) s
        obtain ⟨p1, p2, p3, p4⟩ := funs_same C y (e_id b) (f_funs C x (e_id a) s)
        exact eV_same (s := s) H (p1.trans q1) (p2.trans q2) (p3.trans q3) (p4.trans q4) (v_join_V hx hy) hE
      · cases h
    · cases h
  · split at h
    · cases h
      obtain ⟨a1, a2, a3⟩ := hx
      obtain ⟨b1, b2, b3⟩ := hy
      refine eV_same H rfl rfl rfl rfl ⟨?_, ⟨a1, b1, a2, b2⟩, ?_⟩ hE
      · show v_rn x + v_rn y = 0
        omega
      · show max (v_R x) (v_rn x + v_R y) ≤ _
        omega
    · exact o_two_V h H hE
theorem t_frm_V {L : Nat} {rec : K_} {C : C_} {sil : Bool} (hK : eVK rec) : ∀ (m : Nat) (t : T_), it_len t ≤ m → ∀ (o w : Nat) (E : N_) (s : S_) (w1 : Nat) (E1 : N_) (s1 : S_), t_frm L rec C sil t w E s = some (w1, E1, s1) → sV o s → nV (rT o s) E → eVQ o s v0 E1 s1 := by
  intro m
  induction m with
  | zero =>
    intro t ht o w E s w1 E1 s1 h H hE
    rcases ct_or t with ⟨k, n, id, x, r, rfl⟩ | ⟨-, he⟩
    · rw [it_ct] at ht; omega
    · rw [he] at h
      cases h
      exact ⟨sM_refl, H, rv_0, hE⟩
  | succ m ih =>
    intro t ht o w E s w1 E1 s1 h H hE
    rcases ct_or t with ⟨k, n, id, x, r, rfl⟩ | ⟨-, he⟩
    · rw [it_ct] at ht
      rw [t_frm_ct] at h
      obtain ⟨G1, G2⟩ := sV_go H
      split at h
      · split at h
        · split at h
          · rename_i v E2 s2 hr
            split at h
            · rename_i s3 hf
              obtain ⟨-, rfl⟩ := f_fu_inv hf
              have Q := eV_end (hK (o + 1) _ _ _ _ _ _ _ _ hr G1 (by rw [G2]; exact hE))
              obtain ⟨q1, q2, q3, q4⟩ := funs_same C v (e_id x) s2
              obtain ⟨z1, z2, z3⟩ := sV_eq (s1 := f_funs C v (e_id x) s2) Q.2.1 q1 q2 q3 q4
              exact eV_tr (sM_tr Q.1 z2) (ih r (by omega) o _ _ _ _ _ _ h z1 (by rw [z3]; exact Q.2.2.2))
            · cases h
          · cases h
        · have Q := eV_end (s := s) (v := v0) (E1 := E) ⟨sM_refl, G1, rv_0, by rw [G2]; exact hE⟩
          exact eV_tr Q.1 (ih r (by omega) o _ _ _ _ _ _ h Q.2.1 Q.2.2.2)
      · cases h
    · rw [he] at h
      cases h
      exact ⟨sM_refl, H, rv_0, hE⟩
theorem t_item_V {L o : Nat} {rec : K_} {C : C_} {sil : Bool} (hK : eVK rec) {k : Nat} {n : Int} {x : T_} {E E1 : N_} {s s1 : S_} {v : T_} (h : t_item L rec C sil k n x E s = some (v, E1, s1)) (H : sV o s) (hE : nV (rT o s) E) : eVQ o s v E1 s1 := by
  obtain ⟨G1, G2⟩ := sV_go H
  have same : ∀ {w : T_} {E2 : N_} {s2 : S_} {y : Nat}, eVQ (o + 1) (u_go s) w E2 s2 → ∀ u, rv (rT (o + 1) s2) u → eVQ o s u E2 (u_nd s2 y) := fun Q u hu => eV_end (eV_tr Q.1 (eV_same Q.2.1 rfl rfl rfl rfl hu Q.2.2.2))
  unfold t_item at h
  split at h
  · split at h
    · rename_i v E2 s2 hr
      split at h
      · rename_i s3 hf
        obtain ⟨-, rfl⟩ := f_fu_inv hf
        cases h
        have Q := hK (o + 1) _ _ _ _ _ _ _ _ hr G1 (by rw [G2]; exact hE)
        obtain ⟨q1, q2, q3, q4⟩ := funs_same C v (e_id x) s2
        exact eV_end (eV_tr Q.1 (eV_same (s := s2) Q.2.1 q1 q2 q3 q4 Q.2.2.1 Q.2.2.2))
      · cases h
    · cases h
  · split at h
    · split at h
      · rename_i w E2 s2 hr
        cases h
        have Q := t_frm_V hK _ _ (Nat.le_refl _) (o + 1) _ _ _ _ _ _ hr G1 (by rw [G2]; exact hE)
        exact same Q _ ⟨rfl, trivial, Nat.zero_le _⟩
      · cases h
    · cases h
      refine same (w := v0) ⟨sM_refl, G1, rv_0, by rw [G2]; exact hE⟩ _ ?_
      unfold t_leaf
      split
      · exact ⟨rfl, trivial, Nat.zero_le _⟩
      · split
        · exact ⟨rfl, trivial, Nat.zero_le _⟩
        · exact ⟨rfl, trivial, Nat.zero_le _⟩
theorem t_run_V {L : Nat} {rec : K_} {C : C_} {sil : Bool} (hK : eVK rec) : ∀ (m : Nat) (t : T_), it_len t ≤ m → ∀ (o : Nat) (q : T_) (f : Bool) (E : N_) (s : S_) (q1 : T_) (f1 : Bool) (E1 : N_) (s1 : S_), t_run L rec C sil t q f E s = some (q1, f1, E1, s1) → s_tl s = .nil → sV (o + v_rn q) s → nV (rT (o + v_rn q) s) E → v_rg q → v_R q + o ≤ s_tb s → sM s s1 ∧ (s_tl s1 = .nil ∧ s_tb s + v_rn q1 ≤ s_tb s1 + v_rn q) ∧ sV (o + v_rn q1) s1 ∧ nV (rT (o + v_rn q1) s1) E1 ∧ v_rg q1 ∧ v_R q1 + o ≤ s_tb s1 := by
  intro m
  induction m with
  | zero =>
    intro t ht o q f E s q1 f1 E1 s1 h htl H hE hg hR
    rcases ct_or t with ⟨k, n, id, x, r, rfl⟩ | ⟨he, -⟩
    · rw [it_ct] at ht; omega
    · rw [he] at h
      cases h
      exact ⟨sM_refl, ⟨htl, Nat.le_refl _⟩, H, hE, hg, hR⟩
  | succ m ih =>
    intro t ht o q f E s q1 f1 E1 s1 h htl H hE hg hR
    rcases ct_or t with ⟨k, n, id, x, r, rfl⟩ | ⟨he, -⟩
    · rw [it_ct] at ht
      rw [t_run_ct] at h
      split at h
      · split at h
        · rename_i v E2 s2 hr
          obtain ⟨⟨M1, M2⟩, ⟨H1, ⟨H2, H3⟩, H4⟩, ⟨V1, V2, V3⟩, N2⟩ := t_item_V hK hr H hE
          rw [htl] at M1
          have M1 : s_tb s + v_rn (s_tl s2) ≤ s_tb s2 + 0 := M1
          have V3 : v_R v ≤ s_tb s2 - (o + v_rn q) - v_rn (s_tl s2) := V3
          -- what is joined so far
          have A : v_rn (t_app q f v).1 = v_rn q ∧ v_rg (t_app q f v).1 ∧ v_R (t_app q f v).1 + o ≤ s_tb s2 := by
            unfold t_app
            split
            · obtain ⟨c1, c2, c3⟩ := ch_V q v
              refine ⟨?_, c3 hg V2, ?_⟩
              · show v_rn (v_chain q v) = _
                omega
              · show v_R (v_chain q v) + o ≤ _
                omega
            · exact ⟨rfl, hg, by show v_R q + o ≤ _; omega⟩
          obtain ⟨A1, A2, A3⟩ := A
          have B : v_rn (t_mks (t_app q f v).1 s2) = v_rn q + v_rn (s_tl s2) ∧ v_rg (t_mks (t_app q f v).1 s2) ∧ v_R (t_mks (t_app q f v).1 s2) + o ≤ s_tb s2 := by
            by_cases c : s_tl s2 = .nil
            · rw [t_mks_nil c, c]
              exact ⟨by show _ = v_rn q + 0; omega, A2, A3⟩
            · rw [t_mks_ne c]
              obtain ⟨c1, c2, c3⟩ := ch_V (t_app q f v).1 (s_tl s2)
              exact ⟨by omega, c3 A2 H3, by omega⟩
          obtain ⟨B1, B2, B3⟩ := B
          have eT : rT (o + v_rn q) s2 ≤ rT (o + v_rn (t_mks (t_app q f v).1 s2)) (u_tl s2 .nil) := by
            show s_tb s2 - (o + v_rn q) - v_rn (s_tl s2) ≤ s_tb s2 - (o + v_rn (t_mks (t_app q f v).1 s2)) - 0
            omega
          have z := ih r (by omega) o _ _ E2 (u_tl s2 .nil) _ _ _ _ h rfl ⟨fun g q => nV_mono (H1 g q) eT, ⟨by show 0 + _ ≤ s_tb s2; omega, trivial⟩, by show _ + 0 ≤ s_tb s2; omega⟩ (nV_mono N2 eT) B2 (by show _ ≤ s_tb s2; exact B3)
          obtain ⟨⟨z1, z2⟩, ⟨z3, z4⟩, z5⟩ := z
          have z2 : s_tb s2 ≤ s_tb s1 := z2
          have z4 : s_tb s2 + v_rn q1 ≤ s_tb s1 + v_rn (t_mks (t_app q f v).1 s2) := z4
          refine ⟨⟨?_, by omega⟩, ⟨z3, by omega⟩, z5⟩
          rw [z3, htl]
          show s_tb s + 0 ≤ s_tb s1 + 0
          omega
        · cases h
      · cases h
    · rw [he] at h
      cases h
      exact ⟨sM_refl, ⟨htl, Nat.le_refl _⟩, H, hE, hg, hR⟩
theorem t_block_V {L o : Nat} {rec : K_} {C : C_} {sil : Bool} (hK : eVK rec) {t : T_} {E E1 : N_} {s s1 : S_} {v : T_} (h : t_block L rec C sil t E s = some (v, E1, s1)) (H : sV o s) (hE : nV (rT o s) E) : eVQ o s v E1 s1 := by
  unfold t_block at h
  split at h
  · rename_i q f E2 s2 hr
    cases h
    obtain ⟨H1, ⟨H2, H3⟩, H4⟩ := H
    have eT : rT (o + v_rn (s_tl s) + v_rn .nil) (u_tl s .nil) = rT o s := by
      show s_tb s - (o + v_rn (s_tl s) + 0) - 0 = s_tb s - o - v_rn (s_tl s)
      omega
    have z := t_run_V hK _ _ (Nat.le_refl _) (o + v_rn (s_tl s)) _ _ _ _ _ _ _ _ hr rfl ⟨fun g q => by rw [eT]; exact H1 g q, ⟨by show 0 + (o + v_rn (s_tl s) + 0) ≤ s_tb s; omega, trivial⟩, by show o + v_rn (s_tl s) + 0 + 0 ≤ s_tb s; omega⟩ (by rw [eT]; exact hE) trivial (by show 0 + (o + v_rn (s_tl s)) ≤ s_tb s; omega)
    obtain ⟨⟨z1, z2⟩, ⟨z3, z4⟩, ⟨y1, y2, y3⟩, z6, z7, z8⟩ := z
    have z2 : s_tb s ≤ s_tb s2 := z2
    have eT2 : rT (o + v_rn (s_tl s) + v_rn q) s2 ≤ rT o (u_tl (u_nd s2 1) (s_tl s)) := by
      show s_tb s2 - (o + v_rn (s_tl s) + v_rn q) - v_rn (s_tl s2) ≤ s_tb s2 - o - v_rn (s_tl s)
      omega
    refine ⟨⟨by show s_tb s + v_rn (s_tl s) ≤ s_tb s2 + v_rn (s_tl s); omega, z2⟩, ⟨fun g q => nV_mono (y1 g q) eT2, ⟨by show v_R (s_tl s) + o ≤ s_tb s2; omega, H3⟩, by show o + v_rn (s_tl s) ≤ s_tb s2; omega⟩, ?_, nV_mono z6 eT2⟩
    split
    · refine ⟨v_rn_9 q, by rw [v_rg_9]; exact z7, ?_⟩
      rw [v_R_9]
      show v_R q ≤ s_tb s2 - o - v_rn (s_tl s)
      omega
    · exact rv_E
  · cases h
theorem o_body_V {o : Nat} {rec : K_} {C : C_} {sil keep : Bool} (hK : eVK rec) {fn v w : T_} {E : N_} {s s2 : S_} (h : o_body rec C sil keep fn v s = some (w, s2)) (hf : v_isF fn = true) (H : sV o s) (hfn : rv (rT o s) fn) (hv : rv (rT o s) v) (hE : nV (rT o s) E) : eVQ o s w E s2 := by
  obtain ⟨-, E1, s1, me, hr, -, rfl, -⟩ := o_body_inv h
  have Q := hK o _ _ _ _ _ _ _ _ hr H (n_body_V hf hfn hv)
  exact ⟨Q.1, Q.2.1, Q.2.2.1, nV_mono hE (rT_le (s := s) (s1 := s1) Q.1)⟩
theorem o_call_V {o : Nat} {rec : K_} {C : C_} {sil : Bool} (hK : eVK rec) {id : Nat} {fn v w : T_} {E E1 : N_} {s s1 : S_} (h : o_call rec C sil id fn v E s = some (w, E1, s1)) (hf : v_isF fn = true) (H : sV o s) (hfn : rv (rT o s) fn) (hv : rv (rT o s) v) (hE : nV (rT o s) E) : eVQ o s w E1 s1 := by
  obtain ⟨rfl, ⟨-, rfl, rfl⟩ | ⟨-, ⟨-, rfl, rfl⟩ | ⟨-, ⟨-, rfl, rfl⟩ | ⟨-, ⟨r, -, hq⟩ | ⟨-, hq⟩⟩⟩⟩⟩ := o_call_inv h
  · exact ⟨sM_refl, H, rv_W, hE⟩
  · exact eV_same H rfl rfl rfl rfl rv_W hE
  · exact eV_same H rfl rfl rfl rfl rv_W hE
  · exact o_body_V (s := u_rn s (s_rn s) (s_tk s + 1)) hK hq hf H hfn hv hE
  · exact o_body_V (s := u_rn s (if sil = true then s_rn s else s_rn s + 1) (s_tk s)) hK hq hf H hfn hv hE
theorem o_file_V {L o : Nat} {rec : K_} {C : C_} {sil : Bool} (hK : eVK rec) {f : Nat} {v : T_} {E : N_} {s s1 : S_} (h : o_file L rec C sil f s = some (v, s1)) (H : sV o s) (hE : nV (rT o s) E) : eVQ o s v E s1 := by
  unfold o_file at h
  split at h
  · obtain ⟨l, el, -⟩ := f_list_eq C (C.2.2.2 f) (u_fs s (fun g => if g = f then 1 else s_fs s g) (s_fe s))
    rw [el] at h
    split at h
    · rename_i v E2 s2 hr
      cases h
      have Q := t_block_V (o := o) hK hr ⟨fun g q => H.1 g (by
        have q : (if g = f then 1 else s_fs s g) ≠ 0 ∧ (if g = f then 1 else s_fs s g) ≠ 1 := q
        by_cases c : g = f
        · rw [if_pos c] at q; exact absurd rfl q.2
        · rw [if_neg c] at q; exact q), H.2⟩ (fun m x e => by cases e)
      obtain ⟨Q1, ⟨Q2, Q3⟩, Q4, Q5⟩ := Q
      refine ⟨Q1, ⟨fun g q => ?_, Q3⟩, Q4, nV_mono hE (rT_le (s := s) (s1 := s2) Q1)⟩
      show nV (rT o s2) (if g = f then E2 else s_fe s2 g)
      have q : (if g = f then 2 else s_fs s2 g) ≠ 0 ∧ (if g = f then 2 else s_fs s2 g) ≠ 1 := q
      by_cases c : g = f
      · rw [if_pos c]; exact Q5
      · rw [if_neg c] at q ⊢; exact Q2 g q
    · cases h
  · cases h
theorem o_import_V {L o : Nat} {rec : K_} {C : C_} {sil : Bool} (hK : eVK rec) {n : Int} {id : Nat} {E E1 : N_} {v : T_} {s s1 : S_} (h : o_import L rec C sil n id E s = some (v, E1, s1)) (H : sV o s) (hE : nV (rT o s) E) (H2 : ∀ f v s2, s_fs s f = 0 → o_file L rec C sil f (u_dp s 0) = some (v, s2) → s_fs s2 f = 2) : eVQ o s v E1 s1 := by
  unfold o_import at h
  dsimp only at h
  split at h
  · exact o_bad_V h H hE
  · rename_i c1
    split at h
    · rename_i c0
      split at h
      · rename_i w s2 hr
        have Q := o_file_V (s := u_dp s 0) hK hr H hE
        have e2 := H2 _ _ _ c0 hr
        refine eV_tr (s1 := u_dp s2 (s_dp s)) Q.1 (o_name_V h Q.2.1 Q.2.2.2 fun y hy => ?_)
        exact Q.2.1.1 _ ⟨by rw [e2]; decide, by rw [e2]; decide⟩ _ y hy
      · cases h
    · rename_i c0
      exact o_name_V h H hE fun y hy => H.1 _ ⟨c0, c1⟩ _ y hy
theorem o_file_2 {L : Nat} {rec : K_} {C : C_} {sil : Bool} {f : Nat} {v : T_} {s s1 : S_} (h : o_file L rec C sil f s = some (v, s1)) : s_fs s1 f = 2 := by
  unfold o_file at h
  split at h
  · split at h
    · cases h
      show (if f = f then 2 else _) = 2
      rw [if_pos rfl]
    · cases h
  · cases h
theorem ev1_V {L : Nat} {C : C_} {r1 r2 r4 : K_} (h1 : eVK r1) (h2 : eVK r2) (h4 : eVK r4) : eVK (ev1 L C r1 r2 r4) := by
  intro o sil e E hb s v E1 s1 h H hE
  obtain ⟨G1, G2⟩ := sV_go H
  have gE : nV (rT (o + 1) (u_go s)) E := by rw [G2]; exact hE
  rcases ce_or e with ⟨k, n, id, a, b, c, rfl⟩ | he
  · by_cases ko : k < 6 ∨ 31 < k
    · rw [ev1_oth ko] at h
      split at h
      · cases h; exact eV_end ⟨sM_refl, G1, rv_W, gE⟩
      · cases h
    · have kk : k = 6 ∨ k = 7 ∨ k = 8 ∨ k = 16 ∨ k = 22 ∨ k = 23 ∨ k = 24 ∨ k = 25 ∨ k = 26 ∨ k = 27 ∨ k = 29 ∨ k = 14 ∨ k = 17 ∨ (k = 9 ∨ k = 10 ∨ k = 11 ∨ k = 12 ∨ k = 13 ∨ k = 30) ∨ (k = 15 ∨ k = 20 ∨ k = 21 ∨ k = 28 ∨ k = 31) ∨ (k = 18 ∨ k = 19) := by omega
      rcases kk with rfl | rfl | rfl | rfl | rfl | rfl | rfl | rfl | rfl | rfl | rfl | rfl | rfl | kk | kk | kk
      · rw [ev1_6] at h
        split at h
        · cases h; exact eV_end ⟨sM_refl, G1, rv_N _, gE⟩
        · cases h
      · rw [ev1_7] at h
        split at h
        · exact eV_end (o_name_V h G1 gE fun y hy => gE _ y hy)
        · cases h
      · rw [ev1_8] at h
        split at h
        · split at h
          · split at h
            · rename_i w E2 s2 hr
              cases h
              have Q := t_block_V (s := u_rw (u_go s) (s_rw s + 1)) h2 hr G1 gE
              exact eV_end ⟨Q.1, Q.2.1, Q.2.2.1, nV_mono gE (rT_le (s := u_go s) Q.1)⟩
            · cases h
          · cases h
        · cases h
      · rw [ev1_16] at h
        split at h
        · exact eV_end (o_mk_V (Or.inr rfl) h G1 gE)
        · cases h
      · rw [ev1_22] at h
        split at h
        · exact eV_end (o_mk_V (Or.inl rfl) h G1 gE)
        · cases h
      · rw [ev1_23] at h
        split at h
        · exact eV_end (o_ask_V h G1 gE)
        · cases h
      · rw [ev1_24] at h
        split at h
        · exact eV_end (o_ask_V h G1 gE)
        · cases h
      · rw [ev1_25] at h
        split at h
        · exact eV_end (o_ask_V h G1 gE)
        · cases h
      · rw [ev1_26] at h
        split at h
        · exact eV_end (o_ask_V h G1 gE)
        · cases h
      · rw [ev1_27] at h
        split at h
        · exact eV_end (o_ask_V h G1 gE)
        · cases h
      · rw [ev1_29] at h
        split at h
        · exact eV_end (o_import_V h4 h G1 gE fun _ _ _ _ q => o_file_2 q)
        · cases h
      · rw [ev1_14] at h
        split at h
        · split at h
          · rename_i w E2 s2 hr
            have Q := h1 (o + 1) _ _ _ _ _ _ _ _ hr G1 gE
            split at h
            · cases h; exact eV_end ⟨Q.1, Q.2.1, rv_W, Q.2.2.2⟩
            · split at h
              · exact eV_end (eV_tr Q.1 (h1 (o + 1) _ _ _ _ _ _ _ _ h Q.2.1 Q.2.2.2))
              · exact eV_end (eV_tr Q.1 (o_bad_V h Q.2.1 Q.2.2.2))
          · cases h
        · cases h
      · rw [ev1_17] at h
        split at h
        · split at h
          · rename_i w E2 s2 hr
            have Q := h1 (o + 1) _ _ _ _ _ _ _ _ hr G1 gE
            split at h
            · cases h; exact eV_end ⟨Q.1, Q.2.1, rv_W, Q.2.2.2⟩
            · split at h
              · rename_i cF
                split at h
                · rename_i w2 E3 s3 hr2
                  have Q2 := h1 (o + 1) _ _ _ _ _ _ _ _ hr2 Q.2.1 Q.2.2.2
                  exact eV_end (eV_tr (sM_tr Q.1 Q2.1) (o_call_V h2 h cF Q2.2.1 (rv_mono Q.2.2.1 (rT_le Q2.1)) Q2.2.2.1 Q2.2.2.2))
                · cases h
              · exact eV_end (eV_tr Q.1 (o_bad_V h Q.2.1 Q.2.2.2))
          · cases h
        · cases h
      · rw [ev1_two kk] at h
        split at h
        · split at h
          · rename_i w E2 s2 hr
            split at h
            · rename_i w2 E3 s3 hr2
              have Q := h1 (o + 1) _ _ _ _ _ _ _ _ hr G1 gE
              have Q2 := h1 (o + 1) _ _ _ _ _ _ _ _ hr2 Q.2.1 Q.2.2.2
              exact eV_end (eV_tr (sM_tr Q.1 Q2.1) (o_pair_V h Q2.2.1 Q2.2.2.2 (rv_mono Q.2.2.1 (rT_le Q2.1)) Q2.2.2.1))
            · cases h
          · cases h
        · cases h
      · rw [ev1_one (by omega)] at h
        split at h
        · split at h
          · rename_i w E2 s2 hr
            exact o_one_V (h1 (o + 1) _ _ _ _ _ _ _ _ hr G1 gE) h
          · cases h
        · cases h
      · cases hb with
        | false =>
          rw [ev1_pl kk] at h
          split at h
          · exact eV_end (o_bad_V h G1 gE)
          · cases h
        | true =>
          rw [ev1_one (Or.inr (Or.inr (Or.inr (Or.inr (Or.inr ⟨kk, rfl⟩)))))] at h
          split at h
          · split at h
            · rename_i w E2 s2 hr
              exact o_one_V (h1 (o + 1) _ _ _ _ _ _ _ _ hr G1 gE) h
            · cases h
          · cases h
  · rw [he] at h
    cases h
    exact eV_same H rfl rfl rfl rfl rv_W hE
theorem ev_V (C : C_) : ∀ n, eVK (ev C n) := by
  intro n
  induction n using Nat.strongRecOn with
  | _ n ih =>
    match n, ih with
    | 0, _ => intro _ _ _ _ _ _ _ _ _ h; cases h
    | 1, _ => intro _ _ _ _ _ _ _ _ _ h; cases h
    | 2, _ => intro _ _ _ _ _ _ _ _ _ h; cases h
    | 3, _ => intro _ _ _ _ _ _ _ _ _ h; cases h
    | n + 4, ih =>
      rw [ev_4]
      exact ev1_V (ih (n + 3) (by omega)) (ih (n + 2) (by omega)) (ih n (by omega))
