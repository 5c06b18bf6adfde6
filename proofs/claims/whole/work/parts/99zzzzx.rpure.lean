/-! ===== contents as lists of leaves ===== -/
/-- the leaves of a value's content -/
def rFL : T_ → List T_
  | .nest x .nil => [.tag 1 (.nest (1000 + x) .nil)]
  | .tag 8 (.append a b) => rFL a ++ rFL b
  | .tag 13 (.append a b) => rFL a ++ rFL b
  | .tag k t => if (1 ≤ k ∧ k ≤ 7) ∨ (9 ≤ k ∧ k ≤ 11) then [.tag k t] else []
  | _ => []
/-- no mark of SET or SHOW -/
def rNK : T_ → Bool
  | .tag k _ => !(k == 10 || k == 11)
  | _ => true
def rLf (t : T_) : Prop := ∃ k u, t = .tag k u ∧ ((1 ≤ k ∧ k ≤ 7) ∨ (9 ≤ k ∧ k ≤ 11))
/-- the width of leaves under a SIZE, and the SIZE behind them -/
def rWL : List T_ → Nat → Nat × Nat
  | [], s => (0, s)
  | t :: r, s => (m9 ((v_wq t s).1 + (rWL r (v_wq t s).2).1), (rWL r (v_wq t s).2).2)
theorem m9_le (x : Nat) : m9 x ≤ 9999 := by unfold m9; omega
theorem m9_id {x : Nat} (h : x ≤ 9999) : m9 x = x := by unfold m9; omega
theorem m9_as (a b c : Nat) : m9 (a + m9 (b + c)) = m9 (m9 (a + b) + c) := by unfold m9; omega
theorem rWL_le : ∀ (l : List T_) (s : Nat), (rWL l s).1 ≤ 9999 := by
  intro l s
  cases l with
  | nil => exact Nat.zero_le _
  | cons t r => exact m9_le _
theorem rWL_app : ∀ (l1 l2 : List T_) (s : Nat), rWL (l1 ++ l2) s = (m9 ((rWL l1 s).1 + (rWL l2 (rWL l1 s).2).1), (rWL l2 (rWL l1 s).2).2) := by
  intro l1
  induction l1 with
  | nil =>
    intro l2 s
    show rWL l2 s = (m9 (0 + (rWL l2 s).1), (rWL l2 s).2)
    rw [Nat.zero_add, m9_id (rWL_le _ _)]
  | cons t r ih =>
    intro l2 s
    show (m9 ((v_wq t s).1 + (rWL (r ++ l2) (v_wq t s).2).1), (rWL (r ++ l2) (v_wq t s).2).2) = _
    rw [ih]
    show (m9 (_ + m9 (_ + _)), _) = (m9 (m9 (_ + _) + _), _)
    rw [m9_as]
    rfl
theorem rFL_tg {k : Nat} {u : T_} (h1 : ∀ a b, k = 8 → u = .append a b → False) (h2 : ∀ a b, k = 13 → u = .append a b → False) : rFL (.tag k u) = if (1 ≤ k ∧ k ≤ 7) ∨ (9 ≤ k ∧ k ≤ 11) then [.tag k u] else [] := by
  unfold rFL
  split
  · rename_i e; cases e
  · rename_i e; cases e; exact (h1 _ _ rfl rfl).elim
  · rename_i e; cases e; exact (h2 _ _ rfl rfl).elim
  · rename_i e; cases e; rfl
  · rename_i q; exact (q _ _ rfl).elim
theorem rFL_tag {k : Nat} {u : T_} (hk : (1 ≤ k ∧ k ≤ 7) ∨ (9 ≤ k ∧ k ≤ 11)) : rFL (.tag k u) = [.tag k u] := by
  rw [rFL_tg (fun _ _ q _ => by omega) (fun _ _ q _ => by omega), if_pos hk]
theorem rFL_leaf : ∀ v t, t ∈ rFL v → rLf t := by
  intro v
  induction v using rFL.induct with
  | case1 x =>
    intro t h
    rw [rFL, List.mem_singleton] at h
    exact ⟨1, _, h, Or.inl ⟨by omega, by omega⟩⟩
  | case2 a b i1 i2 => intro t h; rw [rFL, List.mem_append] at h; exact h.elim (i1 t) (i2 t)
  | case3 a b i1 i2 => intro t h; rw [rFL, List.mem_append] at h; exact h.elim (i1 t) (i2 t)
  | case4 k u h1 h2 hk => intro t h; rw [rFL_tg h1 h2, if_pos hk, List.mem_singleton] at h; exact ⟨k, u, h, hk⟩
  | case5 k u h1 h2 hk => intro t h; rw [rFL_tg h1 h2, if_neg hk] at h; cases h
  | case6 v h1 h2 h3 h4 =>
    intro t h
    unfold rFL at h
    split at h <;> first | (exact (h1 _ rfl).elim) | (exact (h2 _ _ rfl).elim) | (exact (h3 _ _ rfl).elim) | (exact (h4 _ _ rfl).elim) | (cases h)
theorem wq_leaf {t : T_} (h : rLf t) (hk : rNK t = true) (s : Nat) : (v_wq t s).2 = s := by
  obtain ⟨k, u, rfl, hk'⟩ := h
  have h10 : k ≠ 10 := fun z => by rw [z] at hk; cases hk
  unfold v_wq
  split <;> rename_i e <;> first | (cases e; done) | rfl | (cases e; rfl) | (cases e; omega) | skip
theorem rWL_nk : ∀ (l : List T_) (s : Nat), (∀ t ∈ l, rLf t) → (∀ t ∈ l, rNK t = true) → (rWL l s).2 = s := by
  intro l
  induction l with
  | nil => intro s _ _; rfl
  | cons t r ih =>
    intro s h1 h2
    show (rWL r (v_wq t s).2).2 = s
    rw [wq_leaf (h1 t (List.mem_cons_self ..)) (h2 t (List.mem_cons_self ..)) s]
    exact ih s (fun t q => h1 t (List.mem_cons_of_mem _ q)) (fun t q => h2 t (List.mem_cons_of_mem _ q))
/-- in pairs there are no marks -/
def vK : T_ → Prop
  | .tag 8 (.append a b) => vK a ∧ vK b
  | .tag 13 (.append a b) => ((∀ t ∈ rFL a, rNK t = true) ∧ ∀ t ∈ rFL b, rNK t = true) ∧ vK a ∧ vK b
  | .tag 9 v => vK v
  | .tag 5 (.tag _ v) => vK v ∧ ∀ s, s ≤ 9999 → (v_wq v s).1 ≤ 9999
  | _ => True
theorem vK_lf {k : Nat} {u : T_} (hk : (k ≠ 8 ∧ k ≠ 13) ∧ k ≠ 9 ∧ k ≠ 5) : vK (.tag k u) := by
  unfold vK
  split <;> first | trivial | (rename_i e; cases e; omega)
theorem vK_9 (v : T_) : vK (.tag 9 v) = vK v := by cases v <;> rfl
theorem vK_5 (id : Nat) (v : T_) : vK (.tag 5 (.tag id v)) = (vK v ∧ ∀ s, s ≤ 9999 → (v_wq v s).1 ≤ 9999) := by cases v <;> rfl
/-- a value is one whose content has no marks, and whose width is its leaves' -/
def vv (v : T_) : Prop := (∀ s, s ≤ 9999 → v_wq v s = rWL (rFL v) s) ∧ (∀ t ∈ rFL v, rNK t = true) ∧ (v_fl v = true ↔ rFL v ≠ []) ∧ vK v
/-- .. a text so far -/
def vc (q : T_) : Prop := (∀ s, s ≤ 9999 → v_wq q s = rWL (rFL q) s ∧ (v_wq q s).2 ≤ 9999) ∧ vK q
theorem vv_2 {v : T_} (h : vv v) (s : Nat) : (rWL (rFL v) s).2 = s := rWL_nk _ s (fun t q => rFL_leaf v t q) h.2.1
theorem vc_of {v : T_} (h : vv v) : vc v := ⟨fun s hs => ⟨h.1 s hs, by rw [h.1 s hs, vv_2 h]; exact hs⟩, h.2.2.2⟩
theorem vv_le {v : T_} (h : vv v) (s : Nat) (hs : s ≤ 9999) : (v_wq v s).1 ≤ 9999 := by
  rw [h.1 s hs]; exact rWL_le _ _
theorem vv_nil {v : T_} (h : ∀ s, v_wq v s = (0, s)) (h1 : rFL v = []) (h2 : v_fl v = false) (h3 : vK v) : vv v := by
  refine ⟨fun s _ => by rw [h, h1]; rfl, fun t q => by (rw [h1] at q; cases q), ?_, h3⟩
  rw [h1, h2]
  exact ⟨fun q => by (cases q), fun q => absurd rfl q⟩
theorem vv_0 : vv v0 := vv_nil (fun _ => rfl) rfl rfl trivial
theorem vv_W : vv vW := vv_nil (fun _ => rfl) rfl rfl trivial
theorem vv_E : vv vE := vv_nil (fun _ => rfl) rfl rfl trivial
theorem vv_12 (u : T_) : vv (.tag 12 u) := vv_nil (fun _ => rfl) rfl rfl (vK_lf (by omega))
theorem vv_N (x : Int) : vv (vN x) := by
  refine ⟨fun s hs => ?_, fun t q => ?_, ⟨fun _ q => by (cases q), fun _ => rfl⟩, trivial⟩
  · show (s, s) = (m9 (s + 0), s)
    rw [Nat.add_zero, m9_id hs]
  · have q : t ∈ [(.tag 1 (.nest (1000 + x) .nil) : T_)] := q
    rw [List.mem_singleton] at q
    rw [q]; rfl
theorem vv_leaf {k : Nat} {u : T_} (hk : (1 ≤ k ∧ k ≤ 7) ∨ k = 9) (hw : ∀ s, s ≤ 9999 → (v_wq (.tag k u) s).1 ≤ 9999) (hK : vK (.tag k u)) : vv (.tag k u) := by
  have e := rFL_tag (k := k) (u := u) (by omega)
  have n : rNK (.tag k u) = true := by
    show (!(k == 10 || k == 11)) = true
    have h1 : (k == 10) = false := by rw [beq_eq_false_iff_ne]; omega
    have h2 : (k == 11) = false := by rw [beq_eq_false_iff_ne]; omega
    rw [h1, h2]; rfl
  refine ⟨fun s hs => ?_, fun t q => ?_, ?_, hK⟩
  · rw [e]
    show _ = (m9 ((v_wq (.tag k u) s).1 + 0), (v_wq (.tag k u) s).2)
    rw [Nat.add_zero, m9_id (hw s hs)]
  · rw [e, List.mem_singleton] at q
    rw [q]; exact n
  · rw [e]
    refine ⟨fun _ q => by (cases q), fun _ => ?_⟩
    unfold v_fl
    split <;> rename_i h <;> first | (cases h; done) | (cases h; omega) | (cases h; exact decide_eq_true (by omega)) | skip
    exact absurd rfl (h _ _)
theorem vv_pair {a b : T_} (ha : vv a) (hb : vv b) : vv (.tag 13 (.append a b)) := by
  have e : rFL (.tag 13 (.append a b)) = rFL a ++ rFL b := rfl
  refine ⟨fun s hs => ?_, fun t q => ?_, ?_, ⟨ha.2.1, hb.2.1⟩, ha.2.2.2, hb.2.2.2⟩
  · show (m9 ((v_wq a s).1 + (v_wq b s).1), s) = _
    rw [e, rWL_app, vv_2 ha, vv_2 hb, ← ha.1 s hs, ← hb.1 s hs]
  · rw [e, List.mem_append] at q
    exact q.elim (ha.2.1 t) (hb.2.1 t)
  · rw [e]
    show (v_fl a || v_fl b) = true ↔ _
    rw [Bool.or_eq_true, ha.2.2.1, hb.2.2.1]
    constructor
    · intro h q
      rw [List.append_eq_nil_iff] at q
      exact h.elim (fun z => z q.1) (fun z => z q.2)
    · intro h
      by_cases c : rFL a = []
      · refine Or.inr fun z => h ?_
        rw [c, z]; rfl
      · exact Or.inl c
theorem rFL_8 (a b : T_) : rFL (.tag 8 (.append a b)) = rFL a ++ rFL b := rfl
theorem vc_8 {a b : T_} (ha : vc a) (hb : vc b) : vc (.tag 8 (.append a b)) := by
  refine ⟨fun s hs => ?_, ha.2, hb.2⟩
  have h1 := ha.1 s hs
  have h2 := hb.1 _ h1.2
  have z : v_wq (.tag 8 (.append a b)) s = (m9 ((v_wq a s).1 + (v_wq b (v_wq a s).2).1), (v_wq b (v_wq a s).2).2) := rfl
  refine ⟨?_, by rw [z]; exact h2.2⟩
  rw [z, rFL_8, rWL_app, h2.1, h1.1]
theorem rFL_chain (q v : T_) : rFL (v_chain q v) = rFL q ++ rFL v := by
  by_cases h : q = .nil
  · rw [h]; rfl
  · rw [v_chain_ne h]; rfl
theorem vc_chain {q v : T_} (hq : vc q) (hv : vc v) : vc (v_chain q v) := by
  by_cases h : q = .nil
  · rw [h]; exact hv
  · rw [v_chain_ne h]; exact vc_8 hq hv
theorem vc_nil : vc .nil := ⟨fun s hs => ⟨rfl, hs⟩, trivial⟩
theorem vv_f {v : T_} (h : vv v) (hf : ¬ v_fl v = true) : rFL v = [] := by
  have z := fun q => hf (h.2.2.1.2 q)
  exact Classical.not_not.1 z
theorem rFL_join {a b : T_} (ha : vv a) (hb : vv b) : rFL (v_join a b) = rFL a ++ rFL b := by
  unfold v_join
  split
  · rename_i c
    rw [vv_f ha (by rw [c.1]; decide), vv_f hb (by rw [c.2]; decide)]; rfl
  · split
    · rename_i c
      rw [vv_f hb (by rw [c.1]; decide), List.append_nil]
    · split
      · rename_i c
        rw [vv_f ha (by rw [c.1]; decide)]; rfl
      · rw [rFL_8]
        congr 1
        · split
          · rfl
          · rename_i c; rw [vv_f ha c]; rfl
        · split
          · rfl
          · rename_i c; rw [vv_f hb c]; rfl
theorem vv_if {a : T_} (ha : vv a) : vv (if v_fl a = true then a else v0) := by
  split
  · exact ha
  · exact vv_0
theorem vv_join {a b : T_} (ha : vv a) (hb : vv b) : vv (v_join a b) := by
  have e := rFL_join ha hb
  unfold v_join at e ⊢
  split
  · exact vv_E
  · rename_i n
    split
    · exact ha
    · split
      · exact hb
      · rename_i c1 c2
        rw [if_neg n, if_neg c1, if_neg c2] at e
        have hc := vc_8 (vc_of (vv_if ha)) (vc_of (vv_if hb))
        refine ⟨fun s hs => (hc.1 s hs).1, fun t q => ?_, ⟨fun _ => ?_, fun _ => rfl⟩, hc.2⟩
        · rw [e, List.mem_append] at q
          exact q.elim (ha.2.1 t) (hb.2.1 t)
        · rw [e]
          intro z
          rw [List.append_eq_nil_iff] at z
          refine n ⟨?_, ?_⟩
          · cases c : v_fl a with
            | false => rfl
            | true => exact absurd z.1 (ha.2.2.1.1 c)
          · cases c : v_fl b with
            | false => rfl
            | true => exact absurd z.2 (hb.2.2.1.1 c)
theorem vc_10 {p : Nat} {x : Int} {u : T_} (h : x ≤ 9999) : vc (.tag 10 (.tag p (.nest x u))) := by
  refine ⟨fun s hs => ?_, vK_lf (by omega)⟩
  have e := rFL_tag (k := 10) (u := .tag p (.nest x u)) (by omega)
  rw [e]
  show _ = (m9 ((v_wq (.tag 10 (.tag p (.nest x u))) s).1 + 0), (v_wq (.tag 10 (.tag p (.nest x u))) s).2) ∧ _
  rcases p with _ | p
  · refine ⟨rfl, ?_⟩
    show x.toNat ≤ 9999
    omega
  · exact ⟨rfl, hs⟩
theorem vc_11 {u : T_} : vc (.tag 11 u) := by
  refine ⟨fun s hs => ?_, vK_lf (by omega)⟩
  have e := rFL_tag (k := 11) (u := u) (by omega)
  rw [e]
  exact ⟨rfl, hs⟩
