/-! ===== names out of a chain ===== -/
theorem clos_top (E : N_) (u : Nat → Bool) : ∀ m, (n_clos E u m = .nil ∧ ∀ k, k < m → u k = true → E k = none) ∨ ∃ j v, j < m ∧ u j = true ∧ E j = some v ∧ n_clos E u m = .append (.tag j v) (n_clos E u j) ∧ ∀ k, j < k → k < m → u k = true → E k = none := by
  intro m
  induction m with
  | zero => exact Or.inl ⟨rfl, fun k hk => absurd hk (Nat.not_lt_zero _)⟩
  | succ m ih =>
    have L : (u m = true → E m = none) → n_clos E u (m + 1) = n_clos E u m → ((n_clos E u (m + 1) = .nil ∧ ∀ k, k < m + 1 → u k = true → E k = none) ∨ ∃ j v, j < m + 1 ∧ u j = true ∧ E j = some v ∧ n_clos E u (m + 1) = .append (.tag j v) (n_clos E u j) ∧ ∀ k, j < k → k < m + 1 → u k = true → E k = none) := fun h1 h2 => by
      rw [h2]
      rcases ih with ⟨a, b⟩ | ⟨j, v, j1, j2, j3, j4, j5⟩
      · refine Or.inl ⟨a, fun k hk => ?_⟩
        by_cases c : k = m
        · rw [c]; exact h1
        · exact b k (by omega)
      · refine Or.inr ⟨j, v, by omega, j2, j3, j4, fun k k1 k2 => ?_⟩
        by_cases c : k = m
        · rw [c]; exact h1
        · exact j5 k k1 (by omega)
    cases hu : u m with
    | false =>
      refine L (fun q => ?_) ?_
      · rw [hu] at q; cases q
      · rw [n_clos, hu]
    | true =>
      cases hE : E m with
      | none =>
        refine L (fun _ => hE) ?_
        rw [n_clos, hu, hE]
      | some v =>
        refine Or.inr ⟨m, v, Nat.lt_succ_self m, hu, hE, ?_, fun k k1 k2 => by omega⟩
        rw [n_clos, hu, hE]
theorem cn_of {w : W_} {F : T_ → Prop} {E : N_} {u : Nat → Bool} (h0 : 0 ≤ w.1 13 2) (h1 : w.1 13 2 ≤ 300000) : ∀ (j m : Nat) (b : Int), m ≤ 10 → m ≤ j → cR (w.1 13 2) (w.2 13) F (n_clos E u m) b → h_cn j w b := by
  intro j
  induction j with
  | zero =>
    intro m b _ _ h
    have := cR_lt h0 h
    exact ⟨by omega, by omega⟩
  | succ j ih =>
    intro m b m10 hm h
    have hb := cR_lt h0 h
    refine ⟨by omega, fun q => ?_⟩
    rcases clos_top E u m with ⟨e, -⟩ | ⟨i, v, i1, i2, i3, e, -⟩
    · rw [e] at h
      have h : b = 20003 := h
      omega
    · rw [e] at h
      obtain ⟨g1, g2, g3, g4, g5, g6⟩ := h
      have e3 : w_h w b 3 = i := g2
      rw [e3]
      exact ⟨by omega, ih i _ (by omega) (by omega) g6⟩
/-- what the chain tells stands in the row -/
theorem bind_get {n : Int} {a : Nat → Int} {F : T_ → Prop} {E : N_} {u : Nat → Bool} {s : Int} (s0 : 0 ≤ s) (n0 : 0 ≤ n) : ∀ (j m : Nat) (b : Int) (W : W_), m ≤ 10 → m ≤ j → W.2 13 = a → cR n a F (n_clos E u m) b → (∀ k : Nat, k < 10 → (∀ v, k < m → u k = true → E k = some v → cR n a F v ((w_bind j W s b).2 42 (s * 10 + k).toNat) ∧ hW a v ((w_bind j W s b).2 42 (s * 10 + k).toNat)) ∧ ((k < m → u k = true → E k = none) → (w_bind j W s b).2 42 (s * 10 + k).toNat = W.2 42 (s * 10 + k).toNat)) ∧ ∀ z : Nat, ((z : Int) < s * 10 ∨ s * 10 + 10 ≤ (z : Int)) → (w_bind j W s b).2 42 z = W.2 42 z := by
  intro j
  induction j with
  | zero =>
    intro m b W _ hm _ _
    have m0 : m = 0 := by omega
    subst m0
    exact ⟨fun k _ => ⟨fun v hk => absurd hk (Nat.not_lt_zero _), fun _ => rfl⟩, fun _ _ => rfl⟩
  | succ j ih =>
    intro m b W m10 hm hW' h
    rcases clos_top E u m with ⟨e, g⟩ | ⟨i, v, i1, i2, i3, e, g⟩
    · rw [e] at h
      have h : b = 20003 := h
      have eb : w_bind (j + 1) W s b = W := by
        unfold w_bind
        rw [if_pos (by omega)]
      rw [eb]
      refine ⟨fun k _ => ⟨fun v k1 k2 k3 => ?_, fun _ => rfl⟩, fun _ _ => rfl⟩
      rw [g k k1 k2] at k3
      cases k3
    · rw [e] at h
      obtain ⟨g1, g2, g3, g4, g5, g6⟩ := h
      have e3 : w_h W b 3 = i := by
        rw [pH_w, hW']; exact g2
      have e1 : w_h W b 1 = pH a b 1 := by rw [pH_w, hW']
      have e2 : w_h W b 2 = pH a b 2 := by rw [pH_w, hW']
      have eb : w_bind (j + 1) W s b = w_bind j (w_a W 42 (s * 10 + i).toNat (pH a b 1)) s (pH a b 2) := by
        conv => lhs; unfold w_bind
        rw [if_neg (by have := g1.1; omega), e3, e1, e2]
      rw [eb]
      have eW1 : ∀ z, (w_a W 42 (s * 10 + i).toNat (pH a b 1)).2 42 z = if z = (s * 10 + i).toNat then pH a b 1 else W.2 42 z := fun z => by
        show w_u W.2 42 _ _ 42 z = _
        rw [w_u_at]
        by_cases c : z = (s * 10 + (i : Int)).toNat
        · rw [if_pos ⟨rfl, c⟩, if_pos c]
        · rw [if_neg (fun q => c q.2), if_neg c]
      obtain ⟨A, B⟩ := ih i (pH a b 2) (w_a W 42 (s * 10 + i).toNat (pH a b 1)) (by omega) (by omega) ((w_a_2ne _ _ _ (by decide)).trans hW') g6
      refine ⟨fun k k10 => ⟨fun v' k1 k2 k3 => ?_, fun kn => ?_⟩, fun z hz => ?_⟩
      · by_cases c : k < i
        · exact (A k k10).1 v' c k2 k3
        · by_cases c2 : k = i
          · subst c2
            rw [i3] at k3
            cases k3
            rw [(A k k10).2 (fun q => absurd q c), eW1, if_pos rfl]
            exact ⟨g4, g5⟩
          · rw [g k (by omega) k1 k2] at k3
            cases k3
      · by_cases c2 : k = i
        · subst c2
          have := kn i1 i2
          rw [this] at i3
          cases i3
        · rw [(A k k10).2 (fun q1 q2 => kn (by omega) q2), eW1, if_neg (by omega)]
      · rw [B z hz, eW1, if_neg (by omega)]
