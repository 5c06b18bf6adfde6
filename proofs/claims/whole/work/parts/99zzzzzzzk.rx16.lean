/-! ===== realizing: a round begins ===== -/
section
variable {w : W_} {fr : Nat} {P : Option am_V → W_ → Prop}
theorem w_a_at (v : W_) (d k : Nat) (x : Int) (i : Nat) : (w_a v d k x).2 d i = if i = k then x else v.2 d i := by
  show (if d = d ∧ i = k then x else v.2 d i) = _
  by_cases e : i = k
  · rw [if_pos ⟨rfl, e⟩, if_pos e]
  · rw [if_neg (fun q => e q.2), if_neg e]
theorem l233b : ∀ (d i : Nat), d + i = 42 → ∀ w : W_, (∀ k, k < i → w.2 105 k = 0) → (∀ w' : W_, w'.1 = w.1 → (∀ b, b ≠ 105 → w'.2 b = w.2 b) → (∀ k, k < 42 → w'.2 105 k = 0) → zr233 fr P 117 42 w') → zr233 fr P 117 (i : Int) w := by
  intro d
  induction d with
  | zero =>
    intro i hi w hz LL
    have e : i = 42 := by omega
    subst e
    exact LL w rfl (fun _ _ => rfl) hz
  | succ d ih =>
    intro i hi w hz LL
    have ei : ((i : Int)).toNat = i := by omega
    refine lk_233b (by omega) ?_
    rw [ei, show (i : Int) + 1 = ((i + 1 : Nat) : Int) by omega]
    refine ih (i + 1) (by omega) _ (fun k hk => ?_) (fun w' h1 h2 h3 => LL w' h1 (fun b hb => by rw [h2 b hb, w_a_2ne _ _ _ hb]) h3)
    rw [w_a_at]
    by_cases e : k = i
    · rw [if_pos e]
    · rw [if_neg e]; exact hz k (by omega)
theorem l233d : ∀ (d i : Nat), d + i = 10 → ∀ w : W_, (∀ k, k < i → w.2 106 k = 0) → (∀ w' : W_, w'.1 = w.1 → (∀ b, b ≠ 106 → w'.2 b = w.2 b) → (∀ k, k < 10 → w'.2 106 k = 0) → zr233 fr P 138 10 w') → zr233 fr P 138 (i : Int) w := by
  intro d
  induction d with
  | zero =>
    intro i hi w hz LL
    have e : i = 10 := by omega
    subst e
    exact LL w rfl (fun _ _ => rfl) hz
  | succ d ih =>
    intro i hi w hz LL
    have ei : ((i : Int)).toNat = i := by omega
    refine lk_233d (by omega) ?_
    rw [ei, show (i : Int) + 1 = ((i + 1 : Nat) : Int) by omega]
    refine ih (i + 1) (by omega) _ (fun k hk => ?_) (fun w' h1 h2 h3 => LL w' h1 (fun b hb => by rw [h2 b hb, w_a_2ne _ _ _ hb]) h3)
    rw [w_a_at]
    by_cases e : k = i
    · rw [if_pos e]
    · rw [if_neg e]; exact hz k (by omega)
theorem l233f : ∀ (d i : Nat), d + i = 3 → ∀ w : W_, (∀ k, k < i → w.2 100 k = 0 ∧ w.2 103 k = 0) → (∀ w' : W_, w'.1 = w.1 → (∀ b, b ≠ 100 → b ≠ 103 → w'.2 b = w.2 b) → (∀ k, k < 3 → w'.2 100 k = 0 ∧ w'.2 103 k = 0) → zr233 fr P 159 3 w') → zr233 fr P 159 (i : Int) w := by
  intro d
  induction d with
  | zero =>
    intro i hi w hz LL
    have e : i = 3 := by omega
    subst e
    exact LL w rfl (fun _ _ _ => rfl) hz
  | succ d ih =>
    intro i hi w hz LL
    have ei : ((i : Int)).toNat = i := by omega
    refine lk_233f (by omega) ?_
    rw [ei, show (i : Int) + 1 = ((i + 1 : Nat) : Int) by omega]
    refine ih (i + 1) (by omega) _ (fun k hk => ?_) (fun w' h1 h2 h3 => LL w' h1 (fun b hb hc => by rw [h2 b hb hc, w_a_2ne _ _ _ hc, w_a_2ne _ _ _ hb]) h3)
    rw [w_a_at, w_a_2ne _ _ _ (by decide), w_a_at]
    by_cases e : k = i
    · rw [if_pos e, if_pos e]; exact ⟨rfl, rfl⟩
    · rw [if_neg e, if_neg e]; exact hz k (by omega)
/-- a round begins -/
theorem lk_233 : ww_Ct 233 fr [.inr (.inr (.inl 73))] w fun r w' => r = none ∧ w'.1 = (r_bg w).1 ∧ (∀ b, b ≠ 105 → b ≠ 106 → b ≠ 100 → b ≠ 103 → w'.2 b = w.2 b) ∧ (∀ k : Nat, k < 42 → w'.2 105 k = 0) ∧ (∀ k : Nat, k < 10 → w'.2 106 k = 0) ∧ ∀ k : Nat, k < 3 → w'.2 100 k = 0 ∧ w'.2 103 k = 0 := by
  refine lk_233a ?_
  have e2 : (r_bg w).2 = w.2 := rfl
  generalize hv : r_bg w = v at e2 ⊢
  refine l233b 42 0 rfl v (fun k hk => absurd hk (Nat.not_lt_zero _)) (fun w1 a1 a2 a3 => lk_233c rfl ?_)
  refine l233d 10 0 rfl w1 (fun k hk => absurd hk (Nat.not_lt_zero _)) (fun w2 b1 b2 b3 => lk_233e rfl ?_)
  refine l233f 3 0 rfl w2 (fun k hk => absurd hk (Nat.not_lt_zero _)) (fun w3 c1 c2 c3 => lk_233g rfl ⟨rfl, ?_, fun b h1 h2 h3 h4 => ?_, fun k hk => ?_, fun k hk => ?_, c3⟩)
  · rw [c1, b1, a1]
  · rw [c2 b h3 h4, b2 b h2, a2 b h1, e2]
  · rw [c2 105 (by decide) (by decide), b2 105 (by decide)]; exact a3 k hk
  · rw [c2 106 (by decide) (by decide)]; exact b3 k hk
/-- numbers of what is laid, as a round begins -/
def rE0 (G : G_) (w : W_) : Prop := (w.1 73 57 = 1 ∧ w.1 73 58 = 0 ∧ w.1 73 59 = 0 ∧ w.1 73 61 = 0 ∧ w.1 73 62 = 0) ∧ (w.1 73 64 = 0 ∧ w.1 73 65 = 0 ∧ w.1 73 66 = 0 ∧ w.1 73 67 = 0 ∧ w.1 73 68 = 0 ∧ w.1 73 52 = 0) ∧ (w.1 73 3 = G.2.2.2.1 ∧ w.1 73 4 = G.2.2.2.2) ∧ (∀ k : Nat, k < 42 → w.2 105 k = 0) ∧ (∀ k : Nat, k < 10 → w.2 106 k = 0) ∧ ∀ k : Nat, k < 3 → w.2 103 k = 0
theorem lk_233s {G : G_} {sil : Bool} {m : List R_} {rn tk : Nat} (H : rB0 G sil m rn tk w) : ww_Ct 233 fr [.inr (.inr (.inl 73))] w fun r w' => r = none ∧ rRC (g_C0 G) sil False 8 0 (s_start m rn tk) w' rG0 ∧ rE0 G w' := by
  refine lk_233.mono ?_
  rintro r w' ⟨rfl, h1, h2, h3, h4, h5⟩
  refine ⟨rfl, rX_bg H (by rw [h1]; exact ⟨rfl, rfl, rfl, rfl, rfl, rfl, rfl, rfl, rfl, rfl, rfl, rfl, rfl⟩) (fun j hj => ?_) (fun b hb => h2 b (by omega) (by omega) (by omega) (by omega)) h5, by rw [h1]; exact ⟨rfl, rfl, rfl, rfl, rfl⟩, by rw [h1]; exact ⟨rfl, rfl, rfl, rfl, rfl, rfl⟩, ?_, h3, h4, fun k hk => (h5 k hk).2⟩
  · rw [h1]
    rcases hj with rfl | rfl | rfl | rfl | rfl | rfl | rfl <;> rfl
  · obtain ⟨-, -, -, -, h3, -⟩ := H
    rw [h1]
    exact h3
end
