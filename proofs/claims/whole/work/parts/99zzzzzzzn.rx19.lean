/-! ===== rounds from the first on ===== -/
section
variable {sil : Bool} {s s1 : S_} {w w' : W_} {G : G_} {q q1 : Q_} {fr : Nat} {P : Option am_V → W_ → Prop}
theorem l235b : ∀ (d i : Nat), d + i = 42 → ∀ w : W_, (∀ k, k < i → w.2 104 k = 0) → (∀ w' : W_, w'.1 = w.1 → (∀ b, b ≠ 104 → w'.2 b = w.2 b) → (∀ k, k < 42 → w'.2 104 k = 0) → zr235 fr P 2 42 am_X am_X w') → zr235 fr P 2 (i : Int) am_X am_X w := by
  intro d
  induction d with
  | zero =>
    intro i hi w hz LL
    have e : i = 42 := by omega
    subst e
    exact LL w rfl (fun _ _ => rfl) hz
  | succ d ih =>
    intro i hi w hz LL
    have ei : ((i : Int)).toNat = i := by omega
    refine lk_235b (by omega) ?_
    rw [ei, show (i : Int) + 1 = ((i + 1 : Nat) : Int) by omega]
    refine ih (i + 1) (by omega) _ (fun k hk => ?_) (fun w' h1 h2 h3 => LL w' h1 (fun b hb => by rw [h2 b hb, w_a_2ne _ _ _ hb]) h3)
    rw [w_a_at]
    by_cases e : k = i
    · rw [if_pos e]
    · rw [if_neg e]; exact hz k (by omega)
/-- the reference ahead of all rounds -/
def rB1 (G : G_) (sil : Bool) (m : List R_) (rn tk : Nat) (w : W_) : Prop := rS5 (s_start m rn tk) w ∧ ((w.1 73 80 = ((rn : Nat) : Int) ∧ w.1 73 81 = ((tk : Nat) : Int)) ∧ w.1 73 79 = if sil = true then 1 else 0) ∧ flO (g_C0 G) (w.2 74) (w.2 75) (w.2 76) ∧ (w.1 73 3 = G.2.2.2.1 ∧ w.1 73 4 = G.2.2.2.2) ∧ (0 ≤ w.1 73 45 ∧ w.1 73 45 ≤ 2000) ∧ am_rg (w.1 73 44) ∧ ∃ a : Nat, w.1 73 46 = (a : Int) ∧ a < 35184372088832
theorem lk_235 (hG : GG G) (hp : 3 ≤ G.2.2.2.1 ∧ G.2.2.2.1 ≤ 30 ∧ 1 ≤ G.2.2.2.2 ∧ G.2.2.2.2 ≤ 10) {st : Bool} {mm : Nat} {m : List R_} {rn tk : Nat} (HB : rB1 G sil m rn tk w) (h : x_rounds G sil 4 (fun _ => 0) 0 (s_start m rn tk) = some (st, mm, (s1, q1))) : ww_Ct 235 (fr + 2061) [.inr (.inr (.inl 73))] w fun r w' => r = some (.inl (if st = true then (mm : Int) else -4)) ∧ ∃ (w2 : W_) (Γ' : rG_) (bf' : Nat → Int), rXC (bf', G.2) sil s1 q1 w2 Γ' ∧ w2.1 73 52 = 0 ∧ w'.1 = w2.1 ∧ (∀ b, b ≠ 104 → w'.2 b = w2.2 b) ∧ ∀ j : Nat, j < 42 → w'.2 104 j = q_nx q1 j := by
  refine lk_235a ?_
  refine l235b 42 0 rfl w (fun k hk => absurd hk (Nat.not_lt_zero _)) (fun w1 a1 a2 a3 => lk_235c rfl ?_)
  obtain ⟨b1, b2, b3, b4, b5, b6, b7⟩ := HB
  have HB' : rB0 ((fun _ => 0), G.2) sil m rn tk w1 := by
    refine ⟨?_, by rw [a1]; exact b2, fun k hk => ?_, by rw [a2 74 (by decide), a2 75 (by decide), a2 76 (by decide)]; exact b3, by rw [a1]; exact b4, by rw [a1]; exact b5, by rw [a1]; exact b6, by rw [a1]; exact b7⟩
    · unfold rS5 at b1 ⊢
      rw [a1, a2 114 (by decide), a2 115 (by decide), a2 116 (by decide), a2 117 (by decide), a2 118 (by decide), a2 119 (by decide), a2 120 (by decide), a2 121 (by decide)]
      exact b1
    · rw [a3 k hk]
      exact ⟨rfl, by omega, by omega⟩
  exact lk_235r (fr := fr) hG hp 4 (fun _ => 0) 0 m rn tk w1 am_X am_X rfl (by omega) ⟨rfl, rfl⟩ HB' h (fun w' w2 Γ' bf' g1 g2 g3 g4 g5 => ⟨rfl, w2, Γ', bf', g1, g2, g3, g4, g5⟩)
end
