/-! ===== realizing: rounds ===== -/
section
variable {sil : Bool} {s s1 s2 : S_} {w w' : W_} {Γ Γ' : rG_} {G : G_} {q q1 : Q_} {fr : Nat} {P : Option am_V → W_ → Prop} {y : Int}
/-- behind a round, ahead of the next -/
theorem rB0_of (H : rXC G sil s q w Γ) (h1 : ∀ j, 73 ≤ j ∨ j < 52 ∨ True → w'.1 73 j = w.1 73 j) (h2 : ∀ b, b ≠ 104 → w'.2 b = w.2 b) (h3 : ∀ k : Nat, k < 42 → w'.2 104 k = q_nx q k) : rB0 (q_nx q, G.2) sil (s_me s) (s_rn s) (s_tk s) w' := by
  have N : ∀ j, w'.1 73 j = w.1 73 j := fun j => h1 j (Or.inr (Or.inr trivial))
  obtain ⟨⟨nq, k1, -⟩, h47, ⟨⟨-, -, x9, x10⟩, hB⟩, -, z⟩ := H
  obtain ⟨-, -, r1, r2, r3, -, r5, -⟩ := k1
  refine ⟨?_, ⟨⟨by rw [N]; exact r1.2.2.2.1.1, by rw [N]; exact r1.2.2.2.1.2⟩, by rw [N]; exact r1.2.2.2.2⟩, fun k hk => ?_, ?_, ⟨by rw [N]; exact x9, by rw [N]; exact x10⟩, by rw [N]; exact r2.1, by rw [N]; exact r2.2.1, ?_⟩
  · unfold rS5 at r5 ⊢
    rw [N 70, h2 114 (by decide), h2 115 (by decide), h2 116 (by decide), h2 117 (by decide), h2 118 (by decide), h2 119 (by decide), h2 120 (by decide), h2 121 (by decide)]
    exact r5
  · rw [h3 k hk]
    have b := hB.2.2.2.1.1 k hk
    exact ⟨rfl, b.1, b.2⟩
  · rw [h2 74 (by decide), h2 75 (by decide), h2 76 (by decide)]
    exact r3.2.2.2.2.1
  · obtain ⟨a, a1, a2, -⟩ := r2.2.2.1
    exact ⟨a, by rw [N]; exact a1, a2⟩
/-- answers are told to the next round -/
theorem l235 {bf nx : Nat → Int} {i : Int} (bb : ∀ k : Nat, k < 42 → am_rg (bf k) ∧ am_rg (nx k)) : ∀ (d k : Nat), d + k = 42 → ∀ (w : W_) (fl : Int), ((fl = 1 ∧ ∀ j, j < k → bf j = nx j) ∨ (fl = 0 ∧ ¬ ∀ j, j < 42 → bf j = nx j)) → (∀ j : Nat, j < 42 → w.2 105 j = nx j) → (∀ j : Nat, j < k → w.2 104 j = nx j) → (∀ j : Nat, k ≤ j → j < 42 → w.2 104 j = bf j) → (∀ (w' : W_) (fl : Int), w'.1 = w.1 → (∀ b, b ≠ 104 → w'.2 b = w.2 b) → (∀ j : Nat, j < 42 → w'.2 104 j = nx j) → ((fl = 1 ∧ ∀ j, j < 42 → bf j = nx j) ∨ (fl = 0 ∧ ¬ ∀ j, j < 42 → bf j = nx j)) → zr235 fr P 36 i (.inl fl) (.inl 42) w') → zr235 fr P 36 i (.inl fl) (.inl (k : Int)) w := by
  intro d
  induction d with
  | zero =>
    intro k hk w fl hf h5 h4 h4' LL
    have e : k = 42 := by omega
    subst e
    exact LL w fl rfl (fun _ _ => rfl) h4 hf
  | succ d ih =>
    intro k hk w fl hf h5 h4 h4' LL
    have ek : ((k : Int)).toNat = k := by omega
    have e1 : (k : Int) + 1 = ((k + 1 : Nat) : Int) := by omega
    obtain ⟨b1, b2⟩ := bb k (by omega)
    have a4 := h4' k (Nat.le_refl _) (by omega)
    have a5 := h5 k (by omega)
    have go : ∀ fl' : Int, ((fl' = 1 ∧ ∀ j, j < k + 1 → bf j = nx j) ∨ (fl' = 0 ∧ ¬ ∀ j, j < 42 → bf j = nx j)) → zr235 fr P 36 i (.inl fl') (.inl ((k : Int) + 1)) (w_a w 104 ((k : Int)).toNat (nx k)) := by
      intro fl' hf'
      rw [ek, e1]
      refine ih (k + 1) (by omega) _ fl' hf' (fun j hj => by rw [w_a_2ne _ _ _ (by decide)]; exact h5 j hj) (fun j hj => ?_) (fun j hj hj' => ?_) (fun w' fl g1 g2 g3 g4 => LL w' fl g1 (fun b hb => by rw [g2 b hb, w_a_2ne _ _ _ hb]) g3 g4)
      · rw [w_a_at]
        by_cases e : j = k
        · rw [if_pos e, e]
        · rw [if_neg e]; exact h4 j (by omega)
      · rw [w_a_at, if_neg (by omega)]
        exact h4' j (by omega) hj'
    rcases hf with ⟨rfl, hf⟩ | ⟨rfl, hf⟩
    · by_cases c : bf k = nx k
      · refine lk_235f (by omega) (by rw [ek]; exact a4) (by rw [ek]; exact a5) ⟨b1, b2⟩ c (go 1 (Or.inl ⟨rfl, fun j hj => ?_⟩))
        by_cases e : j = k
        · rw [e]; exact c
        · exact hf j (by omega)
      · exact lk_235g (by omega) (by rw [ek]; exact a4) (by rw [ek]; exact a5) ⟨b1, b2⟩ c (go 0 (Or.inr ⟨rfl, fun z => c (z k (by omega))⟩))
    · exact lk_235h (by omega) (by rw [ek]; exact a4) (by rw [ek]; exact a5) ⟨b1, b2⟩ (go 0 (Or.inr ⟨rfl, hf⟩))
/-- rounds until answers settle, at most four -/
theorem lk_235r (hG : GG G) (hp : 3 ≤ G.2.2.2.1 ∧ G.2.2.2.1 ≤ 30 ∧ 1 ≤ G.2.2.2.2 ∧ G.2.2.2.2 ≤ 10) {st : Bool} {mm : Nat} : ∀ (n : Nat) (bf : Nat → Int) (many : Nat) (m : List R_) (rn tk : Nat) (w : W_) (v2 v3 : am_V), n + many = 4 → 1 ≤ n → (am_two v2 = false ∧ am_two v3 = false) → rB0 (bf, G.2) sil m rn tk w → x_rounds G sil n bf many (s_start m rn tk) = some (st, mm, (s1, q1)) → (∀ (w' w2 : W_) (Γ' : rG_) (bf' : Nat → Int), rXC (bf', G.2) sil s1 q1 w2 Γ' → w2.1 73 52 = 0 → w'.1 = w2.1 → (∀ b, b ≠ 104 → w'.2 b = w2.2 b) → (∀ j : Nat, j < 42 → w'.2 104 j = q_nx q1 j) → P (some (.inl (if st = true then (mm : Int) else -4))) w') → zr235 (fr + 2061) P 23 ((many : Int) + 1) v2 v3 w := by
  intro n
  induction n with
  | zero => intro bf many m rn tk w v2 v3 _ h1; omega
  | succ n ih =>
    intro bf many m rn tk w v2 v3 hn _ hv HB h LL
    have hG' : GG (bf, G.2) := hG
    obtain ⟨sa, qa, hx, -⟩ := x_round_ok (sil := sil) hG' m rn tk
    unfold x_rounds at h
    rw [hx] at h
    dsimp only at h
    refine lk_235d (R := fun w' => ∃ Γ', rXC (bf, G.2) sil sa qa w' Γ' ∧ w'.1 73 52 = 0 ∧ ∀ k : Nat, k < 42 → w'.2 104 k = bf k ∧ am_rg (bf k)) (by omega) hv (by omega) ?_ ?_
    · refine (lk_234 (fr := fr) (G := (bf, G.2)) hG' hp HB hx).mono ?_
      rintro r w2 ⟨rfl, Γ2, g1, g2⟩
      refine ⟨rfl, Γ2, g1, g2, fun k hk => ?_⟩
      have HH := g1.1
      obtain ⟨nq, k1, -⟩ := HH
      obtain ⟨z1, z2, z3⟩ := k1.2.2.2.2.1.2.2.1 k hk
      have e : (g_C (bf, G.2) qa).1 k = some (bf k) := by
        show some (if k < 42 then bf k else _) = _
        rw [if_pos hk]
      rw [e] at z1
      have z1 := Option.some.inj z1
      refine ⟨z1.symm, ?_⟩
      unfold am_rg
      omega
    · rintro w2 ⟨Γ2, g1, g2, g3⟩
      have Z3 := g1.2.2.2.2.1
      have QBn := g1.2.2.1.2.2.2.2.1.1
      refine l235 (bf := bf) (nx := q_nx qa) (fun k hk => ⟨(g3 k hk).2, by have := QBn k hk; unfold am_rg; omega⟩) 42 0 rfl w2 1 (Or.inl ⟨rfl, fun j hj => absurd hj (Nat.not_lt_zero _)⟩) Z3 (fun j hj => absurd hj (Nat.not_lt_zero _)) (fun j _ hj => (g3 j hj).1) (fun w3 fl f1 f2 f3 f4 => ?_)
      have ALL : (List.range 42).all (fun k => bf k == q_nx qa k) = true ↔ ∀ j, j < 42 → bf j = q_nx qa j := by
        rw [List.all_eq_true]
        constructor
        · intro z j hj
          exact eq_of_beq (z j (List.mem_range.2 hj))
        · intro z j hj
          exact beq_iff_eq.2 (z j (List.mem_range.1 hj))
      rcases f4 with ⟨rfl, f4⟩ | ⟨rfl, f4⟩
      · rw [if_pos (ALL.2 f4)] at h
        cases h
        refine lk_235i rfl ?_
        exact LL w3 w2 Γ2 bf g1 g2 f1 f2 f3
      · rw [if_neg (fun z => f4 (ALL.1 z))] at h
        refine lk_235j rfl ?_
        cases n with
        | zero =>
          have h : some (false, many + 1, (sa, qa)) = some (st, mm, (s1, q1)) := h
          cases h
          exact lk_235e ⟨rfl, rfl⟩ (by omega) (LL w3 w2 Γ2 bf g1 g2 f1 f2 f3)
        | succ n =>
          have z := ih (q_nx qa) (many + 1) (s_me sa) (s_rn sa) (s_tk sa) w3 (.inl 0) (.inl 42) (by omega) (by omega) ⟨rfl, rfl⟩ (rB0_of (G := (bf, G.2)) g1 (fun j _ => by rw [f1]) f2 f3) h LL
          rw [show (((many + 1 : Nat)) : Int) = (many : Int) + 1 by omega] at z
          exact z
end
