/-! ===== realizing: from a file's content on ===== -/
section
variable {sil : Bool} {s s1 s2 : S_} {w w' : W_} {Γ Γ' : rG_} {G : G_} {q q1 : Q_} {fr K L : Nat} {P : Option am_V → W_ → Prop} {y : Int}
theorem rX_realize {v : T_} (hG : GG G) (HS : XS 0 0 s) (hv : v = vE ∨ ∃ q, v = .tag 9 q ∧ cG (s_tb s) q ∧ v_ff q = true ∧ v_m q + 1 ≤ s_tb s) (hr : x_run (fun C => ev C x_F) G sil x_FR s (q_start v) = some (s1, q1)) (H : rXR G sil s (q_start v) w Γ) (LL : ∀ w' Γ', rXC G sil s1 q1 w' Γ' → w'.1 73 52 = 0 → XS (q_el q1) (q_el q1) s1 → P none w') : zr234 (fr + 2060) P 23 y w := by
  have e : x_FR = 739999 + 1 := rfl
  have ne : ¬ ([((0, v, 0, 0, 0) : F_)]).isEmpty = true := fun z => by cases z
  have hX := HS.2.1
  have nl : ¬ (20000 < (q_fr (q_start v)).length ∨ 8000 < (q_rl (q_start v)).length) := fun z => by
    have z : 20000 < 1 ∨ 8000 < 0 := z
    omega
  rw [e, x_run_1, if_neg (show ¬ (q_fr (q_start v)).isEmpty = true from ne), if_neg nl] at hr
  rcases hv with rfl | ⟨q, rfl, hc, hff, hm⟩
  · have e2 : x_step (fun C => ev C x_F) G sil s (q_start vE) = some (s, p_fr (q_start vE) []) := rfl
    rw [e2] at hr
    refine rX_go (fr := fr) hG 739999 s (p_fr (q_start vE) []) w Γ HS ⟨⟨by show 0 ≤ 201; decide, fun z => absurd rfl z⟩, trivial, fun r hr => (by cases hr), Nat.zero_le _⟩ hr (rXR_fr (q := q_start vE) (S := []) H rfl trivial) LL
  · have e2 : x_step (fun C => ev C x_F) G sil s (q_start (.tag 9 q)) = some (s, p_fr (p_fr (q_start (.tag 9 q)) []) [(5, q, 0, 0, 0)]) := by cases q <;> rfl
    rw [e2] at hr
    have hY : x_Y s = 0 ∧ s_tb s < 300 ∨ x_Y s = 1800 := by
      show (if s_b s < 300 then 0 else 1800) = 0 ∧ _ ∨ (if s_b s < 300 then 0 else 1800) = 1800
      by_cases c : s_b s < 300
      · rw [if_pos c]; exact Or.inl ⟨rfl, by omega⟩
      · rw [if_neg c]; exact Or.inr rfl
    obtain ⟨c1, c2, c3, c4⟩ := hc
    have kq : vK q := by
      have z := H.2.2.1 (Or.inl rfl)
      rw [vK_9] at z
      exact z
    have ef : rFL (.tag 9 q) = [.tag 9 q] := rFL_tag (by omega)
    refine rX_go (fr := fr) hG 739999 s (p_fr (q_start (.tag 9 q)) [(5, q, 0, 0, 0)]) w Γ HS ⟨⟨by show 0 ≤ 201; decide, fun _ => ⟨by show 0 ≤ 200; decide, rfl, Nat.zero_le _, rfl⟩⟩, ?_, fun r hr => (by cases hr), Nat.zero_le _⟩ hr (rXR_fr (q := q_start (.tag 9 q)) (S := [(5, q, 0, 0, 0)]) H ?_ ⟨fun _ => kq, trivial⟩) LL
    · show XF (s_tb s) (x_Y s) 0 ((5, q, 0, 0, 0) :: [])
      rw [XF_5]
      refine ⟨⟨⟨⟨c1, c2, c3, c4⟩, hff⟩, ?_, ?_⟩, trivial⟩
      · show 0 + (2 * v_m q + 2) ≤ 605 * (0 + 1) + 2 * x_Y s
        omega
      · show 0 + v_R q ≤ 300 * (0 + 1) + x_Y s
        omega
    · show [fP (.tag 9 q)] ++ [] = (rFL (.tag 9 q)).map fP ++ []
      rw [ef]; rfl
/-- the reference ahead of a round -/
def rB0 (G : G_) (sil : Bool) (m : List R_) (rn tk : Nat) (w : W_) : Prop := rS5 (s_start m rn tk) w ∧ ((w.1 73 80 = ((rn : Nat) : Int) ∧ w.1 73 81 = ((tk : Nat) : Int)) ∧ w.1 73 79 = if sil = true then 1 else 0) ∧ (∀ q : Nat, q < 42 → w.2 104 q = G.1 q ∧ -9999 ≤ w.2 104 q ∧ w.2 104 q ≤ 9999) ∧ flO (g_C0 G) (w.2 74) (w.2 75) (w.2 76) ∧ (w.1 73 3 = G.2.2.2.1 ∧ w.1 73 4 = G.2.2.2.2) ∧ (0 ≤ w.1 73 45 ∧ w.1 73 45 ≤ 2000) ∧ am_rg (w.1 73 44) ∧ ∃ a : Nat, w.1 73 46 = (a : Int) ∧ a < 35184372088832
/-- nothing is in the tables -/
def rG0 : rG_ := (fun _ => [], fun _ => .nil, fun _ => .nil, fun _ => false)
/-- a round has begun -/
theorem rX_bg {m : List R_} {rn tk : Nat} (H : rB0 G sil m rn tk w) (h : w'.1 73 5 = 0 ∧ w'.1 73 15 = 0 ∧ w'.1 73 17 = 0 ∧ w'.1 73 21 = 0 ∧ w'.1 73 26 = 1 ∧ w'.1 73 33 = 0 ∧ w'.1 73 35 = 0 ∧ w'.1 73 39 = 0 ∧ w'.1 73 40 = 0 ∧ w'.1 73 41 = 0 ∧ w'.1 73 43 = 0 ∧ w'.1 73 47 = 0 ∧ w'.1 73 62 = 0) (hN : ∀ j, j = 44 ∨ j = 45 ∨ j = 46 ∨ j = 70 ∨ j = 79 ∨ j = 80 ∨ j = 81 → w'.1 73 j = w.1 73 j) (hA : ∀ b, (73 < b ∧ b < 77) ∨ b = 104 ∨ (113 < b ∧ b < 122) → w'.2 b = w.2 b) (h100 : ∀ f : Nat, f < 3 → w'.2 100 f = 0 ∧ w'.2 103 f = 0) : rRC (g_C0 G) sil False 8 0 (s_start m rn tk) w' rG0 := by
  obtain ⟨h5, ⟨⟨h80, h81⟩, h79⟩, h104, hfl, -, h45, h44, a, h46, h46'⟩ := H
  obtain ⟨z5, z15, z17, z21, z26, z33, z35, z39, z40, z41, z43, z47, z62⟩ := h
  refine ⟨⟨by omega, rfl, fun c c0 c1 => by omega, fun p hp => by omega, fun f hf => by omega⟩, ⟨⟨⟨z41, Nat.zero_le _⟩, fun i hi => absurd hi (Nat.not_lt_zero _), by rw [z40]; exact Int.le_refl _, by rw [z40]; exact Int.le_refl _⟩, Nat.zero_le _⟩, ⟨⟨z39, Nat.zero_le _, Nat.le_refl _, Nat.le_refl _⟩, ⟨z43, Nat.zero_le _⟩, ⟨z15, Nat.zero_le _⟩, ⟨by rw [hN 80 (by omega)]; exact h80, by rw [hN 81 (by omega)]; exact h81⟩, by rw [hN 79 (by omega)]; exact h79⟩, ⟨by rw [hN 45 (by omega)]; exact h45, by rw [hN 44 (by omega)]; exact h44, ⟨a, by rw [hN 46 (by omega)]; exact h46, h46', fun d => d.elim⟩, fun d => d.elim⟩, ⟨⟨by rw [z62]; rfl, Int.le_refl _, by show (0 : Int) ≤ 12; omega⟩, Or.inl z47, fun q hq => ?_, fun c hc => ⟨fun q => by omega, fun _ => ?_⟩, by rw [hA 74 (by omega), hA 75 (by omega), hA 76 (by omega)]; exact hfl, fun c hc => by rw [(h100 c hc).2]; unfold am_rg; omega⟩, fun f hf => ⟨(h100 f hf).1, by show 0 ≤ 2; omega, fun q => by cases q⟩, ?_, ⟨⟨?_, by omega, by show 0 ≤ 2000; omega⟩, ⟨by omega, by rw [z21]; exact Int.le_refl _⟩, ⟨by omega, by rw [z17]; exact Int.le_refl _⟩, ⟨by omega, by omega⟩, ?_⟩, ⟨0, by rw [z35]; rfl, rfl⟩, ?_⟩
  · obtain ⟨g1, g2, g3⟩ := h104 q hq
    rw [hA 104 (by omega)]
    refine ⟨?_, g2, g3⟩
    show (if q < 42 then some (G.1 q) else none) = _
    rw [if_pos hq, g1]
  · show (if 42 + c < 42 then some (G.1 (42 + c)) else none) = none
    rw [if_neg (by omega)]
  · unfold rS5 at h5 ⊢
    rw [hN 70 (by omega), hA 114 (by omega), hA 115 (by omega), hA 116 (by omega), hA 117 (by omega), hA 118 (by omega), hA 119 (by omega), hA 120 (by omega), hA 121 (by omega)]
    exact h5
  · have f3 : fcz (s_start m rn tk) = 3 := rfl
    have u0 : rUC (w'.2 90) (w'.1 73 21).toNat = 0 := by rw [z21]; rfl
    have t0 : s_tb (s_start m rn tk) = 0 := rfl
    rw [f3, u0, z26, z33, z35, t0]
    omega
  · have f3 : fcz (s_start m rn tk) = 3 := rfl
    rw [f3, z5]
    omega
  · exact ⟨⟨fun s _ => ⟨rfl, by assumption⟩, trivial⟩, fun t ht => by cases ht⟩
end
