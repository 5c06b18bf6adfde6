/-! ===== reading: the tokens of a file to code ===== -/
/-- kinds, numbers, how many, which file -/
abbrev J_ : Type := (Nat → Nat) × (Nat → Int) × Nat × Nat
def j_par (k : Nat) : Nat := if k = 14 then 3 else if (9 ≤ k ∧ k ≤ 13) ∨ k = 17 ∨ k = 30 then 2 else if k = 15 ∨ k = 16 ∨ (18 ≤ k ∧ k ≤ 22) ∨ k = 28 ∨ k = 31 then 1 else 0
def j_id (J : J_) (p : Nat) : Nat := 60 * J.2.2.2 + p
def j_flt (J : J_) (c p : Nat) : Int := 100000 * (c : Int) + (10000 * (J.2.2.2 : Int) + 100 * (p : Int))
def j_own (k : Nat) (own : Option Nat) : T_ := match own with
  | some m => if k = 16 then .nest (m : Int) .nil else .nil
  | none => .nil
/-- what is read from a place on: its code, the place behind it, the faults; an expression (own: the name of the LET whose part it is) or items (of a whole file, of a formula) -/
def j_go : Nat → J_ → Option (Bool × Bool) → Option Nat → Nat → T_ × Nat × List Int
  | 0, _, _, _, p => (.nil, p, [])
  | n + 1, J, none, own, p =>
    if J.2.2.1 ≤ p then (.nil, p, [j_flt J 2 p])
    else if J.1 p ≤ 5 then (.nil, if J.1 p = 5 then p else p + 1, [j_flt J 1 p])
    else if J.1 p = 8 then
      (ce 8 (J.2.1 p) (j_id J p) (j_go n J (some (false, false)) none (p + 1)).1 .nil .nil, (j_go n J (some (false, false)) none (p + 1)).2)
    else if j_par (J.1 p) = 0 then (ce (J.1 p) (J.2.1 p) (j_id J p) .nil .nil .nil, p + 1, [])
    else
      let a := j_go n J none (if J.1 p = 15 then some (J.2.1 p % 10).toNat else none) (p + 1)
      if j_par (J.1 p) = 1 then (ce (J.1 p) (J.2.1 p) (j_id J p) a.1 (j_own (J.1 p) own) .nil, a.2)
      else
        let b := j_go n J none none a.2.1
        if j_par (J.1 p) = 2 then (ce (J.1 p) (J.2.1 p) (j_id J p) a.1 b.1 .nil, b.2.1, a.2.2 ++ b.2.2)
        else
          let c := j_go n J none none b.2.1
          (ce (J.1 p) (J.2.1 p) (j_id J p) a.1 b.1 c.1, c.2.1, a.2.2 ++ (b.2.2 ++ c.2.2))
  | n + 1, J, some (wh, fm), _, p =>
    if J.2.2.1 ≤ p then (.nil, p, if wh = true then [] else [j_flt J 2 p])
    else if J.1 p = 5 ∧ wh = false then (.nil, p + 1, [])
    else if J.1 p = 0 ∨ J.1 p = 3 ∨ (fm = false ∧ J.1 p < 5) then
      let x := if J.1 p = 3 then j_go n J none none (p + 1) else if J.1 p = 4 then j_go n J (some (false, true)) none (p + 1) else (.nil, p + 1, [])
      let r := j_go n J (some (wh, fm)) none x.2.1
      (ct (J.1 p) (J.2.1 p) (j_id J p) x.1 r.1, r.2.1, x.2.2 ++ r.2.2)
    else
      let r := j_go n J (some (wh, fm)) none (p + 1)
      (r.1, r.2.1, j_flt J 1 p :: r.2.2)
theorem c_sz_ce (k : Nat) (n : Int) (id : Nat) (a b c : T_) : c_sz (ce k n id a b c) = 1 + c_sz a + c_sz b + c_sz c := by
  unfold ce
  rw [c_sz]
theorem c_sz_own (k : Nat) (own : Option Nat) : c_sz (j_own k own) = 0 := by
  unfold j_own
  split
  · split
    · rfl
    · rfl
  · rfl
theorem c_sz_ct_le (k : Nat) (n : Int) (id : Nat) (x r : T_) (h : ∀ b c, r ≠ .append b c) : c_sz (ct k n id x r) = 1 + c_sz x + c_sz r := by
  unfold ct
  rw [c_sz]
  exact h
/-- no code begins with an append -/
theorem j_go_na : ∀ (n : Nat) (J : J_) (m : Option (Bool × Bool)) (own : Option Nat) (p : Nat), ∀ b c, (j_go n J m own p).1 ≠ .append b c := by
  intro n
  induction n with
  | zero => intro J m own p b c h; cases h
  | succ n ih =>
    intro J m own p b c
    rcases m with _ | ⟨wh, fm⟩
    · unfold j_go
      dsimp only
      (repeat' split) <;> (intro h; first | cases h | (unfold ce at h; cases h))
    · unfold j_go
      dsimp only
      (repeat' split) <;> (intro h; first | cases h | (unfold ct at h; cases h) | exact absurd h (ih _ _ _ _ _ _))
/-- the place goes on, and what is read is no more than was passed -/
theorem j_go_sz : ∀ (n : Nat) (J : J_) (m : Option (Bool × Bool)) (own : Option Nat) (p : Nat), p + c_sz (j_go n J m own p).1 ≤ (j_go n J m own p).2.1 ∧ (p ≤ J.2.2.1 → (j_go n J m own p).2.1 ≤ J.2.2.1) := by
  intro n
  induction n with
  | zero => intro J m own p; exact ⟨Nat.le_refl _, fun h => h⟩
  | succ n ih =>
    intro J m own p
    rcases m with _ | ⟨wh, fm⟩
    · unfold j_go
      by_cases c1 : J.2.2.1 ≤ p
      · rw [if_pos c1]
        exact ⟨Nat.le_refl _, fun h => h⟩
      · rw [if_neg c1]
        by_cases c2 : J.1 p ≤ 5
        · rw [if_pos c2]
          dsimp only
          refine ⟨?_, fun h => ?_⟩
          · show p + 0 ≤ _
            split <;> omega
          · split <;> omega
        · rw [if_neg c2]
          by_cases c3 : J.1 p = 8
          · rw [if_pos c3]
            dsimp only
            have h := ih J (some (false, false)) none (p + 1)
            rw [c_sz_ce]
            have e0 : c_sz (.nil : T_) = 0 := rfl
            rw [e0]
            exact ⟨by omega, fun q => h.2 (by omega)⟩
          · rw [if_neg c3]
            by_cases c4 : j_par (J.1 p) = 0
            · rw [if_pos c4]
              dsimp only
              rw [c_sz_ce]
              have e0 : c_sz (.nil : T_) = 0 := rfl
              rw [e0]
              exact ⟨by omega, fun q => by omega⟩
            · rw [if_neg c4]
              dsimp only
              have ha := ih J none (if J.1 p = 15 then some (J.2.1 p % 10).toNat else none) (p + 1)
              generalize j_go n J none (if J.1 p = 15 then some (J.2.1 p % 10).toNat else none) (p + 1) = a at ha ⊢
              have hb := ih J none none a.2.1
              generalize j_go n J none none a.2.1 = b at hb ⊢
              have hc := ih J none none b.2.1
              generalize j_go n J none none b.2.1 = c at hc ⊢
              have e0 : c_sz (.nil : T_) = 0 := rfl
              split
              · rw [c_sz_ce, c_sz_own, e0]
                dsimp only
                exact ⟨by omega, fun q => ha.2 (by omega)⟩
              · split
                · rw [c_sz_ce, e0]
                  dsimp only
                  exact ⟨by omega, fun q => hb.2 (ha.2 (by omega))⟩
                · rw [c_sz_ce]
                  dsimp only
                  exact ⟨by omega, fun q => hc.2 (hb.2 (ha.2 (by omega)))⟩
    · unfold j_go
      by_cases c1 : J.2.2.1 ≤ p
      · rw [if_pos c1]
        exact ⟨Nat.le_refl _, fun h => h⟩
      · rw [if_neg c1]
        by_cases c2 : J.1 p = 5 ∧ wh = false
        · rw [if_pos c2]
          exact ⟨by show p + 0 ≤ p + 1; omega, fun q => by show p + 1 ≤ _; omega⟩
        · rw [if_neg c2]
          split
          · dsimp only
            have hx : p + 1 + c_sz (if J.1 p = 3 then j_go n J none none (p + 1) else if J.1 p = 4 then j_go n J (some (false, true)) none (p + 1) else ((.nil : T_), p + 1, ([] : List Int))).1 ≤ (if J.1 p = 3 then j_go n J none none (p + 1) else if J.1 p = 4 then j_go n J (some (false, true)) none (p + 1) else ((.nil : T_), p + 1, ([] : List Int))).2.1 ∧ (if J.1 p = 3 then j_go n J none none (p + 1) else if J.1 p = 4 then j_go n J (some (false, true)) none (p + 1) else ((.nil : T_), p + 1, ([] : List Int))).2.1 ≤ J.2.2.1 := by
              split
              · have h := ih J none none (p + 1)
                exact ⟨h.1, h.2 (by omega)⟩
              · split
                · have h := ih J (some (false, true)) none (p + 1)
                  exact ⟨h.1, h.2 (by omega)⟩
                · exact ⟨Nat.le_refl _, by show p + 1 ≤ _; omega⟩
            generalize (if J.1 p = 3 then j_go n J none none (p + 1) else if J.1 p = 4 then j_go n J (some (false, true)) none (p + 1) else ((.nil : T_), p + 1, ([] : List Int))) = x at hx ⊢
            have hr := ih J (some (wh, fm)) none x.2.1
            rw [c_sz_ct_le _ _ _ _ _ (j_go_na _ _ _ _ _)]
            exact ⟨by omega, fun _ => hr.2 hx.2⟩
          · dsimp only
            have hr := ih J (some (wh, fm)) none (p + 1)
            exact ⟨by omega, fun _ => hr.2 (by omega)⟩
