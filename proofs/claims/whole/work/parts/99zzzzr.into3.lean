/-! ===== the class compiles: all rounds from its own files, and what looks alike ===== -/
/-- reading notes few faults -/
theorem j_go_len : ∀ (n : Nat) (J : J_) (m : Option (Bool × Bool)) (own : Option Nat) (p : Nat), (j_go n J m own p).2.2.length + 4 * p ≤ 4 * (j_go n J m own p).2.1 + 1 := by
  intro n
  induction n with
  | zero => intro J m own p; show 0 + 4 * p ≤ 4 * p + 1; omega
  | succ n ih =>
    intro J m own p
    rcases m with _ | ⟨wh, fm⟩
    · unfold j_go
      by_cases c1 : J.2.2.1 ≤ p
      · rw [if_pos c1]
        show 1 + 4 * p ≤ 4 * p + 1
        omega
      · rw [if_neg c1]
        by_cases c2 : J.1 p ≤ 5
        · rw [if_pos c2]
          show 1 + 4 * p ≤ 4 * (if J.1 p = 5 then p else p + 1) + 1
          split <;> omega
        · rw [if_neg c2]
          by_cases c3 : J.1 p = 8
          · rw [if_pos c3]
            have h := ih J (some (false, false)) none (p + 1)
            dsimp only
            omega
          · rw [if_neg c3]
            by_cases c4 : j_par (J.1 p) = 0
            · rw [if_pos c4]
              show 0 + 4 * p ≤ 4 * (p + 1) + 1
              omega
            · rw [if_neg c4]
              dsimp only
              have ha := ih J none (if J.1 p = 15 then some (J.2.1 p % 10).toNat else none) (p + 1)
              generalize j_go n J none (if J.1 p = 15 then some (J.2.1 p % 10).toNat else none) (p + 1) = a at ha ⊢
              have hb := ih J none none a.2.1
              generalize j_go n J none none a.2.1 = b at hb ⊢
              have hc := ih J none none b.2.1
              generalize j_go n J none none b.2.1 = c at hc ⊢
              split
              · dsimp only
                omega
              · split
                · dsimp only
                  rw [List.length_append]
                  omega
                · dsimp only
                  rw [List.length_append, List.length_append]
                  omega
    · unfold j_go
      by_cases c1 : J.2.2.1 ≤ p
      · rw [if_pos c1]
        dsimp only
        split
        · show 0 + 4 * p ≤ 4 * p + 1; omega
        · show 1 + 4 * p ≤ 4 * p + 1; omega
      · rw [if_neg c1]
        by_cases c2 : J.1 p = 5 ∧ wh = false
        · rw [if_pos c2]
          show 0 + 4 * p ≤ 4 * (p + 1) + 1
          omega
        · rw [if_neg c2]
          split
          · dsimp only
            have hx : (if J.1 p = 3 then j_go n J none none (p + 1) else if J.1 p = 4 then j_go n J (some (false, true)) none (p + 1) else ((.nil : T_), p + 1, ([] : List Int))).2.2.length + 4 * (p + 1) ≤ 4 * (if J.1 p = 3 then j_go n J none none (p + 1) else if J.1 p = 4 then j_go n J (some (false, true)) none (p + 1) else ((.nil : T_), p + 1, ([] : List Int))).2.1 + 1 := by
              split
              · exact ih J none none (p + 1)
              · split
                · exact ih J (some (false, true)) none (p + 1)
                · show 0 + 4 * (p + 1) ≤ 4 * (p + 1) + 1; omega
            generalize (if J.1 p = 3 then j_go n J none none (p + 1) else if J.1 p = 4 then j_go n J (some (false, true)) none (p + 1) else ((.nil : T_), p + 1, ([] : List Int))) = x at hx ⊢
            have hr := ih J (some (wh, fm)) none x.2.1
            rw [List.length_append]
            omega
          · dsimp only
            have hr := ih J (some (wh, fm)) none (p + 1)
            rw [List.length_cons]
            omega
/-- what a compiling goes by: the class' own files, page and all else that it leaves -/
def gi (w : W_) : G_ := (fun _ => 0, fun f => if f < 3 then tx (w.2 3) (w.2 5) (w.2 7) f else .nil, fun i => if i < 3 then (j_go 200 (tJ (w.2 3) (w.2 5) (w.2 7) i) (some (true, false)) none 0).2.2 else if (i - 3) % 256 < 128 then [w.2 ((i - 3) % 256) ((i - 3) / 256)] else [w.1 ((i - 3) % 256 - 128) ((i - 3) / 256)], w.1 50 15, w.1 50 16)
theorem gi_v (w : W_) {a : Nat} (j : Nat) (ha : a < 128) : yv (gi w) a j = w.1 a j := by
  have e1 : (3 + 256 * j + 128 + a - 3) % 256 = 128 + a := by omega
  have e2 : (3 + 256 * j + 128 + a - 3) / 256 = j := by omega
  show (if 3 + 256 * j + 128 + a < 3 then _ else if (3 + 256 * j + 128 + a - 3) % 256 < 128 then [w.2 ((3 + 256 * j + 128 + a - 3) % 256) ((3 + 256 * j + 128 + a - 3) / 256)] else [w.1 ((3 + 256 * j + 128 + a - 3) % 256 - 128) ((3 + 256 * j + 128 + a - 3) / 256)]).headD 0 = _
  rw [if_neg (by omega), e1, e2, if_neg (by omega)]
  show w.1 (128 + a - 128) j = _
  rw [show 128 + a - 128 = a by omega]
theorem gi_a (w : W_) {b : Nat} (hb : b < 128) : ya (gi w) b = w.2 b := by
  funext k
  have e1 : (3 + 256 * k + b - 3) % 256 = b := by omega
  have e2 : (3 + 256 * k + b - 3) / 256 = k := by omega
  show (if 3 + 256 * k + b < 3 then _ else if (3 + 256 * k + b - 3) % 256 < 128 then [w.2 ((3 + 256 * k + b - 3) % 256) ((3 + 256 * k + b - 3) / 256)] else [w.1 ((3 + 256 * k + b - 3) % 256 - 128) ((3 + 256 * k + b - 3) / 256)]).headD 0 = _
  rw [if_neg (by omega), e1, e2, if_pos (by omega)]
  rfl
/-- a class that may compile -/
def EN (sil : Bool) (m : List R_) (w : W_) : Prop := (w.2 5 183 = 0 ∧ (∀ k : Nat, k < 181 → 0 ≤ w.2 3 k ∧ w.2 3 k < 32 ∧ 0 ≤ w.2 5 k ∧ w.2 5 k < 100) ∧ ∀ f : Nat, f < 3 → 0 ≤ w.2 7 f ∧ w.2 7 f ≤ 60) ∧ (w.2 3 183 = 0 ∧ g0 (w.2 7)) ∧ ((3 ≤ w.1 50 15 ∧ w.1 50 15 ≤ 30) ∧ 1 ≤ w.1 50 16 ∧ w.1 50 16 ≤ 10) ∧ ((0 ≤ w.1 13 2 ∧ w.1 13 2 ≤ 237700) ∧ hI (w.1 13 2) (w.2 13) (w.2 7)) ∧ CRm sil (s_start m 0 0) w
section
variable {sil : Bool} {m : List R_} {w : W_} {o : Nat} {rem : Int}
theorem EN_GG (H : EN sil m w) : GG (gi w) := by
  refine ⟨fun f => ?_, fun f hf => ?_⟩
  · show c_sz (if f < 3 then _ else _) ≤ 60
    by_cases c : f < 3
    · rw [if_pos c]
      have h := j_go_sz 200 (tJ (w.2 3) (w.2 5) (w.2 7) f) (some (true, false)) none 0
      have z := H.1.2.2 f c
      have e : (tJ (w.2 3) (w.2 5) (w.2 7) f).2.2.1 = (w.2 7 f).toNat := rfl
      have := h.2 (by omega)
      unfold tx
      omega
    · rw [if_neg c]; decide
  · show (if f < 3 then _ else _ : List Int).length ≤ 300
    rw [if_pos hf]
    have h := j_go_sz 200 (tJ (w.2 3) (w.2 5) (w.2 7) f) (some (true, false)) none 0
    have g := j_go_len 200 (tJ (w.2 3) (w.2 5) (w.2 7) f) (some (true, false)) none 0
    have z := H.1.2.2 f hf
    have e : (tJ (w.2 3) (w.2 5) (w.2 7) f).2.2.1 = (w.2 7 f).toNat := rfl
    have := h.2 (by omega)
    omega
theorem EN_BI (H : EN sil m w) (hO : o = 24 ∨ o = 55 ∨ o = 64) : BI (gi w) sil o m 0 0 0 0 (w_59 w o) := by
  obtain ⟨h1, h2, h3, h4, h5⟩ := H
  have E1 : ∀ a j, ¬ (a = o ∧ (j = 6 ∨ j = 7 ∨ j = 8 ∨ j = 9)) → ¬ (a = 17 ∧ j = 7) → (w_59 w o).1 a j = w.1 a j := fun a j q1 q2 => by
    unfold w_59 w_fill
    dsimp only
    rw [w_f1, w_u_at, if_neg q2, w_f1, w_u_at, if_neg (by omega), w_f1, w_u_at, if_neg (by omega), w_f1, w_u_at, if_neg (by omega), w_f1, w_u_at, if_neg (by omega)]
  have E2 : ∀ b, b ≠ 20 → (w_59 w o).2 b = w.2 b := fun b q => by
    funext k
    show (if b = 20 ∧ 0 ≤ k ∧ k < 42 then (0 : Int) else w.2 b k) = _
    rw [if_neg (fun z => q z.1)]
  have Eo : (w_59 w o).1 17 7 = o ∧ (w_59 w o).1 o 6 = 0 ∧ (w_59 w o).1 o 7 = 0 ∧ (w_59 w o).1 o 8 = 0 ∧ (w_59 w o).1 o 9 = 0 := by
    unfold w_59 w_fill
    dsimp only
    rcases hO with rfl | rfl | rfl <;> exact ⟨rfl, rfl, rfl, rfl, rfl⟩
  refine ⟨⟨hO, Eo.1⟩, fun _ => ⟨Eo.2.2.1, Eo.2.2.2.1⟩, fun k hk => ⟨?_, show (-9999 : Int) ≤ 0 by decide, show (0 : Int) ≤ 9999 by decide⟩, ⟨⟨?_, ?_⟩, h3.1.1, h3.1.2, h3.2⟩, ⟨⟨?_, ?_, fun f hf => ⟨?_, ?_, ?_⟩⟩, ?_, ?_⟩, ⟨?_, ?_⟩, ?_, ⟨fun a j ha q => ?_, fun b hb q => ?_, ?_⟩, Eo.2.2.2.2⟩
  · show (if 20 = 20 ∧ 0 ≤ k ∧ k < 42 then (0 : Int) else w.2 20 k) = 0
    rw [if_pos ⟨rfl, Nat.zero_le _, hk⟩]
  · exact E1 50 15 (by omega) (by omega)
  · exact E1 50 16 (by omega) (by omega)
  · rw [E2 5 (by decide)]; exact h1.1
  · rw [E2 3 (by decide), E2 5 (by decide)]; exact h1.2.1
  · rw [E2 7 (by decide)]; exact h1.2.2 f hf
  · rw [E2 3 (by decide), E2 5 (by decide), E2 7 (by decide)]
    show (if f < 3 then _ else _) = _
    rw [if_pos hf]
  · rw [E2 3 (by decide), E2 5 (by decide), E2 7 (by decide)]
    show (if f < 3 then _ else _) = _
    rw [if_pos hf]
  · rw [E2 3 (by decide)]; exact h2.1
  · rw [E2 7 (by decide)]; exact h2.2
  · rw [E1 13 2 (by omega) (by omega)]; exact h4.1
  · rw [E1 13 2 (by omega) (by omega), E2 13 (by decide), E2 7 (by decide)]; exact h4.2
  · unfold CRm at h5 ⊢
    rw [E1 10 1 (by omega) (by omega), E1 13 2 (by omega) (by omega), E1 13 3 (by omega) (by omega), E2 11 (by decide), E2 13 (by decide), E2 3 (by decide), E2 5 (by decide), E2 7 (by decide)]
    exact h5
  · rw [E1 a j (by omega) (by omega), gi_v w j ha]
  · rw [E2 b (by omega), gi_a w hb]
  · rw [Eo.2.1]; omega
/-- what a compiling came to -/
def CI (sil : Bool) (o : Nat) (m : List R_) (w w' : W_) : Prop := ∃ (st : Bool) (cnt : Nat) (s : S_) (q : Q_) (w1 : W_), x_rounds (gi w) sil 4 (fun _ => 0) 0 (s_start m 0 0) = some (st, cnt, (s, q)) ∧ BI (q_nx q, (gi w).2) sil o (s_me s) (s_rn s) (s_tk s) cnt (if st = true then 1 else 0) w1 ∧ RF o s q w1 ∧ w' = w_cpy w1 (o + 5) 20 42
set_option maxRecDepth 100000 in
/-- **the class compiles as the evaluator's rounds** -/
theorem c_into (H : EN sil m w) (hO : o = 24 ∨ o = 55 ∨ o = 64) (hrem : rem = if sil = true then 0 else 1) {fr : Nat} (hf : 22 ≤ fr) : ww_Ct 59 fr [.inr (.inr (.inl 9)), .inr (.inr (.inl o)), .inl rem] w fun r w' => r = none ∧ CI sil o m w w' := by
  refine lk_59a hO hf ?_
  have hG := EN_GG H
  have h0 := EN_BI H hO
  refine c_loop hG hf hrem 4 (fun _ => 0) 0 m 0 0 (w_59 w o) am_X rfl (by decide) rfl h0 fun st cnt s q w1 hx hB hR => ?_
  exact lk_59k hO rfl hf ⟨rfl, st, cnt, s, q, w1, hx, hB, hR, rfl⟩
end
