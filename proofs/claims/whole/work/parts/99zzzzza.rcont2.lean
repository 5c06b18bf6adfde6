/-! ===== contents of the reference: made, joined, a value's, gathered ===== -/
/-- how many pairs have no content yet -/
def rUC (a : Nat → Int) : Nat → Nat
  | 0 => 0
  | n + 1 => rUC a n + (if a n = -1 then 1 else 0)
theorem rUC_cg {a a' : Nat → Int} : ∀ n : Nat, (∀ p, p < n → a' p = a p) → rUC a' n = rUC a n := by
  intro n
  induction n with
  | zero => intro _; rfl
  | succ n ih =>
    intro h
    show rUC a' n + _ = rUC a n + _
    rw [ih (fun p hp => h p (by omega)), h n (by omega)]
theorem rUC_sp {a a' : Nat → Int} {k : Nat} (h : ∀ p, k ≤ p → a' p = a p) : ∀ n : Nat, k ≤ n → rUC a' n + rUC a k = rUC a n + rUC a' k := by
  intro n
  induction n with
  | zero => intro q; rw [show k = 0 by omega]; rfl
  | succ n ih =>
    intro q
    by_cases c : k = n + 1
    · rw [c]; omega
    · have z := ih (by omega)
      show rUC a' n + _ + _ = rUC a n + _ + _
      rw [h n (by omega)]
      omega
theorem rUC_le (a : Nat → Int) : ∀ k n : Nat, k ≤ n → rUC a k ≤ rUC a n := by
  intro k n
  induction n with
  | zero => intro q; rw [show k = 0 by omega]; exact Nat.le_refl _
  | succ n ih =>
    intro q
    by_cases c : k = n + 1
    · rw [c]; exact Nat.le_refl _
    · exact Nat.le_trans (ih (by omega)) (Nat.le_add_right _ _)
/-- contents were made, no more than d (those that pairs owe come off) -/
def rMO (w : W_) (Γ : rG_) (w' : W_) (Γ' : rG_) (K : Nat) (d : Int) : Prop := rXT w Γ w' Γ' (-1) ∧ rHH w' Γ' ∧ Γ'.2 = Γ.2 ∧ ((∀ a j, ¬ (a = 73 ∧ j = 26) → w'.1 a j = w.1 a j) ∧ (∀ b, b < 90 ∨ 97 < b → w'.2 b = w.2 b) ∧ ∀ p : Nat, K ≤ p → w'.2 90 p = w.2 90 p) ∧ w'.1 73 26 + 3 * (rUC (w'.2 90) K : Int) ≤ w.1 73 26 + 3 * (rUC (w.2 90) K : Int) + d
theorem rOK_m (Γ : rG_) : rOK Γ (-1) := fun r q => by omega
section
variable {w w1 w2 : W_} {Γ Γ1 Γ2 : rG_} {K : Nat} {d d1 d2 : Int}
theorem rMO_rfl (H : rHH w Γ) : rMO w Γ w Γ K 0 := ⟨rXT_rfl, H, rfl, ⟨fun _ _ _ => rfl, fun _ _ => rfl, fun _ _ => rfl⟩, by omega⟩
theorem rMO_trans (h : rMO w Γ w1 Γ1 K d1) (g : rMO w1 Γ1 w2 Γ2 K d2) : rMO w Γ w2 Γ2 K (d1 + d2) := by
  obtain ⟨h1, h2, h3, ⟨h4, h5, h6⟩, h7⟩ := h
  obtain ⟨g1, g2, g3, ⟨g4, g5, g6⟩, g7⟩ := g
  exact ⟨rXT_trans h1 g1 (Or.inl rfl) (Or.inl rfl), g2, by rw [g3, h3], ⟨fun a j q => by rw [g4 a j q, h4 a j q], fun b q => by rw [g5 b q, h5 b q], fun p q => by rw [g6 p q, h6 p q]⟩, by omega⟩
theorem rMO_up {K' : Nat} (h : rMO w Γ w1 Γ1 K d) (hK : K ≤ K') : rMO w Γ w1 Γ1 K' d := by
  obtain ⟨h1, h2, h3, ⟨h4, h5, h6⟩, h7⟩ := h
  have z := rUC_sp h6 K' hK
  exact ⟨h1, h2, h3, ⟨h4, h5, fun p q => h6 p (by omega)⟩, by omega⟩
theorem rMO_wk (h : rMO w Γ w1 Γ1 K d1) (hd : d1 ≤ d2) : rMO w Γ w1 Γ1 K d2 := by
  obtain ⟨h1, h2, h3, h4, h7⟩ := h
  exact ⟨h1, h2, h3, h4, by omega⟩
/-- a new content's leaves -/
def rGc (Γ : rG_) (n : Nat) (l : List T_) : rG_ := (fun c => if c = n then l else Γ.1 c, Γ.2)
theorem r_mk_at (k a b c h y1 y2 y3 : Int) {n : Nat} (hn : w.1 73 26 = (n : Int)) : ((r_mk w k a b c h y1 y2 y3).2 92 n = k ∧ (r_mk w k a b c h y1 y2 y3).2 93 n = a ∧ (r_mk w k a b c h y1 y2 y3).2 94 n = b ∧ (r_mk w k a b c h y1 y2 y3).2 95 n = c ∧ (r_mk w k a b c h y1 y2 y3).2 96 n = h) ∧ (r_mk w k a b c h y1 y2 y3).2 97 (3 * n + 0) = y1 ∧ (r_mk w k a b c h y1 y2 y3).2 97 (3 * n + 1) = y2 ∧ (r_mk w k a b c h y1 y2 y3).2 97 (3 * n + 2) = y3 := by
  have en : (w.1 73 26).toNat = n := by omega
  refine ⟨⟨?_, ?_, ?_, ?_, ?_⟩, ?_, ?_, ?_⟩
  · show (if 92 = 92 ∧ n = (w.1 73 26).toNat then k else _) = k
    rw [if_pos ⟨rfl, en.symm⟩]
  · show (if 93 = 93 ∧ n = (w.1 73 26).toNat then a else _) = a
    rw [if_pos ⟨rfl, en.symm⟩]
  · show (if 94 = 94 ∧ n = (w.1 73 26).toNat then b else _) = b
    rw [if_pos ⟨rfl, en.symm⟩]
  · show (if 95 = 95 ∧ n = (w.1 73 26).toNat then c else _) = c
    rw [if_pos ⟨rfl, en.symm⟩]
  · show (if 96 = 96 ∧ n = (w.1 73 26).toNat then h else _) = h
    rw [if_pos ⟨rfl, en.symm⟩]
  · show (if 97 = 97 ∧ 3 * n + 0 = (3 * w.1 73 26 + 3 - 1).toNat then y3 else if 97 = 97 ∧ 3 * n + 0 = (3 * w.1 73 26 + 2 - 1).toNat then y2 else if 97 = 97 ∧ 3 * n + 0 = (3 * w.1 73 26 + 1 - 1).toNat then y1 else _) = y1
    rw [if_neg (by omega), if_neg (by omega), if_pos ⟨rfl, by omega⟩]
  · show (if 97 = 97 ∧ 3 * n + 1 = (3 * w.1 73 26 + 3 - 1).toNat then y3 else if 97 = 97 ∧ 3 * n + 1 = (3 * w.1 73 26 + 2 - 1).toNat then y2 else _) = y2
    rw [if_neg (by omega), if_pos ⟨rfl, by omega⟩]
  · show (if 97 = 97 ∧ 3 * n + 2 = (3 * w.1 73 26 + 3 - 1).toNat then y3 else _) = y3
    rw [if_pos ⟨rfl, by omega⟩]
theorem r_mk_lo (k a b c h y1 y2 y3 : Int) {n : Nat} (hn : w.1 73 26 = (n : Int)) {j : Nat} (hj : j < n) : ((r_mk w k a b c h y1 y2 y3).2 92 j = w.2 92 j ∧ (r_mk w k a b c h y1 y2 y3).2 93 j = w.2 93 j ∧ (r_mk w k a b c h y1 y2 y3).2 94 j = w.2 94 j ∧ (r_mk w k a b c h y1 y2 y3).2 95 j = w.2 95 j ∧ (r_mk w k a b c h y1 y2 y3).2 96 j = w.2 96 j) ∧ ∀ s : Nat, s < 3 → (r_mk w k a b c h y1 y2 y3).2 97 (3 * j + s) = w.2 97 (3 * j + s) := by
  refine ⟨⟨?_, ?_, ?_, ?_, ?_⟩, fun s hs => ?_⟩
  · show (if 92 = 92 ∧ j = (w.1 73 26).toNat then k else w.2 92 j) = _
    rw [if_neg (by omega)]
  · show (if 93 = 93 ∧ j = (w.1 73 26).toNat then a else w.2 93 j) = _
    rw [if_neg (by omega)]
  · show (if 94 = 94 ∧ j = (w.1 73 26).toNat then b else w.2 94 j) = _
    rw [if_neg (by omega)]
  · show (if 95 = 95 ∧ j = (w.1 73 26).toNat then c else w.2 95 j) = _
    rw [if_neg (by omega)]
  · show (if 96 = 96 ∧ j = (w.1 73 26).toNat then h else w.2 96 j) = _
    rw [if_neg (by omega)]
  · show (if 97 = 97 ∧ 3 * j + s = (3 * w.1 73 26 + 3 - 1).toNat then y3 else if 97 = 97 ∧ 3 * j + s = (3 * w.1 73 26 + 2 - 1).toNat then y2 else if 97 = 97 ∧ 3 * j + s = (3 * w.1 73 26 + 1 - 1).toNat then y1 else w.2 97 (3 * j + s)) = _
    rw [if_neg (by omega), if_neg (by omega), if_neg (by omega)]
theorem r_mk_b (k a b c h y1 y2 y3 : Int) {q : Nat} (hq : q < 92 ∨ 97 < q) : (r_mk w k a b c h y1 y2 y3).2 q = w.2 q := by
  unfold r_mk r_m5
  rw [w_f2, w_a_2ne _ _ _ (by omega), w_a_2ne _ _ _ (by omega), w_a_2ne _ _ _ (by omega), w_a_2ne _ _ _ (by omega), w_a_2ne _ _ _ (by omega), w_a_2ne _ _ _ (by omega), w_a_2ne _ _ _ (by omega), w_a_2ne _ _ _ (by omega)]
/-- a world where contents that were there, and all else of the tables, are as they were -/
theorem rXT_c {Γ' : rG_} {v : W_} (h1 : ∀ j, j = 5 ∨ j = 15 ∨ j = 17 ∨ j = 21 → v.1 73 j = w.1 73 j) (h26 : w.1 73 26 ≤ v.1 73 26) (hA : ∀ j : Nat, (j : Int) < w.1 73 26 → (v.2 92 j = w.2 92 j ∧ v.2 93 j = w.2 93 j ∧ v.2 94 j = w.2 94 j ∧ v.2 95 j = w.2 95 j ∧ v.2 96 j = w.2 96 j) ∧ ∀ s : Nat, s < 3 → v.2 97 (3 * j + s) = w.2 97 (3 * j + s)) (hB : ∀ b, 77 ≤ b → b < 92 → v.2 b = w.2 b) (hG : Γ'.2 = Γ.2 ∧ ∀ j : Nat, (j : Int) < w.1 73 26 → Γ'.1 j = Γ.1 j) : rXT w Γ v Γ' (-1) := by
  have B : ∀ b k, 77 ≤ b → b < 92 → v.2 b k = w.2 b k := fun b k q0 q1 => by rw [hB b q0 q1]
  refine ⟨⟨⟨?_, ?_, ?_, ?_, h26⟩, fun i _ _ => ⟨⟨B _ _ (by omega) (by omega), B _ _ (by omega) (by omega), B _ _ (by omega) (by omega), B _ _ (by omega) (by omega)⟩, ⟨B _ _ (by omega) (by omega), B _ _ (by omega) (by omega)⟩, B _ _ (by omega) (by omega), B _ _ (by omega) (by omega), B _ _ (by omega) (by omega)⟩⟩, ⟨fun r m _ _ _ => B _ _ (by omega) (by omega), fun _ _ => by rw [hG.1]⟩, fun f _ => ⟨⟨B _ _ (by omega) (by omega), B _ _ (by omega) (by omega), B _ _ (by omega) (by omega)⟩, by rw [hG.1]⟩, fun p _ => ⟨⟨B _ _ (by omega) (by omega), B _ _ (by omega) (by omega), fun _ => ⟨B _ _ (by omega) (by omega), B _ _ (by omega) (by omega)⟩⟩, by rw [hG.1]⟩, fun c q => ⟨(hA c q).1, (hA c q).2, hG.2 c q⟩⟩
  · rw [h1 5 (by omega)]; exact Int.le_refl _
  · rw [h1 15 (by omega)]; exact Int.le_refl _
  · rw [h1 17 (by omega)]; exact Int.le_refl _
  · rw [h1 21 (by omega)]; exact Int.le_refl _
/-- a content is made -/
theorem lk_new {fr : Nat} {k a b c h : Int} {l : List T_} {y : Nat → Int} (H : rHH w Γ) (hf : 3 ≤ fr) (hn : w.1 73 26 < 8192) (hl : l ≠ [] ∧ ∀ t ∈ l, rLf t) (hh : h = if l.any rNK = true then 1 else 0)
    (hy : (∀ t ∈ l, rNK t = true) ∨ k ≠ 50 → ∀ s : Nat, s < 3 → y (s + 1) = ((rWL l (s + 1)).1 : Nat)) (hy2 : ∀ s : Nat, 1 ≤ s → s ≤ 3 → 0 ≤ y s ∧ y s ≤ 9999)
    (W : ∀ v : W_, rHH v Γ → v.1 = w.1 → (∀ j : Nat, (j : Int) < w.1 73 26 → ∀ s : Nat, s < 3 → v.2 97 (3 * j + s) = w.2 97 (3 * j + s)) → ∀ s : Nat, 1 ≤ s → s ≤ 3 → ww_Ct 189 (fr - 1) [.inr (.inr (.inl 73)), .inl k, .inl a, .inl b, .inl (s : Int)] v (fun r w' => r = some (.inl (y s)) ∧ w' = v))
    (T : ∀ (n : Nat) (w' : W_) (Γ' : rG_), w.1 73 26 = (n : Int) → rXT w Γ w' Γ' (-1) → Γ'.2 = Γ.2 → Γ'.1 n = l → w'.2 92 n = k → w'.2 93 n = a → w'.2 94 n = b → w'.2 95 n = c → (w'.2 92 n = 50 ∧ (0 < w'.2 93 n ∧ w'.2 93 n < n) ∧ (0 < w'.2 94 n ∧ w'.2 94 n < n) ∧ Γ'.1 n = Γ'.1 (w'.2 93 n).toNat ++ Γ'.1 (w'.2 94 n).toNat ∧ ((∀ t ∈ Γ'.1 (w'.2 93 n).toNat, rNK t = true) ∨ w'.2 92 (w'.2 93 n).toNat ≠ 50)) ∨ (w'.2 92 n ≠ 50 ∧ ∃ t, Γ'.1 n = [t] ∧ rLF w' Γ' t n)) : ww_Ct 187 fr [.inr (.inr (.inl 73)), .inl k, .inl a, .inl b, .inl c, .inl h] w fun r w' => r = some (.inl (w.1 73 26)) ∧ ∃ Γ', rMO w Γ w' Γ' K 1 ∧ w'.1 73 26 = w.1 73 26 + 1 ∧ Γ'.1 (w.1 73 26).toNat = l ∧ (w'.2 92 (w.1 73 26).toNat = k) ∧ w'.2 90 = w.2 90 ∧ w'.2 91 = w.2 91 := by
  have hh' : h = 0 ∨ h = 1 := by rw [hh]; split <;> omega
  have n0 := H.1.2.2.2.2
  have N : ∃ n : Nat, w.1 73 26 = (n : Int) := ⟨(w.1 73 26).toNat, by omega⟩
  obtain ⟨n, en⟩ := N
  have entn : (w.1 73 26).toNat = n := by omega
  refine (lk_187 (y1 := y 1) (y2 := y 2) (y3 := y 3) hf (by omega) hh' (fun v v1 vA vB => ?_)).mono ?_
  · have X : rXT w Γ v Γ (-1) := rXT_c (fun j _ => by rw [v1]) (by rw [v1]; exact Int.le_refl _) vA (fun b' q0 q1 => vB b' (by omega)) ⟨rfl, fun _ _ => rfl⟩
    have Hv : rHH v Γ := by
      refine rHH_of H X (rOK_m _) (fun c q0 q1 => ?_) (fun p q => Or.inl ⟨?_, ?_, ?_⟩) (fun f q0 q1 => ?_)
      · rw [v1] at q1; omega
      · rw [v1] at q; exact q
      · rw [vB 90 (by omega)]
      · rw [vB 91 (by omega)]
      · rw [v1] at q1; omega
    have Z := W v Hv v1 (fun j hj => (vA j hj).2)
    exact ⟨Z 1 (by omega) (by omega), Z 2 (by omega) (by omega), Z 3 (by omega) (by omega)⟩
  · rintro r w' ⟨rfl, hw'⟩
    refine ⟨rfl, rGc Γ n l, ?_⟩
    have AT := r_mk_at (w := w) k a b c h (y 1) (y 2) (y 3) en
    have LO : ∀ j : Nat, (j : Int) < w.1 73 26 → _ := fun j hj => r_mk_lo (w := w) k a b c h (y 1) (y 2) (y 3) en (j := j) (by omega)
    have BB : ∀ q, q < 92 ∨ 97 < q → _ := fun q hq => r_mk_b (w := w) k a b c h (y 1) (y 2) (y 3) (q := q) hq
    have F1 : ∀ a' j, ¬ (a' = 73 ∧ j = 26) → (r_mk w k a b c h (y 1) (y 2) (y 3)).1 a' j = w.1 a' j := fun a' j q => by
      show (if a' = 73 ∧ j = 26 then _ else w.1 a' j) = _
      rw [if_neg q]
    have F26 : (r_mk w k a b c h (y 1) (y 2) (y 3)).1 73 26 = w.1 73 26 + 1 := rfl
    rw [← hw'] at AT LO BB F1 F26
    have G1 : (rGc Γ n l).2 = Γ.2 := rfl
    have G2 : ∀ j : Nat, (j : Int) < w.1 73 26 → (rGc Γ n l).1 j = Γ.1 j := fun j hj => by
      show (if j = n then l else Γ.1 j) = _
      rw [if_neg (by omega)]
    have G3 : (rGc Γ n l).1 n = l := by
      show (if n = n then l else Γ.1 n) = _
      rw [if_pos rfl]
    have X : rXT w Γ w' (rGc Γ n l) (-1) := rXT_c (fun j q => F1 73 j (by omega)) (by omega) LO (fun b' q0 q1 => BB b' (by omega)) ⟨G1, G2⟩
    have Tn := T n w' (rGc Γ n l) en X G1 G3 AT.1.1 AT.1.2.1 AT.1.2.2.1 AT.1.2.2.2.1
    have H' : rHH w' (rGc Γ n l) := by
      refine rHH_of H X (rOK_m _) (fun j q0 q1 => ?_) (fun p q => Or.inl ⟨?_, ?_, ?_⟩) (fun f q0 q1 => ?_)
      · have ej : j = n := by omega
        rw [ej]
        have AY : ∀ s : Nat, s < 3 → w'.2 97 (3 * n + s) = y (s + 1) := fun s hs => by
          have : s = 0 ∨ s = 1 ∨ s = 2 := by omega
          rcases this with rfl | rfl | rfl
          · exact AT.2.1
          · exact AT.2.2.1
          · exact AT.2.2.2
        refine ⟨⟨?_, ?_, ?_, fun s hs => ?_⟩, fun q s hs => ?_, Tn⟩
        · rw [AT.1.2.2.2.2, G3]; exact hh
        · rw [G3]; exact hl.1
        · rw [G3]; exact hl.2
        · rw [AY s hs]; exact hy2 (s + 1) (by omega) (by omega)
        · rw [G3] at q ⊢
          rw [AT.1.1] at q
          rw [← hy q s hs]
          exact AY s hs
      · rw [F1 73 21 (by omega)] at q; exact q
      · rw [BB 90 (by omega)]
      · rw [BB 91 (by omega)]
      · rw [F1 73 17 (by omega)] at q1; omega
    refine ⟨⟨X, H', G1, ⟨F1, fun b' q => BB b' (by omega), fun p _ => by rw [BB 90 (by omega)]⟩, ?_⟩, F26, by rw [entn]; exact G3, by rw [entn]; exact AT.1.1, BB 90 (by omega), BB 91 (by omega)⟩
    rw [BB 90 (by omega)]
    omega
/-- content c has these leaves -/
def rCC (w : W_) (Γ : rG_) (c : Int) (l : List T_) : Prop := (0 ≤ c ∧ c < w.1 73 26) ∧ Γ.1 c.toNat = l
theorem rCC_0 (H : rHH w Γ) {c : Int} {l : List T_} (h : rCC w Γ c l) : c = 0 ↔ l = [] := by
  obtain ⟨h1, h2⟩ := h
  constructor
  · intro q
    rw [← h2, q]
    exact H.2.1
  · intro q
    by_cases d : c = 0
    · exact d
    · have z := (H.2.2.1 c.toNat (by omega) (by omega)).1.2.1
      rw [h2] at z
      exact absurd q z
theorem rCC_mono {R : Int} (X : rXT w Γ w1 Γ1 R) {c : Int} {l : List T_} (h : rCC w Γ c l) : rCC w1 Γ1 c l := by
  obtain ⟨h1, h2⟩ := h
  have n := X.1.1.2.2.2.2
  exact ⟨⟨h1.1, by omega⟩, by rw [(X.2.2.2.2 c.toNat (by omega)).2.2]; exact h2⟩
/-- the width of a content, as the reference looks it up -/
theorem rCC_w (H : rHH w Γ) {c : Int} {l : List T_} (h : rCC w Γ c l) (hm : ∀ t ∈ l, rNK t = true) {s : Nat} (hs : 1 ≤ s ∧ s ≤ 3) : (if c = 0 then 0 else w.2 97 (3 * c + (s : Int) - 1).toNat) = ((rWL l s).1 : Nat) := by
  obtain ⟨h1, h2⟩ := h
  by_cases d : c = 0
  · rw [if_pos d, ← h2, d]
    have : Γ.1 (0 : Int).toNat = [] := H.2.1
    rw [this]; rfl
  · rw [if_neg d]
    have T := (H.2.2.1 c.toNat (by omega) (by omega))
    have z := T.2.1 (Or.inl (by rw [h2]; exact hm)) (s - 1) (by omega)
    rw [show (3 * c + (s : Int) - 1).toNat = 3 * c.toNat + (s - 1) by omega, z, show s - 1 + 1 = s by omega, h2]
end
