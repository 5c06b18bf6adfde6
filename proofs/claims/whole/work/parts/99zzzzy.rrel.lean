/-! ===== the reference's values and E's ===== -/
/-- what numbers of the reference stand for: a content's leaves, a function, a pair; which rows of names are never told again -/
abbrev rG_ : Type := (Nat → List T_) × (Nat → T_) × (Nat → T_) × (Nat → Bool)
def rV0 (w : W_) (Γ : rG_) (v : T_) (r : Int) : Prop := (∃ x, v = vN x ∧ r = 8 * x + 1 ∧ -9999 ≤ x ∧ x ≤ 9999) ∨ (v = v0 ∧ r = 0) ∨ (v = vW ∧ r = 5) ∨ (∃ f : Nat, v = Γ.2.1 f ∧ v_isF v = true ∧ r = 8 * (f : Int) + 3 ∧ (f : Int) < w.1 73 17) ∨ (∃ p : Nat, v = Γ.2.2.1 p ∧ v_isP v = true ∧ r = 8 * (p : Int) + 4 ∧ (p : Int) < w.1 73 21) ∨ ∃ c : Nat, v_isC v = true ∧ r = 8 * (c : Int) + 2 ∧ (c : Int) < w.1 73 26 ∧ Γ.1 c = rFL v
def rVF (w : W_) (Γ : rG_) (v : T_) (r : Int) : Prop := vv v ∧ rV0 w Γ v r
/-- names that are used have E's values -/
def rNF (w : W_) (Γ : rG_) (u : Nat → Bool) (E : N_) (row : Nat) : Prop := ∀ m : Nat, m < 10 → u m = true → (E m = none → w.2 84 (10 * row + m) = 6) ∧ ∀ v, E m = some v → rVF w Γ v (w.2 84 (10 * row + m))
def rLF (w : W_) (Γ : rG_) (t : T_) (c : Nat) : Prop := match t with
  | .tag 1 (.nest n _) => w.2 92 c = 0 ∧ w.2 93 c = n ∧ -9000 ≤ n ∧ n ≤ 11000
  | .tag 2 _ => w.2 92 c = 1
  | .tag 3 (.nest l _) => w.2 92 c = 2 ∧ w.2 93 c = l ∧ 0 ≤ l ∧ l < 10
  | .tag 4 (.nest x _) => w.2 92 c = 4 ∧ 0 ≤ x ∧ x ≤ 9999
  | .tag 5 (.tag id v) => w.2 92 c = 20 ∧ (0 ≤ w.2 93 c ∧ w.2 93 c < c) ∧ Γ.1 (w.2 93 c).toNat = rFL v ∧ w.2 94 c = ((id / 60 : Nat) : Int) ∧ w.2 95 c = ((id % 60 : Nat) : Int)
  | .tag 6 (.tag k (.nest x _)) => w.2 92 c = 21 ∧ w.2 93 c = k ∧ w.2 94 c = x ∧ k < 3 ∧ -9999 ≤ x ∧ x ≤ 9999
  | .tag 7 (.append e cl) => w.2 92 c = 22 ∧ rEN w 0 (w.1 73 5) e (some none) (w.2 93 c) ∧ e_kind e = 22 ∧ ∃ row : Nat, w.2 94 c = row ∧ (row : Int) < w.1 73 15 ∧ Γ.2.2.2 row = true ∧ rNF w Γ (e_use e) (n_get cl) row
  | .tag 9 v => w.2 92 c = 51 ∧ (0 < w.2 93 c ∧ w.2 93 c < c) ∧ Γ.1 (w.2 93 c).toNat = rFL v
  | .tag 10 (.tag p (.nest x _)) => w.2 92 c = 18 ∧ w.2 93 c = p ∧ w.2 94 c = x ∧ p < 2 ∧ (p = 0 → 1 ≤ x) ∧ 0 ≤ x ∧ x ≤ 3
  | .tag 11 (.tag n (.append e f)) => w.2 92 c = 19 ∧ w.2 93 c = n ∧ n < 100 ∧ rEN w 0 (w.1 73 5) e (some none) (w.2 95 c) ∧ ∃ k : Nat, w.2 94 c = k ∧ (k : Int) < w.1 73 17 ∧ Γ.2.1 k = f ∧ v_isF f = true ∧ e_kind e = 19
  | _ => False
/-- a content is what it stands for -/
def rCT (w : W_) (Γ : rG_) (c : Nat) : Prop := (w.2 96 c = (if (Γ.1 c).any rNK = true then 1 else 0) ∧ Γ.1 c ≠ [] ∧ (∀ t ∈ Γ.1 c, rLf t) ∧ ∀ s : Nat, s < 3 → 0 ≤ w.2 97 (3 * c + s) ∧ w.2 97 (3 * c + s) ≤ 9999) ∧ ((∀ t ∈ Γ.1 c, rNK t = true) ∨ w.2 92 c ≠ 50 → ∀ s : Nat, s < 3 → w.2 97 (3 * c + s) = ((rWL (Γ.1 c) (s + 1)).1 : Nat)) ∧ ((w.2 92 c = 50 ∧ (0 < w.2 93 c ∧ w.2 93 c < c) ∧ (0 < w.2 94 c ∧ w.2 94 c < c) ∧ Γ.1 c = Γ.1 (w.2 93 c).toNat ++ Γ.1 (w.2 94 c).toNat ∧ ((∀ t ∈ Γ.1 (w.2 93 c).toNat, rNK t = true) ∨ w.2 92 (w.2 93 c).toNat ≠ 50)) ∨ (w.2 92 c ≠ 50 ∧ ∃ t, Γ.1 c = [t] ∧ rLF w Γ t c))
def rPT (w : W_) (Γ : rG_) (p : Nat) : Prop := ∃ a b, Γ.2.2.1 p = .tag 13 (.append a b) ∧ (rVF w Γ a (w.2 88 p) ∧ (w.2 88 p % 8 = 4 → w.2 88 p < 8 * p)) ∧ (rVF w Γ b (w.2 89 p) ∧ (w.2 89 p % 8 = 4 → w.2 89 p < 8 * p)) ∧ (w.2 90 p = -1 ∨ (0 ≤ w.2 90 p ∧ w.2 90 p < w.1 73 26) ∧ Γ.1 (w.2 90 p).toNat = rFL a ++ rFL b ∧ w.2 91 p = ((min 100 (v_nf a + v_nf b) : Nat) : Int))
def rFT (w : W_) (Γ : rG_) (f : Nat) : Prop := ∃ e cl own, Γ.2.1 f = .tag 12 (.append e cl) ∧ e_kind e = 16 ∧ rEN w 0 (w.1 73 5) e (some own) (w.2 85 f) ∧ e_own e = own ∧ (∀ m, own = some m → m < 10) ∧ w.2 87 f = (match own with | none => -1 | some m => (m : Int)) ∧ ∃ row : Nat, w.2 86 f = row ∧ (row : Int) < w.1 73 15 ∧ Γ.2.2.2 row = true ∧ rNF w Γ (e_use e) (n_get cl) row
/-- the reference's tables -/
def rHH (w : W_) (Γ : rG_) : Prop := (0 ≤ w.1 73 5 ∧ 0 ≤ w.1 73 15 ∧ 0 ≤ w.1 73 17 ∧ 0 ≤ w.1 73 21 ∧ 1 ≤ w.1 73 26) ∧ Γ.1 0 = [] ∧ (∀ c : Nat, 0 < c → (c : Int) < w.1 73 26 → rCT w Γ c) ∧ (∀ p : Nat, (p : Int) < w.1 73 21 → rPT w Γ p) ∧ ∀ f : Nat, (f : Int) < w.1 73 17 → rFT w Γ f
/-- the tables have grown; of the rows of names only R was told anew -/
def rXT (w : W_) (Γ : rG_) (w' : W_) (Γ' : rG_) (R : Int) : Prop :=
  ((w.1 73 5 ≤ w'.1 73 5 ∧ w.1 73 15 ≤ w'.1 73 15 ∧ w.1 73 17 ≤ w'.1 73 17 ∧ w.1 73 21 ≤ w'.1 73 21 ∧ w.1 73 26 ≤ w'.1 73 26) ∧ rAN w w' 0 (w.1 73 5)) ∧
  ((∀ r m : Nat, (r : Int) < w.1 73 15 → (r : Int) ≠ R → m < 10 → w'.2 84 (10 * r + m) = w.2 84 (10 * r + m)) ∧ ∀ r : Nat, (r : Int) < w.1 73 15 → Γ'.2.2.2 r = Γ.2.2.2 r) ∧
  (∀ f : Nat, (f : Int) < w.1 73 17 → (w'.2 85 f = w.2 85 f ∧ w'.2 86 f = w.2 86 f ∧ w'.2 87 f = w.2 87 f) ∧ Γ'.2.1 f = Γ.2.1 f) ∧
  (∀ p : Nat, (p : Int) < w.1 73 21 → (w'.2 88 p = w.2 88 p ∧ w'.2 89 p = w.2 89 p ∧ (w.2 90 p ≠ -1 → w'.2 90 p = w.2 90 p ∧ w'.2 91 p = w.2 91 p)) ∧ Γ'.2.2.1 p = Γ.2.2.1 p) ∧
  ∀ c : Nat, (c : Int) < w.1 73 26 → (w'.2 92 c = w.2 92 c ∧ w'.2 93 c = w.2 93 c ∧ w'.2 94 c = w.2 94 c ∧ w'.2 95 c = w.2 95 c ∧ w'.2 96 c = w.2 96 c) ∧ (∀ s : Nat, s < 3 → w'.2 97 (3 * c + s) = w.2 97 (3 * c + s)) ∧ Γ'.1 c = Γ.1 c
section
variable {w w1 w2 : W_} {Γ Γ1 Γ2 : rG_} {R R1 R2 : Int}
theorem rXT_rfl : rXT w Γ w Γ R := ⟨⟨⟨Int.le_refl _, Int.le_refl _, Int.le_refl _, Int.le_refl _, Int.le_refl _⟩, rAN_rfl _ _ _⟩, ⟨fun _ _ _ _ _ => rfl, fun _ _ => rfl⟩, fun _ _ => ⟨⟨rfl, rfl, rfl⟩, rfl⟩, fun _ _ => ⟨⟨rfl, rfl, fun _ => ⟨rfl, rfl⟩⟩, rfl⟩, fun _ _ => ⟨⟨rfl, rfl, rfl, rfl, rfl⟩, fun _ _ => rfl, rfl⟩⟩
theorem rAN_trans {lo hi hi' : Int} (h : rAN w w1 lo hi) (g : rAN w1 w2 lo hi') (hh : hi ≤ hi') : rAN w w2 lo hi := fun i q0 q1 => by
  have x := h i q0 q1
  have y := g i q0 (by omega)
  exact ⟨⟨by rw [y.1.1, x.1.1], by rw [y.1.2.1, x.1.2.1], by rw [y.1.2.2.1, x.1.2.2.1], by rw [y.1.2.2.2, x.1.2.2.2]⟩, ⟨by rw [y.2.1.1, x.2.1.1], by rw [y.2.1.2, x.2.1.2]⟩, by rw [y.2.2.1, x.2.2.1], by rw [y.2.2.2.1, x.2.2.2.1], by rw [y.2.2.2.2, x.2.2.2.2]⟩
theorem rXT_trans (h : rXT w Γ w1 Γ1 R1) (g : rXT w1 Γ1 w2 Γ2 R2) (h1 : R1 = R ∨ w.1 73 15 ≤ R1 ∨ R1 < 0) (h2 : R2 = R ∨ w.1 73 15 ≤ R2 ∨ R2 < 0) : rXT w Γ w2 Γ2 R := by
  obtain ⟨⟨⟨a1, a2, a3, a4, a5⟩, a6⟩, ⟨a7, a8⟩, a9, a10, a11⟩ := h
  obtain ⟨⟨⟨b1, b2, b3, b4, b5⟩, b6⟩, ⟨b7, b8⟩, b9, b10, b11⟩ := g
  refine ⟨⟨⟨by omega, by omega, by omega, by omega, by omega⟩, rAN_trans a6 b6 a1⟩, ⟨fun r m q0 q1 q2 => ?_, fun r q => ?_⟩, fun f q => ?_, fun p q => ?_, fun c q => ?_⟩
  · rw [b7 r m (by omega) (by omega) q2, a7 r m q0 (by omega) q2]
  · rw [b8 r (by omega), a8 r q]
  · have x := a9 f q
    have y := b9 f (by omega)
    exact ⟨⟨by rw [y.1.1, x.1.1], by rw [y.1.2.1, x.1.2.1], by rw [y.1.2.2, x.1.2.2]⟩, by rw [y.2, x.2]⟩
  · have x := a10 p q
    have y := b10 p (by omega)
    exact ⟨⟨by rw [y.1.1, x.1.1], by rw [y.1.2.1, x.1.2.1], fun q => by
      have x' := x.1.2.2 q
      have y' := y.1.2.2 (by rw [x'.1]; exact q)
      exact ⟨by rw [y'.1, x'.1], by rw [y'.2, x'.2]⟩⟩, by rw [y.2, x.2]⟩
  · have x := a11 c q
    have y := b11 c (by omega)
    exact ⟨⟨by rw [y.1.1, x.1.1], by rw [y.1.2.1, x.1.2.1], by rw [y.1.2.2.1, x.1.2.2.1], by rw [y.1.2.2.2.1, x.1.2.2.2.1], by rw [y.1.2.2.2.2, x.1.2.2.2.2]⟩, fun s hs => by rw [y.2.1 s hs, x.2.1 s hs], by rw [y.2.2, x.2.2]⟩
theorem rXT_wk (h : rXT w Γ w1 Γ1 R1) (h1 : R1 = R ∨ w.1 73 15 ≤ R1 ∨ R1 < 0) : rXT w Γ w1 Γ1 R := rXT_trans h (rXT_rfl (R := R)) h1 (Or.inl rfl)
variable {v : T_} {r : Int} {u : Nat → Bool} {E : N_} {row : Nat}
theorem rVF_mono (X : rXT w Γ w1 Γ1 R) (h : rVF w Γ v r) : rVF w1 Γ1 v r := by
  obtain ⟨h1, h2⟩ := h
  obtain ⟨⟨⟨a1, a2, a3, a4, a5⟩, a6⟩, ⟨a7, a8⟩, a9, a10, a11⟩ := X
  refine ⟨h1, ?_⟩
  rcases h2 with q | q | q | ⟨f, e1, e2, e3, e4⟩ | ⟨p, e1, e2, e3, e4⟩ | ⟨c, e1, e2, e3, e4⟩
  · exact Or.inl q
  · exact Or.inr (Or.inl q)
  · exact Or.inr (Or.inr (Or.inl q))
  · exact Or.inr (Or.inr (Or.inr (Or.inl ⟨f, by rw [(a9 f e4).2]; exact e1, e2, e3, by omega⟩)))
  · exact Or.inr (Or.inr (Or.inr (Or.inr (Or.inl ⟨p, by rw [(a10 p e4).2]; exact e1, e2, e3, by omega⟩))))
  · exact Or.inr (Or.inr (Or.inr (Or.inr (Or.inr ⟨c, e1, e2, by omega, by rw [(a11 c e3).2.2]; exact e4⟩))))
theorem rNF_mono (X : rXT w Γ w1 Γ1 R) (h1 : (row : Int) < w.1 73 15) (h2 : (row : Int) ≠ R) (h : rNF w Γ u E row) : rNF w1 Γ1 u E row := by
  intro m hm hu
  have z := h m hm hu
  rw [X.2.1.1 row m h1 h2 hm]
  exact ⟨z.1, fun v hv => rVF_mono X (z.2 v hv)⟩
theorem rNF_sub {u' : Nat → Bool} (h : rNF w Γ u E row) (hu : ∀ m, m < 10 → u' m = true → u m = true) : rNF w Γ u' E row := fun m hm q => h m hm (hu m hm q)
theorem rEN_X (X : rXT w Γ w1 Γ1 R) {e : T_} {md : Option (Option Nat)} {x : Int} (h : rEN w 0 (w.1 73 5) e md x) : rEN w1 0 (w1.1 73 5) e md x := rEN_mono (by omega) X.1.2 (Int.le_refl _) X.1.1.1 _ _ _ h
/-- R is no row that is never told again -/
def rOK (Γ : rG_) (R : Int) : Prop := ∀ r : Nat, (r : Int) = R → Γ.2.2.2 r = false
theorem rLF_mono (X : rXT w Γ w1 Γ1 R) (hR : rOK Γ R) {t : T_} {c : Nat} (hc : (c : Int) < w.1 73 26) (h : rLF w Γ t c) : rLF w1 Γ1 t c := by
  have Y := X
  obtain ⟨⟨⟨a1, a2, a3, a4, a5⟩, a6⟩, ⟨a7, a8⟩, a9, a10, a11⟩ := X
  have z := a11 c hc
  unfold rLF at h ⊢
  split at h
  · rw [z.1.1, z.1.2.1]; exact h
  · rw [z.1.1]; exact h
  · rw [z.1.1, z.1.2.1]; exact h
  · rw [z.1.1]; exact h
  · rw [z.1.1, z.1.2.1, z.1.2.2.1, z.1.2.2.2.1, (a11 _ (by omega)).2.2]; exact h
  · rw [z.1.1, z.1.2.1, z.1.2.2.1]; exact h
  · obtain ⟨h1, h2, h3, row, h4, h5, h6, h7⟩ := h
    have hr : (row : Int) ≠ R := fun q => by
      have := hR row q
      rw [h6] at this
      cases this
    rw [z.1.1, z.1.2.1, z.1.2.2.1]
    exact ⟨h1, rEN_X Y h2, h3, row, h4, by omega, by rw [a8 row h5]; exact h6, rNF_mono Y h5 hr h7⟩
  · rw [z.1.1, z.1.2.1, (a11 _ (by omega)).2.2]; exact h
  · rw [z.1.1, z.1.2.1, z.1.2.2.1]; exact h
  · obtain ⟨h1, h2, h3, h4, k, h5, h6, h7, h8⟩ := h
    rw [z.1.1, z.1.2.1, z.1.2.2.1, z.1.2.2.2.1]
    exact ⟨h1, h2, h3, rEN_X Y h4, k, h5, by omega, by rw [(a9 k h6).2]; exact h7, h8⟩
  · exact h.elim
theorem rCT_mono (X : rXT w Γ w1 Γ1 R) (hR : rOK Γ R) {c : Nat} (hc : (c : Int) < w.1 73 26) (h : rCT w Γ c) : rCT w1 Γ1 c := by
  have Y := X
  obtain ⟨⟨⟨a1, a2, a3, a4, a5⟩, a6⟩, ⟨a7, a8⟩, a9, a10, a11⟩ := X
  have z := a11 c hc
  obtain ⟨h1, h2, h3⟩ := h
  unfold rCT
  rw [z.1.1, z.1.2.1, z.1.2.2.1, z.1.2.2.2.2, z.2.2]
  refine ⟨⟨h1.1, h1.2.1, h1.2.2.1, fun s hs => by rw [z.2.1 s hs]; exact h1.2.2.2 s hs⟩, fun q s hs => by rw [z.2.1 s hs]; exact h2 q s hs, ?_⟩
  rcases h3 with ⟨g1, g2, g3, g4, g5⟩ | ⟨g1, t, g2, g3⟩
  · refine Or.inl ⟨g1, g2, g3, ?_, ?_⟩
    · rw [(a11 _ (show (((w.2 93 c).toNat : Nat) : Int) < w.1 73 26 by omega)).2.2, (a11 _ (show (((w.2 94 c).toNat : Nat) : Int) < w.1 73 26 by omega)).2.2]; exact g4
    · rw [(a11 _ (show (((w.2 93 c).toNat : Nat) : Int) < w.1 73 26 by omega)).2.2, (a11 _ (show (((w.2 93 c).toNat : Nat) : Int) < w.1 73 26 by omega)).1.1]; exact g5
  · exact Or.inr ⟨g1, t, g2, rLF_mono Y hR hc g3⟩
theorem rPT_mono (X : rXT w Γ w1 Γ1 R) {p : Nat} (hp : (p : Int) < w.1 73 21) (e1 : w1.2 90 p = w.2 90 p) (e2 : w1.2 91 p = w.2 91 p) (h : rPT w Γ p) : rPT w1 Γ1 p := by
  have z := X.2.2.2.1 p hp
  obtain ⟨a, b, h1, h2, h3, h4⟩ := h
  refine ⟨a, b, by rw [z.2]; exact h1, by rw [z.1.1]; exact ⟨rVF_mono X h2.1, h2.2⟩, by rw [z.1.2.1]; exact ⟨rVF_mono X h3.1, h3.2⟩, ?_⟩
  rw [e1, e2]
  rcases h4 with q | ⟨q1, q2, q3⟩
  · exact Or.inl q
  · have n := X.1.1.2.2.2.2
    exact Or.inr ⟨⟨q1.1, by omega⟩, by rw [(X.2.2.2.2 _ (show (((w.2 90 p).toNat : Nat) : Int) < w.1 73 26 by omega)).2.2]; exact q2, q3⟩
theorem rFT_mono (X : rXT w Γ w1 Γ1 R) (hR : rOK Γ R) {f : Nat} (hf : (f : Int) < w.1 73 17) (h : rFT w Γ f) : rFT w1 Γ1 f := by
  have z := X.2.2.1 f hf
  obtain ⟨e, cl, own, h1, h2, h3, h4, h5, h6, row, h7, h8, h9, h10⟩ := h
  have hr : (row : Int) ≠ R := fun q => by
    have := hR row q
    rw [h9] at this
    cases this
  have n := X.1.1.2.1
  exact ⟨e, cl, own, by rw [z.2]; exact h1, h2, by rw [z.1.1]; exact rEN_X X h3, h4, h5, by rw [z.1.2.2]; exact h6, row, by rw [z.1.2.1]; exact h7, by omega, by rw [X.2.1.2 row h8]; exact h9, rNF_mono X h8 hr h10⟩
/-- the tables behind a change, where what is new is given -/
theorem rHH_of (H : rHH w Γ) (X : rXT w Γ w1 Γ1 R) (hR : rOK Γ R) (hC : ∀ c : Nat, w.1 73 26 ≤ c → (c : Int) < w1.1 73 26 → rCT w1 Γ1 c) (hP : ∀ p : Nat, (p : Int) < w1.1 73 21 → ((p : Int) < w.1 73 21 ∧ w1.2 90 p = w.2 90 p ∧ w1.2 91 p = w.2 91 p) ∨ rPT w1 Γ1 p) (hF : ∀ f : Nat, w.1 73 17 ≤ f → (f : Int) < w1.1 73 17 → rFT w1 Γ1 f) : rHH w1 Γ1 := by
  obtain ⟨⟨b1, b2, b3, b4, b5⟩, h2, h3, h4, h5⟩ := H
  have N := X.1.1
  refine ⟨⟨by omega, by omega, by omega, by omega, by omega⟩, ?_, fun c q0 q1 => ?_, fun p q => ?_, fun f q => ?_⟩
  · rw [(X.2.2.2.2 0 (by omega)).2.2]; exact h2
  · by_cases d : (c : Int) < w.1 73 26
    · exact rCT_mono X hR d (h3 c q0 d)
    · exact hC c (by omega) q1
  · rcases hP p q with ⟨z1, z2, z3⟩ | z
    · exact rPT_mono X z1 z2 z3 (h4 p z1)
    · exact z
  · by_cases d : (f : Int) < w.1 73 17
    · exact rFT_mono X hR d (h5 f d)
    · exact hF f (by omega) q
/-- nothing of the tables has changed -/
theorem rXT_same (h1 : ∀ j, j = 5 ∨ j = 15 ∨ j = 17 ∨ j = 21 ∨ j = 26 → w1.1 73 j = w.1 73 j) (h2 : ∀ b, 77 ≤ b → b ≤ 97 → w1.2 b = w.2 b) : rXT w Γ w1 Γ R := by
  have B : ∀ b k, 77 ≤ b → b ≤ 97 → w1.2 b k = w.2 b k := fun b k q0 q1 => by rw [h2 b q0 q1]
  refine ⟨⟨⟨?_, ?_, ?_, ?_, ?_⟩, fun i _ _ => ⟨⟨B _ _ (by omega) (by omega), B _ _ (by omega) (by omega), B _ _ (by omega) (by omega), B _ _ (by omega) (by omega)⟩, ⟨B _ _ (by omega) (by omega), B _ _ (by omega) (by omega)⟩, B _ _ (by omega) (by omega), B _ _ (by omega) (by omega), B _ _ (by omega) (by omega)⟩⟩, ⟨fun r m _ _ _ => B _ _ (by omega) (by omega), fun _ _ => rfl⟩, fun f _ => ⟨⟨B _ _ (by omega) (by omega), B _ _ (by omega) (by omega), B _ _ (by omega) (by omega)⟩, rfl⟩, fun p _ => ⟨⟨B _ _ (by omega) (by omega), B _ _ (by omega) (by omega), fun _ => ⟨B _ _ (by omega) (by omega), B _ _ (by omega) (by omega)⟩⟩, rfl⟩, fun c _ => ⟨⟨B _ _ (by omega) (by omega), B _ _ (by omega) (by omega), B _ _ (by omega) (by omega), B _ _ (by omega) (by omega), B _ _ (by omega) (by omega)⟩, fun s _ => B _ _ (by omega) (by omega), rfl⟩⟩
  · rw [h1 5 (by omega)]; exact Int.le_refl _
  · rw [h1 15 (by omega)]; exact Int.le_refl _
  · rw [h1 17 (by omega)]; exact Int.le_refl _
  · rw [h1 21 (by omega)]; exact Int.le_refl _
  · rw [h1 26 (by omega)]; exact Int.le_refl _
theorem rHH_same (H : rHH w Γ) (h1 : ∀ j, j = 5 ∨ j = 15 ∨ j = 17 ∨ j = 21 ∨ j = 26 → w1.1 73 j = w.1 73 j) (h2 : ∀ b, 77 ≤ b → b ≤ 97 → w1.2 b = w.2 b) : rHH w1 Γ := by
  refine rHH_of H (rXT_same (R := -1) h1 h2) (fun r q => by omega) (fun c q0 q1 => ?_) (fun p q => Or.inl ⟨?_, ?_, ?_⟩) (fun f q0 q1 => ?_)
  · rw [h1 26 (by omega)] at q1; omega
  · rw [h1 21 (by omega)] at q; exact q
  · rw [h2 90 (by omega) (by omega)]
  · rw [h2 91 (by omega) (by omega)]
  · rw [h1 17 (by omega)] at q1; omega
end
