/-! ===== the class and the evaluator: values, code, the state ===== -/
/-- a node's field -/
def pH (a : Nat → Int) (x : Int) (f : Nat) : Int := if x < 30000 then 0 else a ((x - 30000) * 8 + f).toNat
theorem pH_w (w : W_) (x : Int) (f : Nat) : w_h w x f = pH (w.2 13) x f := rfl
/-- a node of a kind -/
def hN (n : Int) (a : Nat → Int) (F : T_ → Prop) (x k : Int) : Prop := (30000 ≤ x ∧ x < 30000 + n) ∧ pH a x 0 = k ∧ am_rg (pH a x 3) ∧ am_rg (pH a x 4) ∧ F (.nest x .nil)
/-- a value's width -/
def pW (a : Nat → Int) (x s : Int) : Int := if -9999 ≤ x ∧ x ≤ 9999 then s else if s < 1 ∨ 3 < s then 0 else pH a x (4 + s).toNat
theorem pW_w (w : W_) (x s : Int) : h_w w x s = pW (w.2 13) x s := rfl
def hW (a : Nat → Int) (v : T_) (x : Int) : Prop := (if -9999 ≤ x ∧ x ≤ 9999 then 1 else pH a x 5) = v_wd v 1 ∧ (if -9999 ≤ x ∧ x ≤ 9999 then 2 else pH a x 6) = v_wd v 2 ∧ (if -9999 ≤ x ∧ x ≤ 9999 then 3 else pH a x 7) = v_wd v 3 ∧ ∀ s : Nat, (v_wq v s).2 = s
/-- a number of the class and a value, in the heap's first n nodes; what holds of the code of functions and LATEs -/
def cR (n : Int) (a : Nat → Int) (F : T_ → Prop) : T_ → Int → Prop
  | .nest m .nil, x => x = m ∧ -9999 ≤ m ∧ m ≤ 9999
  | .nil, x => x = 20003
  | .line, x => x = 20004
  | .align _, x => x = 20000
  | .tag 1 (.nest m t), x => hN n a F x 1 ∧ pH a x 3 = m ∧ (-9000 ≤ m ∧ m ≤ 11000) ∧ hW a (.tag 1 (.nest m t)) x
  | .tag 2 _, x => hN n a F x 2
  | .tag 3 (.nest m _), x => hN n a F x 3 ∧ pH a x 3 = m ∧ 0 ≤ m ∧ m < 10
  | .tag 4 (.nest m t), x => hN n a F x 4 ∧ pH a x 3 = m ∧ (0 ≤ m ∧ m ≤ 9999) ∧ hW a (.tag 4 (.nest m t)) x
  | .tag 5 (.tag id v), x => hN n a F x 5 ∧ pH a x 3 = id ∧ id < 180 ∧ cR n a F v (pH a x 1) ∧ hW a (.tag 5 (.tag id v)) x
  | .tag 6 (.tag c (.nest m _)), x => hN n a F x 6 ∧ pH a x 3 = c ∧ c < 3 ∧ pH a x 4 = m ∧ -9999 ≤ m ∧ m ≤ 9999
  | .tag 7 (.append e cl), x => hN n a F x 7 ∧ pH a x 3 = e_id e ∧ F (.tag 0 e) ∧ cR n a F cl (pH a x 1) ∧ ∃ E0 : N_, cl = n_clos E0 (e_use e) 10
  | .tag 8 (.append l r), x => hN n a F x 8 ∧ cR n a F l (pH a x 1) ∧ cR n a F r (pH a x 2)
  | .tag 9 v, x => hN n a F x 9 ∧ cR n a F v (pH a x 1)
  | .tag 10 (.tag p (.nest m _)), x => hN n a F x 10 ∧ pH a x 3 = p ∧ p < 2 ∧ pH a x 4 = m ∧ 0 ≤ m ∧ m ≤ 3 ∧ (p = 0 → 1 ≤ m)
  | .tag 11 (.tag m (.append e f)), x => hN n a F x 11 ∧ pH a x 3 = m ∧ m < 100 ∧ pH a x 4 = e_id e ∧ e_id e < 180 ∧ v_isF f = true ∧ cR n a F f (pH a x 1) ∧ hW a f (pH a x 1)
  | .tag 12 (.append e cl), x => hN n a F x 12 ∧ pH a x 3 = e_id e ∧ F (.tag 0 e) ∧ cR n a F cl (pH a x 1) ∧ (∃ E0 : N_, cl = n_clos E0 (e_use e) 10) ∧ e_kind e = 16
  | .tag 13 (.append l r), x => hN n a F x 13 ∧ pH a x 3 = (min 60 (v_nf l + v_nf r) : Nat) ∧ (pH a x 4 ≠ 0 ↔ (v_fl l || v_fl r) = true) ∧ cR n a F l (pH a x 1) ∧ hW a l (pH a x 1) ∧ cR n a F r (pH a x 2) ∧ hW a r (pH a x 2)
  | .append (.tag m v) r, x => hN n a F x 14 ∧ pH a x 3 = m ∧ m < 10 ∧ cR n a F v (pH a x 1) ∧ hW a v (pH a x 1) ∧ cR n a F r (pH a x 2)
  | _, _ => False
/-- a value -/
def vR (n : Int) (a : Nat → Int) (F : T_ → Prop) (v : T_) (x : Int) : Prop := cR n a F v x ∧ hW a v x
/-- names of a row -/
def nR (n : Int) (a : Nat → Int) (F : T_ → Prop) (E : N_) (row : Nat → Int) (base : Nat) : Prop := ∀ m, m < 10 → match E m with
  | none => row (base * 10 + m) = 20005
  | some v => vR n a F v (row (base * 10 + m))
/-- the first item of a text, as the class has it -/
def it_id : T_ → Int
  | .tag _ (.nest _ (.tag id _)) => id
  | _ => -1
/-- a row's number -/
def wg (a : Nat → Int) (i : Int) : Int := if i < 0 then 0 else a i.toNat
theorem wg_w (w : W_) (b : Nat) (i : Int) : w_g w b i = wg (w.2 b) i := rfl
/-- code in the tree of the class: expressions (0), texts (1), formulas (2) -/
def eR (a3 a5 a37 a46 : Nat → Int) : Nat → Bool → T_ → Prop
  | 0, hb, .tag k (.nest n (.tag id (.append a (.append b c)))) => (id < 180 ∧ wg a3 id = k ∧ wg a5 id = n ∧ 0 ≤ n ∧ n < 100 ∧ 6 ≤ k ∧ k ≤ 31 ∧ a46 (id / 60) ≠ 0) ∧
      (k = 18 ∨ k = 19 → wg a37 (id * 9 + 6) = if hb = true then 1 else 0) ∧
      (k = 8 → wg a37 (id * 9) - 1 = it_id a ∧ eR a3 a5 a37 a46 1 true a) ∧
      (1 ≤ j_par k → wg a37 (id * 9 + 0) - 1 = e_id a ∧ eR a3 a5 a37 a46 0 (if k = 16 ∨ k = 22 then false else hb) a) ∧
      (2 ≤ j_par k → wg a37 (id * 9 + 1) - 1 = e_id b ∧ eR a3 a5 a37 a46 0 hb b) ∧
      (3 ≤ j_par k → wg a37 (id * 9 + 2) - 1 = e_id c ∧ eR a3 a5 a37 a46 0 hb c) ∧
      (k = 16 ∨ k = 22 → (0 ≤ wg a37 (id * 9 + 4) ∧ wg a37 (id * 9 + 4) < 1024 ∧ ∀ m, m < 10 → ((wg a37 (id * 9 + 4)).toNat >>> m % 2 = 1 ↔ e_use (ce k n id a b c) m = true)) ∧ (wg a37 (id * 9 + 5) = if e_imp a = true then 1 else 0) ∧ (k = 16 → wg a37 (id * 9 + 7) - 1 = match e_own (ce k n id a b c) with
        | some m => (m : Int)
        | none => -1)) ∧
      (j_par k = 0 → k ≠ 8 → a = .nil) ∧ (j_par k ≤ 1 → b = .nil ∨ ∃ z, b = .nest z .nil ∧ 0 ≤ z ∧ z < 10) ∧ (j_par k ≤ 2 → c = .nil)
  | 0, _, .nil => True
  | 0, _, _ => False
  | m, _, .tag k (.nest n (.tag id (.append x r))) => (id < 180 ∧ wg a3 id = k ∧ wg a5 id = n ∧ 0 ≤ n ∧ n < 100 ∧ k ≤ 4 ∧ a46 (id / 60) ≠ 0) ∧ ((m = 2 → k = 0 ∨ k = 3) ∧ (k ≠ 3 → k ≠ 4 → x = .nil)) ∧
      wg a37 (id * 9 + 3) - 1 = it_id r ∧
      (k = 3 → wg a37 (id * 9 + 0) - 1 = e_id x ∧ eR a3 a5 a37 a46 0 (m == 1) x) ∧
      (k = 4 → wg a37 (id * 9) - 1 = it_id x ∧ eR a3 a5 a37 a46 2 false x) ∧
      eR a3 a5 a37 a46 m false r
  | _, _, .nil => True
  | _, _, _ => False
/-- the code of a function or a LATE -/
def fR (a3 a5 a37 a46 : Nat → Int) (e : T_) : Prop := ∃ k n id a b c hb, e = ce k n id a b c ∧ (k = 16 ∨ k = 22) ∧ eR a3 a5 a37 a46 0 hb e
theorem cR_mono {n n' : Int} {a a' : Nat → Int} {F F' : T_ → Prop} (hn : n ≤ n') (ha : ∀ k : Nat, (k : Int) < 8 * n → a' k = a k) (hF : ∀ e, F e → F' e) : ∀ (v : T_) (x : Int), cR n a F v x → cR n' a' F' v x := by
  have hp : ∀ (x : Int) (f : Nat), x < 30000 + n → f < 8 → pH a' x f = pH a x f := fun x f hx hf => by
    unfold pH
    by_cases c : x < 30000
    · rw [if_pos c, if_pos c]
    · rw [if_neg c, if_neg c]
      exact ha _ (by omega)
  have hN' : ∀ x k, hN n a F x k → hN n' a' F' x k := fun x k ⟨⟨h1, h2⟩, h3, h4, h5, h6⟩ => ⟨⟨h1, by omega⟩, by rw [hp x 0 h2 (by decide)]; exact h3, by rw [hp x 3 h2 (by decide)]; exact h4, by rw [hp x 4 h2 (by decide)]; exact h5, hF _ h6⟩
  have hw : ∀ (v : T_) (x : Int), x < 30000 + n → hW a v x → hW a' v x := fun v x hx ⟨h1, h2, h3⟩ => by
    unfold hW
    rw [hp x 5 hx (by decide), hp x 6 hx (by decide), hp x 7 hx (by decide)]
    exact ⟨h1, h2, h3⟩
  -- what is a value lies below the count
  have hb : ∀ (v : T_) (x : Int), 0 ≤ n → cR n a F v x → x < 30000 + n := fun v x h0 h => by
    unfold cR at h
    split at h
    all_goals first | (exact h.1.1.2) | (exact h.1.2) | omega | (exact h.elim)
  intro v x
  induction v, x using cR.induct (a := a) with
  | case1 m x => intro h; exact h
  | case2 x => intro h; exact h
  | case3 x => intro h; exact h
  | case4 x => intro h; exact h
  | case5 m t x => intro h; exact ⟨hN' _ _ h.1, by rw [hp x 3 h.1.1.2 (by decide)]; exact h.2.1, h.2.2.1, hw _ _ h.1.1.2 h.2.2.2⟩
  | case6 t x => intro h; exact hN' _ _ h
  | case7 m t x => intro h; exact ⟨hN' _ _ h.1, by rw [hp x 3 h.1.1.2 (by decide)]; exact h.2⟩
  | case8 m t x => intro h; exact ⟨hN' _ _ h.1, by rw [hp x 3 h.1.1.2 (by decide)]; exact h.2.1, h.2.2.1, hw _ _ h.1.1.2 h.2.2.2⟩
  | case9 id v x ih => intro h; exact ⟨hN' _ _ h.1, by rw [hp x 3 h.1.1.2 (by decide)]; exact h.2.1, h.2.2.1, by rw [hp x 1 h.1.1.2 (by decide)]; exact ih h.2.2.2.1, hw _ _ h.1.1.2 h.2.2.2.2⟩
  | case10 c m t x => intro h; exact ⟨hN' _ _ h.1, by rw [hp x 3 h.1.1.2 (by decide)]; exact h.2.1, h.2.2.1, by rw [hp x 4 h.1.1.2 (by decide)]; exact h.2.2.2⟩
  | case11 e cl x ih => intro h; exact ⟨hN' _ _ h.1, by rw [hp x 3 h.1.1.2 (by decide)]; exact h.2.1, hF _ h.2.2.1, by rw [hp x 1 h.1.1.2 (by decide)]; exact ih h.2.2.2.1, h.2.2.2.2⟩
  | case12 l r x ih1 ih2 => intro h; exact ⟨hN' _ _ h.1, by rw [hp x 1 h.1.1.2 (by decide)]; exact ih1 h.2.1, by rw [hp x 2 h.1.1.2 (by decide)]; exact ih2 h.2.2⟩
  | case13 v x ih =>
    intro h
    have h : hN n a F x 9 ∧ cR n a F v (pH a x 1) := by cases v <;> exact h
    have g : hN n' a' F' x 9 ∧ cR n' a' F' v (pH a' x 1) := ⟨hN' _ _ h.1, by rw [hp x 1 h.1.1.2 (by decide)]; exact ih h.2⟩
    cases v <;> exact g
  | case14 p m t x => intro h; exact ⟨hN' _ _ h.1, by rw [hp x 3 h.1.1.2 (by decide)]; exact h.2.1, h.2.2.1, by rw [hp x 4 h.1.1.2 (by decide)]; exact h.2.2.2⟩
  | case15 m e f x ih => intro h; exact ⟨hN' _ _ h.1, by rw [hp x 3 h.1.1.2 (by decide)]; exact h.2.1, h.2.2.1, by rw [hp x 4 h.1.1.2 (by decide)]; exact h.2.2.2.1, h.2.2.2.2.1, h.2.2.2.2.2.1, by rw [hp x 1 h.1.1.2 (by decide)]; exact ih h.2.2.2.2.2.2.1, by rw [hp x 1 h.1.1.2 (by decide)]; exact hw _ _ (hb _ _ (by have := h.1.1; omega) h.2.2.2.2.2.2.1) h.2.2.2.2.2.2.2⟩
  | case16 e cl x ih => intro h; exact ⟨hN' _ _ h.1, by rw [hp x 3 h.1.1.2 (by decide)]; exact h.2.1, hF _ h.2.2.1, by rw [hp x 1 h.1.1.2 (by decide)]; exact ih h.2.2.2.1, h.2.2.2.2⟩
  | case17 l r x ih1 ih2 =>
    intro h
    obtain ⟨h1, h2, h3, h4, h5, h6, h7⟩ := h
    have h0 : 0 ≤ n := by have := h1.1; omega
    exact ⟨hN' _ _ h1, by rw [hp x 3 h1.1.2 (by decide)]; exact h2, by rw [hp x 4 h1.1.2 (by decide)]; exact h3, by rw [hp x 1 h1.1.2 (by decide)]; exact ih1 h4, by rw [hp x 1 h1.1.2 (by decide)]; exact hw _ _ (hb _ _ h0 h4) h5, by rw [hp x 2 h1.1.2 (by decide)]; exact ih2 h6, by rw [hp x 2 h1.1.2 (by decide)]; exact hw _ _ (hb _ _ h0 h6) h7⟩
  | case18 m v r x ih1 ih2 =>
    intro h
    obtain ⟨h1, h2, h3, h4, h5, h6⟩ := h
    have h0 : 0 ≤ n := by have := h1.1; omega
    exact ⟨hN' _ _ h1, by rw [hp x 3 h1.1.2 (by decide)]; exact h2, h3, by rw [hp x 1 h1.1.2 (by decide)]; exact ih1 h4, by rw [hp x 1 h1.1.2 (by decide)]; exact hw _ _ (hb _ _ h0 h4) h5, by rw [hp x 2 h1.1.2 (by decide)]; exact ih2 h6⟩
  | case19 t x => 
    intro h
    unfold cR at h
    split at h <;> first | exact h.elim | (exfalso; simp_all)
