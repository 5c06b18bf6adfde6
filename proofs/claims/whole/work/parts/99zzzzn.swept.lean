/-! ===== behind a sweep: the memory, the heap ===== -/
theorem pig : ∀ (n : Nat) (l : List Int), (∀ p : Nat, p < n → (30000 + (p : Int)) ∈ l) → n ≤ l.length := by
  intro n
  induction n with
  | zero => intro l _; exact Nat.zero_le _
  | succ n ih =>
    intro l h
    have hn := h n (Nat.lt_succ_self n)
    have h1 := ih (l.erase (30000 + (n : Int))) fun p hp => (List.mem_erase_of_ne (by omega)).mpr (h p (by omega))
    rw [List.length_erase_of_mem hn] at h1
    have h2 : 0 < l.length := List.length_pos_of_mem hn
    omega
theorem rN_cons (r : R_) (l : List R_) (f : Nat) : rN (r :: l) f = (if r_id r / 60 = f then 1 else 0) + rN l f := by
  unfold rN
  by_cases c : r_id r / 60 = f
  · rw [if_pos c]
    simp [List.filter_cons, c]
    omega
  · rw [if_neg c]
    simp [List.filter_cons, c]
theorem rN_sum : ∀ l : List R_, rN l 0 + rN l 1 + rN l 2 ≤ l.length := by
  intro l
  induction l with
  | nil => exact Nat.le_refl _
  | cons r l ih =>
    rw [rN_cons, rN_cons, rN_cons, List.length_cons]
    by_cases c0 : r_id r / 60 = 0
    · rw [if_pos c0, if_neg (by omega), if_neg (by omega)]; omega
    · rw [if_neg c0]
      by_cases c1 : r_id r / 60 = 1
      · rw [if_pos c1, if_neg (by omega)]; omega
      · rw [if_neg c1]
        by_cases c2 : r_id r / 60 = 2
        · rw [if_pos c2]; omega
        · rw [if_neg c2]; omega
/-- what is kept by a sweep -/
def kpt (n first : Int) (m : Nat → Int) (x : Int) : Prop := x < 30000 + first ∨ x < 30000 + n ∧ m (x - 30000).toNat = 1
section
variable {w w' : W_} {first free : Int} {m : Nat → Int} {g : Nat → Int}
/-- what is told of a sweep, and of the heap ahead of it -/
def SW (w : W_) (first free : Int) (m : Nat → Int) (w' : W_) : Prop := 0 ≤ first ∧ (first ≤ free ∧ free ≤ w.1 13 2) ∧ (∀ k : Int, first ≤ k → k < w.1 13 2 → h_pl w first m w' free k) ∧ (∀ k : Nat, (k : Int) < 8 * first → w'.2 13 k = w.2 13 k) ∧ h_mC w first m (first - 1) ∧ h_mo first (w.1 13 2) m w' ∧ ∀ k : Nat, (k : Int) < w.1 13 2 → (-2147483648 ≤ w.2 13 (8 * k + 1) ∧ w.2 13 (8 * k + 1) < 30000 + (k : Int)) ∧ -2147483648 ≤ w.2 13 (8 * k + 2) ∧ w.2 13 (8 * k + 2) < 30000 + (k : Int)
theorem mv_lo {x : Int} (h : x < 30000 + first) : h_mvd w' first x = x := if_pos h
theorem SW_mv (H : SW w first free m w') {x : Int} (hk : kpt (w.1 13 2) first m x) (h30 : 30000 ≤ x) : 30000 ≤ h_mvd w' first x ∧ h_mvd w' first x < 30000 + free := by
  obtain ⟨f0, ⟨f1, f2⟩, hp, -⟩ := H
  by_cases c : x < 30000 + first
  · rw [mv_lo c]; omega
  · rcases hk with q | ⟨q1, q2⟩
    · omega
    · have e : h_mvd w' first x = 30000 + w'.2 14 (x - 30000).toNat - 1 := if_neg c
      rw [e]
      rcases hp (x - 30000) (by omega) (by omega) with z | ⟨-, z, -⟩
      · rw [z.1] at q2; cases q2
      · omega
/-- a node's parts behind the sweep -/
theorem SW_f (H : SW w first free m w') {x : Int} (hk : kpt (w.1 13 2) first m x) (h30 : 30000 ≤ x) (hn : x < 30000 + w.1 13 2) {f : Nat} (hf : f < 8) : pH (w'.2 13) (h_mvd w' first x) f = if f = 1 ∨ f = 2 then h_mvd w' first (pH (w.2 13) x f) else pH (w.2 13) x f := by
  have hm := SW_mv H hk h30
  obtain ⟨f0, ⟨f1, f2⟩, hp, h13, -, -, hlow⟩ := H
  obtain ⟨k, hkk⟩ : ∃ k : Nat, x = 30000 + (k : Int) := ⟨(x - 30000).toNat, by omega⟩
  subst hkk
  by_cases c : 30000 + (k : Int) < 30000 + first
  · rw [mv_lo c, pH_k, pH_k, h13 _ (by omega)]
    by_cases d : f = 1 ∨ f = 2
    · rw [if_pos d]
      obtain ⟨l1, l2⟩ := hlow k (by omega)
      refine (mv_lo ?_).symm
      rcases d with rfl | rfl <;> omega
    · rw [if_neg d]
  · rcases hk with q | ⟨q1, q2⟩
    · omega
    · have ek : (30000 + (k : Int) - 30000).toNat = k := by omega
      rw [ek] at q2
      rcases hp k (by omega) (by omega) with z | ⟨-, z2, z3⟩
      · rw [Int.toNat_natCast] at z
        rw [z.1] at q2; cases q2
      · rw [Int.toNat_natCast] at z2 z3
        have e : h_mvd w' first (30000 + (k : Int)) = 30000 + (w'.2 14 k - 1) := by
          unfold h_mvd
          rw [if_neg c, ek]
          omega
        have z3 := z3 (f : Int) (by omega) (by omega)
        rw [e, pH_k]
        have ep : pH (w'.2 13) (30000 + (w'.2 14 k - 1)) f = w'.2 13 (8 * (w'.2 14 k - 1) + (f : Int)).toNat := by
          unfold pH
          rw [if_neg (by omega)]
          exact congrArg _ (by omega)
        have eq : (8 * (k : Int) + (f : Int)).toNat = 8 * k + f := by omega
        rw [ep, z3, eq]
        by_cases d : f = 1 ∨ f = 2
        · rw [if_pos d, if_pos (by omega)]
        · rw [if_neg d, if_neg (by omega)]
/-- a kept node's parts are kept -/
theorem SW_c (H : SW w first free m w') {x : Int} (hk : kpt (w.1 13 2) first m x) (h30 : 30000 ≤ x) (hn : x < 30000 + w.1 13 2) : kpt (w.1 13 2) first m (pH (w.2 13) x 1) ∧ kpt (w.1 13 2) first m (pH (w.2 13) x 2) := by
  obtain ⟨f0, ⟨f1, f2⟩, hp, h13, hC, -, hlow⟩ := H
  obtain ⟨k, hkk⟩ : ∃ k : Nat, x = 30000 + (k : Int) := ⟨(x - 30000).toNat, by omega⟩
  subst hkk
  obtain ⟨⟨-, l1⟩, -, l2⟩ := hlow k (by omega)
  clear hlow
  rw [pH_k, pH_k]
  by_cases c : 30000 + (k : Int) < 30000 + first
  · exact ⟨Or.inl (by omega), Or.inl (by omega)⟩
  · rcases hk with q | ⟨q1, q2⟩
    · omega
    · have ek : (30000 + (k : Int) - 30000).toNat = (k : Int).toNat := by omega
      rw [ek] at q2
      obtain ⟨g1, g2⟩ := hC k (by omega) (by omega) (by omega) q2
      have e1 : w_h w (30000 + (k : Int)) 1 = w.2 13 (8 * k + 1) := by rw [pH_w, pH_k]
      have e2 : w_h w (30000 + (k : Int)) 2 = w.2 13 (8 * k + 2) := by rw [pH_w, pH_k]
      rw [e1] at g1
      rw [e2] at g2
      clear e1 e2 hp h13 hC
      generalize w.2 13 (8 * k + 1) = z1 at *
      generalize w.2 13 (8 * k + 2) = z2 at *
      refine ⟨?_, ?_⟩
      · by_cases d : z1 < 30000 + first
        · exact Or.inl d
        · exact Or.inr ⟨by omega, g1 (Int.le_of_not_gt d)⟩
      · by_cases d : z2 < 30000 + first
        · exact Or.inl d
        · exact Or.inr ⟨by omega, g2 (Int.le_of_not_gt d)⟩
theorem kpt_lo {n x : Int} (h0 : 0 ≤ first) (h : x < 30000) : kpt n first m x := Or.inl (by omega)
theorem SW_hW (H : SW w first free m w') {v : T_} {x : Int} (hk : kpt (w.1 13 2) first m x) (hn : x < 30000 + w.1 13 2) (h : hW (w.2 13) v x) : hW (w'.2 13) v (h_mvd w' first x) := by
  by_cases c : x < 30000
  · have e : h_mvd w' first x = x := mv_lo (by have := H.1; omega)
    rw [e]
    have ep : ∀ f, pH (w'.2 13) x f = pH (w.2 13) x f := fun f => by
      unfold pH
      rw [if_pos c, if_pos c]
    unfold hW at h ⊢
    rw [ep, ep, ep]
    exact h
  · have hm := SW_mv H hk (by omega)
    unfold hW at h ⊢
    rw [if_neg (by omega), if_neg (by omega), if_neg (by omega)] at h
    rw [if_neg (by omega), if_neg (by omega), if_neg (by omega), SW_f H hk (by omega) hn (by decide), SW_f H hk (by omega) hn (by decide), SW_f H hk (by omega) hn (by decide)]
    exact h
theorem SW_N (H : SW w first free m w') {x k : Int} (hk : kpt (w.1 13 2) first m x) (h : hN (w.1 13 2) (w.2 13) (fun _ => True) x k) : hN free (w'.2 13) (fun _ => True) (h_mvd w' first x) k := by
  obtain ⟨⟨h1, h2⟩, h3, h4, h5, -⟩ := h
  refine ⟨SW_mv H hk h1, ?_, ?_, ?_, trivial⟩
  · rw [SW_f H hk h1 h2 (by decide)]; exact h3
  · rw [SW_f H hk h1 h2 (by decide)]; exact h4
  · rw [SW_f H hk h1 h2 (by decide)]; exact h5
/-- a value behind the sweep -/
theorem SW_R (H : SW w first free m w') : ∀ (v : T_) (x : Int), cR (w.1 13 2) (w.2 13) (fun _ => True) v x → kpt (w.1 13 2) first m x → cR free (w'.2 13) (fun _ => True) v (h_mvd w' first x) := by
  have h0 := H.1
  have hn0 : 0 ≤ w.1 13 2 := by have := H.2.1; omega
  have lo : ∀ x : Int, x < 30000 → h_mvd w' first x = x := fun x hx => mv_lo (by omega)
  have p : ∀ (x k : Int), hN (w.1 13 2) (w.2 13) (fun _ => True) x k → kpt (w.1 13 2) first m x → ∀ f, f < 8 → pH (w'.2 13) (h_mvd w' first x) f = if f = 1 ∨ f = 2 then h_mvd w' first (pH (w.2 13) x f) else pH (w.2 13) x f := fun x k hx hk f hf => SW_f H hk hx.1.1 hx.1.2 hf
  have c : ∀ (x k : Int), hN (w.1 13 2) (w.2 13) (fun _ => True) x k → kpt (w.1 13 2) first m x → kpt (w.1 13 2) first m (pH (w.2 13) x 1) ∧ kpt (w.1 13 2) first m (pH (w.2 13) x 2) := fun x k hx hk => SW_c H hk hx.1.1 hx.1.2
  have nn : ∀ (v : T_) (x : Int), cR (w.1 13 2) (w.2 13) (fun _ => True) v x → x < 30000 + w.1 13 2 := fun v x h => (cR_lt hn0 h).2
  intro v x
  induction v, x using cR.induct (a := w.2 13) with
  | case1 m' x => intro h _; rw [lo x (by have h : x = m' ∧ -9999 ≤ m' ∧ m' ≤ 9999 := h; omega)]; exact h
  | case2 x => intro h _; rw [lo x (by have h : x = 20003 := h; omega)]; exact h
  | case3 x => intro h _; rw [lo x (by have h : x = 20004 := h; omega)]; exact h
  | case4 b x => intro h _; rw [lo x (by have h : x = 20000 := h; omega)]; exact h
  | case5 m' t x => intro h hk; exact ⟨SW_N H hk h.1, by rw [p _ _ h.1 hk 3 (by decide)]; exact h.2.1, h.2.2.1, SW_hW H hk h.1.1.2 h.2.2.2⟩
  | case6 t x => intro h hk; exact SW_N H hk h
  | case7 m' t x => intro h hk; exact ⟨SW_N H hk h.1, by rw [p _ _ h.1 hk 3 (by decide)]; exact h.2⟩
  | case8 m' t x => intro h hk; exact ⟨SW_N H hk h.1, by rw [p _ _ h.1 hk 3 (by decide)]; exact h.2.1, h.2.2.1, SW_hW H hk h.1.1.2 h.2.2.2⟩
  | case9 id v x ih =>
    intro h hk
    refine ⟨SW_N H hk h.1, by rw [p _ _ h.1 hk 3 (by decide)]; exact h.2.1, h.2.2.1, ?_, SW_hW H hk h.1.1.2 h.2.2.2.2⟩
    rw [p _ _ h.1 hk 1 (by decide), if_pos (Or.inl rfl)]
    exact ih h.2.2.2.1 (c _ _ h.1 hk).1
  | case10 cc m' t x => intro h hk; exact ⟨SW_N H hk h.1, by rw [p _ _ h.1 hk 3 (by decide)]; exact h.2.1, h.2.2.1, by rw [p _ _ h.1 hk 4 (by decide)]; exact h.2.2.2⟩
  | case11 e cl x ih =>
    intro h hk
    refine ⟨SW_N H hk h.1, by rw [p _ _ h.1 hk 3 (by decide)]; exact h.2.1, trivial, ?_, h.2.2.2.2⟩
    rw [p _ _ h.1 hk 1 (by decide), if_pos (Or.inl rfl)]
    exact ih h.2.2.2.1 (c _ _ h.1 hk).1
  | case12 l r x ih1 ih2 =>
    intro h hk
    refine ⟨SW_N H hk h.1, ?_, ?_⟩
    · rw [p _ _ h.1 hk 1 (by decide), if_pos (Or.inl rfl)]
      exact ih1 h.2.1 (c _ _ h.1 hk).1
    · rw [p _ _ h.1 hk 2 (by decide), if_pos (Or.inr rfl)]
      exact ih2 h.2.2 (c _ _ h.1 hk).2
  | case13 v x ih =>
    intro h hk
    have h : hN (w.1 13 2) (w.2 13) (fun _ => True) x 9 ∧ cR (w.1 13 2) (w.2 13) (fun _ => True) v (pH (w.2 13) x 1) := by cases v <;> exact h
    have z : hN free (w'.2 13) (fun _ => True) (h_mvd w' first x) 9 ∧ cR free (w'.2 13) (fun _ => True) v (pH (w'.2 13) (h_mvd w' first x) 1) := by
      refine ⟨SW_N H hk h.1, ?_⟩
      rw [p _ _ h.1 hk 1 (by decide), if_pos (Or.inl rfl)]
      exact ih h.2 (c _ _ h.1 hk).1
    cases v <;> exact z
  | case14 pp m' t x => intro h hk; exact ⟨SW_N H hk h.1, by rw [p _ _ h.1 hk 3 (by decide)]; exact h.2.1, h.2.2.1, by rw [p _ _ h.1 hk 4 (by decide)]; exact h.2.2.2⟩
  | case15 m' e f x ih =>
    intro h hk
    obtain ⟨h1, h2, h3, h4, h5, h6, h7, h8⟩ := h
    refine ⟨SW_N H hk h1, by rw [p _ _ h1 hk 3 (by decide)]; exact h2, h3, by rw [p _ _ h1 hk 4 (by decide)]; exact h4, h5, h6, ?_, ?_⟩
    · rw [p _ _ h1 hk 1 (by decide), if_pos (Or.inl rfl)]
      exact ih h7 (c _ _ h1 hk).1
    · rw [p _ _ h1 hk 1 (by decide), if_pos (Or.inl rfl)]
      exact SW_hW H (c _ _ h1 hk).1 (nn _ _ h7) h8
  | case16 e cl x ih =>
    intro h hk
    refine ⟨SW_N H hk h.1, by rw [p _ _ h.1 hk 3 (by decide)]; exact h.2.1, trivial, ?_, h.2.2.2.2⟩
    rw [p _ _ h.1 hk 1 (by decide), if_pos (Or.inl rfl)]
    exact ih h.2.2.2.1 (c _ _ h.1 hk).1
  | case17 l r x ih1 ih2 =>
    intro h hk
    obtain ⟨h1, h2, h3, h4, h5, h6, h7⟩ := h
    refine ⟨SW_N H hk h1, by rw [p _ _ h1 hk 3 (by decide)]; exact h2, by rw [p _ _ h1 hk 4 (by decide)]; exact h3, ?_, ?_, ?_, ?_⟩
    · rw [p _ _ h1 hk 1 (by decide), if_pos (Or.inl rfl)]
      exact ih1 h4 (c _ _ h1 hk).1
    · rw [p _ _ h1 hk 1 (by decide), if_pos (Or.inl rfl)]
      exact SW_hW H (c _ _ h1 hk).1 (nn _ _ h4) h5
    · rw [p _ _ h1 hk 2 (by decide), if_pos (Or.inr rfl)]
      exact ih2 h6 (c _ _ h1 hk).2
    · rw [p _ _ h1 hk 2 (by decide), if_pos (Or.inr rfl)]
      exact SW_hW H (c _ _ h1 hk).2 (nn _ _ h6) h7
  | case18 m' v r x ih1 ih2 =>
    intro h hk
    obtain ⟨h1, h2, h3, h4, h5, h6⟩ := h
    refine ⟨SW_N H hk h1, by rw [p _ _ h1 hk 3 (by decide)]; exact h2, h3, ?_, ?_, ?_⟩
    · rw [p _ _ h1 hk 1 (by decide), if_pos (Or.inl rfl)]
      exact ih1 h4 (c _ _ h1 hk).1
    · rw [p _ _ h1 hk 1 (by decide), if_pos (Or.inl rfl)]
      exact SW_hW H (c _ _ h1 hk).1 (nn _ _ h4) h5
    · rw [p _ _ h1 hk 2 (by decide), if_pos (Or.inr rfl)]
      exact ih2 h6 (c _ _ h1 hk).2
  | case19 t x =>
    intro h
    unfold cR at h
    split at h <;> first | exact h.elim | (exfalso; simp_all)
end
