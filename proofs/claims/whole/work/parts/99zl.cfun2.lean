/-! ===== names that are kept: how many ===== -/
theorem n_clos_c {E : N_} {u u' : Nat → Bool} : ∀ m, (∀ k, k < m → u k = u' k) → n_clos E u m = n_clos E u' m := by
  intro m
  induction m with
  | zero => intro _; rfl
  | succ m ih =>
    intro h
    have e1 := ih fun k hk => h k (by omega)
    have e2 := h m (Nat.lt_succ_self m)
    unfold n_clos
    rw [e1, e2]
def cb (u : Nat → Bool) : Nat → Nat
  | 0 => 0
  | i + 1 => cb u i + (if u i = true then 1 else 0)
theorem cb_S (u : Nat → Bool) (i : Nat) : cb u (i + 1) = cb u i + (if u i = true then 1 else 0) := rfl
theorem cb_le (u v : Nat → Bool) (h : ∀ i, u i = true → v i = true) : ∀ i, cb u i ≤ cb v i := by
  intro i
  induction i with
  | zero => exact Nat.le_refl _
  | succ i ih =>
    rw [cb_S, cb_S]
    have := h i
    by_cases q : u i = true
    · rw [if_pos q, if_pos (this q)]; omega
    · rw [if_neg q]; omega
theorem cb_or (u v : Nat → Bool) : ∀ i, cb (fun m => u m || v m) i ≤ cb u i + cb v i := by
  intro i
  induction i with
  | zero => exact Nat.le_refl _
  | succ i ih =>
    rw [cb_S, cb_S, cb_S]
    cases u i <;> cases v i <;> simp only [Bool.or_self, Bool.or_true, Bool.true_or, Bool.or_false, Bool.false_or, if_pos, if_neg, Bool.false_ne_true, not_false_eq_true] <;> omega
theorem cb_one (x : Nat) : ∀ i, cb (fun m => x == m) i = if x < i then 1 else 0 := by
  intro i
  induction i with
  | zero => rfl
  | succ i ih =>
    rw [cb_S, ih]
    by_cases q : x = i
    · rw [if_neg (by omega), if_pos (by rw [q]; exact beq_self_eq_true i), if_pos (by omega)]
    · have e : ¬ (x == i) = true := fun r => q (eq_of_beq r)
      rw [if_neg e]
      by_cases r : x < i
      · rw [if_pos r, if_pos (by omega)]
      · rw [if_neg r, if_neg (by omega)]
theorem cb_none : ∀ i, cb (fun _ => false) i = 0 := by
  intro i
  induction i with
  | zero => rfl
  | succ i ih => rw [cb_S, ih]; rfl
theorem cn_cb {U : Nat} {u : Nat → Bool} : ∀ i, (∀ k, k < i → (U >>> k % 2 = 1 ↔ u k = true)) → cn U i = cb u i := by
  intro i
  induction i with
  | zero => intro _; rfl
  | succ i ih =>
    intro h
    have e1 := ih fun k hk => h k (by omega)
    have e2 := h i (Nat.lt_succ_self i)
    rw [cb_S, ← e1]
    show cn U i + (if U >>> i % 2 = 1 then 1 else 0) = _
    by_cases q : U >>> i % 2 = 1
    · rw [if_pos q, if_pos (e2.mp q)]
    · rw [if_neg q, if_neg fun r => q (e2.mpr r)]
