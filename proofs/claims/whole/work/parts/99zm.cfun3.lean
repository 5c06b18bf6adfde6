/-! ===== names that are kept: no more than tokens ===== -/
theorem cb_nm (e : T_) : cb (e_nm e) 10 ≤ c_sz e := by
  induction e using c_sz.induct with
  | case1 k n id a b c ia ib ic =>
    have h : cb (e_nm (.tag k (.nest n (.tag id (.append a (.append b c)))))) 10 ≤ cb (fun m => (((n % 10).toNat == m || e_nm a m) || e_nm b m) || e_nm c m) 10 := cb_le _ _ (fun m q => by
      have q : ((k == 7 && (n % 10).toNat == m) || e_nm a m || e_nm b m || e_nm c m) = true := q
      revert q
      cases (k == 7) <;> cases ((n % 10).toNat == m) <;> cases e_nm a m <;> cases e_nm b m <;> cases e_nm c m <;> decide) 10
    have h1 := cb_or (fun m => ((n % 10).toNat == m || e_nm a m) || e_nm b m) (e_nm c) 10
    have h2 := cb_or (fun m => (n % 10).toNat == m || e_nm a m) (e_nm b) 10
    have h3 := cb_or (fun m => (n % 10).toNat == m) (e_nm a) 10
    have h4 := cb_one (n % 10).toNat 10
    have h5 : cb (fun m => (n % 10).toNat == m) 10 ≤ 1 := by rw [h4]; split <;> omega
    show _ ≤ 1 + c_sz a + c_sz b + c_sz c
    exact Nat.le_trans h (by omega)
  | case2 k n id x r hn ix ir =>
    have e1 : ∀ m, e_nm (.tag k (.nest n (.tag id (.append x r)))) m = (e_nm x m || e_nm r m) := fun m => by
      rw [e_nm]
      exact hn
    have h : cb (e_nm (.tag k (.nest n (.tag id (.append x r))))) 10 ≤ cb (fun m => e_nm x m || e_nm r m) 10 := cb_le _ _ (fun m q => by rw [← e1]; exact q) 10
    have h1 := cb_or (e_nm x) (e_nm r) 10
    have e2 : c_sz (.tag k (.nest n (.tag id (.append x r)))) = 1 + c_sz x + c_sz r := by
      rw [c_sz]
      exact hn
    rw [e2]
    omega
  | case3 e h1 h2 =>
    have e1 : ∀ m, e_nm e m = false := fun m => by
      rw [e_nm]
      · exact h1
      · exact h2
    have h : cb (e_nm e) 10 ≤ cb (fun _ => false) 10 := cb_le _ _ (fun m q => by rw [e1] at q; exact q) 10
    rw [cb_none] at h
    omega
theorem cn_sz {U : Nat} {e : T_} (h : ∀ m, m < 10 → (U >>> m % 2 = 1 ↔ e_use e m = true)) : cn U 10 ≤ min 10 (c_sz (e_part e)) := by
  have a := cn_le U 10
  have b := cn_cb (U := U) (u := e_use e) 10 h
  have c := cb_le (e_use e) (e_nm (e_part e)) (fun m q => by
    unfold e_use at q
    revert q
    cases e_nm (e_part e) m
    · intro q; cases q
    · intro _; rfl) 10
  have d := cb_nm (e_part e)
  omega
theorem n_clos_U {U : Nat} {E : N_} {e : T_} (h : ∀ m, m < 10 → (U >>> m % 2 = 1 ↔ e_use e m = true)) : n_clos E (u_U U) 10 = n_clos E (e_use e) 10 := n_clos_c 10 fun k hk => by
  have q := h k hk
  rw [Bool.eq_iff_iff, ← q]
  exact ⟨eq_of_beq, fun r => by show (U >>> k % 2 == 1) = true; rw [r]; rfl⟩
