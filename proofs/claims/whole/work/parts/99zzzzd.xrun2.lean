/-! ===== the class realizes as the evaluator: rules and LATEs together ===== -/
section
variable {G : G_} {sil : Bool} {o : Nat} {K0 : Int} {s s1 : S_} {q q1 : Q_} {w w' : W_} {fr : Nat} {Q : Option am_V → W_ → Prop} {i : Int} {S : List F_} {x : Int × Int × Nat}
theorem funs_b (C : C_) (v : T_) (id : Nat) (s : S_) : s_b (f_funs C v id s) = s_b s := by
  unfold f_funs
  obtain ⟨l, el', -⟩ := f_notes_eq C (f_code 3 id) (min 60 (v_nf v)) s
  rw [el']
/-- what is known of the state at an element -/
def XI (s : S_) (q : Q_) : Prop := (s_dp s = 0 ∧ s_lt s ≤ s_b s ∧ s_rw s < 2040 ∧ s_nt s < 1000000) ∧ ((q_fr q).length < 12000 ∧ (q_rl q).length < 30000 ∧ rls q) ∧ ((q_us q).length ≤ q_wi q ∧ q_pg q + (q_wi q : Nat) + 1 ≤ 2 * (q_el q : Nat) ∧ q_nx q 41 + (q_wi q : Nat) + 1 ≤ (q_el q : Nat))
theorem xr_rule {r el : T_} {V : W_} (P : PR G sil o K0 s q el r V) (I : XI s q) (hG : ∃ n e f, r = .tag 11 (.tag n (.append e f))) (hx : x_rule (fun C => ev C x_F) G sil r el s q = some (s1, q1)) (hB : s_b s1 ≤ 90000 ∧ s_nt s1 ≤ 900000) (hi : 0 ≤ i ∧ i + 2 + 12 * (s_b s1 : Int) ≤ 900000 + 12 * (s_b s : Int) ∧ i < 900000) (hr : 20 ≤ fr) (K : ∀ (i' : Int) w', i < i' → i' + 12 * (s_b s : Int) ≤ i + 2 + 12 * (s_b s1 : Int) → XR G sil o K0 s1 q1 w' → dr fr Q i' w') : dr fr Q i V := by
  obtain ⟨⟨I1, I2, I3, I4⟩, ⟨I5, I6, I7⟩, I8, I9, I10⟩ := I
  obtain ⟨n, e, f, rfl⟩ := hG
  rw [x_rule_eq] at hx
  by_cases c1 : 12 ≤ q_wi q
  · rw [if_pos c1] at hx
    cases hx
    exact ru_no P (by omega) I4 (by omega) hr (Or.inl ⟨rfl, c1⟩) fun w' h => K (i + 1) w' (by omega) (by show i + 1 + 12 * (s_b s : Int) ≤ i + 2 + 12 * (s_b s : Int); omega) h
  rw [if_neg c1] at hx
  by_cases c2 : 300 ≤ s_b s
  · rw [if_pos c2] at hx
    cases hx
    exact ru_no P (by omega) I4 (by omega) hr (Or.inr ⟨rfl, by omega, c2⟩) fun w' h => K (i + 1) w' (by omega) (by show i + 1 + 12 * (s_b s : Int) ≤ i + 2 + 12 * (s_b s : Int); omega) h
  rw [if_neg c2, if_pos I3] at hx
  cases hr2 : ev (g_C G q) x_F sil (e_part (v_code f)) (n_body (v_code f) (v_clos f) el f) false (u_rw (u_rn (u_dp s 1) (s_rn s + 1) (s_tk s)) (s_rw s + 1)) with
  | none => rw [hr2] at hx; cases hx
  | some z =>
    obtain ⟨v, E1, sb⟩ := z
    rw [hr2] at hx
    dsimp only at hx
    cases hfu : f_fu x_L (g_C G q) v (e_id e) (u_dp sb 0) with
    | none => rw [hfu] at hx; cases hx
    | some s2 =>
      rw [hfu] at hx
      cases hx
      obtain ⟨-, e2⟩ := f_fu_inv hfu
      have eb : s_b s1 = s_b sb := by rw [e2, funs_b]
      have M := ev_M (g_C G q) x_F _ _ _ _ _ _ _ _ hr2 I2
      have M2 : s_nt sb ≤ s_nt s1 := by
        rw [e2]
        exact (eMQ_funs (hb := false) (s := u_dp sb 0) (C := g_C G q) (v := v) (id := e_id e) M.2.2.2.2.1).2.1
      rw [e2] at K
      exact ru_yes P (by omega) I1 I2 (by omega) (by omega) I3 I8 I9 I10 hr2 M.2.2.2.2.2.1 ⟨by omega, by omega⟩ hi.1 (by omega) hr fun i' w' h1 h2 h3 => K i' w' h1 (by rw [funs_b]; exact h2) h3
theorem xr_late {e cl : T_} {V : W_} (P : PL G sil o K0 s q e cl V) (I : XI s q) (hid : e_id e < 180) (hx : x_late (fun C => ev C x_F) G sil e cl s q = some (s1, q1)) (hB : s_b s1 ≤ 90000 ∧ s_nt s1 ≤ 900000) (hi : 0 ≤ i ∧ i + 2 + 12 * (s_b s1 : Int) ≤ 900000 + 12 * (s_b s : Int) ∧ i < 900000) (hr : 20 ≤ fr) (K : ∀ (i' : Int) w', i < i' → i' + 12 * (s_b s : Int) ≤ i + 2 + 12 * (s_b s1 : Int) → XR G sil o K0 s1 q1 w' → dr fr Q i' w') : dr fr Q i V := by
  obtain ⟨⟨I1, I2, I3, I4⟩, ⟨I5, I6, I7⟩, I8, I9, I10⟩ := I
  unfold x_late at hx
  by_cases c1 : 12 ≤ q_wi q
  · rw [if_pos c1] at hx
    cases hx
    exact la_no P hid (by omega) I4 (by omega) hr (Or.inl ⟨rfl, c1⟩) fun w' h => K (i + 1) w' (by omega) (by show i + 1 + 12 * (s_b s : Int) ≤ i + 2 + 12 * (s_b s : Int); omega) h
  rw [if_neg c1] at hx
  by_cases c2 : 300 ≤ s_b s
  · rw [if_pos c2] at hx
    cases hx
    exact la_no P hid (by omega) I4 (by omega) hr (Or.inr ⟨rfl, by omega, c2⟩) fun w' h => K (i + 1) w' (by omega) (by show i + 1 + 12 * (s_b s : Int) ≤ i + 2 + 12 * (s_b s : Int); omega) h
  rw [if_neg c2, if_pos I3] at hx
  dsimp only at hx
  cases hr2 : ev (g_C G q) x_F sil (e_part e) (n_get cl) false (u_rw s (s_rw s + 1)) with
  | none => rw [hr2] at hx; cases hx
  | some z =>
    obtain ⟨v, E1, sb⟩ := z
    rw [hr2] at hx
    dsimp only at hx
    cases hfu : f_fu x_L (g_C G q) v (e_id (e_part e)) sb with
    | none => rw [hfu] at hx; cases hx
    | some s2 =>
      rw [hfu] at hx
      cases hx
      obtain ⟨-, e2⟩ := f_fu_inv hfu
      have eb : s_b s1 = s_b sb := by rw [e2, funs_b]
      have M := ev_M (g_C G q) x_F _ _ _ _ _ _ _ _ hr2 I2
      have M2 : s_nt sb ≤ s_nt s1 := by
        rw [e2]
        exact (eMQ_funs (hb := false) (s := sb) (C := g_C G q) (v := v) (id := e_id (e_part e)) M.2.2.2.2.1).2.1
      have hdp : s_dp sb = 0 := by
        have z : s_dp sb = s_dp s := M.2.2.2.2.2.1
        rw [z]; exact I1
      rw [e2] at K
      exact la_yes P (by omega) I1 I2 (by omega) (by omega) I3 I9 I10 hr2 hdp ⟨by omega, by omega⟩ hi.1 (by omega) hr fun i' w' h1 h2 h3 => K i' w' h1 (by rw [funs_b]; exact h2) h3
end
