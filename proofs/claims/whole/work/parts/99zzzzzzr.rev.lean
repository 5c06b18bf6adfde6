/-! ===== the reference runs as E does ===== -/
theorem ev_rBr (C : C_) (m : Nat) : rBr (ev C m) := by
  intro sil E hb s v E1 s1 h
  match m with
  | 0 => cases h
  | 1 => cases h
  | 2 => cases h
  | 3 => cases h
  | n + 4 =>
    rw [ev_4] at h
    have h : some (vW, E, u_b s (s_b s + 1)) = some (v, E1, s1) := h
    have h := Option.some.inj h
    exact (congrArg Prod.fst h).symm
theorem ev_rF16 (C : C_) (m : Nat) : rF16 (ev C m) := by
  intro sil n' id a b c E hb s v E1 s1 h
  match m with
  | 0 => cases h
  | 1 => cases h
  | 2 => cases h
  | 3 => cases h
  | n + 4 =>
    rw [ev_4, ev1_16] at h
    split at h
    · rename_i tb
      exact ⟨tb, h⟩
    · cases h
theorem ev_rS (C : C_) : ∀ (n : Nat), n ≤ 900 → ∀ sil, rSK C sil n (ev C n) := by
  intro n
  induction n using Nat.strongRecOn with
  | ind n ih =>
    intro hn sil
    match n with
    | 0 => intro e E hb s v E1 s1 h; cases h
    | 1 => intro e E hb s v E1 s1 h; cases h
    | 2 => intro e E hb s v E1 s1 h; cases h
    | 3 => intro e E hb s v E1 s1 h; cases h
    | n + 4 =>
      have h1 := ih (n + 3) (by omega) (by omega) sil
      have h2 := ih (n + 2) (by omega) (by omega) sil
      have h2t := ih (n + 2) (by omega) (by omega) true
      have h4 := ih n (by omega) (by omega) sil
      have M1 := ev_M C (n + 3)
      have M2 := ev_M C (n + 2)
      have M4 := ev_M C n
      have B1 := ev_rBr C (n + 3)
      have B2 := ev_rBr C (n + 2)
      have B4 := ev_rBr C n
      have F1 := ev_rF16 C (n + 3)
      clear ih
      refine rSK_of (fun e E hb s v E1 s1 h D qq ft u w Γ x row fr I hs => ?_)
      rw [ev_4] at h
      rcases rEN_or I.2.2.1 with ⟨k, nn, id, a, b, c, rfl⟩ | rfl
      · have kr := (rIN_x I).2.2.1.1
        have K : k = 6 ∨ k = 7 ∨ k = 8 ∨ (k = 9 ∨ k = 10 ∨ k = 11 ∨ k = 12) ∨ k = 13 ∨ k = 14 ∨ k = 15 ∨ k = 16 ∨ k = 17 ∨ k = 18 ∨ k = 19 ∨ k = 20 ∨ k = 21 ∨ k = 22 ∨ k = 23 ∨ k = 24 ∨ k = 25 ∨ k = 26 ∨ k = 27 ∨ k = 28 ∨ k = 29 ∨ k = 30 ∨ k = 31 := by omega
        rcases K with rfl | rfl | rfl | K | rfl | rfl | rfl | rfl | rfl | rfl | rfl | rfl | rfl | rfl | rfl | rfl | rfl | rfl | rfl | rfl | rfl | rfl | rfl
        · exact rn_6 I h hs
        · exact rn_7 I h hs
        · exact rn_8 (n1 := n + 2) I (by omega) (by omega) h2 M2 B2 h hs
        · exact rn_ar (n1 := n + 3) I (by omega) h1 M1 B1 K h hs
        · exact rn_13 (n1 := n + 3) I (by omega) (by omega) h1 M1 B1 h hs
        · exact rn_14 (n1 := n + 3) I (by omega) h1 M1 h hs
        · exact rn_15 (n1 := n + 3) I (by omega) h1 M1 F1 h hs
        · exact rn_16 I h hs
        · exact rn_17 (n1 := n + 3) I (by omega) (n2 := n + 2) (by omega) (by omega) h1 M1 h2 h2t M2 h hs
        · exact rn_18 (n1 := n + 3) I (by omega) h1 M1 h hs
        · exact rn_19 (n1 := n + 3) I (by omega) h1 M1 h hs
        · exact rn_20 (n1 := n + 3) I (by omega) (by omega) h1 M1 B1 h hs
        · exact rn_21 (n1 := n + 3) I (by omega) h1 M1 h hs
        · exact rn_22 I h hs
        · exact rn_23 I h hs
        · exact rn_24 I h hs
        · exact rn_25 I h hs
        · exact rn_26 I h hs
        · exact rn_27 I h hs
        · exact rn_28 (n1 := n + 3) I (by omega) (by omega) h1 M1 B1 h hs
        · exact rn_29 (n1 := n) I (by omega) (by omega) h4 M4 B4 h hs
        · exact rn_30 (n1 := n + 3) I (by omega) h1 M1 B1 h hs
        · exact rn_31 (n1 := n + 3) I (by omega) h1 M1 h hs
      · exact rn_br I h hs
