/-! ===== realizing: a run ===== -/
section
variable {sil : Bool} {s s1 s2 : S_} {w w' : W_} {Γ Γ' : rG_} {G : G_} {q q1 : Q_} {fr K L : Nat} {P : Option am_V → W_ → Prop} {y : Int}
/-- nothing is left but what is empty -/
theorem ref_end (h1 : 1 ≤ fr) : ∀ (n : Nat) (w : W_), w.1 73 52 = (n : Int) → n ≤ 16384 → rHH w Γ → rST w Γ K L n [] → (∀ w' : W_, rWS w w' → w'.1 73 52 = 0 → zr234 fr P 23 y w') → zr234 fr P 23 y w := by
  intro n
  induction n with
  | zero => intro w hn _ _ _ LL; exact LL w (rWS_rfl w) hn
  | succ n ih =>
    intro w hn hn2 HH h LL
    obtain ⟨l1, l2, e, h2, h3⟩ := h
    obtain ⟨rfl, rfl⟩ := List.append_eq_nil_iff.1 e.symm
    have c0 : w.2 107 n = 0 ∧ w.2 108 n = 0 := by
      rcases h3.2 with ⟨g1, ts, g2, g3, -⟩ | ⟨-, -, m, -, g⟩ | ⟨-, g⟩ | ⟨-, g⟩ | ⟨-, g⟩
      · have ts0 : ts = [] := by
          cases ts with
          | nil => rfl
          | cons t r => cases g2
        exact ⟨g1, (rCC_0 HH g3).2 ts0⟩
      · cases g
      · cases g
      · cases g
      · cases g
    have en : (((n + 1 : Nat) : Int) - 1).toNat = n := by omega
    have ei : ((n + 1 : Nat) : Int) - 1 = (n : Int) := by omega
    refine lk_234d (R := fun w' => w' = w_f w 73 52 (n : Int)) h1 hn (by omega) (lk_232a hn (by omega) (by rw [en]; exact c0.1) rfl (by rw [en]; exact c0.2) (by rw [ei]; exact ⟨rfl, rfl⟩)) (fun w' hw => ?_)
    rw [hw]
    exact ih _ (by rw [w_f1, w_u_at, if_pos ⟨rfl, rfl⟩]) (by omega) (rHH_same HH (fun j q => w_f_ne _ _ _ _ _ _ (by omega)) (fun _ _ _ => rfl)) (rST_mono (rWS_X (R := -1) (rWS_f w _)) (Nat.le_refl _) n [] (fun _ _ => ⟨rfl, rfl, rfl, rfl⟩) h2) (fun w2 q1 => LL w2 (rWS_tr (rWS_f w _) q1))
/-- frames until none is left -/
theorem rX_go (hG : GG G) : ∀ (n : Nat) (s : S_) (q : Q_) (w : W_) (Γ : rG_), XS (q_el q) (q_el q) s → XQ (s_tb s) (x_Y s) q → x_run (fun C => ev C x_F) G sil n s q = some (s1, q1) → rXR G sil s q w Γ → (∀ w' Γ', rXC G sil s1 q1 w' Γ' → w'.1 73 52 = 0 → XS (q_el q1) (q_el q1) s1 → P none w') → zr234 (fr + 2060) P 23 y w := by
  intro n
  induction n with
  | zero => intro s q w Γ _ _ h; cases h
  | succ n ih =>
    intro s q w Γ HS HQ h H LL
    have h : (if (q_fr q).isEmpty = true then some (s, q) else if 20000 < (q_fr q).length ∨ 8000 < (q_rl q).length then none else match x_step (fun C => ev C x_F) G sil s q with
      | some (s1, q1) => x_run (fun C => ev C x_F) G sil n s1 q1
      | none => none) = some (s1, q1) := h
    cases hf : q_fr q with
    | nil =>
      rw [hf] at h
      have h : some (s, q) = some (s1, q1) := h
      cases h
      obtain ⟨m, g1, g2, g3⟩ := rXR_n H (by rw [hf]; exact Nat.zero_le _)
      rw [hf] at g3
      have HH := H.1.1
      obtain ⟨nq, k1, -⟩ := HH
      exact ref_end (by omega) m w g1 g2 k1.1 g3 (fun w' hw h0 => lk_234c h0 (LL w' Γ (rX_ws H.1 hw) h0 HS))
    | cons f S =>
      have e : ¬ (q_fr q).isEmpty = true := by rw [hf]; exact Bool.false_ne_true
      rw [if_neg e] at h
      split at h
      · cases h
      · obtain ⟨s2, q2, hx, HS2, HQ2, -⟩ := x_step_ok (sil := sil) hG HS HQ hf
        rw [hx] at h
        exact rX_step HS HQ hf hx HS2 HQ2 H (fun w' Γ' h' => ih s2 q2 w' Γ' HS2 HQ2 h h' LL)
end
