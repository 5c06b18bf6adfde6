/-! ===== the class realizes as the evaluator: until no frame is left ===== -/
section
variable {G : G_} {sil : Bool} {o : Nat} {K0 : Int} {fr : Nat} {Q : Option am_V → W_ → Prop}
theorem XS_b {s : S_} {el k : Nat} (H : XS el k s) (he : el ≤ 201) : s_b s ≤ 5700 ∧ s_nt s ≤ 900000 := by
  obtain ⟨-, ⟨t1, t2, t3, t4⟩, -, u1, u2, u3⟩ := H
  omega
theorem x_step_b {s s1 : S_} {q q1 : Q_} (hx : x_step (fun C => ev C x_F) G sil s q = some (s1, q1)) (hl : s_lt s ≤ s_b s) : s_b s ≤ s_b s1 := by
  have R : ∀ (s : S_) (q : Q_) (r el : T_), s_lt s ≤ s_b s → x_rule (fun C => ev C x_F) G sil r el s q = some (s1, q1) → s_b s ≤ s_b s1 := fun s q r el hl hx => by
    unfold x_rule at hx
    split at hx
    · split at hx
      · cases hx; exact Nat.le_refl _
      · split at hx
        · cases hx; exact Nat.le_refl _
        · split at hx
          · split at hx
            · rename_i v E1 sb hr2
              split at hx
              · rename_i s2 hfu
                cases hx
                obtain ⟨-, e2⟩ := f_fu_inv hfu
                rw [e2, funs_b]
                exact (ev_M _ x_F _ _ _ _ _ _ _ _ hr2 hl).1
              · cases hx
            · cases hx
          · cases hx
    · cases hx
  have L : ∀ (s : S_) (q : Q_) (e cl : T_), s_lt s ≤ s_b s → x_late (fun C => ev C x_F) G sil e cl s q = some (s1, q1) → s_b s ≤ s_b s1 := fun s q e cl hl hx => by
    unfold x_late at hx
    split at hx
    · cases hx; exact Nat.le_refl _
    · split at hx
      · cases hx; exact Nat.le_refl _
      · split at hx
        · split at hx
          · rename_i v E1 sb hr2
            split at hx
            · rename_i s2 hfu
              cases hx
              obtain ⟨-, e2⟩ := f_fu_inv hfu
              rw [e2, funs_b]
              exact (ev_M _ x_F _ _ _ _ _ _ _ _ hr2 hl).1
            · cases hx
          · cases hx
        · cases hx
  have SH : ∀ (s : S_) (q : Q_) (el : T_), s_lt s ≤ s_b s → x_show (fun C => ev C x_F) G sil el s q = some (s1, q1) → s_b s ≤ s_b s1 := fun s q el hl hx => by
    unfold x_show at hx
    split at hx
    · exact R _ _ _ _ hl hx
    · split at hx
      · injection hx with hx
        have e1 := congrArg (fun z : X_ => s_b z.1) hx
        have e1 : s_b (x_head G _ _ s q).1 = s_b s1 := e1
        rw [x_head_b] at e1
        omega
      · cases hx; exact Nat.le_refl _
      · cases hx; exact Nat.le_refl _
      · cases hx
  have RE : ∀ (s : S_) (q : Q_) (el : T_), s_lt s ≤ s_b s → x_real (fun C => ev C x_F) G sil el s q = some (s1, q1) → s_b s ≤ s_b s1 := fun s q el hl hx => by
    unfold x_real at hx
    dsimp only at hx
    split at hx
    · cases hx; exact Nat.le_refl _
    · split at hx
      · cases hx; exact Nat.le_refl _
      · cases hx; exact Nat.le_refl _
      · cases hx; exact Nat.le_refl _
      · exact L _ _ _ _ hl hx
      · exact SH _ _ _ hl hx
  unfold x_step at hx
  split at hx
  · cases hx; exact Nat.le_refl _
  · dsimp only at hx
    split at hx
    · exact RE (u_nd s 1) _ _ hl hx
    · cases hx; exact Nat.le_refl _
    · cases hx; exact Nat.le_refl _
    · cases hx; exact Nat.le_refl _
    · cases hx; exact Nat.le_refl _
    · cases hx; exact Nat.le_refl _
    · cases hx; exact Nat.le_refl _
    · split at hx
      · exact RE _ _ _ hl hx
      · cases hx; exact Nat.le_refl _
    · cases hx; exact Nat.le_refl _
  · cases hx; exact Nat.le_refl _
  · cases hx; exact Nat.le_refl _
  · cases hx; exact Nat.le_refl _
  · cases hx; exact Nat.le_refl _
  · cases hx; exact Nat.le_refl _
theorem xr_run (hG : GG G) (hr : 20 ≤ fr) : ∀ (n : Nat) (s : S_) (q : Q_) (w : W_) (i : Int), XS (q_el q) (q_el q) s → XQ (s_tb s) (x_Y s) q → XR G sil o K0 s q w → x_P q < n → 0 ≤ i → i + (x_P q : Nat) + 12 * (5700 - (s_b s : Int)) + 3 * (201 - (q_el q : Int)) + 3 < 900000 → (∀ (s1 : S_) (q1 : Q_) (w' : W_) (i' : Int), x_run (fun C => ev C x_F) G sil n s q = some (s1, q1) → XS (q_el q1) (q_el q1) s1 → q_fr q1 = [] → XR G sil o K0 s1 q1 w' → 0 ≤ i' ∧ i' < 1000000 → dr fr Q i' w') → dr fr Q i w := by
  intro n
  induction n with
  | zero => intro s q w i _ _ _ h; omega
  | succ n ih =>
    intro s q w i HS HQ H hP i0 ib K
    have hel : q_el q ≤ 201 := HQ.1.1
    have hb := XS_b HS hel
    cases hf : q_fr q with
    | nil =>
      refine K s q w i ?_ HS hf H ⟨i0, by omega⟩
      rw [x_run_1, if_pos (by rw [hf]; rfl)]
    | cons f S =>
      obtain ⟨s1, q1, hx, HS1, HQ1, hP1⟩ := x_step_ok (sil := sil) hG HS HQ hf
      obtain ⟨I, hnd, hel2, hwi, hus, hl, hrl⟩ := XI_of HS HQ H.2.2.2.1 hf
      have hel1 : q_el q1 ≤ 201 := HQ1.1.1
      have hb1 := XS_b HS1 hel1
      have hbb := x_step_b hx HS.1.2.2
      have hrn : x_run (fun C => ev C x_F) G sil (n + 1) s q = x_run (fun C => ev C x_F) G sil n s1 q1 := by
        have hrl8 := HQ.2.2.2
        have hY : x_Y s ≤ 1800 := by
          show (if s_b s < 300 then 0 else 1800) ≤ 1800
          split <;> omega
        rw [x_run_1, if_neg (by rw [hf]; exact fun z => by cases z), if_neg (by rw [hf, List.length_cons]; omega), hx]
      refine xr_step HS HQ H hf hx ⟨hbb, hb1⟩ ⟨i0, by omega⟩ hr fun i' w' h1 h2 h3 => ?_
      refine ih s1 q1 w' i' HS1 HQ1 h3 (by omega) (by omega) (by omega) fun s2 q2 w2 i2 g1 => K s2 q2 w2 i2 (by rw [hrn]; exact g1)
end
