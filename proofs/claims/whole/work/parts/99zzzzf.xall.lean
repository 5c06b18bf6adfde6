/-! ===== the class realizes as the evaluator: every step ===== -/
section
variable {G : G_} {sil : Bool} {o : Nat} {K0 : Int} {s s1 : S_} {q q1 : Q_} {w w' : W_} {fr : Nat} {Q : Option am_V → W_ → Prop} {i : Int} {S : List F_} {x : Int × Int × Nat}
theorem XR_nd (H : XR G sil o K0 s q w) (hn : s_nd s + 1 ≤ 11 * s_tb s + 300) : XR G sil o K0 (u_nd s 1) q w := ⟨CR_h H.1 (hS_rf _) (by omega) hn, H.2⟩
theorem xr_num {m : Int} (H : XR G sil o K0 s q w) (hf : q_fr q = (0, .nest m .nil, x) :: S) (I : XI s (p_el (p_fr q S) (q_el q + 1))) (hn : s_nd s + 1 ≤ 11 * s_tb s + 300) (hel : q_el q ≤ 200) (hx : x_real (fun C => ev C x_F) G sil (.tag 1 (.nest (1000 + m) .nil)) (u_nd s 1) (p_fr q S) = some (s1, q1)) (hB : s_b s1 ≤ 90000 ∧ s_nt s1 ≤ 900000) (hi : 0 ≤ i ∧ i + 3 + 12 * (s_b s1 : Int) ≤ 900000 + 12 * (s_b s : Int) ∧ i + 3 < 900000) (hr : 20 ≤ fr) (K : ∀ (i' : Int) w', i < i' → i' + 12 * (s_b s : Int) + 3 * (q_el q : Nat) ≤ i + 1 + 12 * (s_b s1 : Int) + 3 * (q_el q1 : Nat) → XR G sil o K0 s1 q1 w' → dr fr Q i' w') : dr fr Q i w := by
  have I' := I
  obtain ⟨⟨I1, I2, I3, I4⟩, ⟨I5, I6, I7⟩, I8, I9, I10⟩ := I'
  have I5' : S.length < 12000 := I5
  have A := XR_po H hf
  have A1 := XR_nd A hn
  obtain ⟨-, -, -, c4⟩ := xs_7 H hf (by omega)
  have Iu : XI (u_nd s 1) (p_el (p_fr q S) (q_el q + 1)) := I
  unfold x_real at hx
  dsimp only at hx
  by_cases c : q_el q = 200
  · rw [if_pos (by show 200 < q_el q + 1; omega)] at hx
    cases hx
    refine xs_n H hf (by omega) (by omega) hr (fun z0 => el_201 A1 c I4) fun w' P => K (i + 1) w' (by omega) ?_ P
    show i + 1 + 12 * (s_b s : Int) + 3 * (q_el q : Nat) ≤ i + 1 + 12 * (s_b s : Int) + 3 * ((q_el q + 1 : Nat) : Int)
    omega
  rw [if_neg (by show ¬ 200 < q_el q + 1; omega)] at hx
  have hel' : q_el q < 200 := by omega
  have hx : x_show (fun C => ev C x_F) G sil (.tag 1 (.nest (1000 + m) .nil)) (u_nd s 1) (p_el (p_fr q S) (q_el q + 1)) = some (s1, q1) := hx
  unfold x_show at hx
  cases hq : q_rule (.tag 1 (.nest (1000 + m) .nil)) (p_el (p_fr q S) (q_el q + 1)) with
  | none =>
    rw [hq] at hx
    cases hx
    refine xs_n H hf (by omega) (by omega) hr (fun z0 => el_1 (t := .nil) A1 hel' I7 I6 (Or.inl ⟨z0.1, z0.2, rfl⟩) (by omega) hq) fun w' P => K (i + 1) w' (by omega) ?_ P
    rw [q_lay_el]
    show i + 1 + 12 * (s_b s : Int) + 3 * (q_el q : Nat) ≤ i + 1 + 12 * (s_b s : Int) + 3 * ((q_el q + 1 : Nat) : Int)
    omega
  | some r =>
    rw [hq] at hx
    have hG := I7 r (q_rule_mem hq)
    have eel : q_el q1 = q_el q + 1 := x_rule_el hx hG
    have hu : ∀ W u, cV W r u → 30000 ≤ u := fun W u h => by
      obtain ⟨n, e, f, rfl⟩ := hG
      exact h.1.1.1
    have eb : (s_b (u_nd s 1) : Int) = s_b s := rfl
    exact xs_n H hf (by omega) (by omega) hr (fun z0 => el_ra A hel' I7 I6 z0 hn (by show S.length < 20000; omega) (fun u => hu _ u) hq) fun w' P => xr_rule (i := i + 1) P Iu hG hx hB (by omega) hr fun i' w' h1 h2 h3 => K i' w' (by omega) (by omega) h3
theorem XI_of {f : F_} (HS : XS (q_el q) (q_el q) s) (HQ : XQ (s_tb s) (x_Y s) q) (hB : QB G q) (hf : q_fr q = f :: S) : XI s (p_el (p_fr q S) (q_el q + 1)) ∧ s_nd s + 1 ≤ 11 * s_tb s + 300 ∧ q_el q ≤ 200 ∧ q_wi q = l_cl (f :: S) ∧ (q_us q).length = l_3 (f :: S) ∧ S.length < 12000 ∧ (q_rl q).length < 30000 := by
  obtain ⟨⟨-, hq2⟩, HX, hrl, hrn⟩ := HQ
  obtain ⟨hel, g1, g2, g3⟩ := hq2 (by rw [hf]; exact List.cons_ne_nil _ _)
  obtain ⟨⟨s1, s2, s3⟩, ⟨t1, t2, t3, t4⟩, -, u1, u2, u3⟩ := HS
  have hY : x_Y s ≤ 1800 := by
    show (if s_b s < 300 then 0 else 1800) ≤ 1800
    split <;> omega
  have hlen := XF_len HX (by rw [← g1]; exact g2) hY
  rw [hf] at g1 g3 hlen
  have hlen : S.length + 1 ≤ 12000 := hlen
  have h3 := l_3_le (f :: S)
  obtain ⟨b1, b2, ⟨b3, b4, b5⟩, ⟨b6, b7, b8⟩, b9⟩ := hB
  refine ⟨⟨⟨s1, s3, by omega, by omega⟩, ⟨by show S.length < 12000; omega, by show (q_rl q).length < 30000; omega, fun r hr => ?_⟩, by show (q_us q).length ≤ q_wi q; omega, ?_, ?_⟩, by omega, hel, g1, g3, by omega, by omega⟩
  · obtain ⟨n, e, f, h, -⟩ := hrl r hr
    exact ⟨n, e, f, h⟩
  · show q_pg q + (q_wi q : Nat) + 1 ≤ 2 * ((q_el q + 1 : Nat) : Int)
    omega
  · show q_nx q 41 + (q_wi q : Nat) + 1 ≤ ((q_el q + 1 : Nat) : Int)
    omega
theorem xr_step {f : F_} (HS : XS (q_el q) (q_el q) s) (HQ : XQ (s_tb s) (x_Y s) q) (H : XR G sil o K0 s q w) (hf : q_fr q = f :: S) (hx : x_step (fun C => ev C x_F) G sil s q = some (s1, q1)) (hB : s_b s ≤ s_b s1 ∧ s_b s1 ≤ 5700 ∧ s_nt s1 ≤ 900000) (hi : 0 ≤ i ∧ i + 12 * (5700 - (s_b s : Int)) + 3 < 900000) (hr : 20 ≤ fr) (K : ∀ (i' : Int) w', i < i' → i' + 12 * (s_b s : Int) + 3 * (q_el q : Nat) ≤ i + 1 + 12 * (s_b s1 : Int) + 3 * (q_el q1 : Nat) → XR G sil o K0 s1 q1 w' → dr fr Q i' w') : dr fr Q i w := by
  obtain ⟨I, hnd, hel, hwi, hus, hl, hrl⟩ := XI_of HS HQ H.2.2.2.1 hf
  have HX := HQ.2.1
  rw [hf] at HX
  have hl2 : S.length < 20000 := by omega
  have hi1 : 0 ≤ i ∧ i < 1000000 := by omega
  have one : ∀ (q2 : Q_), x_step (fun C => ev C x_F) G sil s q = some (s, q2) → q_el q2 = q_el q → s1 = s ∧ q1 = q2 ∧ ∀ w', XR G sil o K0 s q2 w' → dr fr Q (i + 1) w' := fun q2 h he => by
    rw [h] at hx
    injection hx with hx
    injection hx with e1 e2
    refine ⟨e1.symm, e2.symm, fun w' hw => ?_⟩
    rw [← e1, ← e2] at K
    exact K (i + 1) w' (by omega) (by rw [he]; omega) hw
  rcases XF_or HX with ⟨v, x, rfl⟩ | ⟨v, x, rfl⟩ | ⟨v, a, b, n, rfl⟩ | ⟨k, v, x, rfl, hk⟩
  · obtain ⟨-, -, -, c4⟩ := xs_7 H hf hl2
    have pop : x_step (fun C => ev C x_F) G sil s q = some (s, p_fr q S) → (v = .nil ∨ v = .line ∨ (∃ y, v = .align y) ∨ (∃ y, v = .tag 12 y) ∨ ∃ a b, v = .append a b) → dr fr Q i w := fun h hv => by
      obtain ⟨-, -, K'⟩ := one _ h rfl
      exact xs_pop H hf hv hl2 hi1 hr K'
    cases v with
    | nil => exact pop (by unfold x_step; rw [hf]; rfl) (Or.inl rfl)
    | line => exact pop (by unfold x_step; rw [hf]; rfl) (Or.inr (Or.inl rfl))
    | align y => exact pop (by unfold x_step; rw [hf]; rfl) (Or.inr (Or.inr (Or.inl ⟨y, rfl⟩)))
    | append a b => exact pop (by unfold x_step; rw [hf]; rfl) (Or.inr (Or.inr (Or.inr (Or.inr ⟨a, b, rfl⟩))))
    | text _ => exact False.elim c4
    | group _ _ => exact False.elim c4
    | nest m t =>
      cases t with
      | nil =>
        have e : x_step (fun C => ev C x_F) G sil s q = x_real (fun C => ev C x_F) G sil (.tag 1 (.nest (1000 + m) .nil)) (u_nd s 1) (p_fr q S) := by unfold x_step; rw [hf]; rfl
        rw [e] at hx
        exact xr_num H hf I hnd hel hx ⟨by omega, hB.2.2⟩ (by omega) hr K
      | _ => exact False.elim c4
    | tag k y =>
      by_cases h8 : k = 8
      · subst h8
        cases y with
        | append a b =>
          obtain ⟨-, -, K'⟩ := one (p_fr (p_fr q S) ((0, a, 0, 0, 0) :: (0, b, 0, 0, 0) :: S)) (by unfold x_step; rw [hf]; rfl) rfl
          exact xs_join H hf hl2 hi1 hr K'
        | _ => exact False.elim c4
      by_cases h9 : k = 9
      · subst h9
        obtain ⟨-, -, K'⟩ := one (p_fr (p_fr q S) ((5, y, 0, 0, 0) :: S)) (by unfold x_step; rw [hf]; cases y <;> rfl) rfl
        exact xs_scope H hf hl2 hi1 hr K'
      by_cases h10 : k = 10
      · subst h10
        cases y with
        | tag p u =>
          cases u with
          | nest m t =>
            obtain ⟨-, -, K'⟩ := one (if p = 0 then p_mk (p_fr q S) m (q_in q) (q_rl q) else p_mk (p_fr q S) (q_sz q) m (q_rl q)) (by unfold x_step; rw [hf]; rfl) (by split <;> rfl)
            exact xs_set H hf hl2 hi1 hr K'
          | _ => exact False.elim c4
        | _ => exact False.elim c4
      by_cases h11 : k = 11
      · subst h11
        obtain ⟨-, -, K'⟩ := one (p_mk (p_fr q S) (q_sz q) (q_in q) (q_rl q ++ [.tag 11 y])) (by unfold x_step; rw [hf]; cases y <;> rfl) rfl
        exact xs_rule H hf hl2 hrl hi1 hr K'
      by_cases h12 : k = 12
      · subst h12
        exact pop (by unfold x_step; rw [hf]; cases y <;> rfl) (Or.inr (Or.inr (Or.inr (Or.inl ⟨y, rfl⟩))))
      by_cases h13 : k = 13
      · subst h13
        cases y with
        | append a b =>
          obtain ⟨-, -, K'⟩ := one (if v_fl a = true ∨ v_fl b = true then p_fr (p_fr q S) ((0, a, 0, 0, 0) :: (0, b, 0, 0, 0) :: S) else p_fr q S) (by unfold x_step; rw [hf]; rfl) (by split <;> rfl)
          exact xs_pair H hf hl2 hi1 hr K'
        | _ => exact False.elim c4
      by_cases hk : 1 ≤ k ∧ k ≤ 7
      · rw [x_step_tag hf ⟨h8, h9, h10, h11, h12, h13⟩, if_pos hk] at hx
        exact xr_el hk H hf I hel hx ⟨by omega, hB.2.2⟩ (by omega) hr K
      · exfalso
        unfold cV cR at c4
        split at c4 <;> first | exact c4.elim | (rename_i z; cases z; omega) | (rename_i z; cases z; done)
  · obtain ⟨-, -, K'⟩ := one (p_fr q ((0, v, 0, 0, 0) :: (1, .nil, q_sz q, q_in q, (q_rl q).length) :: S)) (by unfold x_step; rw [hf]; rfl) rfl
    exact xs_5 H hf hl2 hi1 hr K'
  · obtain ⟨-, -, K'⟩ := one (p_mk (p_fr q S) a b ((q_rl q).take n)) (by unfold x_step; rw [hf]; rfl) rfl
    rw [XF_1] at HX
    exact xs_1 H hf hl2 HX.1.1 hi1 hr K'
  · have w1 : 1 ≤ q_wi q := by
      rw [hwi]
      show 1 ≤ (if k = 2 ∨ k = 3 ∨ k = 4 then 1 else 0) + l_cl S
      rw [if_pos hk]
      omega
    rcases hk with rfl | rfl | rfl
    · obtain ⟨-, -, K'⟩ := one (p_nx (q_nl G (p_fr (p_wi q (q_wi q - 1) (q_us q)) S)) (g_up (q_nx (q_nl G (p_fr (p_wi q (q_wi q - 1) (q_us q)) S))) 41 (q_nx (q_nl G (p_fr (p_wi q (q_wi q - 1) (q_us q)) S)) 41 + 1))) (by unfold x_step; rw [hf]; rfl) ((q_nl_s G _).2.2.2.2.2.1)
      exact xs_2 H hf hl2 w1 hi1 hr K'
    · obtain ⟨-, -, K'⟩ := one (p_fr (p_wi q (q_wi q - 1) ((q_us q).take ((q_us q).length - 1))) S) (by unfold x_step; rw [hf]; rfl) rfl
      exact xs_3 H hf hl2 w1 (by rw [hus]; show 1 ≤ 1 + l_3 S; omega) hi1 hr K'
    · obtain ⟨-, -, K'⟩ := one (p_fr (p_wi q (q_wi q - 1) (q_us q)) S) (by unfold x_step; rw [hf]; rfl) rfl
      exact xs_4 H hf rfl hl2 w1 hi1 hr K'
end
