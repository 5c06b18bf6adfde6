/-! ===== realizing: a step, a run ===== -/
theorem rFL_fl2 (a : T_) : (v_fl a = false → (∀ t ∈ rFL a, rNK t = true) → rFL a = []) ∧ ∀ x y, a = .append x y → (v_fl x = false → (∀ t ∈ rFL x, rNK t = true) → rFL x = []) ∧ (v_fl y = false → (∀ t ∈ rFL y, rNK t = true) → rFL y = []) := by
  induction a with
  | nil => exact ⟨fun _ _ => rfl, fun x y q => by cases q⟩
  | line => exact ⟨fun _ _ => rfl, fun x y q => by cases q⟩
  | align b => exact ⟨fun _ _ => rfl, fun x y q => by cases q⟩
  | text b => exact ⟨fun _ _ => rfl, fun x y q => by cases q⟩
  | nest n t ih =>
    refine ⟨fun h _ => ?_, fun x y q => by cases q⟩
    cases t <;> first | (cases h; done) | rfl
  | append x y ix iy => exact ⟨fun _ _ => rfl, fun x' y' q => by cases q; exact ⟨ix.1, iy.1⟩⟩
  | group a b ih => exact ⟨fun _ _ => rfl, fun x y q => by cases q⟩
  | tag k t ih =>
    refine ⟨fun h hk => ?_, fun x y q => by cases q⟩
    by_cases r : (1 ≤ k ∧ k ≤ 7) ∨ (9 ≤ k ∧ k ≤ 11)
    · have e := rFL_tag (k := k) (u := t) r
      have z := hk (.tag k t) (by rw [e]; exact List.mem_cons_self)
      have z : (!(k == 10 || k == 11)) = true := z
      exfalso
      by_cases k9 : k ≤ 9
      · unfold v_fl at h
        split at h
        · rename_i q; cases q
        · rename_i q; cases q; omega
        · rename_i q
          cases q
          have h := of_decide_eq_false h
          omega
        · rename_i q1 q; exact q _ _ rfl
      · have : k = 10 ∨ k = 11 := by omega
        rcases this with rfl | rfl <;> cases z
    · by_cases k13 : k = 13
      · subst k13
        cases t with
        | append x y =>
          obtain ⟨i1, i2⟩ := ih.2 x y rfl
          have h : (v_fl x || v_fl y) = false := h
          have h := Bool.or_eq_false_iff.1 h
          have hk : ∀ t ∈ rFL x ++ rFL y, rNK t = true := hk
          show rFL x ++ rFL y = []
          rw [i1 h.1 (fun t q => hk t (List.mem_append.2 (Or.inl q))), i2 h.2 (fun t q => hk t (List.mem_append.2 (Or.inr q)))]
          rfl
        | _ => rfl
      · by_cases k8 : k = 8
        · subst k8
          exact absurd (show decide (1 ≤ 8 ∧ 8 ≤ 9) = false from h) (by decide)
        · unfold rFL
          split
          · rename_i q; cases q
          · rename_i q; cases q; exact absurd rfl k8
          · rename_i q; cases q; exact absurd rfl k13
          · rename_i q; cases q; exact if_neg r
          · rfl
theorem rFL_no {k : Nat} {t : T_} (h : ¬ ((1 ≤ k ∧ k ≤ 7) ∨ (9 ≤ k ∧ k ≤ 11)) ∧ k ≠ 8 ∧ k ≠ 13) : rFL (.tag k t) = [] := by
  unfold rFL
  split
  · rename_i q; cases q
  · rename_i q; cases q; exact absurd rfl h.2.1
  · rename_i q; cases q; exact absurd rfl h.2.2
  · rename_i q; cases q; exact if_neg h.1
  · rfl
section
variable {sil : Bool} {s s1 s2 : S_} {w w' : W_} {Γ Γ' : rG_} {G : G_} {q q1 : Q_} {fr K L : Nat} {P : Option am_V → W_ → Prop} {y : Int}
theorem rXR_nd {k : Nat} (H : rXR G sil s q w Γ) : rXR G sil (u_nd s k) q w Γ := by
  obtain ⟨⟨⟨nq, k1, k2⟩, r⟩, r2⟩ := H
  exact ⟨⟨⟨nq, rRC_nd k1, k2⟩, r⟩, r2⟩
/-- a step -/
theorem rX_step {f : F_} {S : List F_} (HS : XS (q_el q) (q_el q) s) (HQ : XQ (s_tb s) (x_Y s) q) (hf : q_fr q = f :: S) (hx : x_step (fun C => ev C x_F) G sil s q = some (s1, q1)) (HS1 : XS (q_el q1) (q_el q1) s1) (HQ1 : XQ (s_tb s1) (x_Y s1) q1) (H : rXR G sil s q w Γ) (LL : ∀ w' Γ', rXR G sil s1 q1 w' Γ' → zr234 (fr + 2060) P 23 y w') : zr234 (fr + 2060) P 23 y w := by
  obtain ⟨⟨-, hq2⟩, HX, hrl, hrn⟩ := HQ
  obtain ⟨hel, g1, g2, g3⟩ := hq2 (by rw [hf]; exact List.cons_ne_nil _ _)
  have l3 := l_3_le (q_fr q)
  have hul : (q_us q).length ≤ q_wi q := by omega
  have hc : l_cl (q_fr q) ≤ 12 := by omega
  have hrl : (q_rl q).length ≤ 5700 := by
    have : x_Y s ≤ 1800 := by unfold x_Y; split <;> omega
    omega
  have bd : s_b s1 ≤ 90000 ∧ s_nt s1 ≤ 900000 ∧ s_tb s1 ≤ 1800 := by
    obtain ⟨-, ⟨a1, a2, a3, a4⟩, -, a5, a6, a7⟩ := HS1
    have := HQ1.1.1
    omega
  have bs : s_nt s + 1 ≤ 1000000 := by
    obtain ⟨-, ⟨a1, a2, a3, a4⟩, -, a5, a6, a7⟩ := HS
    omega
  have hKf : rKf (f :: S) := by have := H.2.2; rw [hf] at this; exact this
  rw [hf] at HX
  rcases XF_or HX with ⟨w0, x, rfl⟩ | ⟨v, x, rfl⟩ | ⟨v, a, b, n, rfl⟩ | ⟨k, v, x, rfl, hk⟩
  · rw [XF_0] at HX
    obtain ⟨⟨⟨c1, -⟩, -⟩, -⟩ := HX
    obtain ⟨hv, hKS⟩ := hKf
    have hv := hv (Or.inl rfl)
    have pop : rFL w0 = [] → some (s, p_fr q S) = some (s1, q1) → zr234 (fr + 2060) P 23 y w := by
      intro e h
      cases h
      refine LL w Γ (rXR_fr H ?_ hKS)
      rw [hf, lT_cons]
      show _ = (rFL w0).map fP ++ lT S
      rw [e]; rfl
    have el : ∀ (k : Nat) (u : T_), 1 ≤ k ∧ k ≤ 7 → rFL w0 = [.tag k u] → vK (.tag k u) → ∀ s', rXR G sil s' q w Γ → s_nt s' = s_nt s → x_real (fun C => ev C x_F) G sil (.tag k u) s' (p_fr q S) = some (s1, q1) → zr234 (fr + 2060) P 23 y w := fun k u h1 h2 h3 s' h4 h5 h6 => rX_elt h1 hf h2 h3 h4 hel ⟨g1, g2⟩ hul hrl h6 bd (by omega) LL
    have two : ∀ a b, w0 = .tag 8 (.append a b) ∨ w0 = .tag 13 (.append a b) → vK a → vK b → some (s, p_fr (p_fr q S) ((0, a, 0, 0, 0) :: (0, b, 0, 0, 0) :: S)) = some (s1, q1) → zr234 (fr + 2060) P 23 y w := by
      intro a b h ka kb h2
      cases h2
      refine LL w Γ (rXR_fr (q := q) (S := (0, a, 0, 0, 0) :: (0, b, 0, 0, 0) :: S) H ?_ ⟨fun _ => ka, fun _ => kb, hKS⟩)
      have e : rFL w0 = rFL a ++ rFL b := by rcases h with rfl | rfl <;> rfl
      rw [hf, lT_cons, lT_cons, lT_cons]
      show (rFL a).map fP ++ ((rFL b).map fP ++ lT S) = (rFL w0).map fP ++ lT S
      rw [e, List.map_append, List.append_assoc]
    cases w0 with
    | nil => exact pop rfl (by rw [← hx]; unfold x_step; rw [hf]; rfl)
    | line => exact pop rfl (by rw [← hx]; unfold x_step; rw [hf]; rfl)
    | align b => exact pop rfl (by rw [← hx]; unfold x_step; rw [hf]; rfl)
    | text b => exact pop rfl (by rw [← hx]; unfold x_step; rw [hf]; rfl)
    | append a b => exact pop rfl (by rw [← hx]; unfold x_step; rw [hf]; rfl)
    | group a b => exact pop rfl (by rw [← hx]; unfold x_step; rw [hf]; rfl)
    | nest n t =>
      cases t with
      | nil => exact el 1 (.nest (1000 + n) .nil) (by omega) rfl (vK_lf (by omega)) (u_nd s 1) (rXR_nd H) rfl (by rw [← hx]; unfold x_step; rw [hf]; rfl)
      | _ => exact pop rfl (by rw [← hx]; unfold x_step; rw [hf]; rfl)
    | tag k t =>
      by_cases k8 : k = 8
      · subst k8
        cases t with
        | append a b => exact two a b (Or.inl rfl) hv.1 hv.2 (by rw [← hx]; unfold x_step; rw [hf]; rfl)
        | _ => exact c1.elim
      by_cases k13 : k = 13
      · subst k13
        cases t with
        | append a b =>
          have hx : some (s, if v_fl a = true ∨ v_fl b = true then p_fr (p_fr q S) ((0, a, 0, 0, 0) :: (0, b, 0, 0, 0) :: S) else p_fr q S) = some (s1, q1) := by rw [← hx]; unfold x_step; rw [hf]; rfl
          obtain ⟨⟨n1, n2⟩, n3, n4⟩ : ((∀ t ∈ rFL a, rNK t = true) ∧ ∀ t ∈ rFL b, rNK t = true) ∧ vK a ∧ vK b := hv
          by_cases d : v_fl a = true ∨ v_fl b = true
          · rw [if_pos d] at hx
            exact two a b (Or.inr rfl) n3 n4 hx
          · rw [if_neg d] at hx
            refine pop ?_ hx
            have fa : v_fl a = false := by
              cases z : v_fl a with
              | false => rfl
              | true => exact absurd (Or.inl z) d
            have fb : v_fl b = false := by
              cases z : v_fl b with
              | false => rfl
              | true => exact absurd (Or.inr z) d
            show rFL a ++ rFL b = []
            rw [(rFL_fl2 a).1 fa n1, (rFL_fl2 b).1 fb n2]
            rfl
        | _ => exact pop rfl (by rw [← hx]; unfold x_step; rw [hf]; rfl)
      by_cases k9 : k = 9
      · subst k9
        have hx : some (s, p_fr (p_fr q S) ((5, t, 0, 0, 0) :: S)) = some (s1, q1) := by
          rw [← hx]
          unfold x_step
          rw [hf]
          cases t <;> rfl
        cases hx
        rw [vK_9] at hv
        refine LL w Γ (rXR_fr (q := q) (S := (5, t, 0, 0, 0) :: S) H ?_ ⟨fun _ => hv, hKS⟩)
        have e : rFL (.tag 9 t) = [.tag 9 t] := rFL_tag (by omega)
        rw [hf, lT_cons, lT_cons]
        show _ = (rFL (.tag 9 t)).map fP ++ lT S
        rw [e]; rfl
      by_cases k10 : k = 10
      · subst k10
        have e : rFL (.tag 10 t) = [.tag 10 t] := rFL_tag (by omega)
        have e0 : lT (q_fr q) = fP (.tag 10 t) :: lT S := by
          rw [hf, lT_cons]
          show (rFL (.tag 10 t)).map fP ++ lT S = _
          rw [e]; rfl
        cases t with
        | tag p z =>
          cases z with
          | nest x0 u =>
            have hx : some (s, if p = 0 then p_mk (p_fr q S) x0 (q_in q) (q_rl q) else p_mk (p_fr q S) (q_sz q) x0 (q_rl q)) = some (s1, q1) := by
              rw [← hx]; unfold x_step; rw [hf]; rfl
            cases hx
            exact rX_f10 H hc hf (by omega) (fun w' h => LL w' Γ h)
          | _ => exact rX_do H hc e0 (by omega) (fun _ _ _ _ _ _ _ g5 _ _ _ _ => (show False from g5).elim)
        | _ => exact rX_do H hc e0 (by omega) (fun _ _ _ _ _ _ _ g5 _ _ _ _ => (show False from g5).elim)
      by_cases k11 : k = 11
      · subst k11
        have hx : some (s, p_mk (p_fr q S) (q_sz q) (q_in q) (q_rl q ++ [.tag 11 t])) = some (s1, q1) := by
          rw [← hx]; unfold x_step; rw [hf]
          cases t <;> rfl
        cases hx
        exact rX_f11 H hc hf hrl (by omega) (fun w' h => LL w' Γ h)
      by_cases k12 : k = 12
      · subst k12
        exact pop (rFL_no (by omega)) (by rw [← hx]; unfold x_step; rw [hf]; cases t <;> rfl)
      rw [x_step_tag hf ⟨k8, k9, k10, k11, k12, k13⟩] at hx
      by_cases d : 1 ≤ k ∧ k ≤ 7
      · rw [if_pos d] at hx
        exact el k t d (rFL_tag (by omega)) hv s H rfl hx
      · rw [if_neg d] at hx
        exact pop (rFL_no (by omega)) hx
  · have hx : some (s, p_fr q ((0, v, 0, 0, 0) :: (1, .nil, q_sz q, q_in q, (q_rl q).length) :: S)) = some (s1, q1) := by
      rw [← hx]; unfold x_step; rw [hf]; try rfl
    cases hx
    exact rX_f5 H hc hf (by omega) (fun w' h => LL w' Γ h)
  · rw [XF_1] at HX
    have hx : some (s, p_mk (p_fr q S) a b ((q_rl q).take n)) = some (s1, q1) := by
      rw [← hx]; unfold x_step; rw [hf]; try rfl
    cases hx
    exact rX_f1 H hc hf HX.1.1 (by omega) (fun w' h => LL w' Γ h)
  · have g1 : q_wi q = l_cl ((k, v, x) :: S) := by rw [← hf]; exact g1
    have g1 : q_wi q = (if k = 2 ∨ k = 3 ∨ k = 4 then 1 else 0) + l_cl S := g1
    rw [if_pos hk] at g1
    have g3 : (q_us q).length = l_3 ((k, v, x) :: S) := by rw [← hf]; exact g3
    rcases hk with rfl | rfl | rfl
    · have hx : some (s, p_nx (q_nl G (p_fr (p_wi q (q_wi q - 1) (q_us q)) S)) (g_up (q_nx (q_nl G (p_fr (p_wi q (q_wi q - 1) (q_us q)) S))) 41 (q_nx (q_nl G (p_fr (p_wi q (q_wi q - 1) (q_us q)) S)) 41 + 1))) = some (s1, q1) := by
        rw [← hx]; unfold x_step; rw [hf]; try rfl
      cases hx
      exact rX_f2 H hc hf (by omega) (by omega) (fun w' h => LL w' Γ h)
    · have hx : some (s, p_fr (p_wi q (q_wi q - 1) ((q_us q).take ((q_us q).length - 1))) S) = some (s1, q1) := by
        rw [← hx]; unfold x_step; rw [hf]; try rfl
      cases hx
      have g3 : (q_us q).length = 1 + l_3 S := g3
      exact rX_f3 H hc hf (by omega) (by omega) (by omega) (fun w' h => LL w' Γ h)
    · have hx : some (s, p_fr (p_wi q (q_wi q - 1) (q_us q)) S) = some (s1, q1) := by
        rw [← hx]; unfold x_step; rw [hf]; try rfl
      cases hx
      exact rX_f4 H hc hf (by omega) (by omega) (fun w' h => LL w' Γ h)
end
