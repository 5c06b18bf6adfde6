/-! ===== realizing: pieces ===== -/
section
variable {sil : Bool} {s s1 : S_} {w w' : W_} {Γ Γ' : rG_} {G : G_} {q q1 : Q_} {fr K L : Nat} {P : Option am_V → W_ → Prop} {y : Int}
/-- what goes on behind a step -/
abbrev rGo (fr : Nat) (P : Option am_V → W_ → Prop) (y : Int) : Option am_V → W_ → Prop := fun r w' => r = none ∧ zr234 fr P 23 y w'
theorem rX_do {t : T_} {l : List F_} (H : rXR G sil s q w Γ) (hc : l_cl (q_fr q) ≤ 12) (e : lT (q_fr q) = fP t :: l) (h1 : 3 ≤ fr) (LL : ∀ (w' : W_) (n c : Nat), rXC G sil s q w' Γ → w'.1 73 52 = (n : Int) → 910 * cRl l + rLm s < 16384 → rST w' Γ 910 (rLm s) n l → rLF w' Γ t c → 0 < c ∧ (c : Int) < w'.1 73 26 ∧ c < 8192 → rCC w' Γ (c : Int) [t] → w'.2 92 c ≠ 50 → n + uW (w'.2 92) c ≤ 910 * cRl l + rLm s → ww_Ct 231 (fr - 1 - 1) [.inr (.inr (.inl 73)), .inl (c : Int)] w' (rGo fr P y)) : zr234 fr P 23 y w := by
  refine rX_topP H hc e h1 (fun w1 n c g1 g2 g3 g4 g5 g6 g7 g8 g9 => ?_)
  have HH := g1.1
  obtain ⟨nq, k1, -⟩ := HH
  have B := rRC_bd k1
  have c0 : c ≠ 0 := fun z => by
    have := (rCC_0 k1.1 g7).1 (by omega)
    cases this
  have zc := g7.1
  have T := (k1.1.2.2.1 c (by omega) (by omega)).2.2
  have hL : rLF w1 Γ t c := by
    rcases T with ⟨z, -⟩ | ⟨-, t', z1, z2⟩
    · exact absurd z g8
    · have z3 : Γ.1 c = [t] := by have z := g7.2; rw [show ((c : Int)).toNat = c by omega] at z; exact z
      rw [z1] at z3
      cases z3
      exact z2
  have cl : cRl l ≤ 12 := by
    have a := cRl_lT (q_fr q)
    have b := cRl_cl (q_fr q)
    have d : cRl (lT (q_fr q)) = 0 + cRl l := by rw [e]; rfl
    omega
  have d : rLm s ≤ 5412 := by unfold rLm; split <;> omega
  have en : (((n + 1 : Nat) : Int) - 1).toNat = n := by omega
  have ei : ((n + 1 : Nat) : Int) - 1 = (n : Int) := by omega
  have S0 := rWS_f w1 (n : Int)
  refine lk_234d (R := fun w2 => zr234 fr P 23 y w2) (by omega) g2 (by omega) (lk_232b (a := (c : Int)) (R := fun w2 => zr234 fr P 23 y w2) (by omega) g2 (by omega) (by rw [en]; exact g5) rfl (by rw [en]; exact g6) (by omega) ?_ (fun w' q => ⟨rfl, q⟩)) (fun _ h => h)
  rw [ei]
  refine LL _ n c (rX_ws g1 S0) (by rw [w_f1, w_u_at, if_pos ⟨rfl, rfl⟩]) (by omega) (rST_mono (rWS_X (R := -1) S0) (Nat.le_refl _) n l (fun _ _ => ⟨rfl, rfl, rfl, rfl⟩) g4) (rLF_mono (rWS_X (R := -1) S0) (rOK_m _) (by omega) hL) ⟨by omega, by rw [w_f_ne _ _ _ _ _ _ (by decide)]; omega, by omega⟩ (rCC_mono (rWS_X (R := -1) S0) g7) g8 g9
/-- frames that stand for the same -/
theorem rXR_fr {S : List F_} (H : rXR G sil s q w Γ) (e : lT S = lT (q_fr q)) (hK : rKf S) : rXR G sil s (p_fr q S) w Γ := by
  obtain ⟨h1, ⟨n, h2, h3⟩, -⟩ := H
  refine ⟨rX_fr h1, ⟨n, h2, ?_⟩, hK⟩
  show rST w Γ 910 (rLm s) n (lT S)
  rw [e]; exact h3
theorem lT_cons (f : F_) (l : List F_) : lT (f :: l) = fT f ++ lT l := rfl
/-- a group -/
theorem rX_f5 {v : T_} {x : Int × Int × Nat} {S : List F_} (H : rXR G sil s q w Γ) (hc : l_cl (q_fr q) ≤ 12) (hf : q_fr q = (5, v, x) :: S) (h1 : 3 ≤ fr) (LL : ∀ w', rXR G sil s (p_fr q ((0, v, 0, 0, 0) :: (1, .nil, q_sz q, q_in q, (q_rl q).length) :: S)) w' Γ → zr234 fr P 23 y w') : zr234 fr P 23 y w := by
  have hK : vK v ∧ rKf S := by have := H.2.2; rw [hf] at this; exact ⟨this.1 (Or.inr rfl), this.2⟩
  refine rX_do (t := .tag 9 v) (l := lT S) H hc (by rw [hf]; rfl) h1 (fun w1 n c g1 g2 g3 g4 g5 g6 g7 g8 g9 => ?_)
  obtain ⟨t1, ⟨t2, t2'⟩, t3⟩ : w1.2 92 c = 51 ∧ (0 < w1.2 93 c ∧ w1.2 93 c < c) ∧ Γ.1 (w1.2 93 c).toNat = rFL v := g5
  have cc : ((c : Int)).toNat = c := by omega
  obtain ⟨-, -, ⟨⟨⟨x1, x2, -⟩, -⟩, hB⟩, ⟨⟨x3, -⟩, -⟩, -⟩ := id g1
  obtain ⟨-, ⟨b1, b2, b3, b4⟩, -⟩ := hB
  have uc := uW_lt (w1.2 92) (m := (w1.2 93 c).toNat) (n := c) (by omega) (by rw [t1]; decide)
  have S1 := r_wt_WS w1 1 (q_sz q) (q_in q) (((q_rl q).length : Nat) : Int)
  obtain ⟨n1, ⟨y1, y2, y3, y4⟩, y5⟩ := r_wt_at (o := 1) (a := q_sz q) (b := q_in q) (c := (((q_rl q).length : Nat) : Int)) g2
  have T1 := rST_push (o := 1) (a := q_sz q) (b := q_in q) (c := (((q_rl q).length : Nat) : Int)) (l1 := [(1, .nil, q_sz q, q_in q, (q_rl q).length)]) g2 g4 ⟨by omega, Or.inr (Or.inl ⟨y1, by rw [y2, y3]; omega, (q_rl q).length, y4, by rw [y2, y3]⟩)⟩
  refine lk_231c (by omega) (by omega) (by rw [cc]; exact t1) (by omega) rfl ?_
  rw [x1, x2, x3]
  generalize r_wt w1 1 (q_sz q) (q_in q) (((q_rl q).length : Nat) : Int) = w2 at S1 n1 T1 ⊢
  have S2 := r_wt_WS w2 0 (w1.2 93 c) 0 0
  obtain ⟨n2, ⟨z1, z2, -, -⟩, z5⟩ := r_wt_at (o := 0) (a := w1.2 93 c) (b := 0) (c := 0) n1
  have S12 := rWS_tr S1 S2
  have cr : cRl ([(1, .nil, q_sz q, q_in q, (q_rl q).length)] ++ lT S) = cRl (lT S) := by rw [cRl_app]; exact Nat.zero_add _
  have T2 := rST_push (o := 0) (a := w1.2 93 c) (b := 0) (c := 0) (l1 := (rFL v).map fP) n1 T1 ⟨by rw [cr]; omega, Or.inl ⟨z1, rFL v, rfl, by rw [z2]; exact rCC_mono (rWS_X (R := -1) S12) (⟨by omega, t3⟩ : rCC w1 Γ (w1.2 93 c) (rFL v)), by rw [z2, S12.2 92 (by omega), cr]; omega⟩⟩
  refine lk_231d (by omega) (by omega) (by omega) (a := w1.2 93 c) (by rw [cc, S1.2 93 (by omega)]) ⟨rfl, LL _ ⟨rX_fr (rX_ws g1 S12), ⟨n + 1 + 1, n2, ?_⟩, fun _ => hK.1, fun q => by omega, hK.2⟩⟩
  exact T2
/-- SIZE, INDENT -/
theorem rX_f10 {p : Nat} {x : Int} {u : T_} {x0 : Int × Int × Nat} {S : List F_} (H : rXR G sil s q w Γ) (hc : l_cl (q_fr q) ≤ 12) (hf : q_fr q = (0, .tag 10 (.tag p (.nest x u)), x0) :: S) (h1 : 3 ≤ fr) (LL : ∀ w', rXR G sil s (if p = 0 then p_mk (p_fr q S) x (q_in q) (q_rl q) else p_mk (p_fr q S) (q_sz q) x (q_rl q)) w' Γ → zr234 fr P 23 y w') : zr234 fr P 23 y w := by
  have hK : rKf S := by have := H.2.2; rw [hf] at this; exact this.2
  have e : rFL (.tag 10 (.tag p (.nest x u))) = [.tag 10 (.tag p (.nest x u))] := by
    unfold rFL
    rfl
  refine rX_do (t := .tag 10 (.tag p (.nest x u))) (l := lT S) H hc (by rw [hf, lT_cons]; show (rFL _).map fP ++ _ = _; rw [e]; rfl) h1 (fun w1 n c g1 g2 g3 g4 g5 g6 g7 g8 g9 => ?_)
  obtain ⟨t1, t2, t3, t4, t5, t6, t7⟩ : w1.2 92 c = 18 ∧ w1.2 93 c = (p : Int) ∧ w1.2 94 c = x ∧ p < 2 ∧ (p = 0 → 1 ≤ x) ∧ 0 ≤ x ∧ x ≤ 3 := g5
  have cc : ((c : Int)).toNat = c := by omega
  obtain ⟨-, -, ⟨⟨⟨x1, x2, -⟩, -⟩, hB⟩, ⟨⟨x3, r2⟩, -⟩, -⟩ := id g1
  obtain ⟨-, ⟨b1, b2, b3, b4⟩, -⟩ := hB
  have N : ∀ (a b : Int), ∀ j, j ≠ 57 → j ≠ 58 → (w_f (w_f w1 73 57 a) 73 58 b).1 73 j = w1.1 73 j := fun a b j a1 a2 => by
    rw [w_f_ne _ _ _ _ _ _ (by omega), w_f_ne _ _ _ _ _ _ (by omega)]
  have M : ∀ (a b : Int), 1 ≤ a ∧ a ≤ 3 → 0 ≤ b ∧ b ≤ 3 → rXR G sil s (p_mk (p_fr q S) a b (q_rl q)) (w_f (w_f w1 73 57 a) 73 58 b) Γ := by
    intro a b ha hb
    refine ⟨rX_mk (rX_fr (S := S) g1) ha hb ?_ r2 ?_ ?_ (fun j a1 a2 a3 a4 => N a b j a2 a3) (fun _ _ => rfl), ⟨n, ?_, ?_⟩, hK⟩
    · rw [N a b 59 (by decide) (by decide)]; exact x3
    · rw [w_f_ne _ _ _ _ _ _ (by decide), w_f1, w_u_at, if_pos ⟨rfl, rfl⟩]
    · rw [w_f1, w_u_at, if_pos ⟨rfl, rfl⟩]
    · rw [N a b 52 (by decide) (by decide)]; exact g2
    · exact rST_mono (rXT_same (R := -1) (fun j q => N a b j (by omega) (by omega)) (fun _ _ _ => rfl)) (Nat.le_refl _) n _ (fun _ _ => ⟨rfl, rfl, rfl, rfl⟩) g4
  by_cases p0 : p = 0
  · rw [if_pos p0] at LL
    refine lk_231e (by omega) (by rw [cc]; exact t1) rfl (by rw [cc, t2, p0]; rfl) (b := x) (by rw [cc]; exact t3) ⟨rfl, LL _ ?_⟩
    rw [x2]
    exact M x (q_in q) ⟨t5 p0, t7⟩ ⟨b3, b4⟩
  · rw [if_neg p0] at LL
    refine lk_231f (by omega) (by rw [cc]; exact t1) rfl (by rw [cc, t2]; omega) (b := x) (by rw [cc]; exact t3) ⟨rfl, LL _ ?_⟩
    rw [x1]
    exact M (q_sz q) x ⟨b1, b2⟩ ⟨t6, t7⟩
/-- a rule -/
theorem rX_f11 {u : T_} {x0 : Int × Int × Nat} {S : List F_} (H : rXR G sil s q w Γ) (hc : l_cl (q_fr q) ≤ 12) (hf : q_fr q = (0, .tag 11 u, x0) :: S) (hr : (q_rl q).length ≤ 5700) (h1 : 3 ≤ fr) (LL : ∀ w', rXR G sil s (p_mk (p_fr q S) (q_sz q) (q_in q) (q_rl q ++ [.tag 11 u])) w' Γ → zr234 fr P 23 y w') : zr234 fr P 23 y w := by
  have hK : rKf S := by have := H.2.2; rw [hf] at this; exact this.2
  have e : rFL (.tag 11 u) = [.tag 11 u] := by
    unfold rFL
    rfl
  refine rX_do (t := .tag 11 u) (l := lT S) H hc (by rw [hf, lT_cons]; show (rFL _).map fP ++ _ = _; rw [e]; rfl) h1 (fun w1 n c g1 g2 g3 g4 g5 g6 g7 g8 g9 => ?_)
  have t1 : w1.2 92 c = 19 := by
    unfold rLF at g5
    split at g5
    all_goals first | (rename_i z; cases z; exact g5.1) | (rename_i z; cases z) | exact g5.elim
  have cc : ((c : Int)).toNat = c := by omega
  obtain ⟨-, -, ⟨⟨⟨x1, x2, -⟩, -⟩, hB⟩, ⟨⟨x3, r2⟩, -⟩, -⟩ := id g1
  obtain ⟨-, ⟨b1, b2, b3, b4⟩, -⟩ := hB
  have N : ∀ j, j ≠ 59 → (w_f (w_a w1 111 (q_rl q).length (c : Int)) 73 59 ((((q_rl q).length : Nat) : Int) + 1)).1 73 j = w1.1 73 j := fun j a1 => by
    rw [w_f_ne _ _ _ _ _ _ (by omega)]; rfl
  have A : ∀ d, d ≠ 111 → (w_f (w_a w1 111 (q_rl q).length (c : Int)) 73 59 ((((q_rl q).length : Nat) : Int) + 1)).2 d = w1.2 d := fun d a1 => by
    rw [w_f2, w_a_2ne _ _ _ a1]
  have e111 : ∀ k, (w_f (w_a w1 111 (q_rl q).length (c : Int)) 73 59 ((((q_rl q).length : Nat) : Int) + 1)).2 111 k = if k = (q_rl q).length then (c : Int) else w1.2 111 k := fun k => by
    rw [w_f2]
    show (if 111 = 111 ∧ k = (q_rl q).length then (c : Int) else w1.2 111 k) = _
    by_cases e : k = (q_rl q).length
    · rw [if_pos ⟨rfl, e⟩, if_pos e]
    · rw [if_neg (fun q => e q.2), if_neg e]
  refine lk_231g (n := (((q_rl q).length : Nat) : Int)) (by omega) (by rw [cc]; exact t1) rfl x3 (by omega) ⟨rfl, LL _ ⟨rX_mk (rX_fr (S := S) g1) ⟨b1, b2⟩ ⟨b3, b4⟩ ?_ (fun i r hi => ?_) ?_ ?_ (fun j _ _ _ a4 => N j a4) (fun d hd => A d (by omega)), ⟨n, ?_, ?_⟩, hK⟩⟩
  · rw [w_f1, w_u_at, if_pos ⟨rfl, rfl⟩, List.length_append]; rfl
  · have en : (((q_rl q).length : Nat) : Int).toNat = (q_rl q).length := by omega
    rw [en, e111]
    by_cases d : i < (q_rl q).length
    · rw [List.getElem?_append_left d] at hi
      rw [if_neg (by omega)]
      exact r2 i r hi
    · have il : i = (q_rl q).length := by
        have z := (List.getElem?_eq_some_iff.1 hi).1
        rw [List.length_append] at z
        have z : i < (q_rl q).length + 1 := z
        omega
      rw [il, List.getElem?_append_right (Nat.le_refl _), Nat.sub_self] at hi
      cases hi
      rw [if_pos il, cc]
      exact ⟨g7, t1⟩
  · have en : (((q_rl q).length : Nat) : Int).toNat = (q_rl q).length := by omega
    rw [en]
    rw [N 57 (by decide)]; exact x1
  · have en : (((q_rl q).length : Nat) : Int).toNat = (q_rl q).length := by omega
    rw [en]
    rw [N 58 (by decide)]; exact x2
  · have en : (((q_rl q).length : Nat) : Int).toNat = (q_rl q).length := by omega
    rw [en]
    rw [N 52 (by decide)]; exact g2
  · have en : (((q_rl q).length : Nat) : Int).toNat = (q_rl q).length := by omega
    rw [en]
    exact rST_mono (rXT_same (R := -1) (fun j q => N j (by omega)) (fun b _ _ => A b (by omega))) (Nat.le_refl _) n _ (fun i _ => by rw [A 107 (by decide), A 108 (by decide), A 109 (by decide), A 110 (by decide)]; exact ⟨rfl, rfl, rfl, rfl⟩) g4
end
