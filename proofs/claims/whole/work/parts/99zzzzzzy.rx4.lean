/-! ===== realizing: what is no piece ===== -/
section
variable {sil : Bool} {s s1 : S_} {w w' : W_} {Γ Γ' : rG_} {G : G_} {q q1 : Q_} {fr K L : Nat} {P : Option am_V → W_ → Prop} {y : Int}
/-- SIZE, INDENT, rules that hold -/
theorem rX_mk {a b : Int} {l : List T_} (H : rXC G sil s q w Γ) (ha : 1 ≤ a ∧ a ≤ 3) (hb : 0 ≤ b ∧ b ≤ 3) (hm : w'.1 73 59 = ((l.length : Nat) : Int)) (hl : ∀ (i : Nat) (r : T_), l[i]? = some r → rCC w Γ (w'.2 111 i) [r] ∧ w.2 92 (w'.2 111 i).toNat = 19) (h57 : w'.1 73 57 = a) (h58 : w'.1 73 58 = b) (N : ∀ j, j ≠ 52 → j ≠ 57 → j ≠ 58 → j ≠ 59 → w'.1 73 j = w.1 73 j) (A : ∀ d, d < 107 ∨ 111 < d → w'.2 d = w.2 d) : rXC G sil s (p_mk q a b l) w' Γ := by
  have H0 := H
  obtain ⟨⟨nq, k1, k2, k3⟩, h47, ⟨⟨⟨x1, x2, x3, x4⟩, ⟨x5, x6, x7, x8⟩, x9, x10⟩, hB⟩, h2, h3⟩ := H
  obtain ⟨b1, b2, ⟨b3, b4, b5, b6, b7, b8⟩, ⟨b9, b9', b9''⟩, b10, b11⟩ := hB
  have X : rXT w Γ w' Γ (-1) := rXT_same (fun j q => N j (by omega) (by omega) (by omega) (by omega)) (fun d _ q => A d (by omega))
  refine rXC_of H0 (fun j q => N j (by omega) (by omega) (by omega) (by omega)) (fun d _ => A d (by omega)) (rS3_of k1.2.2.2.2.1 rfl (N 62 (by decide) (by decide) (by decide) (by decide)) (N 47 (by decide) (by decide) (by decide) (by decide)) (fun d _ => A d (by omega))) (by rw [N 47 (by decide) (by decide) (by decide) (by decide)]; exact h47) ⟨⟨h57, h58, ?_, ?_⟩, ⟨?_, ?_, ?_, ?_⟩, ?_, ?_⟩ ⟨b1, ⟨ha.1, ha.2, hb.1, hb.2⟩, ⟨b3, b4, b5, b6, b7, b8⟩, ⟨b9, b9', b9''⟩, b10, b11⟩ ⟨⟨hm, fun i r hi => ?_⟩, ?_⟩ ?_
  · rw [N 61 (by decide) (by decide) (by decide) (by decide)]; exact x3
  · rw [N 64 (by decide) (by decide) (by decide) (by decide)]; exact x4
  · rw [N 65 (by decide) (by decide) (by decide) (by decide)]; exact x5
  · rw [N 66 (by decide) (by decide) (by decide) (by decide)]; exact x6
  · rw [N 67 (by decide) (by decide) (by decide) (by decide)]; exact x7
  · rw [N 68 (by decide) (by decide) (by decide) (by decide)]; exact x8
  · rw [N 3 (by decide) (by decide) (by decide) (by decide)]; exact x9
  · rw [N 4 (by decide) (by decide) (by decide) (by decide)]; exact x10
  · obtain ⟨g1, g2⟩ := hl i r hi
    exact ⟨rCC_mono X g1, by rw [A 92 (by omega)]; exact g2⟩
  · rw [A 112 (by omega)]; exact h2.2
  · unfold rX3 at h3 ⊢
    rw [A 105 (by omega), A 106 (by omega), A 113 (by omega)]
    exact h3
/-- how many are within one another; SHOWs used up -/
theorem rX_wi {wi : Nat} {us : List Nat} (H : rXC G sil s q w Γ) (h61 : w'.1 73 61 = (wi : Int)) (h62 : w'.1 73 62 = ((us.length : Nat) : Int)) (hu : us.length ≤ 12) (hus : ∀ (i id : Nat), us[i]? = some id → w'.2 112 i = 100 * ((id / 60 : Nat) : Int) + ((id % 60 : Nat) : Int) ∧ id < 1000) (hb : q_pg q + (wi : Nat) ≤ 2 * (q_el q : Nat) ∧ q_nx q 41 + (wi : Nat) ≤ (q_el q : Nat)) (N : ∀ j, j ≠ 52 → j ≠ 61 → j ≠ 62 → w'.1 73 j = w.1 73 j) (A : ∀ d, d < 107 ∨ (d = 111 ∨ 112 < d) → w'.2 d = w.2 d) : rXC G sil s (p_wi q wi us) w' Γ := by
  have H0 := H
  obtain ⟨⟨nq, k1, k2, k3⟩, h47, ⟨⟨⟨x1, x2, x3, x4⟩, ⟨x5, x6, x7, x8⟩, x9, x10⟩, hB⟩, h2, h3⟩ := H
  obtain ⟨b1, b2, ⟨b3, b4, b5, b6, b7, b8⟩, ⟨b9, b9', b9''⟩, b10, b11⟩ := hB
  have X : rXT w Γ w' Γ (-1) := rXT_same (fun j q => N j (by omega) (by omega) (by omega)) (fun d _ q => A d (by omega))
  have h3' : rS3 (g_C G (p_wi q wi us)) w' := by
    obtain ⟨s1, s2, s3, s4, s5, s6⟩ := k1.2.2.2.2.1
    refine ⟨⟨?_, ?_, ?_⟩, ?_, fun k hk => ?_, fun k hk => ?_, ?_, fun k hk => ?_⟩
    · show ((us.length : Nat) : Int) = _
      rw [h62]
    · show (0 : Int) ≤ ((us.length : Nat) : Int)
      omega
    · show ((us.length : Nat) : Int) ≤ 12
      omega
    · rw [N 47 (by decide) (by decide) (by decide)]; exact s2
    · rw [A 104 (by omega)]; exact s3 k hk
    · rw [N 47 (by decide) (by decide) (by decide), A 103 (by omega)]; exact s4 k hk
    · rw [A 74 (by omega), A 75 (by omega), A 76 (by omega)]; exact s5
    · rw [A 103 (by omega)]; exact s6 k hk
  refine rXC_of H0 (fun j q => N j (by omega) (by omega) (by omega)) (fun d _ => A d (by omega)) h3' (by rw [N 47 (by decide) (by decide) (by decide)]; exact h47) ⟨⟨?_, ?_, h61, ?_⟩, ⟨?_, ?_, ?_, ?_⟩, ?_, ?_⟩ ⟨b1, b2, ⟨b3, hb.1, b5, b6, b7, b8⟩, ⟨b9, b9', hb.2⟩, b10, b11⟩ ⟨⟨?_, fun i r hi => ?_⟩, hus⟩ ?_
  · rw [N 57 (by decide) (by decide) (by decide)]; exact x1
  · rw [N 58 (by decide) (by decide) (by decide)]; exact x2
  · rw [N 64 (by decide) (by decide) (by decide)]; exact x4
  · rw [N 65 (by decide) (by decide) (by decide)]; exact x5
  · rw [N 66 (by decide) (by decide) (by decide)]; exact x6
  · rw [N 67 (by decide) (by decide) (by decide)]; exact x7
  · rw [N 68 (by decide) (by decide) (by decide)]; exact x8
  · rw [N 3 (by decide) (by decide) (by decide)]; exact x9
  · rw [N 4 (by decide) (by decide) (by decide)]; exact x10
  · rw [N 59 (by decide) (by decide) (by decide)]; exact h2.1.1
  · obtain ⟨g1, g2⟩ := h2.1.2 i r hi
    rw [A 111 (by omega), A 92 (by omega)]
    exact ⟨rCC_mono X g1, g2⟩
  · unfold rX3 at h3 ⊢
    rw [A 105 (by omega), A 106 (by omega), A 113 (by omega)]
    exact h3
/-- one more heading -/
theorem rX_41 (H : rXC G sil s q w Γ) (hb : q_nx q 41 + 1 + (q_wi q : Nat) ≤ (q_el q : Nat)) (hi : w.2 105 41 = y) : rXC G sil s (p_nx q (g_up (q_nx q) 41 (q_nx q 41 + 1))) (w_a w 105 41 (y + 1)) Γ := by
  have H0 := H
  obtain ⟨⟨nq, k1, k2, k3⟩, h47, ⟨x1, hB⟩, h2, h3⟩ := H
  obtain ⟨b1, b2, b3, ⟨b9, b9', b9''⟩, b10, b11⟩ := hB
  have A : ∀ b, b ≠ 105 → (w_a w 105 41 (y + 1)).2 b = w.2 b := fun b a => w_a_2ne _ _ _ a
  have ey : y = q_nx q 41 := by rw [← hi]; exact h3.1 41 (by omega)
  refine rXC_of H0 (fun j _ => rfl) (fun b _ => A b (by omega)) (rS3_of k1.2.2.2.2.1 rfl rfl rfl (fun b _ => A b (by omega))) h47 ?_ ⟨b1, b2, b3, ⟨fun k hk => ?_, ?_, ?_⟩, b10, b11⟩ (rX2_of h2 ⟨rfl, rfl⟩ rfl ⟨A 111 (by decide), A 112 (by decide), A 92 (by decide)⟩ (rXT_same (fun _ _ => rfl) (fun b _ _ => A b (by omega)))) ⟨fun k hk => ?_, fun l hl => ?_, ?_⟩
  · unfold rX1 at x1 ⊢
    exact x1
  · show -9999 ≤ g_up (q_nx q) 41 (q_nx q 41 + 1) k ∧ g_up (q_nx q) 41 (q_nx q 41 + 1) k ≤ 9999
    unfold g_up
    split
    · omega
    · exact b9 k hk
  · show 0 ≤ g_up (q_nx q) 41 (q_nx q 41 + 1) 41
    unfold g_up
    rw [if_pos rfl]; omega
  · show g_up (q_nx q) 41 (q_nx q 41 + 1) 41 + _ ≤ _
    unfold g_up
    rw [if_pos rfl]; exact hb
  · show (if 105 = 105 ∧ k = 41 then y + 1 else w.2 105 k) = g_up (q_nx q) 41 (q_nx q 41 + 1) k
    unfold g_up
    by_cases e : k = 41
    · rw [if_pos ⟨rfl, e⟩, if_pos e, ey]
    · rw [if_neg (fun q => e q.2), if_neg e]; exact h3.1 k hk
  · show w.2 106 l = if g_up (q_nx q) 41 (q_nx q 41 + 1) (30 + l) = 0 then 0 else 1
    have e : g_up (q_nx q) 41 (q_nx q 41 + 1) (30 + l) = q_nx q (30 + l) := if_neg (by omega)
    rw [e]
    exact h3.2.1 l hl
  · rw [A 113 (by decide)]
    exact h3.2.2
theorem fT_k {k : Nat} {v : T_} {x : Int × Int × Nat} (hk : k = 2 ∨ k = 3 ∨ k = 4) : fT (k, v, x) = [(k, .nil, 0, 0, 0)] := by
  rcases hk with rfl | rfl | rfl <;> rfl
theorem rXR_n (H : rXR G sil s q w Γ) (hc : l_cl (q_fr q) ≤ 12) : ∃ n : Nat, w.1 73 52 = (n : Int) ∧ n ≤ 16384 ∧ rST w Γ 910 (rLm s) n (lT (q_fr q)) := by
  obtain ⟨-, ⟨n, h1, h2⟩, -⟩ := H
  have a := cRl_lT (q_fr q)
  have b := cRl_cl (q_fr q)
  have c := rST_n h2
  have d : rLm s ≤ 5412 := by unfold rLm; split <;> omega
  exact ⟨n, h1, by omega, h2⟩
/-- what is no piece -/
theorem rX_top {tok : F_} {l : List F_} (H : rXR G sil s q w Γ) (hc : l_cl (q_fr q) ≤ 12) (e : lT (q_fr q) = tok :: l) (ht : tok.1 ≠ 0) (h1 : 1 ≤ fr) (LL : ∀ (w' : W_) (n : Nat), rXC G sil s q w' Γ → w'.1 73 52 = ((n + 1 : Nat) : Int) → n + 1 ≤ 16384 → rST w' Γ 910 (rLm s) n l → rEnt w' Γ 910 (rLm s) n [tok] l → zr234 fr P 23 y w') : zr234 fr P 23 y w := by
  obtain ⟨n, g1, g2, g3⟩ := rXR_n H hc
  have HH := H.1.1
  obtain ⟨nq, k1, -⟩ := HH
  rw [e] at g3
  refine ref_skip h1 n w g1 g2 k1.1 g3 (fun w' n' l1 l2 s1 e1 e2 e3 e4 e5 e6 => ?_)
  cases l1 with
  | nil => exact absurd rfl e4
  | cons f r =>
    rw [List.cons_append] at e3
    obtain ⟨rfl, e3'⟩ := List.cons.inj e3
    have r0 : r = [] := by
      rcases e6.2 with ⟨-, ts, z, -⟩ | ⟨-, -, m, -, z⟩ | ⟨-, z⟩ | ⟨-, z⟩ | ⟨-, z⟩
      · cases ts with
        | nil => cases z
        | cons t u =>
          have z := (List.cons.inj z).1
          rw [z] at ht
          exact absurd rfl ht
      · exact (List.cons.inj z).2
      · exact (List.cons.inj z).2
      · exact (List.cons.inj z).2
      · exact (List.cons.inj z).2
    rw [r0] at e3' e6
    have e3' : l = l2 := e3'
    rw [← e3'] at e5 e6
    exact LL w' n' (rX_ws H.1 s1) e1 e2 e5 e6
/-- a piece -/
theorem rX_topP {t : T_} {l : List F_} (H : rXR G sil s q w Γ) (hc : l_cl (q_fr q) ≤ 12) (e : lT (q_fr q) = fP t :: l) (h1 : 3 ≤ fr) (LL : ∀ (w' : W_) (n c : Nat), rXC G sil s q w' Γ → w'.1 73 52 = ((n + 1 : Nat) : Int) → n + 1 ≤ 16384 → rST w' Γ 910 (rLm s) n l → w'.2 107 n = 0 → w'.2 108 n = (c : Int) → rCC w' Γ (c : Int) [t] → w'.2 92 c ≠ 50 → n + uW (w'.2 92) c ≤ 910 * cRl l + rLm s → zr234 fr P 23 y w') : zr234 fr P 23 y w := by
  obtain ⟨n, g1, g2, g3⟩ := rXR_n H hc
  have HH := H.1.1
  obtain ⟨nq, k1, -⟩ := HH
  rw [e] at g3
  refine ref_skip (by omega) n w g1 g2 k1.1 g3 (fun w' n' l1 l2 s1 e1 e2 e3 e4 e5 e6 => ?_)
  have H1 := rX_ws H.1 s1
  have HH := H1.1
  obtain ⟨nq1, k1', -⟩ := HH
  rcases e6.2 with ⟨z1, ts, z2, z3, z4⟩ | ⟨-, -, m, -, z⟩ | ⟨-, z⟩ | ⟨-, z⟩ | ⟨-, z⟩
  · have zc := z3.1
    have ec : (((w'.2 108 n').toNat : Nat) : Int) = w'.2 108 n' := by omega
    have B := rRC_bd k1'
    have nt : ts ≠ [] := fun q => e4 (by rw [z2, q]; rfl)
    have cl : cRl l2 ≤ 12 := by
      have a := cRl_lT (q_fr q)
      have b := cRl_cl (q_fr q)
      have d : cRl (lT (q_fr q)) = cRl l1 + cRl l2 := by rw [e, e3, cRl_app]
      omega
    have d : rLm s ≤ 5412 := by unfold rLm; split <;> omega
    refine ref_cat h1 (w'.2 108 n').toNat w' n' l2 ts e1 e2 k1'.1 (by omega) e5 z1 ec.symm (by rw [ec]; exact z3) nt z4 (by omega) (fun w2 n2 c2 t2 l2' s2 f1 f2 f3 f4 f5 f6 f7 f8 f9 => ?_)
    rw [← z2, ← e3] at f3
    obtain ⟨g, rfl⟩ := List.cons.inj f3
    have g : fP t = fP t2 := g
    have g : t = t2 := (Prod.mk.inj (Prod.mk.inj g).2).1
    rw [← g] at f7
    exact LL w2 n2 c2 (rX_ws H1 s2) f1 f2 f4 f5 f6 f7 f8 f9
  · rw [z] at e3; cases e3
  · rw [z] at e3; cases e3
  · rw [z] at e3; cases e3
  · rw [z] at e3; cases e3
theorem rX_rn (H : rXC G sil s q w Γ) : (0 ≤ w.1 73 66 ∧ w.1 73 66 < 100) ∧ (1 ≤ w.1 73 4 ∧ w.1 73 4 < 100) := by
  obtain ⟨-, -, ⟨⟨-, ⟨-, x6, -⟩, -, x10⟩, ⟨-, -, b3, b4⟩, -, ⟨-, -, b5, b6, -⟩, -⟩, -⟩ := H
  rw [x6, x10]
  omega
/-- the end of a scope -/
theorem rX_f1 {v : T_} {a b : Int} {m : Nat} {S : List F_} (H : rXR G sil s q w Γ) (hc : l_cl (q_fr q) ≤ 12) (hf : q_fr q = (1, v, a, b, m) :: S) (hm : m ≤ (q_rl q).length) (h1 : 1 ≤ fr) (LL : ∀ w', rXR G sil s (p_mk (p_fr q S) a b ((q_rl q).take m)) w' Γ → zr234 fr P 23 y w') : zr234 fr P 23 y w := by
  have hK : rKf S := by have := H.2.2; rw [hf] at this; exact this.2
  refine rX_top (tok := (1, .nil, a, b, m)) (l := lT S) H hc (by rw [hf]; rfl) (fun q => by cases q) h1 (fun w1 n g1 g2 g3 g4 g5 => ?_)
  rcases g5.2 with ⟨-, ts, z, -⟩ | ⟨z1, z2, m', z3, z4⟩ | ⟨-, z⟩ | ⟨-, z⟩ | ⟨-, z⟩
  · cases ts with
    | nil => cases z
    | cons t u => cases z
  · have en : (((n + 1 : Nat) : Int) - 1).toNat = n := by omega
    have ei : ((n + 1 : Nat) : Int) - 1 = (n : Int) := by omega
    have z4 := (List.cons.inj z4).1
    injection z4 with _ z4
    injection z4 with _ z4
    injection z4 with za z4
    injection z4 with zb zm
    refine lk_234d (R := fun w' => w' = w_f (w_f (w_f (w_f w1 73 52 (n : Int)) 73 57 a) 73 58 b) 73 59 (m : Int)) h1 g2 (by omega) (lk_232c (a := a) (b := b) g2 (by omega) (by rw [en]; exact z1) rfl (by rw [en]; exact za.symm) (by rw [en]; exact zb.symm) (d := (m : Int)) (by rw [en, z3, zm]) (by rw [ei]; exact ⟨rfl, rfl⟩)) (fun w' hw => ?_)
    rw [hw]
    have N : ∀ j, j ≠ 52 → j ≠ 57 → j ≠ 58 → j ≠ 59 → (w_f (w_f (w_f (w_f w1 73 52 (n : Int)) 73 57 a) 73 58 b) 73 59 (m : Int)).1 73 j = w1.1 73 j := fun j a1 a2 a3 a4 => by
      rw [w_f_ne _ _ _ _ _ _ (by omega), w_f_ne _ _ _ _ _ _ (by omega), w_f_ne _ _ _ _ _ _ (by omega), w_f_ne _ _ _ _ _ _ (by omega)]
    obtain ⟨-, -, -, ⟨⟨r1, r2⟩, -⟩, -⟩ := id g1
    refine LL _ ⟨rX_mk (rX_fr (S := S) g1) (by omega) (by omega) ?_ (fun i r hi => ?_) ?_ ?_ N (fun _ _ => rfl), ⟨n, ?_, ?_⟩, hK⟩
    · rw [w_f1, w_u_at, if_pos ⟨rfl, rfl⟩, List.length_take, Nat.min_eq_left hm]
    · rw [List.getElem?_take] at hi
      split at hi
      · exact r2 i r hi
      · cases hi
    · rw [w_f_ne _ _ _ _ _ _ (by decide), w_f_ne _ _ _ _ _ _ (by decide), w_f1, w_u_at, if_pos ⟨rfl, rfl⟩]
    · rw [w_f_ne _ _ _ _ _ _ (by decide), w_f1, w_u_at, if_pos ⟨rfl, rfl⟩]
    · rw [w_f_ne _ _ _ _ _ _ (by decide), w_f_ne _ _ _ _ _ _ (by decide), w_f_ne _ _ _ _ _ _ (by decide), w_f1, w_u_at, if_pos ⟨rfl, rfl⟩]
    · exact rST_mono (rXT_same (R := -1) (fun j q => N j (by omega) (by omega) (by omega) (by omega)) (fun _ _ _ => rfl)) (Nat.le_refl _) n _ (fun _ _ => ⟨rfl, rfl, rfl, rfl⟩) g4
  · cases z
  · cases z
  · cases z
/-- behind a rule -/
theorem rX_f3 {v : T_} {x : Int × Int × Nat} {S : List F_} (H : rXR G sil s q w Γ) (hc : l_cl (q_fr q) ≤ 12) (hf : q_fr q = (3, v, x) :: S) (hw : 1 ≤ q_wi q) (hu : 1 ≤ (q_us q).length) (h1 : 1 ≤ fr) (LL : ∀ w', rXR G sil s (p_fr (p_wi q (q_wi q - 1) ((q_us q).take ((q_us q).length - 1))) S) w' Γ → zr234 fr P 23 y w') : zr234 fr P 23 y w := by
  have hK : rKf S := by have := H.2.2; rw [hf] at this; exact this.2
  refine rX_top (tok := (3, .nil, 0, 0, 0)) (l := lT S) H hc (by rw [hf]; rfl) (fun q => by cases q) h1 (fun w1 n g1 g2 g3 g4 g5 => ?_)
  rcases g5.2 with ⟨-, ts, z, -⟩ | ⟨z1, z2, m', z3, z4⟩ | ⟨z1, -⟩ | ⟨-, z⟩ | ⟨-, z⟩
  · cases ts with
    | nil => cases z
    | cons t u => cases z
  · cases z4
  · have en : (((n + 1 : Nat) : Int) - 1).toNat = n := by omega
    have ei : ((n + 1 : Nat) : Int) - 1 = (n : Int) := by omega
    obtain ⟨⟨nq, k1, -⟩, -, ⟨⟨⟨-, -, x3, -⟩, -⟩, hB⟩, ⟨-, r3⟩, -⟩ := id g1
    obtain ⟨-, -, ⟨-, b4, -⟩, ⟨-, -, b9⟩, -⟩ := hB
    have S3 := k1.2.2.2.2.1.1
    have e62 : w1.1 73 62 = (((q_us q).length : Nat) : Int) := S3.1.symm
    have u12 : (((q_us q).length : Nat) : Int) ≤ 12 := S3.2.2
    refine lk_234d (R := fun w' => w' = w_f (w_f (w_f w1 73 52 (n : Int)) 73 61 (((q_wi q : Nat) : Int) - 1)) 73 62 ((((q_us q).length : Nat) : Int) - 1)) h1 g2 (by omega) (lk_232d g2 (by omega) (by rw [en]; exact z1) x3 e62 rfl (by rw [ei]; exact ⟨rfl, rfl⟩)) (fun w' hw' => ?_)
    rw [hw']
    have N : ∀ j, j ≠ 52 → j ≠ 61 → j ≠ 62 → (w_f (w_f (w_f w1 73 52 (n : Int)) 73 61 (((q_wi q : Nat) : Int) - 1)) 73 62 ((((q_us q).length : Nat) : Int) - 1)).1 73 j = w1.1 73 j := fun j a1 a2 a3 => by
      rw [w_f_ne _ _ _ _ _ _ (by omega), w_f_ne _ _ _ _ _ _ (by omega), w_f_ne _ _ _ _ _ _ (by omega)]
    have tl : ((q_us q).take ((q_us q).length - 1)).length = (q_us q).length - 1 := by
      rw [List.length_take, Nat.min_eq_left (by omega)]
    refine LL _ ⟨rX_fr (S := S) (rX_wi g1 ?_ ?_ ?_ (fun i id hi => ?_) ⟨by omega, by omega⟩ N (fun _ _ => rfl)), ⟨n, ?_, ?_⟩, hK⟩
    · rw [w_f_ne _ _ _ _ _ _ (by decide), w_f1, w_u_at, if_pos ⟨rfl, rfl⟩]; omega
    · rw [w_f1, w_u_at, if_pos ⟨rfl, rfl⟩, tl]; omega
    · rw [tl]; omega
    · rw [List.getElem?_take] at hi
      split at hi
      · exact r3 i id hi
      · cases hi
    · rw [w_f_ne _ _ _ _ _ _ (by decide), w_f_ne _ _ _ _ _ _ (by decide), w_f1, w_u_at, if_pos ⟨rfl, rfl⟩]
    · exact rST_mono (rXT_same (R := -1) (fun j q => N j (by omega) (by omega) (by omega)) (fun _ _ _ => rfl)) (Nat.le_refl _) n _ (fun _ _ => ⟨rfl, rfl, rfl, rfl⟩) g4
  · cases z
  · cases z
/-- behind a LATE -/
theorem rX_f4 {v : T_} {x : Int × Int × Nat} {S : List F_} (H : rXR G sil s q w Γ) (hc : l_cl (q_fr q) ≤ 12) (hf : q_fr q = (4, v, x) :: S) (hw : 1 ≤ q_wi q) (h1 : 1 ≤ fr) (LL : ∀ w', rXR G sil s (p_fr (p_wi q (q_wi q - 1) (q_us q)) S) w' Γ → zr234 fr P 23 y w') : zr234 fr P 23 y w := by
  have hK : rKf S := by have := H.2.2; rw [hf] at this; exact this.2
  refine rX_top (tok := (4, .nil, 0, 0, 0)) (l := lT S) H hc (by rw [hf]; rfl) (fun q => by cases q) h1 (fun w1 n g1 g2 g3 g4 g5 => ?_)
  rcases g5.2 with ⟨-, ts, z, -⟩ | ⟨z1, z2, m', z3, z4⟩ | ⟨-, z⟩ | ⟨-, z⟩ | ⟨z1, -⟩
  · cases ts with
    | nil => cases z
    | cons t u => cases z
  · cases z4
  · cases z
  · cases z
  · have en : (((n + 1 : Nat) : Int) - 1).toNat = n := by omega
    have ei : ((n + 1 : Nat) : Int) - 1 = (n : Int) := by omega
    obtain ⟨⟨nq, k1, -⟩, -, ⟨⟨⟨-, -, x3, -⟩, -⟩, hB⟩, ⟨-, r3⟩, -⟩ := id g1
    obtain ⟨-, -, ⟨-, b4, -⟩, ⟨-, -, b9⟩, -⟩ := hB
    have S3 := k1.2.2.2.2.1.1
    have e62 : w1.1 73 62 = (((q_us q).length : Nat) : Int) := S3.1.symm
    have u12 : (((q_us q).length : Nat) : Int) ≤ 12 := S3.2.2
    refine lk_234d (R := fun w' => w' = w_f (w_f (w_f w1 73 52 (n : Int)) 73 61 (((q_wi q : Nat) : Int) - 1)) 73 62 ((((q_us q).length : Nat) : Int) - 0)) h1 g2 (by omega) (lk_232g g2 (by omega) (by rw [en]; exact z1) x3 e62 rfl (by rw [ei]; exact ⟨rfl, rfl⟩)) (fun w' hw' => ?_)
    rw [hw']
    have N : ∀ j, j ≠ 52 → j ≠ 61 → j ≠ 62 → (w_f (w_f (w_f w1 73 52 (n : Int)) 73 61 (((q_wi q : Nat) : Int) - 1)) 73 62 ((((q_us q).length : Nat) : Int) - 0)).1 73 j = w1.1 73 j := fun j a1 a2 a3 => by
      rw [w_f_ne _ _ _ _ _ _ (by omega), w_f_ne _ _ _ _ _ _ (by omega), w_f_ne _ _ _ _ _ _ (by omega)]
    refine LL _ ⟨rX_fr (S := S) (rX_wi g1 ?_ ?_ (by omega) r3 ⟨by omega, by omega⟩ N (fun _ _ => rfl)), ⟨n, ?_, ?_⟩, hK⟩
    · rw [w_f_ne _ _ _ _ _ _ (by decide), w_f1, w_u_at, if_pos ⟨rfl, rfl⟩]; omega
    · rw [w_f1, w_u_at, if_pos ⟨rfl, rfl⟩]; omega
    · rw [w_f_ne _ _ _ _ _ _ (by decide), w_f_ne _ _ _ _ _ _ (by decide), w_f1, w_u_at, if_pos ⟨rfl, rfl⟩]
    · exact rST_mono (rXT_same (R := -1) (fun j q => N j (by omega) (by omega) (by omega)) (fun _ _ _ => rfl)) (Nat.le_refl _) n _ (fun _ _ => ⟨rfl, rfl, rfl, rfl⟩) g4
/-- behind a heading -/
theorem rX_f2 {v : T_} {x : Int × Int × Nat} {S : List F_} (H : rXR G sil s q w Γ) (hc : l_cl (q_fr q) ≤ 12) (hf : q_fr q = (2, v, x) :: S) (hw : 1 ≤ q_wi q) (h1 : 2 ≤ fr) (LL : ∀ w', rXR G sil s (p_nx (q_nl G (p_fr (p_wi q (q_wi q - 1) (q_us q)) S)) (g_up (q_nx (q_nl G (p_fr (p_wi q (q_wi q - 1) (q_us q)) S))) 41 (q_nx (q_nl G (p_fr (p_wi q (q_wi q - 1) (q_us q)) S)) 41 + 1))) w' Γ → zr234 fr P 23 y w') : zr234 fr P 23 y w := by
  have hK : rKf S := by have := H.2.2; rw [hf] at this; exact this.2
  refine rX_top (tok := (2, .nil, 0, 0, 0)) (l := lT S) H hc (by rw [hf]; rfl) (fun q => by cases q) (by omega) (fun w1 n g1 g2 g3 g4 g5 => ?_)
  rcases g5.2 with ⟨-, ts, z, -⟩ | ⟨z1, z2, m', z3, z4⟩ | ⟨-, z⟩ | ⟨z1, -⟩ | ⟨-, z⟩
  · cases ts with
    | nil => cases z
    | cons t u => cases z
  · cases z4
  · cases z
  · have en : (((n + 1 : Nat) : Int) - 1).toNat = n := by omega
    have ei : ((n + 1 : Nat) : Int) - 1 = (n : Int) := by omega
    obtain ⟨⟨nq, k1, -⟩, -, ⟨⟨⟨-, -, x3, -⟩, -⟩, hB⟩, ⟨-, r3⟩, -⟩ := id g1
    obtain ⟨-, -, ⟨-, b4, -⟩, ⟨-, -, b9⟩, -⟩ := hB
    have S3 := k1.2.2.2.2.1.1
    have e62 : w1.1 73 62 = (((q_us q).length : Nat) : Int) := S3.1.symm
    have u12 : (((q_us q).length : Nat) : Int) ≤ 12 := S3.2.2
    have N : ∀ j, j ≠ 52 → j ≠ 61 → j ≠ 62 → (w_f (w_f (w_f w1 73 52 (n : Int)) 73 61 (((q_wi q : Nat) : Int) - 1)) 73 62 ((((q_us q).length : Nat) : Int) - 0)).1 73 j = w1.1 73 j := fun j a1 a2 a3 => by
      rw [w_f_ne _ _ _ _ _ _ (by omega), w_f_ne _ _ _ _ _ _ (by omega), w_f_ne _ _ _ _ _ _ (by omega)]
    have H2 : rXC G sil s (p_fr (p_wi q (q_wi q - 1) (q_us q)) S) (w_f (w_f (w_f w1 73 52 (n : Int)) 73 61 (((q_wi q : Nat) : Int) - 1)) 73 62 ((((q_us q).length : Nat) : Int) - 0)) Γ := by
      refine rX_fr (S := S) (rX_wi g1 ?_ ?_ (by omega) r3 ⟨by omega, by omega⟩ N (fun _ _ => rfl))
      · rw [w_f_ne _ _ _ _ _ _ (by decide), w_f1, w_u_at, if_pos ⟨rfl, rfl⟩]; omega
      · rw [w_f1, w_u_at, if_pos ⟨rfl, rfl⟩]; omega
    have n2 : (w_f (w_f (w_f w1 73 52 (n : Int)) 73 61 (((q_wi q : Nat) : Int) - 1)) 73 62 ((((q_us q).length : Nat) : Int) - 0)).1 73 52 = (n : Int) := by
      rw [w_f_ne _ _ _ _ _ _ (by decide), w_f_ne _ _ _ _ _ _ (by decide), w_f1, w_u_at, if_pos ⟨rfl, rfl⟩]
    have T2 : rST (w_f (w_f (w_f w1 73 52 (n : Int)) 73 61 (((q_wi q : Nat) : Int) - 1)) 73 62 ((((q_us q).length : Nat) : Int) - 0)) Γ 910 (rLm s) n (lT S) := rST_mono (rXT_same (R := -1) (fun j q => N j (by omega) (by omega) (by omega)) (fun _ _ _ => rfl)) (Nat.le_refl _) n _ (fun _ _ => ⟨rfl, rfl, rfl, rfl⟩) g4
    refine lk_234d (R := fun w' => w' = w_a (r_nl (w_f (w_f (w_f w1 73 52 (n : Int)) 73 61 (((q_wi q : Nat) : Int) - 1)) 73 62 ((((q_us q).length : Nat) : Int) - 0))) 105 41 (q_nx q 41 + 1)) (by omega) g2 (by omega) (lk_232e (by omega) (rX_rn g1) g2 (by omega) (by rw [en]; exact z1) x3 e62 rfl ?_) (fun w' hw' => ?_)
    · rw [ei]
      generalize w_f (w_f (w_f w1 73 52 (n : Int)) 73 61 (((q_wi q : Nat) : Int) - 1)) 73 62 ((((q_us q).length : Nat) : Int) - 0) = w2 at H2 ⊢
      refine lk_232f (a := q_nx q 41) ?_ ⟨rfl, rfl⟩
      rw [r_nl_2]
      exact H2.2.2.2.2.1 41 (by omega)
    · rw [hw']
      generalize w_f (w_f (w_f w1 73 52 (n : Int)) 73 61 (((q_wi q : Nat) : Int) - 1)) 73 62 ((((q_us q).length : Nat) : Int) - 0) = w2 at H2 n2 T2 ⊢
      have H3 := rX_nl H2 (by show q_pg q + ((q_wi q - 1 : Nat) : Int) + 1 ≤ 2 * ((q_el q : Nat) : Int); omega)
      have e5 : (r_nl w2).2 105 41 = q_nx q 41 := by rw [r_nl_2]; exact H2.2.2.2.2.1 41 (by omega)
      have H4 := rX_41 H3 (by rw [q_nl_f]; show q_nx q 41 + 1 + ((q_wi q - 1 : Nat) : Int) ≤ ((q_el q : Nat) : Int); omega) e5
      refine LL _ ⟨H4, ⟨n, ?_, ?_⟩, ?_⟩
      · show (r_nl w2).1 73 52 = _
        rw [r_nl_ne w2 (by omega)]; exact n2
      · rw [q_nl_f]
        have X : rXT w2 Γ (w_a (r_nl w2) 105 41 (q_nx q 41 + 1)) Γ (-1) := rXT_same (fun j q => r_nl_ne w2 (by omega)) (fun b _ _ => by rw [w_a_2ne _ _ _ (by omega), r_nl_2])
        exact rST_mono X (Nat.le_refl _) n _ (fun i _ => by rw [w_a_2ne _ _ _ (by decide), w_a_2ne _ _ _ (by decide), w_a_2ne _ _ _ (by decide), w_a_2ne _ _ _ (by decide), r_nl_2]; exact ⟨rfl, rfl, rfl, rfl⟩) T2
      · rw [q_nl_f]
        exact hK
  · cases z
end
