/-! ===== realizing: lines, things, labels, counters ===== -/
section
variable {C C' : C_} {sil : Bool} {qq : Int} {ft : Nat} {s : S_} {w w' : W_} {Γ : rG_} {G : G_} {q q1 : Q_}
theorem rRC_C (H : rRC C sil False qq ft s w Γ) (c1 : ∀ j, (j < 47 ∨ j = 70 ∨ (78 < j ∧ j < 82)) → w'.1 73 j = w.1 73 j) (cb : ∀ b, (73 < b ∧ b < 103) ∨ (113 < b ∧ b < 122) → w'.2 b = w.2 b) (h3 : rS3 C' w') : rRC C' sil False qq ft s w' Γ := by
  obtain ⟨q1, ⟨q2, q2'⟩, q3, ⟨y1, y2, ⟨a, y3, y4, -⟩, -⟩, q9, q10, q11, q12, q13⟩ := H
  refine ⟨rHH_same q1 (fun j q => c1 j (by omega)) (fun b _ q => cb b (by omega)), ⟨rFR_w (s := s) q2 (c1 _ (by omega)) (c1 _ (by omega)) (cb _ (by omega)), q2'⟩, ?_, ⟨by rw [c1 45 (by omega)]; exact y1, by rw [c1 44 (by omega)]; exact y2, ⟨a, by rw [c1 46 (by omega)]; exact y3, y4, fun d => d.elim⟩, fun d => d.elim⟩, h3, fun f hf => ?_, ?_, ?_, ?_⟩
  · unfold rS1 at q3 ⊢
    rw [c1 39 (by omega), c1 43 (by omega), c1 15 (by omega), c1 80 (by omega), c1 81 (by omega), c1 79 (by omega)]
    exact q3
  · obtain ⟨z1, z2, z3⟩ := q10 f hf
    rw [cb 100 (by omega), cb 101 (by omega)]
    refine ⟨z1, z2, fun q => ?_⟩
    obtain ⟨rw', r1, r2, r3, r4⟩ := z3 q
    exact ⟨rw', r1, by rw [c1 15 (by omega)]; exact r2, r3, rNF_go r4 (fun j q => c1 j (by omega)) (cb 84 (by omega))⟩
  · unfold rS5 at q11 ⊢
    rw [c1 70 (by omega), cb 114 (by omega), cb 115 (by omega), cb 116 (by omega), cb 117 (by omega), cb 118 (by omega), cb 119 (by omega), cb 120 (by omega), cb 121 (by omega)]
    exact q11
  · unfold rS6 at q12 ⊢
    rw [c1 26 (by omega), c1 21 (by omega), c1 33 (by omega), c1 35 (by omega), c1 17 (by omega), c1 5 (by omega), cb 90 (by omega)]
    exact q12
  · unfold rTl at q13 ⊢
    rw [c1 35 (by omega)]
    obtain ⟨⟨n, t1, t2⟩, t3, t4⟩ := q13
    exact ⟨⟨n, t1, rIT_mono (rXT_same (R := -1) (fun j q => c1 j (by omega)) (fun b _ q => cb b (by omega))) n _ (fun i _ => by rw [cb 99 (by omega)]) t2⟩, t3, t4⟩
theorem rXC_of (H : rXC G sil s q w Γ) (c1 : ∀ j, (j < 47 ∨ j = 70 ∨ (78 < j ∧ j < 82)) → w'.1 73 j = w.1 73 j) (cb : ∀ b, (73 < b ∧ b < 103) ∨ (113 < b ∧ b < 122) → w'.2 b = w.2 b) (h3 : rS3 (g_C G q1) w') (h47 : w'.1 73 47 = 1) (h1 : rX1 G q1 w') (hB : QB G q1) (h2 : rX2 q1 w' Γ) (h4 : rX3 q1 w') (hel : q_el q ≤ q_el q1 := by first | exact Nat.le_refl _ | exact Nat.le_succ _) : rXC G sil s q1 w' Γ := by
  obtain ⟨⟨nq, k1, k2, k3⟩, -⟩ := H
  exact ⟨⟨nq, rRC_C k1 c1 cb h3, by rw [cb 92 (by omega), c1 26 (by omega)]; exact k2, Nat.le_trans k3 hel⟩, h47, ⟨h1, hB⟩, h2, h4⟩
theorem rS3_of {C : C_} (h : rS3 C w) (hC : C' = C) (e62 : w'.1 73 62 = w.1 73 62) (e47 : w'.1 73 47 = w.1 73 47) (eb : ∀ b, (73 < b ∧ b < 77) ∨ b = 103 ∨ b = 104 → w'.2 b = w.2 b) : rS3 C' w' := by
  rw [hC]
  unfold rS3 at h ⊢
  rw [e62, e47, eb 103 (by omega), eb 104 (by omega), eb 74 (by omega), eb 75 (by omega), eb 76 (by omega)]
  exact h
theorem rX2_of (h : rX2 q w Γ) (hq : q_rl q1 = q_rl q ∧ q_us q1 = q_us q) (e59 : w'.1 73 59 = w.1 73 59) (eb : w'.2 111 = w.2 111 ∧ w'.2 112 = w.2 112 ∧ w'.2 92 = w.2 92) (X : rXT w Γ w' Γ (-1)) : rX2 q1 w' Γ := by
  obtain ⟨⟨h1, h2⟩, h3⟩ := h
  unfold rX2
  rw [hq.1, hq.2, e59, eb.1, eb.2.1, eb.2.2]
  exact ⟨⟨h1, fun i r hr => ⟨rCC_mono X (h2 i r hr).1, (h2 i r hr).2⟩⟩, h3⟩
/-- a new line -/
theorem r_nl_v (w : W_) : (r_nl w).1 73 65 = (if w.1 73 66 + 1 = w.1 73 4 then w.1 73 65 + 1 else w.1 73 65) ∧ (r_nl w).1 73 66 = (if w.1 73 66 + 1 = w.1 73 4 then 0 else w.1 73 66 + 1) ∧ (r_nl w).1 73 67 = w.1 73 58 := by
  unfold r_nl
  by_cases c : w.1 73 66 + 1 = w.1 73 4
  · rw [if_pos c, if_pos c, if_pos c]
    refine ⟨?_, ?_, ?_⟩
    · rw [w_f_ne _ _ _ _ _ _ (by decide), w_f_ne _ _ _ _ _ _ (by decide), w_f1, w_u_at, if_pos ⟨rfl, rfl⟩]
    · rw [w_f_ne _ _ _ _ _ _ (by decide), w_f1, w_u_at, if_pos ⟨rfl, rfl⟩]
    · rw [w_f1, w_u_at, if_pos ⟨rfl, rfl⟩]
  · rw [if_neg c, if_neg c, if_neg c]
    refine ⟨?_, ?_, ?_⟩
    · rw [w_f_ne _ _ _ _ _ _ (by decide), w_f_ne _ _ _ _ _ _ (by decide), w_f1, w_u_at, if_pos ⟨rfl, rfl⟩]; omega
    · rw [w_f_ne _ _ _ _ _ _ (by decide), w_f1, w_u_at, if_pos ⟨rfl, rfl⟩]
    · rw [w_f1, w_u_at, if_pos ⟨rfl, rfl⟩]
theorem q_nl_f (G : G_) (q : Q_) : q_nl G q = p_pn q (if q_ln q + 1 = G.2.2.2.2 then q_pg q + 1 else q_pg q) (if q_ln q + 1 = G.2.2.2.2 then 0 else q_ln q + 1) (q_in q) := by
  unfold q_nl
  by_cases c : q_ln q + 1 = G.2.2.2.2
  · rw [if_pos c, if_pos c, if_pos c]
  · rw [if_neg c, if_neg c, if_neg c]
theorem QB_nl (h : QB G q) (hp : q_pg q + (q_wi q : Nat) + 1 ≤ 2 * (q_el q : Nat)) : QB G (q_nl G q) := by
  obtain ⟨b1, b2, ⟨b3, b4, b5, b6, b7, b8⟩, b9, b10⟩ := h
  rw [q_nl_f]
  refine ⟨b1, b2, ⟨?_, ?_, ?_, ?_, ?_, ?_⟩, b9, b10⟩
  · show 0 ≤ (if q_ln q + 1 = G.2.2.2.2 then q_pg q + 1 else q_pg q)
    split <;> omega
  · show (if q_ln q + 1 = G.2.2.2.2 then q_pg q + 1 else q_pg q) + (q_wi q : Nat) ≤ 2 * (q_el q : Nat)
    split <;> omega
  · show 0 ≤ (if q_ln q + 1 = G.2.2.2.2 then 0 else q_ln q + 1)
    split <;> omega
  · show (if q_ln q + 1 = G.2.2.2.2 then 0 else q_ln q + 1) < G.2.2.2.2
    split <;> omega
  · show 0 ≤ q_in q; omega
  · show q_in q ≤ 10002; omega
theorem rX_nl (H : rXC G sil s q w Γ) (hp : q_pg q + (q_wi q : Nat) + 1 ≤ 2 * (q_el q : Nat)) : rXC G sil s (q_nl G q) (r_nl w) Γ := by
  have HB := QB_nl H.2.2.1.2 hp
  have H0 := H
  obtain ⟨⟨nq, k1, k2, k3⟩, h47, ⟨⟨⟨x1, x2, x3, x4⟩, ⟨x5, x6, x7, x8⟩, x9, x10⟩, hB⟩, h2, h3⟩ := H
  obtain ⟨v1, v2, v3⟩ := r_nl_v w
  have N : ∀ j, j ≠ 65 → j ≠ 66 → j ≠ 67 → (r_nl w).1 73 j = w.1 73 j := fun j a b c => r_nl_ne w (by omega)
  have A := r_nl_2 w
  rw [q_nl_f] at HB ⊢
  refine rXC_of H0 (fun j q => N j (by omega) (by omega) (by omega)) (fun b _ => by rw [A]) (rS3_of k1.2.2.2.2.1 rfl (N 62 (by decide) (by decide) (by decide)) (N 47 (by decide) (by decide) (by decide)) (fun b _ => by rw [A])) (by rw [N 47 (by decide) (by decide) (by decide)]; exact h47) ⟨⟨?_, ?_, ?_, ?_⟩, ⟨?_, ?_, ?_, ?_⟩, ?_, ?_⟩ HB (rX2_of h2 ⟨rfl, rfl⟩ (N 59 (by decide) (by decide) (by decide)) ⟨by rw [A], by rw [A], by rw [A]⟩ (rXT_same (fun j q => N j (by omega) (by omega) (by omega)) (fun b _ _ => by rw [A]))) ?_
  · rw [N 57 (by decide) (by decide) (by decide)]; exact x1
  · rw [N 58 (by decide) (by decide) (by decide)]; exact x2
  · rw [N 61 (by decide) (by decide) (by decide)]; exact x3
  · rw [N 64 (by decide) (by decide) (by decide)]; exact x4
  · rw [v1, x6, x10, x5]
  · rw [v2, x6, x10]
  · rw [v3, x2]
  · rw [N 68 (by decide) (by decide) (by decide)]; exact x8
  · rw [N 3 (by decide) (by decide) (by decide)]; exact x9
  · rw [N 4 (by decide) (by decide) (by decide)]; exact x10
  · unfold rX3 at h3 ⊢
    rw [A]
    exact h3
/-- what is laid -/
theorem r_ly_v {n d : Int} {m : Nat} (hm : w.1 73 68 = (m : Int)) : ((r_ly w n d).1 73 68 = ((m + 1 : Nat) : Int) ∧ (r_ly w n d).1 73 67 = w.1 73 67 + d ∧ ∀ j, j ≠ 67 → j ≠ 68 → (r_ly w n d).1 73 j = w.1 73 j) ∧ (∀ b, b ≠ 105 → b ≠ 113 → (r_ly w n d).2 b = w.2 b) ∧ (∀ k, (r_ly w n d).2 105 k = if k = 40 then w.1 73 65 + 1 else w.2 105 k) ∧ ∀ i, (r_ly w n d).2 113 i = if i = 6 * m + 5 then w.1 73 57 else if i = 6 * m + 4 then w.1 73 67 else if i = 6 * m + 3 then w.1 73 66 else if i = 6 * m + 2 then w.1 73 65 else if i = 6 * m + 1 then d else if i = 6 * m then n else w.2 113 i := by
  unfold r_ly
  rw [hm, show (6 * (m : Int)).toNat = 6 * m by omega, show (6 * (m : Int) + 1).toNat = 6 * m + 1 by omega, show (6 * (m : Int) + 2).toNat = 6 * m + 2 by omega, show (6 * (m : Int) + 3).toNat = 6 * m + 3 by omega, show (6 * (m : Int) + 4).toNat = 6 * m + 4 by omega, show (6 * (m : Int) + 5).toNat = 6 * m + 5 by omega]
  have FA : ∀ (v : W_) (a i : Nat) (x : Int), (w_a v a i x).1 = v.1 := fun _ _ _ _ => rfl
  refine ⟨⟨?_, ?_, fun j a b => ?_⟩, fun b a c => ?_, fun k => ?_, fun i => ?_⟩
  · rw [w_f_ne _ _ _ _ _ _ (by decide), FA, w_f1, w_u_at, if_pos ⟨rfl, rfl⟩]; omega
  · rw [w_f1, w_u_at, if_pos ⟨rfl, rfl⟩]
  · rw [w_f_ne _ _ _ _ _ _ (by omega), FA, w_f_ne _ _ _ _ _ _ (by omega)]
    rfl
  · rw [w_f2, w_a_2ne _ _ _ a, w_f2, w_a_2ne _ _ _ c, w_a_2ne _ _ _ c, w_a_2ne _ _ _ c, w_a_2ne _ _ _ c, w_a_2ne _ _ _ c, w_a_2ne _ _ _ c]
  · show (if 105 = 105 ∧ k = 40 then w.1 73 65 + 1 else _) = _
    by_cases d' : k = 40
    · rw [if_pos ⟨rfl, d'⟩, if_pos d']
    · rw [if_neg (fun q => d' q.2), if_neg d']
      rw [w_f2, w_a_2ne _ _ _ (by decide), w_a_2ne _ _ _ (by decide), w_a_2ne _ _ _ (by decide), w_a_2ne _ _ _ (by decide), w_a_2ne _ _ _ (by decide), w_a_2ne _ _ _ (by decide)]
  · rw [w_f2, w_a_2ne _ _ _ (by decide), w_f2]
    have S : ∀ (v : W_) (k : Nat) (x : Int) (i : Nat), (w_a v 113 k x).2 113 i = if i = k then x else v.2 113 i := fun v k x i => by
      show (if 113 = 113 ∧ i = k then x else v.2 113 i) = _
      by_cases e : i = k
      · rw [if_pos ⟨rfl, e⟩, if_pos e]
      · rw [if_neg (fun q => e q.2), if_neg e]
    rw [S, S, S, S, S, S]
/-- a thing is laid there -/
def q_ly0 (n d : Int) (q : Q_) : Q_ := p_nx (p_pn (p_th q (q_th q ++ [[n, d, q_pg q, q_ln q, q_pn q, q_sz q]])) (q_pg q) (q_ln q) (q_pn q + d)) (g_up (q_nx q) 40 (q_pg q + 1))
theorem q_lay_0 (G : G_) (n d : Int) (q : Q_) : q_lay G n d q = q_ly0 n d (if G.2.2.2.1 < q_pn q + d ∧ q_in q < q_pn q then q_nl G q else q) := rfl
theorem rX_ly {n d : Int} (H : rXC G sil s q w Γ) (hd : 0 ≤ d ∧ d ≤ 9999) (hp : q_pn q + d ≤ 10002) (ht : (q_th q).length + 1 ≤ q_el q) : rXC G sil s (q_ly0 n d q) (r_ly w n d) Γ := by
  have H0 := H
  obtain ⟨⟨nq, k1, k2, k3⟩, h47, ⟨⟨⟨x1, x2, x3, x4⟩, ⟨x5, x6, x7, x8⟩, x9, x10⟩, hB⟩, h2, h3⟩ := H
  obtain ⟨⟨v1, v2, N⟩, A, e105, e113⟩ := r_ly_v (n := n) (d := d) x8
  obtain ⟨b1, b2, ⟨b3, b4, b5, b6, b7, b8⟩, ⟨b9, b9', b9''⟩, b10⟩ := hB
  refine rXC_of H0 (fun j q => N j (by omega) (by omega)) (fun b _ => A b (by omega) (by omega)) (rS3_of k1.2.2.2.2.1 rfl (N 62 (by decide) (by decide)) (N 47 (by decide) (by decide)) (fun b _ => A b (by omega) (by omega))) (by rw [N 47 (by decide) (by decide)]; exact h47) ⟨⟨?_, ?_, ?_, ?_⟩, ⟨?_, ?_, ?_, ?_⟩, ?_, ?_⟩ ⟨b1, b2, ⟨b3, b4, b5, b6, by show 0 ≤ q_pn q + d; omega, hp⟩, ⟨fun k hk => ?_, ?_, ?_⟩, ?_, b10.2⟩ (rX2_of h2 ⟨rfl, rfl⟩ (N 59 (by decide) (by decide)) ⟨A 111 (by decide) (by decide), A 112 (by decide) (by decide), A 92 (by decide) (by decide)⟩ (rXT_same (fun j q => N j (by omega) (by omega)) (fun b _ _ => A b (by omega) (by omega)))) ⟨fun k hk => ?_, fun l hl => ?_, fun i t hi j hj => ?_⟩
  · rw [N 57 (by decide) (by decide)]; exact x1
  · rw [N 58 (by decide) (by decide)]; exact x2
  · rw [N 61 (by decide) (by decide)]; exact x3
  · rw [N 64 (by decide) (by decide)]; exact x4
  · rw [N 65 (by decide) (by decide)]; exact x5
  · rw [N 66 (by decide) (by decide)]; exact x6
  · rw [v2, x7]; rfl
  · rw [v1]
    show _ = (((q_th q ++ [[n, d, q_pg q, q_ln q, q_pn q, q_sz q]]).length : Nat) : Int)
    rw [List.length_append]; rfl
  · rw [N 3 (by decide) (by decide)]; exact x9
  · rw [N 4 (by decide) (by decide)]; exact x10
  · show -9999 ≤ g_up (q_nx q) 40 (q_pg q + 1) k ∧ g_up (q_nx q) 40 (q_pg q + 1) k ≤ 9999
    unfold g_up
    split
    · omega
    · exact b9 k hk
  · show 0 ≤ g_up (q_nx q) 40 (q_pg q + 1) 41
    unfold g_up
    rw [if_neg (by decide)]; exact b9'
  · show g_up (q_nx q) 40 (q_pg q + 1) 41 + _ ≤ _
    unfold g_up
    rw [if_neg (by decide)]; exact b9''
  · show (q_th q ++ [[n, d, q_pg q, q_ln q, q_pn q, q_sz q]]).length ≤ q_el q
    rw [List.length_append]; exact ht
  · show _ = g_up (q_nx q) 40 (q_pg q + 1) k
    unfold g_up
    rw [e105, x5, h3.1 k hk]
  · show _ = if g_up (q_nx q) 40 (q_pg q + 1) (30 + l) = 0 then 0 else 1
    have e : g_up (q_nx q) 40 (q_pg q + 1) (30 + l) = q_nx q (30 + l) := if_neg (by omega)
    rw [e, A 106 (by decide) (by decide)]
    exact h3.2.1 l hl
  · have hi : (q_th q ++ [[n, d, q_pg q, q_ln q, q_pn q, q_sz q]])[i]? = some t := hi
    rw [e113]
    by_cases c : i < (q_th q).length
    · rw [List.getElem?_append_left c] at hi
      rw [if_neg (by omega), if_neg (by omega), if_neg (by omega), if_neg (by omega), if_neg (by omega), if_neg (by omega)]
      exact h3.2.2 i t hi j hj
    · have il : i = (q_th q).length := by
        have z := (List.getElem?_eq_some_iff.1 hi).1
        rw [List.length_append] at z
        have z : i < (q_th q).length + 1 := z
        omega
      rw [il, List.getElem?_append_right (Nat.le_refl _), Nat.sub_self] at hi
      cases hi
      have J : j = 0 ∨ j = 1 ∨ j = 2 ∨ j = 3 ∨ j = 4 ∨ j = 5 := by omega
      rcases J with rfl | rfl | rfl | rfl | rfl | rfl
      · rw [if_neg (by omega), if_neg (by omega), if_neg (by omega), if_neg (by omega), if_neg (by omega), if_pos (by omega)]; rfl
      · rw [if_neg (by omega), if_neg (by omega), if_neg (by omega), if_neg (by omega), if_pos (by omega)]; rfl
      · rw [if_neg (by omega), if_neg (by omega), if_neg (by omega), if_pos (by omega), x5]; rfl
      · rw [if_neg (by omega), if_neg (by omega), if_pos (by omega), x6]; rfl
      · rw [if_neg (by omega), if_pos (by omega), x7]; rfl
      · rw [if_pos (by omega), x1]; rfl
end
