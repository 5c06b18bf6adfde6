/-! ===== realizing: labels, counters, rules ===== -/
section
variable {sil : Bool} {s : S_} {w w' : W_} {Γ : rG_} {G : G_} {q q1 : Q_} {fr : Nat}
theorem rX_ws (H : rXC G sil s q w Γ) (h : rWS w w') : rXC G sil s q w' Γ := by
  have H0 := H
  obtain ⟨⟨nq, k1, k2, k3⟩, h47, ⟨⟨⟨x1, x2, x3, x4⟩, ⟨x5, x6, x7, x8⟩, x9, x10⟩, hB⟩, h2, h3⟩ := H
  have N : ∀ j, j ≠ 52 → w'.1 73 j = w.1 73 j := fun j a => h.1 73 j (by omega)
  refine rXC_of H0 (fun j q => N j (by omega)) (fun b _ => h.2 b (by omega)) (rS3_of k1.2.2.2.2.1 rfl (N 62 (by decide)) (N 47 (by decide)) (fun b _ => h.2 b (by omega))) (by rw [N 47 (by decide)]; exact h47) ?_ hB (rX2_of h2 ⟨rfl, rfl⟩ (N 59 (by decide)) ⟨h.2 111 (by omega), h.2 112 (by omega), h.2 92 (by omega)⟩ (rWS_X h)) ?_
  · unfold rX1
    rw [N 57 (by decide), N 58 (by decide), N 61 (by decide), N 64 (by decide), N 65 (by decide), N 66 (by decide), N 67 (by decide), N 68 (by decide), N 3 (by decide), N 4 (by decide)]
    exact ⟨⟨x1, x2, x3, x4⟩, ⟨x5, x6, x7, x8⟩, x9, x10⟩
  · unfold rX3 at h3 ⊢
    rw [h.2 105 (by omega), h.2 106 (by omega), h.2 113 (by omega)]
    exact h3
theorem rX_fr {S : List F_} (H : rXC G sil s q w Γ) : rXC G sil s (p_fr q S) w Γ := by
  have H0 := H
  obtain ⟨⟨nq, k1, k2, k3⟩, h47, ⟨x1, hB⟩, h2, h3⟩ := H
  refine rXC_of H0 (fun _ _ => rfl) (fun _ _ => rfl) (rS3_of k1.2.2.2.2.1 rfl rfl rfl (fun _ _ => rfl)) h47 ?_ ?_ (rX2_of h2 ⟨rfl, rfl⟩ rfl ⟨rfl, rfl, rfl⟩ rXT_rfl) ?_
  · unfold rX1 at x1 ⊢
    exact x1
  · unfold QB at hB ⊢
    exact hB
  · unfold rX3 at h3 ⊢
    exact h3
/-- an element -/
theorem rX_el {S : List F_} (H : rXC G sil s q w Γ) (hel : q_el q ≤ 200) : rXC G sil s (p_el (p_fr q S) (q_el q + 1)) (w_f w 73 64 (((q_el q : Nat) : Int) + 1)) Γ := by
  have H1 := rX_fr (S := S) H
  have H0 := H1
  obtain ⟨⟨nq, k1, k2, k3⟩, h47, ⟨⟨⟨x1, x2, x3, x4⟩, ⟨x5, x6, x7, x8⟩, x9, x10⟩, hB⟩, h2, h3⟩ := H1
  have N : ∀ j, j ≠ 64 → (w_f w 73 64 (((q_el q : Nat) : Int) + 1)).1 73 j = w.1 73 j := fun j a => w_f_ne _ _ _ _ _ _ (by omega)
  obtain ⟨b1, b2, ⟨b3, b4, b5, b6, b7, b8⟩, ⟨b9, b9', b9''⟩, b10, b11⟩ := hB
  refine rXC_of H0 (fun j q => N j (by omega)) (fun b _ => rfl) (rS3_of k1.2.2.2.2.1 rfl (N 62 (by decide)) (N 47 (by decide)) (fun b _ => rfl)) (by rw [N 47 (by decide)]; exact h47) ⟨⟨?_, ?_, ?_, ?_⟩, ⟨?_, ?_, ?_, ?_⟩, ?_, ?_⟩ ⟨b1, b2, ⟨b3, ?_, b5, b6, b7, b8⟩, ⟨b9, b9', ?_⟩, ?_, ?_⟩ (rX2_of h2 ⟨rfl, rfl⟩ (N 59 (by decide)) ⟨rfl, rfl, rfl⟩ (rXT_same (fun j q => N j (by omega)) (fun _ _ _ => rfl))) ?_
  · rw [N 57 (by decide)]; exact x1
  · rw [N 58 (by decide)]; exact x2
  · rw [N 61 (by decide)]; exact x3
  · rw [w_f1, w_u_at, if_pos ⟨rfl, rfl⟩]; rfl
  · rw [N 65 (by decide)]; exact x5
  · rw [N 66 (by decide)]; exact x6
  · rw [N 67 (by decide)]; exact x7
  · rw [N 68 (by decide)]; exact x8
  · rw [N 3 (by decide)]; exact x9
  · rw [N 4 (by decide)]; exact x10
  · show q_pg q + (q_wi q : Nat) ≤ 2 * ((q_el q + 1 : Nat) : Int)
    have b4 : q_pg q + (q_wi q : Nat) ≤ 2 * ((q_el q : Nat) : Int) := b4
    omega
  · show q_nx q 41 + (q_wi q : Nat) ≤ ((q_el q + 1 : Nat) : Int)
    have b9'' : q_nx q 41 + (q_wi q : Nat) ≤ ((q_el q : Nat) : Int) := b9''
    omega
  · show (q_th q).length ≤ q_el q + 1
    have b10 : (q_th q).length ≤ q_el q := b10
    omega
  · show q_el q + 1 ≤ 201
    omega
  · unfold rX3 at h3 ⊢
    exact h3
/-- counters as E has them -/
theorem rX_ct (H : rXC G sil s q w Γ) {c : Nat} (hc : c < 3) : w.2 103 c = q_ct q c ∧ -9999 ≤ q_ct q c ∧ q_ct q c ≤ 9999 := by
  obtain ⟨⟨nq, k1, -⟩, h47, -⟩ := H
  obtain ⟨z1, z2, z3⟩ := (k1.2.2.2.2.1.2.2.2.1 c hc).1 h47
  have e : (g_C G q).1 (42 + c) = some (q_ct q c) := by
    show some (if 42 + c < 42 then G.1 (42 + c) else q_ct q (42 + c - 42)) = _
    rw [if_neg (by omega), show 42 + c - 42 = c by omega]
  rw [e] at z1
  have z1 := Option.some.inj z1
  omega
/-- a label -/
theorem lk_229 {l : Nat} (H : rXC G sil s q w Γ) (hl : l < 10) : ww_Ct 229 fr [.inr (.inr (.inl 73)), .inl (l : Int)] w fun r w' => r = none ∧ rXC G sil s (q_label l q) w' Γ ∧ w'.1 = w.1 ∧ ∀ b, b ≠ 105 → b ≠ 106 → w'.2 b = w.2 b := by
  have H0 := H
  have C0 := rX_ct H (c := 0) (by omega)
  have C1 := rX_ct H (c := 1) (by omega)
  have C2 := rX_ct H (c := 2) (by omega)
  obtain ⟨⟨nq, k1, k2, k3⟩, h47, ⟨⟨⟨x1, x2, x3, x4⟩, ⟨x5, x6, x7, x8⟩, x9, x10⟩, hB⟩, h2, h3⟩ := H
  have ll : ((l : Int)).toNat = l := by omega
  have l10 : (0 : Int) ≤ (l : Int) ∧ (l : Int) < 10 := by omega
  have e106 := h3.2.1 l hl
  unfold q_label
  by_cases c : q_nx q (30 + l) = 0
  · rw [if_neg (fun z => z c)]
    rw [if_pos c] at e106
    have i0 : (30 + (l : Int)).toNat = 30 + l := by omega
    have i1 : (3 * (l : Int) + 0).toNat = 3 * l := by omega
    have i2 : (3 * (l : Int) + (0 + 1)).toNat = 3 * l + 1 := by omega
    have i3 : (3 * (l : Int) + (0 + 1 + 1)).toNat = 3 * l + 2 := by omega
    refine lk_229b (a := q_pg q) l10 (by rw [ll]; exact e106) x5 ?_
    rw [ll, i0]
    have G3 : ∀ (v : W_), v.2 103 = w.2 103 → v.2 103 ((0 : Int)).toNat = q_ct q 0 ∧ v.2 103 ((0 + 1 : Int)).toNat = q_ct q 1 ∧ v.2 103 ((0 + 1 + 1 : Int)).toNat = q_ct q 2 := fun v hv => by
      rw [hv]; exact ⟨C0.1, C1.1, C2.1⟩
    refine lk_229c l10 (by omega) (G3 (w_a (w_a w 106 l 1) 105 (30 + l) (q_pg q + 1)) (by rw [w_a_2ne _ _ _ (by decide), w_a_2ne _ _ _ (by decide)])).1 (by unfold am_rg; omega) ?_
    rw [i1]
    refine lk_229c l10 (by omega) (G3 (w_a (w_a (w_a w 106 l 1) 105 (30 + l) (q_pg q + 1)) 105 (3 * l) (q_ct q 0)) (by rw [w_a_2ne _ _ _ (by decide), w_a_2ne _ _ _ (by decide), w_a_2ne _ _ _ (by decide)])).2.1 (by unfold am_rg; omega) ?_
    rw [i2]
    refine lk_229c l10 (by omega) (G3 (w_a (w_a (w_a (w_a w 106 l 1) 105 (30 + l) (q_pg q + 1)) 105 (3 * l) (q_ct q 0)) 105 (3 * l + 1) (q_ct q 1)) (by rw [w_a_2ne _ _ _ (by decide), w_a_2ne _ _ _ (by decide), w_a_2ne _ _ _ (by decide), w_a_2ne _ _ _ (by decide)])).2.2 (by unfold am_rg; omega) ?_
    rw [i3]
    refine lk_229d rfl ⟨rfl, ?_⟩
    have A : ∀ b, b ≠ 105 → b ≠ 106 → (w_a (w_a (w_a (w_a (w_a w 106 l 1) 105 (30 + l) (q_pg q + 1)) 105 (3 * l) (q_ct q 0)) 105 (3 * l + 1) (q_ct q 1)) 105 (3 * l + 2) (q_ct q 2)).2 b = w.2 b := fun b a c => by
      rw [w_a_2ne _ _ _ a, w_a_2ne _ _ _ a, w_a_2ne _ _ _ a, w_a_2ne _ _ _ a, w_a_2ne _ _ _ c]
    have S : ∀ (v : W_) (d k : Nat) (x : Int) (i : Nat), (w_a v d k x).2 d i = if i = k then x else v.2 d i := fun v d k x i => by
      show (if d = d ∧ i = k then x else v.2 d i) = _
      by_cases e : i = k
      · rw [if_pos ⟨rfl, e⟩, if_pos e]
      · rw [if_neg (fun q => e q.2), if_neg e]
    have e105 : ∀ k, (w_a (w_a (w_a (w_a (w_a w 106 l 1) 105 (30 + l) (q_pg q + 1)) 105 (3 * l) (q_ct q 0)) 105 (3 * l + 1) (q_ct q 1)) 105 (3 * l + 2) (q_ct q 2)).2 105 k = if k = 3 * l + 2 then q_ct q 2 else if k = 3 * l + 1 then q_ct q 1 else if k = 3 * l then q_ct q 0 else if k = 30 + l then q_pg q + 1 else w.2 105 k := fun k => by
      rw [S, S, S, S, w_a_2ne _ _ _ (by decide)]
    have e106' : ∀ k, (w_a (w_a (w_a (w_a (w_a w 106 l 1) 105 (30 + l) (q_pg q + 1)) 105 (3 * l) (q_ct q 0)) 105 (3 * l + 1) (q_ct q 1)) 105 (3 * l + 2) (q_ct q 2)).2 106 k = if k = l then 1 else w.2 106 k := fun k => by
      rw [w_a_2ne _ _ _ (by decide), w_a_2ne _ _ _ (by decide), w_a_2ne _ _ _ (by decide), w_a_2ne _ _ _ (by decide), S]
    have F : (w_a (w_a (w_a (w_a (w_a w 106 l 1) 105 (30 + l) (q_pg q + 1)) 105 (3 * l) (q_ct q 0)) 105 (3 * l + 1) (q_ct q 1)) 105 (3 * l + 2) (q_ct q 2)).1 = w.1 := rfl
    generalize w_a (w_a (w_a (w_a (w_a w 106 l 1) 105 (30 + l) (q_pg q + 1)) 105 (3 * l) (q_ct q 0)) 105 (3 * l + 1) (q_ct q 1)) 105 (3 * l + 2) (q_ct q 2) = w3 at A e105 e106' F ⊢
    obtain ⟨b1, b2, ⟨b3, b4, b5, b6, b7, b8⟩, ⟨b9, b9', b9''⟩, b10, b11⟩ := hB
    refine ⟨?_, F, A⟩
    refine rXC_of H0 (fun j _ => by rw [F]) (fun b _ => A b (by omega) (by omega)) (rS3_of k1.2.2.2.2.1 rfl (by rw [F]) (by rw [F]) (fun b _ => A b (by omega) (by omega))) (by rw [F]; exact h47) ?_ ⟨b1, b2, ⟨b3, b4, b5, b6, b7, b8⟩, ⟨fun k hk => ?_, ?_, ?_⟩, b10, b11⟩ (rX2_of h2 ⟨rfl, rfl⟩ (by rw [F]) ⟨A 111 (by decide) (by decide), A 112 (by decide) (by decide), A 92 (by decide) (by decide)⟩ (rXT_same (fun j _ => by rw [F]) (fun b _ _ => A b (by omega) (by omega)))) ⟨fun k hk => ?_, fun k hk => ?_, ?_⟩
    · unfold rX1
      rw [F]
      exact ⟨⟨x1, x2, x3, x4⟩, ⟨x5, x6, x7, x8⟩, x9, x10⟩
    · show -9999 ≤ (if k = 30 + l then q_pg q + 1 else if k = 3 * l then q_ct q 0 else if k = 3 * l + 1 then q_ct q 1 else if k = 3 * l + 2 then q_ct q 2 else q_nx q k) ∧ (if k = 30 + l then q_pg q + 1 else if k = 3 * l then q_ct q 0 else if k = 3 * l + 1 then q_ct q 1 else if k = 3 * l + 2 then q_ct q 2 else q_nx q k) ≤ 9999
      have z := b9 k hk
      (repeat' split) <;> omega
    · show 0 ≤ (if 41 = 30 + l then q_pg q + 1 else if 41 = 3 * l then q_ct q 0 else if 41 = 3 * l + 1 then q_ct q 1 else if 41 = 3 * l + 2 then q_ct q 2 else q_nx q 41)
      rw [if_neg (by omega), if_neg (by omega), if_neg (by omega), if_neg (by omega)]; exact b9'
    · show (if 41 = 30 + l then q_pg q + 1 else if 41 = 3 * l then q_ct q 0 else if 41 = 3 * l + 1 then q_ct q 1 else if 41 = 3 * l + 2 then q_ct q 2 else q_nx q 41) + _ ≤ _
      rw [if_neg (by omega), if_neg (by omega), if_neg (by omega), if_neg (by omega)]; exact b9''
    · show _ = (if k = 30 + l then q_pg q + 1 else if k = 3 * l then q_ct q 0 else if k = 3 * l + 1 then q_ct q 1 else if k = 3 * l + 2 then q_ct q 2 else q_nx q k)
      rw [e105, h3.1 k hk]
      (repeat' split) <;> first | rfl | omega
    · show _ = if (if 30 + k = 30 + l then q_pg q + 1 else if 30 + k = 3 * l then q_ct q 0 else if 30 + k = 3 * l + 1 then q_ct q 1 else if 30 + k = 3 * l + 2 then q_ct q 2 else q_nx q (30 + k)) = 0 then 0 else 1
      rw [e106']
      by_cases d : k = l
      · have e : (if 30 + k = 30 + l then q_pg q + 1 else if 30 + k = 3 * l then q_ct q 0 else if 30 + k = 3 * l + 1 then q_ct q 1 else if 30 + k = 3 * l + 2 then q_ct q 2 else q_nx q (30 + k)) = q_pg q + 1 := if_pos (by omega)
        rw [e, if_pos d, if_neg (by omega)]
      · have e : (if 30 + k = 30 + l then q_pg q + 1 else if 30 + k = 3 * l then q_ct q 0 else if 30 + k = 3 * l + 1 then q_ct q 1 else if 30 + k = 3 * l + 2 then q_ct q 2 else q_nx q (30 + k)) = q_nx q (30 + k) := by
          rw [if_neg (by omega), if_neg (by omega), if_neg (by omega), if_neg (by omega)]
        rw [e, if_neg d]
        exact h3.2.1 k hk
    · rw [A 113 (by decide) (by decide)]
      exact h3.2.2
  · rw [if_pos c]
    rw [if_neg c] at e106
    exact lk_229a l10 (by rw [ll]; exact e106) ⟨rfl, H0, rfl, fun _ _ _ => rfl⟩
/-- STEP -/
theorem rX_st {c : Nat} {x : Int} (H : rXC G sil s q w Γ) (hc : c < 3) : rXC G sil s (p_ct q (g_up (q_ct q) c (b9 (q_ct q c + x)))) (w_a w 103 c (b9 (q_ct q c + x))) Γ := by
  have H0 := H
  have CT := fun j (hj : j < 3) => rX_ct H hj
  obtain ⟨⟨nq, k1, k2, k3⟩, h47, ⟨x1, hB⟩, h2, h3⟩ := H
  have A : ∀ b, b ≠ 103 → (w_a w 103 c (b9 (q_ct q c + x))).2 b = w.2 b := fun b a => w_a_2ne _ _ _ a
  have e103 : ∀ k, (w_a w 103 c (b9 (q_ct q c + x))).2 103 k = if k = c then b9 (q_ct q c + x) else w.2 103 k := fun k => by
    show (if 103 = 103 ∧ k = c then _ else w.2 103 k) = _
    by_cases e : k = c
    · rw [if_pos ⟨rfl, e⟩, if_pos e]
    · rw [if_neg (fun q => e q.2), if_neg e]
  have F : (w_a w 103 c (b9 (q_ct q c + x))).1 = w.1 := rfl
  have B9 := b9_b (q_ct q c + x)
  generalize hz : b9 (q_ct q c + x) = z at *
  generalize w_a w 103 c z = w1 at A e103 F ⊢
  obtain ⟨s1, s2, s3, s4, s5, s6⟩ := k1.2.2.2.2.1
  have V : ∀ k, k < 3 → w1.2 103 k = g_up (q_ct q) c z k ∧ -9999 ≤ w1.2 103 k ∧ w1.2 103 k ≤ 9999 := fun k hk => by
    rw [e103]
    unfold g_up
    have t := CT k hk
    by_cases d : k = c
    · rw [if_pos d, if_pos d]; exact ⟨rfl, B9⟩
    · rw [if_neg d, if_neg d]; exact ⟨t.1, by omega, by omega⟩
  have h3' : rS3 (g_C G (p_ct q (g_up (q_ct q) c z))) w1 := by
    refine ⟨by rw [F]; exact s1, by rw [F]; exact s2, fun k hk => ?_, fun k hk => ⟨fun _ => ?_, fun q => by rw [F, h47] at q; cases q⟩, by rw [A 74 (by decide), A 75 (by decide), A 76 (by decide)]; exact s5, fun k hk => ?_⟩
    · have t := s3 k hk
      have e : (g_C G q).1 k = some (G.1 k) := by
        show some (if k < 42 then G.1 k else q_ct q (k - 42)) = _
        rw [if_pos hk]
      have e' : (g_C G (p_ct q (g_up (q_ct q) c z))).1 k = some (G.1 k) := by
        show some (if k < 42 then G.1 k else _) = _
        rw [if_pos hk]
      rw [e'] 
      rw [e] at t
      rw [A 104 (by decide)]
      exact t
    · have e' : (g_C G (p_ct q (g_up (q_ct q) c z))).1 (42 + k) = some (g_up (q_ct q) c z k) := by
        show some (if 42 + k < 42 then G.1 (42 + k) else g_up (q_ct q) c z (42 + k - 42)) = _
        rw [if_neg (by omega), show 42 + k - 42 = k by omega]
      have t := V k hk
      rw [e', t.1]
      exact ⟨rfl, by rw [← t.1]; exact t.2⟩
    · have t := V k hk
      unfold am_rg
      omega
  refine rXC_of H0 (fun j _ => by rw [F]) (fun b _ => A b (by omega)) h3' (by rw [F]; exact h47) ?_ ?_ (rX2_of h2 ⟨rfl, rfl⟩ (by rw [F]) ⟨A 111 (by decide), A 112 (by decide), A 92 (by decide)⟩ (rXT_same (fun j _ => by rw [F]) (fun b _ _ => A b (by omega)))) ?_
  · unfold rX1 at x1 ⊢
    rw [F]
    exact x1
  · unfold QB at hB ⊢
    exact hB
  · unfold rX3 at h3 ⊢
    rw [A 105 (by decide), A 106 (by decide), A 113 (by decide)]
    exact h3
end
