/-! ===== realizing: a round ===== -/
section
variable {sil : Bool} {s s1 s2 : S_} {w w' : W_} {Γ Γ' : rG_} {G : G_} {q q1 : Q_} {fr : Nat} {P : Option am_V → W_ → Prop} {y : Int}
theorem rE0_Ot (h : rE0 G w) (O : rOt w w') : rE0 G w' := by
  obtain ⟨⟨a1, a2, a3, a4, a5⟩, ⟨b1, b2, b3, b4, b5, b6⟩, ⟨c1, c2⟩, d1, d2, d3⟩ := h
  obtain ⟨o1, o2, -⟩ := O
  refine ⟨⟨?_, ?_, ?_, ?_, ?_⟩, ⟨?_, ?_, ?_, ?_, ?_, ?_⟩, ⟨?_, ?_⟩, fun k hk => ?_, fun k hk => ?_, fun k hk => ?_⟩
  · rw [o1 73 57 (by omega)]; exact a1
  · rw [o1 73 58 (by omega)]; exact a2
  · rw [o1 73 59 (by omega)]; exact a3
  · rw [o1 73 61 (by omega)]; exact a4
  · rw [o1 73 62 (by omega)]; exact a5
  · rw [o1 73 64 (by omega)]; exact b1
  · rw [o1 73 65 (by omega)]; exact b2
  · rw [o1 73 66 (by omega)]; exact b3
  · rw [o1 73 67 (by omega)]; exact b4
  · rw [o1 73 68 (by omega)]; exact b5
  · rw [o1 73 52 (by omega)]; exact b6
  · rw [o1 73 3 (by omega)]; exact c1
  · rw [o1 73 4 (by omega)]; exact c2
  · rw [o2 105 (by omega)]; exact d1 k hk
  · rw [o2 106 (by omega)]; exact d2 k hk
  · rw [o2 103 (by omega)]; exact d3 k hk
/-- what a file's content begins with -/
theorem rX_first {v : T_} (k1 : rRC (g_C0 G) sil False 8 0 s w Γ) (c1 : rCC w Γ y (rFL v)) (hv : vv v) (e1 : rE0 G w) (hp : 3 ≤ G.2.2.2.1 ∧ G.2.2.2.1 ≤ 30 ∧ 1 ≤ G.2.2.2.2 ∧ G.2.2.2.2 ≤ 10) (ht : s_tb s ≤ 1800) : rXR G sil s (q_start v) (r_wt (w_f w 73 47 1) 0 y 0 0) Γ := by
  obtain ⟨⟨a1, a2, a3, a4, a5⟩, ⟨b1, b2, b3, b4, b5, b6⟩, ⟨d1, d2⟩, f1, f2, f3⟩ := e1
  have N : ∀ j, j ≠ 47 → (w_f w 73 47 1).1 73 j = w.1 73 j := fun j a => w_f_ne _ _ _ _ _ _ (by omega)
  have A : (w_f w 73 47 1).2 = w.2 := rfl
  have h47 : (w_f w 73 47 1).1 73 47 = 1 := by rw [w_f1, w_u_at, if_pos ⟨rfl, rfl⟩]
  generalize w_f w 73 47 1 = w2 at N A h47 ⊢
  have h3 : rS3 (g_C G (q_start v)) w2 := by
    obtain ⟨s1, s2, s3, s4, s5, s6⟩ := k1.2.2.2.2.1
    refine ⟨⟨by rw [N 62 (by decide), a5]; rfl, Int.le_refl _, by show (0 : Int) ≤ 12; omega⟩, Or.inr h47, fun k hk => ?_, fun c hc => ⟨fun _ => ?_, fun q => by omega⟩, by rw [A]; exact s5, fun c hc => by rw [A]; exact s6 c hc⟩
    · have z := s3 k hk
      have e : (g_C0 G).1 k = some (G.1 k) := by
        show (if k < 42 then some (G.1 k) else none) = _
        rw [if_pos hk]
      have e' : (g_C G (q_start v)).1 k = some (G.1 k) := by
        show some (if k < 42 then G.1 k else _) = _
        rw [if_pos hk]
      rw [e', A, ← e]
      exact z
    · have e' : (g_C G (q_start v)).1 (42 + c) = some 0 := by
        show some (if 42 + c < 42 then G.1 (42 + c) else 0) = _
        rw [if_neg (by omega)]
      rw [e', A, f3 c hc]
      exact ⟨rfl, by omega, by omega⟩
  have K : rRC (g_C G (q_start v)) sil False (8 + ((0 : Nat) : Int)) 0 s w2 Γ := rRC_C (C := g_C0 G) k1 (fun j q => N j (by omega)) (fun b _ => by rw [A]) h3
  have HC : rXC G sil s (q_start v) w2 Γ := by
    refine ⟨⟨0, K, Nat.zero_le _, Nat.zero_le _⟩, h47, ⟨⟨⟨?_, ?_, ?_, ?_⟩, ⟨?_, ?_, ?_, ?_⟩, ?_, ?_⟩, ⟨hp, ⟨by show (1 : Int) ≤ 1; omega, by show (1 : Int) ≤ 3; omega, Int.le_refl _, by show (0 : Int) ≤ 3; omega⟩, ⟨Int.le_refl _, Int.le_refl _, Int.le_refl _, by show (0 : Int) < G.2.2.2.2; omega, Int.le_refl _, by show (0 : Int) ≤ 10002; omega⟩, ⟨fun k _ => ⟨by show -9999 ≤ (0 : Int); omega, by show (0 : Int) ≤ 9999; omega⟩, Int.le_refl _, Int.le_refl _⟩, Nat.le_refl _, Nat.zero_le _⟩⟩, ⟨⟨?_, fun i r hi => by cases hi⟩, fun i id hi => by cases hi⟩, fun k hk => ?_, fun l hl => ?_, fun i t hi => by cases hi⟩
    · rw [N 57 (by decide)]; exact a1
    · rw [N 58 (by decide)]; exact a2
    · rw [N 61 (by decide)]; exact a4
    · rw [N 64 (by decide)]; exact b1
    · rw [N 65 (by decide)]; exact b2
    · rw [N 66 (by decide)]; exact b3
    · rw [N 67 (by decide)]; exact b4
    · rw [N 68 (by decide)]; exact b5
    · rw [N 3 (by decide)]; exact d1
    · rw [N 4 (by decide)]; exact d2
    · rw [N 59 (by decide)]; exact a3
    · rw [A]; exact f1 k hk
    · rw [A, f2 l hl]; rfl
  have n0 : w2.1 73 52 = ((0 : Nat) : Int) := by rw [N 52 (by decide)]; exact b6
  have X : rXT w Γ w2 Γ (-1) := rXT_same (fun j q => N j (by omega)) (fun b _ _ => by rw [A])
  have S1 := r_wt_WS w2 0 y 0 0
  obtain ⟨n1, ⟨y1, y2, -, -⟩, -⟩ := r_wt_at (o := 0) (a := y) (b := 0) (c := 0) n0
  have cy := c1.1
  have e26 := N 26 (by decide)
  have U := uW_lm (c := y.toNat) K (Nat.zero_le _) (by omega) ht
  have T1 := rST_push (Γ := Γ) (K := 910) (L := rLm s) (l1 := (rFL v).map fP) (l2 := []) (o := 0) (a := y) (b := 0) (c := 0) n0 rfl ⟨Nat.zero_le _, Or.inl ⟨y1, rFL v, rfl, by rw [y2]; exact rCC_mono (rWS_X (R := -1) S1) (rCC_mono X c1), by rw [y2, S1.2 92 (by omega)]; omega⟩⟩
  refine ⟨rX_ws HC S1, ⟨0 + 1, n1, ?_⟩, fun _ => hv.2.2.2, trivial⟩
  exact T1
theorem lk_234 {m : List R_} {rn tk : Nat} (hG : GG G) (hp : 3 ≤ G.2.2.2.1 ∧ G.2.2.2.1 ≤ 30 ∧ 1 ≤ G.2.2.2.2 ∧ G.2.2.2.2 ≤ 10) (H : rB0 G sil m rn tk w) (h : x_round G sil (s_start m rn tk) = some (s1, q1)) : ww_Ct 234 (fr + 2060) [.inr (.inr (.inl 73))] w fun r w' => r = none ∧ ∃ Γ', rXC G sil s1 q1 w' Γ' ∧ w'.1 73 52 = 0 := by
  obtain ⟨v, s0, hf, HS, hv, hfs⟩ := x_text (sil := sil) hG m rn tk
  unfold x_round at h
  rw [hf] at h
  dsimp only at h
  have bd := XS_b0 HS
  have tb : s_tb s0 ≤ 1800 := by have := HS.2.1.1; omega
  refine lk_234a (R := fun w' => rRC (g_C0 G) sil False 8 0 (s_start m rn tk) w' rG0 ∧ rE0 G w') (R1 := fun y w' => ∃ Γ', rRC (g_C0 G) sil False 8 0 s0 w' Γ' ∧ rCC w' Γ' y (rFL v) ∧ vv v ∧ rE0 G w') (by omega) (lk_233s H) ?_ ?_
  · rintro w1 ⟨k1, e1⟩
    have Z := lk_210 (f := 0) (n := 512) (n1 := 512) (L := x_L) (fr := fr + 2060 - 1) (ev_rS (g_C0 G) 512 (by omega) sil) (ev_M (g_C0 G) 512) (ev_rBr (g_C0 G) 512) (Nat.le_refl _) (by unfold x_L; omega) (by omega) (by omega) (by omega) rfl hf ⟨by omega, bd.2⟩ k1
    refine Z.mono ?_
    rintro r w2 ⟨y, rfl, Γ2, g1, g2, g3, g4⟩
    exact ⟨y, rfl, Γ2, g1, g2, g3, rE0_Ot e1 g4.2.1⟩
  · rintro y w1 ⟨Γ1, k1, c1, hvv, e1⟩
    refine lk_234b (by omega) (by rw [e1.2.1.2.2.2.2.2]; omega) ?_
    exact rX_realize (fr := fr) hG HS hv h (rX_first k1 c1 hvv e1 hp tb) (fun w' Γ' g1 g2 _ => ⟨rfl, Γ', g1, g2⟩)
end
