/-! ===== the reference lays a key ===== -/
/-- nothing but isFit, inBody and the key is another -/
def rKW (w w' : W_) : Prop := (∀ a j, ¬ (a = 73 ∧ (j = 83 ∨ j = 84)) → w'.1 a j = w.1 a j) ∧ ∀ b, b ≠ 122 → w'.2 b = w.2 b
/-- the key as E has it -/
def rKY (w : W_) (e cl : T_) : Prop := ∀ m : Nat, m < 10 → (∃ x, k_nums e cl m = some x ∧ w.2 122 m = 8 * x + 1 ∧ -9999 ≤ x ∧ x ≤ 9999) ∨ (k_nums e cl m = none ∧ w.2 122 m = 6)
theorem bz_bit {B m : Nat} (hB : B < 1024) (hm : m < 10) : bz_and (bz_shr (B : Int) (m : Int)) 1 = if B.testBit m = true then 1 else 0 := by
  unfold bz_and bz_shr
  rw [bit_81 B hB m hm, Nat.testBit_eq_decide_div_mod_eq, Nat.shiftRight_eq_div_pow]
  have h := Nat.mod_two_eq_zero_or_one (B / 2 ^ m)
  generalize B / 2 ^ m % 2 = z at h
  rcases h with rfl | rfl <;> rfl
section
variable {w w' : W_} {Γ : rG_} {e cl : T_} {row : Nat}
theorem rKN (B : rBD w) (hN : rNF w Γ (e_use e) (n_get cl) row) {m : Nat} (hm : m < 10) (hu : e_use e m = true) : am_rg (w.2 84 (10 * row + m)) ∧ ((∃ x, k_nums e cl m = some x ∧ w.2 84 (10 * row + m) = 8 * x + 1 ∧ -9999 ≤ x ∧ x ≤ 9999) ∨ (k_nums e cl m = none ∧ w.2 84 (10 * row + m) % 8 ≠ 1)) := by
  obtain ⟨h1, h2⟩ := hN m hm hu
  unfold k_nums
  rw [if_pos hu]
  cases q : n_get cl m with
  | none =>
    rw [h1 q]
    exact ⟨by unfold am_rg; omega, Or.inr ⟨rfl, by decide⟩⟩
  | some v =>
    obtain ⟨z1, z2⟩ := rVt (h2 v q) B
    refine ⟨z1, ?_⟩
    rcases z2 with ⟨rfl, g⟩ | ⟨x, rfl, g1, g2, g3, g4⟩ | ⟨g1, g2, g3, g4⟩
    · exact Or.inr ⟨rfl, by omega⟩
    · exact Or.inl ⟨x, rfl, by omega, g3, g4⟩
    · exact Or.inr ⟨g2, g4⟩
theorem k_nums_n {m : Nat} (h : e_use e m = false) : k_nums e cl m = none := by
  unfold k_nums
  rw [h]; rfl
/-- the key of a function -/
theorem lk_215 {f fr : Nat} (H : rHH w Γ) (Bd : rBD w) (h5 : w.1 73 5 ≤ 723) (h15 : w.1 73 15 ≤ 2040) (hf : (f : Int) < w.1 73 17) (hf2 : f < 2048) (hΓ : Γ.2.1 f = .tag 12 (.append e cl)) (hfr : 740 ≤ fr) : ww_Ct 215 fr [.inr (.inr (.inl 73)), .inl (f : Int)] w fun r w' => ∃ y, r = some (.inl y) ∧ rKW w w' ∧ ((y = 1 ∧ k_fit e cl = true ∧ rKY w' e cl) ∨ (y = 0 ∧ k_fit e cl = false)) := by
  obtain ⟨e', cl', own, h1, h2, h3, h4, h5', h6, row, h7, h8, h9, h10⟩ := H.2.2.2.2 f hf
  rw [hΓ] at h1
  cases h1
  rcases rEN_or h3 with ⟨k, n, id, a, b, c, rfl⟩ | rfl
  · have k16 : k = 16 := h2
    subst k16
    have hE := h3
    rw [rEN_ce] at hE
    obtain ⟨⟨hx, hk, hn, -, -⟩, kr, -, -, e1, -, -, -, -, -⟩ := hE
    have ea := e1 (by decide)
    rw [if_neg (by decide)] at ea
    have kl := kid_lt ea
    have dp := rEN_dp (N := 723) h5 ea
    have f0 : (0 : Int) ≤ (f : Int) ∧ (f : Int) < 2048 := by omega
    have ff : ((f : Int)).toNat = f := by omega
    have g := lk_214 (w := w_f (w_f w 73 83 1) 73 84 0) (hi := w.1 73 5) (by omega) a (some none) (w.2 81 (3 * (w.2 85 f).toNat)) (rEN_mono (w := w) (w' := w_f (w_f w 73 83 1) 73 84 0) (by omega) (fun i _ _ => ⟨⟨rfl, rfl, rfl, rfl⟩, ⟨rfl, rfl⟩, rfl, rfl, rfl⟩) (Int.le_refl _) (Int.le_refl _) _ _ _ ea)
    have g := g (w_f (w_f w 73 83 1) 73 84 0) true 0 (fr - 1) ⟨fun _ _ _ => rfl, rfl, by rw [w_f_ne _ _ _ _ _ _ (by decide), w_f1, w_u_at, if_pos ⟨rfl, rfl⟩]; rfl, by rw [w_f1, w_u_at, if_pos ⟨rfl, rfl⟩]; rfl, by decide⟩ (by omega)
    have own10 : ∀ m, own = some m → m < 10 := h5'
    refine lk_215a (m := w.2 85 f) (p := w.2 81 (3 * (w.2 85 f).toNat)) (R := fun w' => rLQ (w_f (w_f w 73 83 1) 73 84 0) w' (true && !e_imp a) 0 (e_nm a)) (by omega) f0 (by rw [ff]) (by omega) (by rw [show (3 * w.2 85 f + 0).toNat = 3 * (w.2 85 f).toNat by omega]) g (fun w1 q => ?_)
    obtain ⟨B, K, hB⟩ := q
    obtain ⟨K1, K2, K3, K4, K5⟩ := K
    have KW : rKW w w1 := ⟨fun a j q => by rw [K1 a j q, w_f_ne _ _ _ _ _ _ (by omega), w_f_ne _ _ _ _ _ _ (by omega)], fun b _ => by rw [K2]; rfl⟩
    have eu : ∀ m, e_use (ce 16 n id a b c) m = (e_nm a m && !((n % 10).toNat == m || e_own (ce 16 n id a b c) == some m)) := fun m => rfl
    rw [h4] at eu
    have hBm : ∀ m, m < 10 → B.testBit m = e_nm a m := fun m hm => by
      rw [hB m hm, Nat.zero_testBit, Bool.false_or]
    have n0 : 0 ≤ n ∧ n < 100 := kr.2
    -- the loop
    have M : ∀ (d i : Nat) (w2 : W_) (s : Int) (v5 v6 v7 : am_V), d + i = 10 → rKW w w2 → w2.1 73 84 = (B : Int) → (∀ m, m < i → w2.2 122 m = if e_use (ce 16 n id a b c) m = true then w.2 84 (10 * row + m) else 6) → ((s = 1 ∧ e_imp a = false ∧ ∀ m, m < i → e_use (ce 16 n id a b c) m = true → (k_nums (ce 16 n id a b c) cl m).isSome = true) ∨ (s = 0 ∧ ¬ (e_imp a = false ∧ ∀ m, m < 10 → e_use (ce 16 n id a b c) m = true → (k_nums (ce 16 n id a b c) cl m).isSome = true))) → (am_two v5 = false ∧ am_two v6 = false ∧ am_two v7 = false) → zr215 fr (fun r w' => ∃ y, r = some (.inl y) ∧ rKW w w' ∧ ((y = 1 ∧ k_fit (ce 16 n id a b c) cl = true ∧ rKY w' (ce 16 n id a b c) cl) ∨ (y = 0 ∧ k_fit (ce 16 n id a b c) cl = false))) 35 (f : Int) (w.2 85 f) s (i : Int) v5 v6 v7 w2 := by
      intro d
      induction d with
      | zero =>
        intro i w2 s v5 v6 v7 hd hw h84 hK hs hv
        have i10 : i = 10 := by omega
        subst i10
        refine lk_215b hv rfl (by rcases hs with ⟨q, -⟩ | ⟨q, -⟩ <;> omega) ⟨s, rfl, hw, ?_⟩
        rcases hs with ⟨q1, q2, q3⟩ | ⟨q1, q2⟩
        · refine Or.inl ⟨q1, k_fit_iff.2 ⟨q2, q3⟩, fun m hm => ?_⟩
          rw [hK m hm]
          cases u : e_use (ce 16 n id a b c) m with
          | false => exact Or.inr ⟨k_nums_n u, by rw [if_neg (by decide)]⟩
          | true =>
            rw [if_pos rfl]
            rcases (rKN Bd h10 hm u).2 with z | ⟨z1, -⟩
            · exact Or.inl z
            · have := q3 m hm u
              rw [z1] at this
              cases this
        · refine Or.inr ⟨q1, ?_⟩
          cases z : k_fit (ce 16 n id a b c) cl with
          | false => rfl
          | true => exact absurd (k_fit_iff.1 z) q2
      | succ d ih =>
        intro i w2 s v5 v6 v7 hd hw h84 hK hs hv
        have i10 : i < 10 := by omega
        have b84 := hw.2 84 (by decide)
        have b86 := hw.2 86 (by decide)
        have b78 := hw.2 78 (by decide)
        have b87 := hw.2 87 (by decide)
        have ii : ((i : Int)).toNat = i := by omega
        have eo : w2.2 87 ((f : Int)).toNat = rOw own := by rw [b87, ff]; exact h6
        have o10 : -1 ≤ rOw own ∧ rOw own < 10 := by
          cases own with
          | none => exact ⟨by decide, by decide⟩
          | some m =>
            have := own10 m rfl
            show -1 ≤ (m : Int) ∧ (m : Int) < 10
            omega
        have oi : (own == some i) = decide ((i : Int) = rOw own) := by
          cases own with
          | none =>
            symm
            exact decide_eq_false (by show ¬ (i : Int) = -1; omega)
          | some m =>
            show (m == i) = decide ((i : Int) = (m : Int))
            by_cases z : m = i
            · rw [z, beq_self_eq_true, decide_eq_true rfl]
            · rw [beq_eq_false_iff_ne.2 z, decide_eq_false (by omega)]
        generalize rOw own = o at eo o10 oi
        have ni : ((n % 10).toNat == i) = decide ((i : Int) = n % 10) := by
          by_cases z : (i : Int) = n % 10
          · rw [decide_eq_true z, beq_iff_eq]; omega
          · rw [decide_eq_false z, beq_eq_false_iff_ne]; omega
        have eui := eu i
        rw [ni, oi] at eui
        have er : w2.2 84 (10 * (row : Int) + (i : Int)).toNat = w.2 84 (10 * row + i) := by
          rw [b84, show (10 * (row : Int) + (i : Int)).toNat = 10 * row + i by omega]
        have e86 : w2.2 86 ((f : Int)).toNat = (row : Int) := by rw [b86, ff]; exact h7
        have en : w2.2 78 (w.2 85 f).toNat = n := by rw [b78]; exact hn
        have zb := bz_bit (m := i) K5 i10
        rw [hBm i i10] at zb
        have r0 : (0 : Int) ≤ (row : Int) ∧ (row : Int) < 2048 := by omega
        -- what is laid
        have NXT : ∀ (s' key : Int) (v5 v6 v7 : am_V), (key = if e_use (ce 16 n id a b c) i = true then w.2 84 (10 * row + i) else 6) → ((s' = 1 ∧ e_imp a = false ∧ ∀ m, m < i + 1 → e_use (ce 16 n id a b c) m = true → (k_nums (ce 16 n id a b c) cl m).isSome = true) ∨ (s' = 0 ∧ ¬ (e_imp a = false ∧ ∀ m, m < 10 → e_use (ce 16 n id a b c) m = true → (k_nums (ce 16 n id a b c) cl m).isSome = true))) → (am_two v5 = false ∧ am_two v6 = false ∧ am_two v7 = false) → zr215 fr (fun r w' => ∃ y, r = some (.inl y) ∧ rKW w w' ∧ ((y = 1 ∧ k_fit (ce 16 n id a b c) cl = true ∧ rKY w' (ce 16 n id a b c) cl) ∨ (y = 0 ∧ k_fit (ce 16 n id a b c) cl = false))) 35 (f : Int) (w.2 85 f) s' ((i : Int) + 1) v5 v6 v7 (w_a w2 122 ((i : Int)).toNat key) := by
          intro s' key v5 v6 v7 hkey hs' hv'
          have z := ih (i + 1) (w_a w2 122 ((i : Int)).toNat key) s' v5 v6 v7 (by omega) ⟨fun a j q => hw.1 a j q, fun b q => by rw [w_a_2ne _ _ _ q]; exact hw.2 b q⟩ h84 (fun m hm => ?_) hs' hv'
          · rw [show (((i + 1 : Nat)) : Int) = (i : Int) + 1 by omega] at z
            exact z
          · show (if 122 = 122 ∧ m = ((i : Int)).toNat then key else w2.2 122 m) = _
            by_cases c : m = i
            · rw [if_pos ⟨rfl, by omega⟩, c]; exact hkey
            · rw [if_neg (by omega)]; exact hK m (by omega)
        cases hu : e_use (ce 16 n id a b c) i with
        | false =>
          have S0 : (s = 1 ∧ e_imp a = false ∧ ∀ m, m < i + 1 → e_use (ce 16 n id a b c) m = true → (k_nums (ce 16 n id a b c) cl m).isSome = true) ∨ (s = 0 ∧ ¬ (e_imp a = false ∧ ∀ m, m < 10 → e_use (ce 16 n id a b c) m = true → (k_nums (ce 16 n id a b c) cl m).isSome = true)) := by
            rcases hs with ⟨q1, q2, q3⟩ | q
            · refine Or.inl ⟨q1, q2, fun m hm hm2 => ?_⟩
              by_cases c : m = i
              · rw [c, hu] at hm2; cases hm2
              · exact q3 m (by omega) hm2
            · exact Or.inr q
          have yr : am_rg (w.2 84 (10 * row + i)) ∨ True := Or.inr trivial
          have K99 : ∀ (e5 : Int) (v7 : am_V), am_two v7 = false → zr215 fr (fun r w' => ∃ y, r = some (.inl y) ∧ rKW w w' ∧ ((y = 1 ∧ k_fit (ce 16 n id a b c) cl = true ∧ rKY w' (ce 16 n id a b c) cl) ∨ (y = 0 ∧ k_fit (ce 16 n id a b c) cl = false))) 99 (f : Int) (w.2 85 f) s (i : Int) (.inl e5) (.inl 0) v7 w2 := by
            intro e5 v7 h7
            have nx := NXT s 6 (.inl e5) (.inl 0) (.inl (w.2 84 (10 * row + i))) (by rw [hu]; rfl) S0 ⟨rfl, rfl, rfl⟩
            rcases hs with ⟨q1, -, -⟩ | ⟨q1, -⟩
            · subst q1
              exact lk_215e4 h7 (by omega) (by omega) f0 e86 r0 er nx
            · subst q1
              exact lk_215e5 h7 (by omega) (by omega) f0 e86 r0 er nx
          have K74 : ∀ (e5 : Int) (v6 v7 : am_V), am_two v6 = false ∧ am_two v7 = false → (e5 = 1 ∨ (e5 = 0 ∧ e_nm a i = false)) → zr215 fr (fun r w' => ∃ y, r = some (.inl y) ∧ rKW w w' ∧ ((y = 1 ∧ k_fit (ce 16 n id a b c) cl = true ∧ rKY w' (ce 16 n id a b c) cl) ∨ (y = 0 ∧ k_fit (ce 16 n id a b c) cl = false))) 74 (f : Int) (w.2 85 f) s (i : Int) (.inl e5) v6 v7 w2 := by
            intro e5 v6 v7 h67 he
            cases hb : e_nm a i with
            | false =>
              rw [hb, if_neg (by decide)] at zb
              exact lk_215d0 h67 h84 zb rfl (K99 e5 v7 h67.2)
            | true =>
              rw [hb, if_pos rfl] at zb
              rcases he with rfl | ⟨-, q⟩
              · exact lk_215d2 h67 h84 zb rfl (K99 1 v7 h67.2)
              · rw [hb] at q; cases q
          by_cases c1 : (i : Int) = n % 10
          · exact lk_215o1 hv (by omega) (by omega) en n0 f0 c1 (K74 1 v6 v7 hv.2 (Or.inl rfl))
          · by_cases c2 : (i : Int) = o
            · exact lk_215o2 hv (by omega) (by omega) en n0 f0 c1 eo c2 (K74 1 v6 v7 hv.2 (Or.inl rfl))
            · refine lk_215o0 hv (by omega) (by omega) en n0 f0 c1 eo o10 c2 (K74 0 v6 v7 hv.2 (Or.inr ⟨rfl, ?_⟩))
              rw [hu, decide_eq_false c1, decide_eq_false c2] at eui
              cases z : e_nm a i with
              | false => rfl
              | true => rw [z] at eui; cases eui
        | true =>
          rw [hu] at eui
          have c0 : e_nm a i = true ∧ ¬ (i : Int) = n % 10 ∧ ¬ (i : Int) = o := by
            by_cases z1 : (i : Int) = n % 10
            · rw [decide_eq_true z1] at eui
              cases hz : e_nm a i <;> rw [hz] at eui <;> cases eui
            · by_cases z2 : (i : Int) = o
              · rw [decide_eq_true z2, Bool.or_true] at eui
                cases hz : e_nm a i <;> rw [hz] at eui <;> cases eui
              · refine ⟨?_, z1, z2⟩
                cases z : e_nm a i with
                | true => rfl
                | false => rw [z] at eui; cases eui
          rw [c0.1, if_pos rfl] at zb
          obtain ⟨yr, yk⟩ := rKN Bd h10 i10 hu
          refine lk_215o0 hv (by omega) (by omega) en n0 f0 c0.2.1 eo o10 c0.2.2 (lk_215d1 hv.2 h84 zb rfl ?_)
          rcases hs with ⟨q1, q2, q3⟩ | ⟨q1, q2⟩
          · subst q1
            rcases yk with ⟨x, y1, y2, y3⟩ | ⟨y1, y2⟩
            · refine lk_215e1 hv.2.2 (by omega) (by omega) f0 e86 r0 er yr (by omega) (NXT 1 _ _ _ _ (by rw [hu]; rfl) (Or.inl ⟨rfl, q2, fun m hm hm2 => ?_⟩) ⟨rfl, rfl, rfl⟩)
              by_cases c : m = i
              · rw [c, y1]; rfl
              · exact q3 m (by omega) hm2
            · refine lk_215e2 hv.2.2 (by omega) (by omega) f0 e86 r0 er yr rfl y2 (NXT 0 _ _ _ _ (by rw [hu]; rfl) (Or.inr ⟨rfl, fun q => ?_⟩) ⟨rfl, rfl, rfl⟩)
              have := q.2 i i10 hu
              rw [y1] at this
              cases this
          · subst q1
            exact lk_215e3 hv.2.2 (by omega) (by omega) f0 e86 r0 er yr (NXT 0 _ _ _ _ (by rw [hu]; rfl) (Or.inr ⟨rfl, q2⟩) ⟨rfl, rfl, rfl⟩)
    refine M 10 0 w1 (w1.1 73 83) am_X am_X am_X rfl KW K4 (fun m hm => absurd hm (Nat.not_lt_zero m)) ?_ ⟨rfl, rfl, rfl⟩
    rw [K3]
    cases q : e_imp a with
    | false => exact Or.inl ⟨rfl, rfl, fun m hm => absurd hm (Nat.not_lt_zero m)⟩
    | true => exact Or.inr ⟨rfl, fun z => by cases z.1⟩
  · cases h2
end
