/-! ===== the reference runs as E: what is simple ===== -/
/-- an expression's node -/
theorem rEN_ce {w : W_} {lo hi : Int} {k : Nat} {n : Int} {id : Nat} {a b c : T_} {own : Option Nat} {x : Int} : rEN w lo hi (ce k n id a b c) (some own) x = (rEP w lo hi x k n id ∧ ((6 ≤ k ∧ k ≤ 31) ∧ 0 ≤ n ∧ n < 100) ∧ (k = 8 → rEN w lo hi a none (w.2 82 x.toNat)) ∧ (k ≠ 8 → w.2 82 x.toNat = -1) ∧ (1 ≤ j_par k → rEN w lo hi a (some (if k = 15 then some (n % 10).toNat else none)) (w.2 81 (3 * x.toNat))) ∧ (2 ≤ j_par k → rEN w lo hi b (some none) (w.2 81 (3 * x.toNat + 1))) ∧ (3 ≤ j_par k → rEN w lo hi c (some none) (w.2 81 (3 * x.toNat + 2))) ∧ (k ≠ 8 → j_par k = 0 → a = .nil) ∧ (j_par k < 2 → b = j_own k own) ∧ (j_par k < 3 → c = .nil)) := rfl
theorem rEN_or {w : W_} {lo hi : Int} {e : T_} {own : Option Nat} {x : Int} (h : rEN w lo hi e (some own) x) : (∃ k n id a b c, e = ce k n id a b c) ∨ e = .nil := by
  unfold rEN at h
  split at h
  · exact Or.inl ⟨_, _, _, _, _, _, rfl⟩
  · rename_i q; cases q
  · exact Or.inr rfl
  · rename_i q; cases q
  · exact h.elim
/-- what comes of a run is a number -/
def yP (P : Option am_V → W_ → Prop) : Prop := ∀ r w', P r w' → ∃ y, r = some (.inl y)
theorem yP_m {P : Option am_V → W_ → Prop} (hP : yP P) : ∀ r w', P r w' → ∃ y, r = some (.inl y : am_V) ∧ P (some (.inl y)) w' := fun r w' h => by
  obtain ⟨y, rfl⟩ := hP r w' h
  exact ⟨y, rfl, h⟩
section
variable {w : W_} {fr : Nat} {P : Option am_V → W_ → Prop} {x r h : Int} {k : Nat}
theorem run_S (hP : yP P) (h1 : 2 ≤ fr) (hx : 0 ≤ x ∧ x < 1024) (hk : w.2 77 x.toNat = (k : Int)) (hK : k = 6 ∨ k = 7 ∨ (23 ≤ k ∧ k ≤ 27) ∨ k = 29) (hc : ww_Ct 203 (fr - 1) [.inr (.inr (.inl 73)), .inl x, .inl r] (r_b1 w) P) : ww_Ct 207 fr [.inr (.inr (.inl 73)), .inl x, .inl r, .inl h] w P :=
  lk_207b (k := (k : Int)) hx hk (by omega) (by omega) (lk_207_27s (by omega) (by omega) (by omega) (lk_207_60 (R := fun y w' => P (some (.inl y)) w') (by omega) (hc.mono (yP_m hP)) (fun _ _ q => q)))
theorem run_67 (h1 : 2 ≤ fr) (hx : 0 ≤ x ∧ x < 1024) (hk : w.2 77 x.toNat = (k : Int)) (k0 : 6 ≤ k ∧ k < 40) (hK : ¬ (k = 6 ∨ k = 7 ∨ (23 ≤ k ∧ k ≤ 27) ∨ k = 29)) (L : zr207 fr P 67 x r h (.inl (k : Int)) am_X (r_b1 w)) : ww_Ct 207 fr [.inr (.inr (.inl 73)), .inl x, .inl r, .inl h] w P :=
  lk_207b (k := (k : Int)) hx hk (by omega) (by omega) (lk_207_27n (by omega) (by omega) (by omega) L)
theorem run_L (hP : yP P) (h1 : 2 ≤ fr) (hx : 0 ≤ x ∧ x < 1024) (hk : w.2 77 x.toNat = 15) (hc : ww_Ct 205 (fr - 1) [.inr (.inr (.inl 73)), .inl x, .inl r, .inl h] (r_b1 w) P) : ww_Ct 207 fr [.inr (.inr (.inl 73)), .inl x, .inl r, .inl h] w P :=
  run_67 (k := 15) h1 hx hk (by omega) (by omega) (lk_207_67 (by omega) (fun _ => lk_207_88 (R := fun y w' => P (some (.inl y)) w') (by omega) (hc.mono (yP_m hP)) (fun _ _ q => q)) (fun q => absurd q (by omega)) (fun q => absurd rfl q))
theorem run_F (hP : yP P) {fr0 : Nat} (h0 : fr0 + 1 ≤ fr) (h1 : 2 ≤ fr) (hx : 0 ≤ x ∧ x < 1024) (hk : w.2 77 x.toNat = 16) (hc : ww_Ct 204 fr0 [.inr (.inr (.inl 73)), .inl x, .inl r, .inl (-1)] (r_b1 w) P) : ww_Ct 207 fr [.inr (.inr (.inl 73)), .inl x, .inl r, .inl h] w P :=
  run_67 (k := 16) h1 hx hk (by omega) (by omega) (lk_207_67 (by omega) (fun q => absurd q (by omega)) (fun _ => lk_207_98 (R := fun y w' => P (some (.inl y)) w') h0 (hc.mono (yP_m hP)) (fun _ _ q => q)) (fun _ q => absurd rfl q))
theorem run_106 (h1 : 2 ≤ fr) (hx : 0 ≤ x ∧ x < 1024) (hk : w.2 77 x.toNat = (k : Int)) (k0 : 6 ≤ k ∧ k < 40) (hK : ¬ (k = 6 ∨ k = 7 ∨ (23 ≤ k ∧ k ≤ 27) ∨ k = 29)) (hK2 : k ≠ 15 ∧ k ≠ 16) (L : zr207 fr P 106 x r h (.inl (k : Int)) am_X (r_b1 w)) : ww_Ct 207 fr [.inr (.inr (.inl 73)), .inl x, .inl r, .inl h] w P :=
  run_67 h1 hx hk k0 hK (lk_207_67 (by omega) (fun q => absurd q (by omega)) (fun q => absurd q (by omega)) (fun _ _ => L))
theorem run_T (hP : yP P) (h1 : 2 ≤ fr) (hx : 0 ≤ x ∧ x < 1024) (hk : w.2 77 x.toNat = (k : Int)) (hK : k = 18 ∨ k = 19) (hc : ww_Ct 206 (fr - 1) [.inr (.inr (.inl 73)), .inl x, .inl r, .inl h] (r_b1 w) P) : ww_Ct 207 fr [.inr (.inr (.inl 73)), .inl x, .inl r, .inl h] w P :=
  run_106 h1 hx hk (by omega) (by omega) (by omega) (lk_207_106t (by omega) (by omega) (lk_207_120 (R := fun y w' => P (some (.inl y)) w') (by omega) (hc.mono (yP_m hP)) (fun _ _ q => q)))
theorem run_B {R : Int → W_ → Prop} (h1 : 2 ≤ fr) (hx : 0 ≤ x ∧ x < 1024) (hk : w.2 77 x.toNat = 8) (hr : (0 ≤ w.1 73 15 ∧ w.1 73 15 < 2048) ∧ 0 ≤ r ∧ r < w.1 73 15) (hc : ww_Ct 199 (fr - 1) [.inr (.inr (.inl 73)), .inl (w.2 82 x.toNat), .inl (w.1 73 15)] (r_copy (r_b1 w) r) fun r w' => ∃ y, r = some (.inl y) ∧ R y w') (hR : ∀ y w', R y w' → 0 ≤ y ∧ y < 8192) (L : ∀ y w', R y w' → P (some (.inl (8 * y + 2))) w') : ww_Ct 207 fr [.inr (.inr (.inl 73)), .inl x, .inl r, .inl h] w P :=
  run_106 (k := 8) h1 hx hk (by omega) (by omega) (by omega) (lk_207_106n (by omega) (by omega) (lk_207_128t (lk_207_135 (R := R) h1 hx hr hc hR L)))
theorem run_E {R : Int → W_ → Prop} (h1 : 2 ≤ fr) (hx : 0 ≤ x ∧ x < 1024) (hk : w.2 77 x.toNat = 22) (hr : (0 ≤ w.1 73 15 ∧ w.1 73 15 < 2048) ∧ 0 ≤ r ∧ r < w.1 73 15) (hc : ww_Ct 187 (fr - 1) [.inr (.inr (.inl 73)), .inl 22, .inl x, .inl (w.1 73 15), .inl 0, .inl 1] (r_copy (r_b1 w) r) fun r w' => ∃ y, r = some (.inl y) ∧ R y w') (hR : ∀ y w', R y w' → 0 ≤ y ∧ y < 8192) (L : ∀ y w', R y w' → P (some (.inl (8 * y + 2))) w') : ww_Ct 207 fr [.inr (.inr (.inl 73)), .inl x, .inl r, .inl h] w P :=
  run_106 (k := 22) h1 hx hk (by omega) (by omega) (by omega) (lk_207_106n (by omega) (by omega) (lk_207_128n (by omega) (by omega) (lk_207_155t (lk_207_162 (R := R) h1 hx hr hc hR L))))
theorem run_G {R : Int → W_ → Prop} (h1 : 2 ≤ fr) (hx : 0 ≤ x ∧ x < 1024) (hk : w.2 77 x.toNat = (k : Int)) (hK : (9 ≤ k ∧ k ≤ 14) ∨ k = 17 ∨ k = 20 ∨ k = 21 ∨ k = 28 ∨ k = 30 ∨ k = 31) (hc : ww_Ct 207 (fr - 1) [.inr (.inr (.inl 73)), .inl (w.2 81 (3 * x + 0).toNat), .inl r, .inl h] (r_b1 w) fun r w' => ∃ y, r = some (.inl y) ∧ R y w') (L : ∀ y w', R y w' → zr207 fr P 195 x r h (.inl (k : Int)) (.inl y) w') : ww_Ct 207 fr [.inr (.inr (.inl 73)), .inl x, .inl r, .inl h] w P :=
  run_106 h1 hx hk (by omega) (by omega) (by omega) (lk_207_106n (by omega) (by omega) (lk_207_128n (by omega) (by omega) (lk_207_155n (by omega) (by omega) (lk_207_181 (R := R) (by omega) hx hc L))))
end
/-- the value, the names, E's state behind a run -/
def rVO (C : C_) (sil : Bool) (D : Prop) (qq : Int) (ft n : Nat) (hb : Bool) (u : Nat → Bool) (s s1 : S_) (v : T_) (E1 : N_) (row : Nat) (w : W_) (Γ : rG_) : Option am_V → W_ → Prop := fun r w' => ∃ rv, r = some (.inl rv) ∧ ∃ Γ', rRC C sil D qq ft s1 w' Γ' ∧ rVF w' Γ' v rv ∧ rNF w' Γ' u E1 row ∧ rPO n hb s s1 w Γ w' Γ' row
/-- an expression is run as E does -/
def rSK (C : C_) (sil : Bool) (n : Nat) (K : K_) : Prop := ∀ e E hb s v E1 s1, K sil e E hb s = some (v, E1, s1) → ∀ (D : Prop) (qq : Int) (ft : Nat) (u : Nat → Bool) (w : W_) (Γ : rG_) (x : Int) (row fr : Nat), rRC C sil D qq ft s w Γ → qq ≤ 395 → rEN w 0 (w.1 73 5) e (some none) x → (∀ m, m < 10 → e_nm e m = true → u m = true) → rNF w Γ u E row → ((row : Int) < w.1 73 15 ∧ Γ.2.2.2 row = false) → 2 * n + 1010 ≤ fr → s_b s1 ≤ 90000 ∧ s_nt s1 ≤ 900000 → ww_Ct 207 fr [.inr (.inr (.inl 73)), .inl x, .inl (row : Int), .inl (if hb = true then 1 else 0)] w (rVO C sil D qq ft n hb u s s1 v E1 row w Γ)
section
variable {C : C_} {sil : Bool} {D : Prop} {qq : Int} {ft : Nat} {s s' s1 sA : S_} {w w' w1 : W_} {Γ Γ' Γ1 : rG_} {n n1 : Nat} {hb hb1 : Bool} {u : Nat → Bool} {v : T_} {E E1 : N_} {row : Nat} {R1 : Int}
theorem rVO_yP : yP (rVO C sil D qq ft n hb u s s1 v E1 row w Γ) := fun r w' h => by
  obtain ⟨y, q, _⟩ := h
  exact ⟨y, q⟩
theorem rVO_trans (h : rPO n1 hb1 s sA w Γ w1 Γ1 R1) (hn : n1 ≤ n) (hb1' : hb = false → hb1 = false) (h1 : R1 = (row : Int) ∨ w.1 73 15 ≤ R1 ∨ R1 < 0) {r : Option am_V} {w' : W_} (g : rVO C sil D qq ft n hb u sA s1 v E1 row w1 Γ1 r w') : rVO C sil D qq ft n hb u s s1 v E1 row w Γ r w' := by
  obtain ⟨y, q, Γ', g1, g2, g3, g4⟩ := g
  exact ⟨y, q, Γ', g1, g2, g3, rPO_trans h g4 hn (Nat.le_refl _) hb1' (fun q => q) h1 (Or.inl rfl)⟩
theorem rVF_W : rVF w Γ vW 5 := ⟨vv_W, Or.inr (Or.inr (Or.inl ⟨rfl, rfl⟩))⟩
theorem rVF_0 : rVF w Γ v0 0 := ⟨vv_0, Or.inr (Or.inl ⟨rfl, rfl⟩)⟩
theorem rVF_N {x : Int} (h : -9999 ≤ x ∧ x ≤ 9999) : rVF w Γ (vN x) (8 * x + 1) := ⟨vv_N x, Or.inl ⟨x, rfl, rfl, h⟩⟩
/-- the row goes on being one that is told -/
theorem rOW (P : rPO n hb s s1 w Γ w1 Γ1 (row : Int)) (h : (row : Int) < w.1 73 15 ∧ Γ.2.2.2 row = false) : (row : Int) < w1.1 73 15 ∧ Γ1.2.2.2 row = false := by
  have m := P.1.1.1.2.1
  exact ⟨by omega, by rw [P.1.2.1.2 row h.1]; exact h.2⟩
theorem rNF_go (h : rNF w Γ u E row) (e1 : ∀ j, j = 17 ∨ j = 21 ∨ j = 26 → w1.1 73 j = w.1 73 j) (e2 : w1.2 84 = w.2 84) : rNF w1 Γ u E row := by
  intro m hm hu
  obtain ⟨q1, q2⟩ := h m hm hu
  rw [e2]
  refine ⟨q1, fun v hv => ?_⟩
  obtain ⟨z1, z2⟩ := q2 v hv
  refine ⟨z1, ?_⟩
  unfold rV0 at z2 ⊢
  rw [e1 17 (by omega), e1 21 (by omega), e1 26 (by omega)]
  exact z2
/-- WRONG, and a fault -/
theorem bad_P {c id : Nat} {x : Int} (H : rRC C sil D qq ft s w Γ) (N : rNF w Γ u E row) (hid : w.2 79 x.toNat = ((id / 60 : Nat) : Int) ∧ w.2 80 x.toNat = ((id % 60 : Nat) : Int)) (hn : s_nt (f_note C (f_code c id) s) ≤ 900000) : rVO C sil D qq ft n hb u s (f_note C (f_code c id) s) vW E row w Γ (some (.inl 5)) (r_nt w (c : Int) (w.2 79 x.toNat) (w.2 80 x.toNat)) := by
  have hn' : s_nt s + 1 ≤ 900000 := hn
  have hz : f_code c id = 100000 * (c : Int) + (10000 * w.2 79 x.toNat + 100 * w.2 80 x.toNat) := by
    unfold f_code
    rw [f_spot_e, hid.1, hid.2]
  obtain ⟨H1, P1⟩ := rRC_note (n := n) (hb := hb) (R := (row : Int)) H hz (by omega)
  exact ⟨5, rfl, Γ, H1, rVF_W, rNF_go N (fun j q => r_nt_1 _ _ _ _ (by omega)) (r_nt_2 _ _ _ _ (by decide)), P1⟩
/-- a question is asked -/
theorem rRC_as {a q : Nat} (H : rRC C sil D qq ft s w Γ) (ha : w.1 73 46 = (a : Int)) (ha2 : a < 35184372088832) (hD : D → ∀ q, q < 45 → a.testBit q = s_as s q) (hq : q < 45) (hs : (C.1 q).isSome = true) : rRC C sil D qq ft (u_as s fun p => p == q || s_as s p) (w_f w 73 46 ((a ||| 2 ^ q : Nat) : Int)) Γ ∧ rPO n hb s (u_as s fun p => p == q || s_as s p) w Γ (w_f w 73 46 ((a ||| 2 ^ q : Nat) : Int)) Γ (row : Int) := by
  have N : ∀ b j, ¬ (b = 73 ∧ j = 46) → (w_f w 73 46 ((a ||| 2 ^ q : Nat) : Int)).1 b j = w.1 b j := fun b j z => w_f_ne _ _ _ _ _ _ z
  have H0 := H
  obtain ⟨a1, ⟨a2, a2'⟩, a3, ⟨b1, b2, b3, b4⟩, -, -, -, ⟨⟨-, -, c3⟩, -⟩, -⟩ := H
  refine ⟨rRC_c H0 (rFR_w (s := s) a2 (N _ _ (by omega)) (N _ _ (by omega)) rfl) a2' ?_ ⟨?_, ?_, ⟨a ||| 2 ^ q, ?_, ?_, fun d p hp => ?_⟩, fun d => ⟨?_, ?_, fun p hp => ?_⟩⟩ (fun j q => N 73 j (by omega)) (fun b _ => rfl) ⟨rfl, rfl, rfl, rfl⟩ ⟨Nat.le_refl _, c3, Nat.le_refl _⟩ ?_, rPO_c (fun a j q => N a j (by omega)) (fun _ _ => rfl) ⟨by rw [N 73 40 (by omega)]; exact Int.le_refl _, Nat.le_refl _, ⟨fun _ => N 73 40 (by omega), fun _ => rfl⟩⟩ ⟨by rw [N 73 45 (by omega)]; omega, Nat.le_refl _⟩⟩
  · unfold rS1 at a3 ⊢
    rw [N 73 39 (by omega), N 73 43 (by omega), N 73 15 (by omega), N 73 80 (by omega), N 73 81 (by omega), N 73 79 (by omega)]
    exact a3
  · rw [N 73 45 (by omega)]; exact b1
  · rw [N 73 44 (by omega)]; exact b2
  · rw [w_f1, w_u_at, if_pos ⟨rfl, rfl⟩]
  · have h : 2 ^ q < 2 ^ 45 := Nat.pow_lt_pow_right (by decide) hq
    have h45 : 2 ^ 45 = 35184372088832 := by decide
    have := Nat.or_lt_two_pow (n := 45) (by rw [h45]; exact ha2) h
    rw [h45] at this
    exact this
  · show (a ||| 2 ^ q).testBit p = (p == q || s_as s p)
    rw [Nat.testBit_or, Nat.testBit_two_pow, hD d p hp, Bool.or_comm]
    congr 1
    by_cases z : q = p
    · rw [decide_eq_true z, z]; simp
    · rw [decide_eq_false z]; symm; rw [beq_eq_false_iff_ne]; exact fun y => z y.symm
  · rw [N 73 45 (by omega)]; exact (b4 d).1
  · rw [N 73 44 (by omega)]; exact (b4 d).2.1
  · have hp : (p == q || s_as s p) = true := hp
    rw [Bool.or_eq_true, beq_iff_eq] at hp
    rcases hp with z | z
    · rw [z]; exact ⟨hq, hs⟩
    · exact (b4 d).2.2 p z
  · show qq = qq - 3 * (((s_tb s : Nat) : Int) - ((s_tb s : Nat) : Int)); omega
end
