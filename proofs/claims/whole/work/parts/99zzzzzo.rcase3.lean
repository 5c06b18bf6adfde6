/-! ===== IF, what has one part ===== -/
section
variable {C : C_} {sil : Bool} {D : Prop} {qq : Int} {ft : Nat} {s s1 s2 : S_} {w w2 : W_} {Γ Γ2 : rG_} {n n1 fr fr1 L id : Nat} {hb hb1 : Bool} {u : Nat → Bool} {v v1 a b c e t : T_} {E E1 E2 : N_} {row : Nat} {x y nn : Int} {r1 r2 r4 : K_} {R : Int}
theorem rIN_kid (I : rIN C sil D qq ft n u s e E w Γ x row fr) (hE : rEN w 0 (w.1 73 5) t (some none) y) (hu : ∀ m, e_nm t m = true → e_nm e m = true) (hf : 2 * n1 + 1010 ≤ fr1) : rIN C sil D qq ft n1 u s t E w Γ y row fr1 := ⟨I.1, I.2.1, hE, fun m hm q => I.2.2.2.1 m hm (hu m q), I.2.2.2.2.1, I.2.2.2.2.2.1, hf⟩
theorem rIN_next (I : rIN C sil D qq ft n u s e E w Γ x row fr) (g1 : rRC C sil D qq ft s2 w2 Γ2) (P : rPO n1 hb1 s s2 w Γ w2 Γ2 (row : Int)) (N : rNF w2 Γ2 u E2 row) : rIN C sil D qq ft n u s2 e E2 w2 Γ2 x row fr := ⟨g1, I.2.1, rEN_X P.1 I.2.2.1, I.2.2.2.1, N, rOW P I.2.2.2.2.2.1, I.2.2.2.2.2.2⟩
theorem rIN_lt (I : rIN C sil D qq ft n u s e E w Γ x row fr) : s_lt s ≤ s_b s := I.1.2.2.1.1.2.2.2
theorem nm_a {k m : Nat} (h : e_nm a m = true) : e_nm (ce k nn id a b c) m = true := by rw [e_nm_ce, h]; simp
theorem nm_b {k m : Nat} (h : e_nm b m = true) : e_nm (ce k nn id a b c) m = true := by rw [e_nm_ce, h]; simp
theorem nm_c {k m : Nat} (h : e_nm c m = true) : e_nm (ce k nn id a b c) m = true := by rw [e_nm_ce, h]; simp
/-- a first part is run, then what stands at 195 -/
theorem run_kid {k : Nat} (I : rIN C sil D qq ft n u s (ce k nn id a b c) E w Γ x row fr) (hn : n1 + 1 ≤ n) (h1 : rSK C sil n1 r1) (tb : s_tb s < 2000) (hb1 : s_b s + 1 ≤ 90000) (hK : (9 ≤ k ∧ k ≤ 14) ∨ k = 17 ∨ k = 20 ∨ k = 21 ∨ k = 28 ∨ k = 30 ∨ k = 31) (hr : r1 sil a E hb (u_go s) = some (v1, E2, s2)) (hs2 : s_b s2 ≤ 90000 ∧ s_nt s2 ≤ 900000) {P : Option am_V → W_ → Prop} (L : ∀ rv w2 Γ2, rIN C sil D (qq - 3) ft n u s2 (ce k nn id a b c) E2 w2 Γ2 x row fr → rVF w2 Γ2 v1 rv → rPO n hb s s2 w Γ w2 Γ2 (row : Int) → w2.1 73 21 + 1 + ((s_tb s : Nat) : Int) ≤ w.1 73 21 + ((s_tb s2 : Nat) : Int) → zr207 fr P 195 x (row : Int) (if hb = true then 1 else 0) (.inl (k : Int)) (.inl rv) w2) : ww_Ct 207 fr [.inr (.inr (.inl 73)), .inl x, .inl (row : Int), .inl (if hb = true then 1 else 0)] w P := by
  have p1 : 1 ≤ j_par k ∧ k ≠ 15 := by
    rcases hK with ⟨q1, q2⟩ | rfl | rfl | rfl | rfl | rfl | rfl
    · have : k = 9 ∨ k = 10 ∨ k = 11 ∨ k = 12 ∨ k = 13 ∨ k = 14 := by omega
      rcases this with rfl | rfl | rfl | rfl | rfl | rfl <;> decide
    all_goals decide
  have hfr := I.2.2.2.2.2.2
  have Xx := (rIN_x I).1
  have Xk := (rIN_x I).2.1.1
  obtain ⟨I1, P1⟩ := rIN_go (hb := hb) I tb hb1
  have ea := (rIN_x I1).2.2.2.2.1 p1.1
  rw [if_neg p1.2] at ea
  refine run_G (k := k) (R := fun y w' => rVO C sil D (qq - 3) ft n1 hb u (u_go s) s2 v1 E2 row (r_b1 w) Γ (some (.inl y)) w') (by clear hK; omega) (by clear hK; omega) Xk hK ((rSK_to h1 hr (rIN_kid (n1 := n1) (fr1 := fr - 1) I1 ea (fun m q => nm_a q) (by clear hK; omega)) hs2).mono (yP_m rVO_yP)) ?_
  rintro rv w2 ⟨y, q, Γ2, g1, g2, g3, g4⟩
  cases q
  refine L rv w2 Γ2 (rIN_next I1 g1 g4 g3) g2 (rPO_trans P1 g4 (Nat.le_refl _) (by clear hK; omega) (fun q => q) (fun q => q) (Or.inl rfl) (Or.inl rfl)) ?_
  have z := g4.2.2.2.2.2.2
  have e21 : (r_b1 w).1 73 21 = w.1 73 21 := w_f_ne _ _ _ _ _ _ (by decide)
  have etb : s_tb (u_go s) = s_tb s + 1 := rfl
  rw [e21, etb] at z
  clear hK
  omega
/-- WRONG stays WRONG -/
theorem rVO_W (I : rIN C sil D (qq - 3) ft n u s2 e E2 w2 Γ2 x row fr) (hq : qq ≤ 395) (P : rPO n hb s s2 w Γ w2 Γ2 (row : Int)) : rVO C sil D qq ft n hb u s s2 vW E2 row w Γ (some (.inl 5)) w2 := ⟨5, rfl, Γ2, rRC_qq I.1 (by omega) (by omega), rVF_W, I.2.2.2.2.1, P⟩
/-- .. and what is of another kind -/
theorem rVO_bad {k m : Nat} (I : rIN C sil D (qq - 3) ft n u s2 (ce k nn id a b c) E2 w2 Γ2 x row fr) (hq : qq ≤ 395) (P : rPO n hb s s2 w Γ w2 Γ2 (row : Int)) (hn : s_nt (f_note C (f_code m id) s2) ≤ 900000) : rVO C sil D qq ft n hb u s (f_note C (f_code m id) s2) vW E2 row w Γ (some (.inl 5)) (r_nt w2 (m : Int) (w2.2 79 x.toNat) (w2.2 80 x.toNat)) := by
  have X := rIN_x I
  obtain ⟨y, z1, Γ', g1, g2⟩ := rVO_trans P (Nat.le_refl _) (fun q => q) (Or.inl rfl) (bad_P (n := n) (hb := hb) (c := m) I.1 I.2.2.2.2.1 ⟨X.2.1.2.2.1, X.2.1.2.2.2⟩ hn)
  exact ⟨y, z1, Γ', rRC_qq g1 (by omega) (by omega), g2⟩
/-- IF -/
theorem rn_14 (I : rIN C sil D qq ft n u s (ce 14 nn id a b c) E w Γ x row fr) (hn : n1 + 1 ≤ n) (h1 : rSK C sil n1 r1) (M1 : eMK r1) (h : ev1 L C r1 r2 r4 sil (ce 14 nn id a b c) E hb s = some (v, E1, s1)) (hs : s_b s1 ≤ 90000 ∧ s_nt s1 ≤ 900000) : ww_Ct 207 fr [.inr (.inr (.inl 73)), .inl x, .inl (row : Int), .inl (if hb = true then 1 else 0)] w (rVO C sil D qq ft n hb u s s1 v E1 row w Γ) := by
  rw [ev1_14] at h
  split at h
  · rename_i tb
    cases hr : r1 sil a E hb (u_go s) with
    | none => rw [hr] at h; cases h
    | some z =>
      obtain ⟨v1, E2, s2⟩ := z
      rw [hr] at h
      dsimp only at h
      have hq := I.2.1
      have hfr := I.2.2.2.2.2.2
      have lt : s_lt (u_go s) ≤ s_b (u_go s) := by have := rIN_lt I; show s_lt s ≤ s_b s + 1; omega
      have m1 := M1 _ _ _ _ _ _ _ _ hr lt
      have hs2 : s_b s2 ≤ 90000 ∧ s_nt s2 ≤ 900000 := by
        by_cases w1 : v_isW v1 = true
        · rw [if_pos w1] at h; cases h; exact hs
        · rw [if_neg w1] at h
          cases hv : v_num v1 with
          | none =>
            rw [hv] at h
            unfold o_bad at h
            cases h
            exact ⟨hs.1, by have h2 : s_nt s2 + 1 ≤ 900000 := hs.2; omega⟩
          | some z =>
            rw [hv] at h
            have m2 := M1 _ _ _ _ _ _ _ _ h m1.2.2.2.2.1
            exact ⟨Nat.le_trans m2.1 hs.1, Nat.le_trans m2.2.1 hs.2⟩
      have hb1 : s_b s + 1 ≤ 90000 := Nat.le_trans m1.1 hs2.1
      refine run_kid I hn h1 tb hb1 (by omega) hr hs2 (fun rv w2 Γ2 I2 V P _ => ?_)
      have B := rRC_bd I2.1
      have Xx := (rIN_x I2).1
      have Xb := (rIN_x I2).2.2.2.2.2.1 (by decide)
      have Xc := (rIN_x I2).2.2.2.2.2.2.1 (by decide)
      obtain ⟨rg, T⟩ := rVt V B.1
      rcases T with ⟨e1, e2⟩ | ⟨z, e1, e2, e3, e4⟩ | ⟨e1, e2, e3, e4⟩
      · subst e1
        cases h
        exact lk_207i5 (by omega) (by omega) rg e2 (by omega) (rVO_W I2 hq P)
      · subst e1
        have h : r1 sil (if z = 0 then c else b) E2 hb s2 = some (v, E1, s1) := h
        have G : ∀ w' r, rVO C sil D (qq - 3) ft n1 hb u s2 s1 v E1 row w2 Γ2 r w' → rVO C sil D qq ft n hb u s s1 v E1 row w Γ r w' := fun w' r g => by
          obtain ⟨y, q, Γ', g1, g2, g3, g4⟩ := g
          exact ⟨y, q, Γ', rRC_qq g1 (by omega) (by omega), g2, g3, rPO_trans P g4 (Nat.le_refl _) (by omega) (fun q => q) (fun q => q) (Or.inl rfl) (Or.inl rfl)⟩
        by_cases z0 : z = 0
        · rw [if_pos z0] at h
          refine lk_207i2 (R := fun y w' => rVO C sil D (qq - 3) ft n1 hb u s2 s1 v E1 row w2 Γ2 (some (.inl y)) w') (by omega) (by omega) rg e2 e3 e4 z0 ?_ (fun y w' g => G _ _ g)
          exact (rSK_to h1 h (rIN_kid (n1 := n1) (fr1 := fr - 1) I2 Xc (fun m q => nm_c q) (by omega)) hs).mono (yP_m rVO_yP)
        · rw [if_neg z0] at h
          refine lk_207i1 (R := fun y w' => rVO C sil D (qq - 3) ft n1 hb u s2 s1 v E1 row w2 Γ2 (some (.inl y)) w') (by omega) (by omega) rg e2 e3 e4 z0 ?_ (fun y w' g => G _ _ g)
          exact (rSK_to h1 h (rIN_kid (n1 := n1) (fr1 := fr - 1) I2 Xb (fun m q => nm_b q) (by omega)) hs).mono (yP_m rVO_yP)
      · rw [if_neg (by rw [e1]; decide), e2] at h
        unfold o_bad at h
        cases h
        exact lk_207i0 (by omega) (by omega) rg rfl ⟨e3, e4⟩ (by omega) (rVO_bad I2 hq P hs.2)
  · cases h
/-- what o_one leaves of the counts -/
theorem oo_le {k : Nat} (hk : (k = 18 ∨ k = 19) → hb = true) (h : o_one L C k nn id a v1 e E2 s2 = some (v, E1, s1)) (hl : s_lt s2 ≤ s_b s2) (hs : s_b s1 ≤ 90000 ∧ s_nt s1 ≤ 900000) : s_b s2 ≤ 90000 ∧ s_nt s2 ≤ 900000 := by
  have m := o_one_M hk h hl
  exact ⟨Nat.le_trans m.1 hs.1, Nat.le_trans m.2.1 hs.2⟩
/-- a first part is run, then runParts -/
theorem run_one {k : Nat} (I : rIN C sil D qq ft n u s (ce k nn id a b c) E w Γ x row fr) (hn : n1 + 1 ≤ n) (h1 : rSK C sil n1 r1) (M1 : eMK r1) (hK : k = 20 ∨ k = 21 ∨ k = 28 ∨ k = 31) (h : ev1 L C r1 r2 r4 sil (ce k nn id a b c) E hb s = some (v, E1, s1)) (hs : s_b s1 ≤ 90000 ∧ s_nt s1 ≤ 900000) (Lk : ∀ v1 E2 s2 rv w2 Γ2, o_one L C k nn id a v1 (ce k nn id a b c) E2 s2 = some (v, E1, s1) → rIN C sil D (qq - 3) ft n u s2 (ce k nn id a b c) E2 w2 Γ2 x row fr → rVF w2 Γ2 v1 rv → rPO n hb s s2 w Γ w2 Γ2 (row : Int) → ww_Ct 208 (fr - 1) [.inr (.inr (.inl 73)), .inl x, .inl rv, .inl (row : Int), .inl (if hb = true then 1 else 0)] w2 (rVO C sil D qq ft n hb u s s1 v E1 row w Γ)) : ww_Ct 207 fr [.inr (.inr (.inl 73)), .inl x, .inl (row : Int), .inl (if hb = true then 1 else 0)] w (rVO C sil D qq ft n hb u s s1 v E1 row w Γ) := by
  rw [ev1_one (by omega)] at h
  split at h
  · rename_i tb
    cases hr : r1 sil a E hb (u_go s) with
    | none => rw [hr] at h; cases h
    | some z =>
      obtain ⟨v1, E2, s2⟩ := z
      rw [hr] at h
      have h : o_one L C k nn id a v1 (ce k nn id a b c) E2 s2 = some (v, E1, s1) := h
      have hfr := I.2.2.2.2.2.2
      have lt : s_lt (u_go s) ≤ s_b (u_go s) := by have := rIN_lt I; show s_lt s ≤ s_b s + 1; omega
      have m1 := M1 _ _ _ _ _ _ _ _ hr lt
      have hs2 := oo_le (hb := hb) (fun q => by omega) h m1.2.2.2.2.1 hs
      have hb1 : s_b s + 1 ≤ 90000 := Nat.le_trans m1.1 hs2.1
      have hK7 : (9 ≤ k ∧ k ≤ 14) ∨ k = 17 ∨ k = 20 ∨ k = 21 ∨ k = 28 ∨ k = 30 ∨ k = 31 := by omega
      have k64 : (0 ≤ (k : Int) ∧ (k : Int) < 64) ∧ (k : Int) ≠ 14 ∧ (k : Int) ≠ 17 := by omega
      refine run_kid I hn h1 tb hb1 hK7 hr hs2 (fun rv w2 Γ2 I2 V P _ => ?_)
      refine lk_207p (R := fun y w' => rVO C sil D qq ft n hb u s s1 v E1 row w Γ (some (.inl y)) w') k64.1 (by clear hK hK7; omega) k64.2 ?_ (fun y w' g => g)
      exact (Lk v1 E2 s2 rv w2 Γ2 h I2 V P).mono (yP_m rVO_yP)
  · cases h
/-- a value that is a leaf's content -/
theorem rVF_C {k : Nat} {z : T_} (hk : (1 ≤ k ∧ k ≤ 7) ∨ k = 9) (hv : vv (.tag k z)) (h : rCC w Γ y [.tag k z]) : rVF w Γ (.tag k z) (8 * y + 2) := by
  have h1 := h.1
  refine ⟨hv, Or.inr (Or.inr (Or.inr (Or.inr (Or.inr ⟨y.toNat, ?_, by omega, by omega, ?_⟩))))⟩
  · unfold v_isC
    split
    · rename_i q; cases q
    · rename_i q; cases q; exact decide_eq_true (by omega)
    · rename_i q1 q2; exact (q2 _ _ rfl).elim
  · rw [h.2, rFL_tag (by omega)]
/-- STEP -/
theorem rn_21 (I : rIN C sil D qq ft n u s (ce 21 nn id a b c) E w Γ x row fr) (hn : n1 + 1 ≤ n) (h1 : rSK C sil n1 r1) (M1 : eMK r1) (h : ev1 L C r1 r2 r4 sil (ce 21 nn id a b c) E hb s = some (v, E1, s1)) (hs : s_b s1 ≤ 90000 ∧ s_nt s1 ≤ 900000) : ww_Ct 207 fr [.inr (.inr (.inl 73)), .inl x, .inl (row : Int), .inl (if hb = true then 1 else 0)] w (rVO C sil D qq ft n hb u s s1 v E1 row w Γ) := by
  refine run_one I hn h1 M1 (by omega) h hs (fun v1 E2 s2 rv w2 Γ2 h I2 V P => ?_)
  have B := rRC_bd I2.1
  have X := rIN_x I2
  have hq := I.2.1
  have hfr := I.2.2.2.2.2.2
  obtain ⟨rg, T⟩ := rVt V B.1
  rw [o_one_21] at h
  refine lk_208b (k := 21) (by omega) (by omega) X.2.1.1 rfl (by omega) (by omega) (lk_208_98s ?_)
  rcases T with ⟨e1, e2⟩ | ⟨z, e1, e2, e3, e4⟩ | ⟨e1, e2, e3, e4⟩
  · subst e1
    cases h
    exact lk_208_105_5 (by omega) rg e2 (rVO_W I2 hq P)
  · subst e1
    cases h
    have T6 : rLf (.tag 6 (.tag (nn % 3).toNat (.nest z .nil))) := ⟨6, _, rfl, by omega⟩
    refine lk_208_105 (R := fun y w' => (0 ≤ y ∧ y < 8192) ∧ rVO C sil D qq ft n hb u s (u_nd s2 1) (.tag 6 (.tag (nn % 3).toNat (.nest z .nil))) E1 row w Γ (some (.inl (8 * y + 2))) w') (by omega) (by omega) rg e2 e3 X.2.1.2.1 X.2.2.1.2 ?_ (fun _ _ g => g.1) (fun _ _ g => g.2)
    refine (lk_newE (n := n) (hb := hb) (R := -1) (t := .tag 6 (.tag (nn % 3).toNat (.nest z .nil))) (y := fun _ => 0) I2.1 (by omega) (by omega) T6 rfl (by decide) (fun _ _ => rfl) (fun v _ _ _ s _ _ => lk_189_x (by omega) (by omega) (by omega)) (fun m w' Γ' em X' G2 f1 f2 f3 f4 => ?_)).mono ?_
    · unfold rLF
      have := X.2.2.1.2
      exact ⟨f1, by rw [f2]; omega, f3, by omega, e4⟩
    · rintro r w' ⟨y, rfl, yr, Γ', g1, g2, g3, -⟩
      exact ⟨y, rfl, yr, _, rfl, Γ', rRC_nd (rRC_qq g1 (by omega) (by omega)), rVF_C (by omega) (vv_leaf (by omega) (fun s _ => Nat.zero_le _) (vK_lf (by omega))) g2, rNF_mono g3.1 I2.2.2.2.2.2.1.1 (by omega) I2.2.2.2.2.1, rPO_nd (rPO_trans P g3 (Nat.le_refl _) (Nat.le_refl _) (fun q => q) (fun q => q) (Or.inl rfl) (by omega))⟩
  · rw [if_neg (by rw [e1]; decide), e2] at h
    unfold o_bad at h
    cases h
    exact lk_208_105_0 (by omega) (by omega) rg rfl ⟨e3, e4⟩ (by omega) (rVO_bad I2 hq P hs.2)
/-- PICK -/
theorem rn_31 (I : rIN C sil D qq ft n u s (ce 31 nn id a b c) E w Γ x row fr) (hn : n1 + 1 ≤ n) (h1 : rSK C sil n1 r1) (M1 : eMK r1) (h : ev1 L C r1 r2 r4 sil (ce 31 nn id a b c) E hb s = some (v, E1, s1)) (hs : s_b s1 ≤ 90000 ∧ s_nt s1 ≤ 900000) : ww_Ct 207 fr [.inr (.inr (.inl 73)), .inl x, .inl (row : Int), .inl (if hb = true then 1 else 0)] w (rVO C sil D qq ft n hb u s s1 v E1 row w Γ) := by
  refine run_one I hn h1 M1 (by omega) h hs (fun v1 E2 s2 rv w2 Γ2 h I2 V P => ?_)
  have B := rRC_bd I2.1
  have X := rIN_x I2
  have hq := I.2.1
  have hfr := I.2.2.2.2.2.2
  have nr := X.2.2.1.2
  obtain ⟨rg, T⟩ := rVt V B.1
  have bd := B.1.2.1
  refine lk_208b (k := 31) (by omega) (by omega) X.2.1.1 rfl (by omega) (by omega) (lk_208_98n (by omega) (by omega) (lk_208_159s ?_))
  rcases rVt4 V B.1 I2.1.1 with ⟨y, z, p, q1, q2, q3, q4, q5, q6⟩ | ⟨q1, q2⟩
  · rw [q1, pk_13 (by decide)] at h
    cases h
    have ep : ((p : Int)).toNat = p := by omega
    have G : ∀ r, rVF w2 Γ2 (if nn % 2 = 0 then y else z) r → rVO C sil D qq ft n hb u s s1 (if nn % 2 = 0 then y else z) E1 row w Γ (some (.inl r)) w2 := fun r g => ⟨r, rfl, Γ2, rRC_qq I2.1 (by omega) (by omega), g, I2.2.2.2.2.1, P⟩
    by_cases c0 : nn % 2 = 0
    · refine lk_208_166a (by omega) (by omega) rg q2 q3 (by omega) X.2.1.2.1 nr c0 (G _ ?_)
      rw [if_pos c0, ep]; exact q5
    · refine lk_208_166b (by omega) (by omega) rg q2 q3 (by omega) X.2.1.2.1 nr (by omega) (G _ ?_)
      rw [if_neg c0, ep]; exact q6
  · have K : o_one L C 31 nn id a v1 (ce 31 nn id a b c) E2 s2 = if v_isW v1 = true then some (vW, E2, s2) else o_bad C 3 id E2 s2 := by
      rcases pk_or v1 with ⟨y, z, e⟩ | k
      · exact absurd e (q1 y z)
      · exact k L C 31 nn id a _ E2 s2 (by decide)
    rw [K] at h
    by_cases w1 : v_isW v1 = true
    · rw [if_pos w1] at h
      cases h
      rcases T with ⟨e1, e2⟩ | ⟨z, e1, e2, e3, e4⟩ | ⟨e1, e2, e3, e4⟩
      · exact lk_208_166_5 (by omega) rg e2 (rVO_W I2 hq P)
      · rw [e1] at w1; cases w1
      · rw [e1] at w1; cases w1
    · rw [if_neg w1] at h
      unfold o_bad at h
      cases h
      refine lk_208_166_0 (by omega) (by omega) rg rfl ⟨fun q => w1 ?_, q2⟩ (by omega) (rVO_bad I2 hq P hs.2)
      rcases T with ⟨e1, e2⟩ | ⟨z, e1, e2, e3, e4⟩ | ⟨e1, e2, e3, e4⟩
      · rw [e1]; rfl
      · omega
      · exact absurd q e3
end
