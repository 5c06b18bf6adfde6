/-! ===== what is simple, kind by kind ===== -/
/-- where an expression may be run -/
def rIN (C : C_) (sil : Bool) (D : Prop) (qq : Int) (ft n : Nat) (u : Nat → Bool) (s : S_) (e : T_) (E : N_) (w : W_) (Γ : rG_) (x : Int) (row fr : Nat) : Prop := rRC C sil D qq ft s w Γ ∧ qq ≤ 395 ∧ rEN w 0 (w.1 73 5) e (some none) x ∧ (∀ m, m < 10 → e_nm e m = true → u m = true) ∧ rNF w Γ u E row ∧ ((row : Int) < w.1 73 15 ∧ Γ.2.2.2 row = false) ∧ 2 * n + 1010 ≤ fr
theorem rSK_of {C : C_} {sil : Bool} {n : Nat} {K : K_} (h : ∀ e E hb s v E1 s1, K sil e E hb s = some (v, E1, s1) → ∀ (D : Prop) (qq : Int) (ft : Nat) (u : Nat → Bool) (w : W_) (Γ : rG_) (x : Int) (row fr : Nat), rIN C sil D qq ft n u s e E w Γ x row fr → s_b s1 ≤ 90000 ∧ s_nt s1 ≤ 900000 → ww_Ct 207 fr [.inr (.inr (.inl 73)), .inl x, .inl (row : Int), .inl (if hb = true then 1 else 0)] w (rVO C sil D qq ft n hb u s s1 v E1 row w Γ)) : rSK C sil n K := fun e E hb s v E1 s1 hK D qq ft u w Γ x row fr h1 h2 h3 h4 h5 h6 h7 h8 => h e E hb s v E1 s1 hK D qq ft u w Γ x row fr ⟨h1, h2, h3, h4, h5, h6, h7⟩ h8
theorem rSK_to {C : C_} {sil : Bool} {n : Nat} {K : K_} (h : rSK C sil n K) {e : T_} {E : N_} {hb : Bool} {s : S_} {v : T_} {E1 : N_} {s1 : S_} (hK : K sil e E hb s = some (v, E1, s1)) {D : Prop} {qq : Int} {ft : Nat} {u : Nat → Bool} {w : W_} {Γ : rG_} {x : Int} {row fr : Nat} (I : rIN C sil D qq ft n u s e E w Γ x row fr) (hs : s_b s1 ≤ 90000 ∧ s_nt s1 ≤ 900000) : ww_Ct 207 fr [.inr (.inr (.inl 73)), .inl x, .inl (row : Int), .inl (if hb = true then 1 else 0)] w (rVO C sil D qq ft n hb u s s1 v E1 row w Γ) := h e E hb s v E1 s1 hK D qq ft u w Γ x row fr I.1 I.2.1 I.2.2.1 I.2.2.2.1 I.2.2.2.2.1 I.2.2.2.2.2.1 I.2.2.2.2.2.2 hs
section
variable {C : C_} {sil : Bool} {D : Prop} {qq : Int} {ft : Nat} {s s1 : S_} {w : W_} {Γ : rG_} {n fr L id : Nat} {hb : Bool} {u : Nat → Bool} {v a b c : T_} {E E1 : N_} {row : Nat} {x nn : Int} {r1 r2 r4 : K_}
/-- a broken one -/
theorem rn_br (I : rIN C sil D qq ft n u s .nil E w Γ x row fr) (h : some (vW, E, u_b s (s_b s + 1)) = some (v, E1, s1)) (hs : s_b s1 ≤ 90000 ∧ s_nt s1 ≤ 900000) : ww_Ct 207 fr [.inr (.inr (.inl 73)), .inl x, .inl (row : Int), .inl (if hb = true then 1 else 0)] w (rVO C sil D qq ft n hb u s s1 v E1 row w Γ) := by
  obtain ⟨H, hq, hE, hU, hN, hrow, hfr⟩ := I
  cases h
  have B := rRC_bd H
  have hE : (0 ≤ x ∧ x < w.1 73 5) ∧ w.2 77 x.toNat = 40 ∧ w.2 82 x.toNat = -1 := by
    unfold rEN at hE; exact hE
  have hs1 : s_b s + 1 ≤ 90000 := hs.1
  obtain ⟨H1, P1⟩ := rRC_br (n := n) (hb := hb) (R := (row : Int)) H (by omega)
  exact lk_207a (by omega) hE.2.1 ⟨5, rfl, Γ, H1, rVF_W, rNF_go hN (fun j q => w_f_ne _ _ _ _ _ _ (by omega)) rfl, P1⟩
/-- what is known of a node -/
theorem rIN_x {k : Nat} (I : rIN C sil D qq ft n u s (ce k nn id a b c) E w Γ x row fr) : (0 ≤ x ∧ x < 1024 ∧ x < w.1 73 5) ∧ (w.2 77 x.toNat = (k : Int) ∧ w.2 78 x.toNat = nn ∧ w.2 79 x.toNat = ((id / 60 : Nat) : Int) ∧ w.2 80 x.toNat = ((id % 60 : Nat) : Int)) ∧ ((6 ≤ k ∧ k ≤ 31) ∧ 0 ≤ nn ∧ nn < 100) ∧ (k = 8 → rEN w 0 (w.1 73 5) a none (w.2 82 x.toNat)) ∧ (1 ≤ j_par k → rEN w 0 (w.1 73 5) a (some (if k = 15 then some (nn % 10).toNat else none)) (w.2 81 (3 * x + 0).toNat)) ∧ (2 ≤ j_par k → rEN w 0 (w.1 73 5) b (some none) (w.2 81 (3 * x + 1).toNat)) ∧ (3 ≤ j_par k → rEN w 0 (w.1 73 5) c (some none) (w.2 81 (3 * x + 2).toNat)) ∧ (j_par k < 2 → b = .nil) ∧ (j_par k < 3 → c = .nil) := by
  obtain ⟨H, hq, hE, hU, hN, hrow, hfr⟩ := I
  have B := rRC_bd H
  rw [rEN_ce] at hE
  obtain ⟨⟨⟨xlo, xhi⟩, hk, hn, hf, hp⟩, kr, e8, e82, e1, e2, e3, ea, eb, ec⟩ := hE
  refine ⟨by omega, ⟨hk, hn, hf, hp⟩, kr, e8, ?_, ?_, ?_, fun q => eb q, ec⟩
  · rw [show (3 * x + 0).toNat = 3 * x.toNat by omega]; exact e1
  · rw [show (3 * x + 1).toNat = 3 * x.toNat + 1 by omega]; exact e2
  · rw [show (3 * x + 2).toNat = 3 * x.toNat + 2 by omega]; exact e3
theorem e_nm_ce (k : Nat) (m : Nat) : e_nm (ce k nn id a b c) m = ((k == 7 && (nn % 10).toNat == m) || e_nm a m || e_nm b m || e_nm c m) := rfl
/-- the world with one more begun -/
theorem rIN_go {e : T_} (I : rIN C sil D qq ft n u s e E w Γ x row fr) (ht : s_tb s < 2000) (hb1 : s_b s + 1 ≤ 90000) : rIN C sil D (qq - 3) ft n u (u_go s) e E (r_b1 w) Γ x row fr ∧ rPO n hb s (u_go s) w Γ (r_b1 w) Γ (row : Int) := by
  obtain ⟨H, hq, hE, hU, hN, hrow, hfr⟩ := I
  obtain ⟨H1, P1⟩ := rRC_go (n := n) (hb := hb) (R := (row : Int)) H ht (by omega)
  exact ⟨⟨H1, by omega, rEN_X P1.1 hE, hU, rNF_go hN (fun j q => w_f_ne _ _ _ _ _ _ (by omega)) rfl, rOW P1 hrow, hfr⟩, P1⟩
/-- NUMBER -/
theorem rn_6 (I : rIN C sil D qq ft n u s (ce 6 nn id a b c) E w Γ x row fr) (h : ev1 L C r1 r2 r4 sil (ce 6 nn id a b c) E hb s = some (v, E1, s1)) (hs : s_b s1 ≤ 90000 ∧ s_nt s1 ≤ 900000) : ww_Ct 207 fr [.inr (.inr (.inl 73)), .inl x, .inl (row : Int), .inl (if hb = true then 1 else 0)] w (rVO C sil D qq ft n hb u s s1 v E1 row w Γ) := by
  have X := rIN_x I
  have hfr := I.2.2.2.2.2.2
  rw [ev1_6] at h
  split at h
  · rename_i tb
    cases h
    obtain ⟨I1, P1⟩ := rIN_go (hb := hb) I tb hs.1
    refine run_S (k := 6) rVO_yP (by omega) (by omega) X.2.1.1 (by omega) (lk_203_6 (n := nn) (by omega) (by omega) X.2.1.1 X.2.1.2.1 X.2.2.1.2 ?_)
    have z := X.2.2.1.2
    have hq := I.2.1
    exact ⟨_, rfl, Γ, rRC_qq I1.1 (by omega) (by omega), rVF_N (by omega), I1.2.2.2.2.1, P1⟩
  · cases h
/-- NAME -/
theorem rn_7 (I : rIN C sil D qq ft n u s (ce 7 nn id a b c) E w Γ x row fr) (h : ev1 L C r1 r2 r4 sil (ce 7 nn id a b c) E hb s = some (v, E1, s1)) (hs : s_b s1 ≤ 90000 ∧ s_nt s1 ≤ 900000) : ww_Ct 207 fr [.inr (.inr (.inl 73)), .inl x, .inl (row : Int), .inl (if hb = true then 1 else 0)] w (rVO C sil D qq ft n hb u s s1 v E1 row w Γ) := by
  have X := rIN_x I
  have hfr := I.2.2.2.2.2.2
  have hq := I.2.1
  have nr := X.2.2.1.2
  rw [ev1_7] at h
  split at h
  · rename_i tb
    have hb1 : s_b s + 1 ≤ 90000 := by
      have q := hs.1
      unfold o_name at h
      split at h
      · cases h; exact q
      · unfold o_bad at h; cases h; exact q
    obtain ⟨I1, P1⟩ := rIN_go (hb := hb) I tb hb1
    have B := rRC_bd I1.1
    have hu : u (nn % 10).toNat = true := I.2.2.2.1 _ (by omega) (by rw [e_nm_ce]; simp)
    have N := I1.2.2.2.2.1 (nn % 10).toNat (by omega) hu
    have ei : (10 * (row : Int) + nn % 10).toNat = 10 * row + (nn % 10).toNat := by omega
    have hrow := I1.2.2.2.2.2.1
    refine run_S (k := 7) rVO_yP (by omega) (by omega) X.2.1.1 (by omega) ?_
    refine lk_203b (k := 7) (n := nn) (by omega) (by omega) X.2.1.1 X.2.1.2.1 (by omega) nr (by omega) ?_
    cases hv : E (nn % 10).toNat with
    | none =>
      rw [hv] at h
      unfold o_name o_bad at h
      cases h
      refine lk_203_7u (by omega) (by omega) (by omega) nr (by omega) (by rw [ei]; exact N.1 hv) ?_
      exact rVO_trans P1 (Nat.le_refl _) (fun q => q) (Or.inl rfl) (by
        obtain ⟨y, q, Γ', g1, g⟩ := bad_P (n := n) (hb := hb) (c := 4) I1.1 I1.2.2.2.2.1 ⟨X.2.1.2.2.1, X.2.1.2.2.2⟩ hs.2
        exact ⟨y, q, Γ', rRC_qq g1 (by omega) (by omega), g⟩)
    | some z =>
      rw [hv] at h
      unfold o_name at h
      cases h
      have V := N.2 _ hv
      have rg := rV0_c V.2 B.1
      refine lk_203_7v (y := (r_b1 w).2 84 (10 * row + (nn % 10).toNat)) (by omega) (by omega) (by omega) nr (by omega) (by rw [ei]) ⟨rg.1, ?_⟩ ?_
      · rcases rg.2 with ⟨x, _, e, _⟩ | ⟨_, e⟩ | ⟨_, e⟩ | ⟨f, _, _, e, _⟩ | ⟨p, _, _, e, e2, e3⟩ | ⟨c, _, e, e2, _⟩ <;> (intro z; omega)
      · exact ⟨_, rfl, Γ, rRC_qq I1.1 (by omega) (by omega), V, I1.2.2.2.2.1, P1⟩
  · cases h
/-- a question's answer -/
theorem ask_P {q : Nat} {y : Int} {fr : Nat} (H : rRC C sil D qq ft s w Γ) (N : rNF w Γ u E row) (hq : q < 45) (hC : C.1 q = some y) (hy : -9999 ≤ y ∧ y ≤ 9999) (hf : 1 ≤ fr) : ww_Ct 201 fr [.inr (.inr (.inl 73)), .inl (q : Int), .inl y] w (rVO C sil D qq ft n hb u s (u_as s fun p => p == q || s_as s p) (vN y) E row w Γ) := by
  obtain ⟨a, ha, ha2, hD⟩ := H.2.2.2.1.2.2.1
  obtain ⟨H1, P1⟩ := rRC_as (n := n) (hb := hb) (row := row) H ha ha2 hD hq (by rw [hC]; rfl)
  exact lk_201 hf ha (bz_ask a q ha2 hq) hq hy ⟨_, rfl, Γ, H1, rVF_N hy, rNF_go N (fun j q => w_f_ne _ _ _ _ _ _ (by omega)) rfl, P1⟩
theorem rn_24 (I : rIN C sil D qq ft n u s (ce 24 nn id a b c) E w Γ x row fr) (h : ev1 L C r1 r2 r4 sil (ce 24 nn id a b c) E hb s = some (v, E1, s1)) (hs : s_b s1 ≤ 90000 ∧ s_nt s1 ≤ 900000) : ww_Ct 207 fr [.inr (.inr (.inl 73)), .inl x, .inl (row : Int), .inl (if hb = true then 1 else 0)] w (rVO C sil D qq ft n hb u s s1 v E1 row w Γ) := by
  have X := rIN_x I
  have hfr := I.2.2.2.2.2.2
  have hq := I.2.1
  have nr := X.2.2.1.2
  rw [ev1_24] at h
  split at h
  · rename_i tb
    have Q : ∃ q : Nat, 3 * (nn / 3 % 10).toNat + (nn % 3).toNat = q ∧ q < 42 ∧ (q : Int) = 3 * (nn / 3 % 10) + nn % 3 := ⟨_, rfl, by omega, by omega⟩
    obtain ⟨q, q1, q2, q3⟩ := Q
    rw [q1] at h
    have A := I.1.2.2.2.2.1.2.2.1 q q2
    unfold o_ask at h
    rw [A.1] at h
    cases h
    obtain ⟨I1, P1⟩ := rIN_go (hb := hb) I tb hs.1
    refine run_S (k := 24) rVO_yP (by omega) (by omega) X.2.1.1 (by omega) ?_
    refine lk_203b (k := 24) (n := nn) (by omega) (by omega) X.2.1.1 X.2.1.2.1 (by omega) nr (by omega) (lk_203_28n (by omega) nr (by omega) (lk_203_70_24 nr ?_))
    rw [← q3]
    refine lk_203_125 (p1 := (q : Int)) (R := fun y w' => rVO C sil D qq ft n hb u s _ _ _ row w Γ (some (.inl y)) w') (by omega) nr (by omega) (by omega) (by omega) ?_ (fun y w' g => g)
    have eq : ((q : Int)).toNat = q := by omega
    rw [eq]
    refine (ask_P (n := n) (hb := hb) I1.1 I1.2.2.2.2.1 (by omega) A.1 A.2 (by omega)).mono (fun r w' g => yP_m rVO_yP _ _ ?_)
    obtain ⟨y, z1, Γ', g1, g2⟩ := rVO_trans P1 (Nat.le_refl _) (fun q => q) (Or.inl rfl) g
    exact ⟨y, z1, Γ', rRC_qq g1 (by omega) (by omega), g2⟩
  · cases h
theorem rn_25 (I : rIN C sil D qq ft n u s (ce 25 nn id a b c) E w Γ x row fr) (h : ev1 L C r1 r2 r4 sil (ce 25 nn id a b c) E hb s = some (v, E1, s1)) (hs : s_b s1 ≤ 90000 ∧ s_nt s1 ≤ 900000) : ww_Ct 207 fr [.inr (.inr (.inl 73)), .inl x, .inl (row : Int), .inl (if hb = true then 1 else 0)] w (rVO C sil D qq ft n hb u s s1 v E1 row w Γ) := by
  have X := rIN_x I
  have hfr := I.2.2.2.2.2.2
  have hq := I.2.1
  have nr := X.2.2.1.2
  rw [ev1_25] at h
  split at h
  · rename_i tb
    have Q : ∃ q : Nat, 30 + (nn % 10).toNat = q ∧ q < 42 ∧ (q : Int) = 30 + nn % 10 := ⟨_, rfl, by omega, by omega⟩
    obtain ⟨q, q1, q2, q3⟩ := Q
    rw [q1] at h
    have A := I.1.2.2.2.2.1.2.2.1 q q2
    unfold o_ask at h
    rw [A.1] at h
    cases h
    obtain ⟨I1, P1⟩ := rIN_go (hb := hb) I tb hs.1
    refine run_S (k := 25) rVO_yP (by omega) (by omega) X.2.1.1 (by omega) ?_
    refine lk_203b (k := 25) (n := nn) (by omega) (by omega) X.2.1.1 X.2.1.2.1 (by omega) nr (by omega) (lk_203_28n (by omega) nr (by omega) (lk_203_70_25 nr ?_))
    rw [← q3]
    refine lk_203_125 (p1 := (q : Int)) (R := fun y w' => rVO C sil D qq ft n hb u s _ _ _ row w Γ (some (.inl y)) w') (by omega) nr (by omega) (by omega) (by omega) ?_ (fun y w' g => g)
    have eq : ((q : Int)).toNat = q := by omega
    rw [eq]
    refine (ask_P (n := n) (hb := hb) I1.1 I1.2.2.2.2.1 (by omega) A.1 A.2 (by omega)).mono (fun r w' g => yP_m rVO_yP _ _ ?_)
    obtain ⟨y, z1, Γ', g1, g2⟩ := rVO_trans P1 (Nat.le_refl _) (fun q => q) (Or.inl rfl) g
    exact ⟨y, z1, Γ', rRC_qq g1 (by omega) (by omega), g2⟩
  · cases h
theorem rn_26 (I : rIN C sil D qq ft n u s (ce 26 nn id a b c) E w Γ x row fr) (h : ev1 L C r1 r2 r4 sil (ce 26 nn id a b c) E hb s = some (v, E1, s1)) (hs : s_b s1 ≤ 90000 ∧ s_nt s1 ≤ 900000) : ww_Ct 207 fr [.inr (.inr (.inl 73)), .inl x, .inl (row : Int), .inl (if hb = true then 1 else 0)] w (rVO C sil D qq ft n hb u s s1 v E1 row w Γ) := by
  have X := rIN_x I
  have hfr := I.2.2.2.2.2.2
  have hq := I.2.1
  have nr := X.2.2.1.2
  rw [ev1_26] at h
  split at h
  · rename_i tb
    have Q : ∃ q : Nat, 40 = q ∧ q < 42 ∧ (q : Int) = 40 := ⟨_, rfl, by omega, by omega⟩
    obtain ⟨q, q1, q2, q3⟩ := Q
    rw [q1] at h
    have A := I.1.2.2.2.2.1.2.2.1 q q2
    unfold o_ask at h
    rw [A.1] at h
    cases h
    obtain ⟨I1, P1⟩ := rIN_go (hb := hb) I tb hs.1
    refine run_S (k := 26) rVO_yP (by omega) (by omega) X.2.1.1 (by omega) ?_
    refine lk_203b (k := 26) (n := nn) (by omega) (by omega) X.2.1.1 X.2.1.2.1 (by omega) nr (by omega) (lk_203_28n (by omega) nr (by omega) (lk_203_70_26 nr ?_))
    rw [← q3]
    refine lk_203_125 (p1 := (q : Int)) (R := fun y w' => rVO C sil D qq ft n hb u s _ _ _ row w Γ (some (.inl y)) w') (by omega) nr (by omega) (by omega) (by omega) ?_ (fun y w' g => g)
    have eq : ((q : Int)).toNat = q := by omega
    rw [eq]
    refine (ask_P (n := n) (hb := hb) I1.1 I1.2.2.2.2.1 (by omega) A.1 A.2 (by omega)).mono (fun r w' g => yP_m rVO_yP _ _ ?_)
    obtain ⟨y, z1, Γ', g1, g2⟩ := rVO_trans P1 (Nat.le_refl _) (fun q => q) (Or.inl rfl) g
    exact ⟨y, z1, Γ', rRC_qq g1 (by omega) (by omega), g2⟩
  · cases h
theorem rn_27 (I : rIN C sil D qq ft n u s (ce 27 nn id a b c) E w Γ x row fr) (h : ev1 L C r1 r2 r4 sil (ce 27 nn id a b c) E hb s = some (v, E1, s1)) (hs : s_b s1 ≤ 90000 ∧ s_nt s1 ≤ 900000) : ww_Ct 207 fr [.inr (.inr (.inl 73)), .inl x, .inl (row : Int), .inl (if hb = true then 1 else 0)] w (rVO C sil D qq ft n hb u s s1 v E1 row w Γ) := by
  have X := rIN_x I
  have hfr := I.2.2.2.2.2.2
  have hq := I.2.1
  have nr := X.2.2.1.2
  rw [ev1_27] at h
  split at h
  · rename_i tb
    have Q : ∃ q : Nat, 41 = q ∧ q < 42 ∧ (q : Int) = 41 := ⟨_, rfl, by omega, by omega⟩
    obtain ⟨q, q1, q2, q3⟩ := Q
    rw [q1] at h
    have A := I.1.2.2.2.2.1.2.2.1 q q2
    unfold o_ask at h
    rw [A.1] at h
    cases h
    obtain ⟨I1, P1⟩ := rIN_go (hb := hb) I tb hs.1
    refine run_S (k := 27) rVO_yP (by omega) (by omega) X.2.1.1 (by omega) ?_
    refine lk_203b (k := 27) (n := nn) (by omega) (by omega) X.2.1.1 X.2.1.2.1 (by omega) nr (by omega) (lk_203_28n (by omega) nr (by omega) (lk_203_70_27 nr ?_))
    rw [← q3]
    refine lk_203_125 (p1 := (q : Int)) (R := fun y w' => rVO C sil D qq ft n hb u s _ _ _ row w Γ (some (.inl y)) w') (by omega) nr (by omega) (by omega) (by omega) ?_ (fun y w' g => g)
    have eq : ((q : Int)).toNat = q := by omega
    rw [eq]
    refine (ask_P (n := n) (hb := hb) I1.1 I1.2.2.2.2.1 (by omega) A.1 A.2 (by omega)).mono (fun r w' g => yP_m rVO_yP _ _ ?_)
    obtain ⟨y, z1, Γ', g1, g2⟩ := rVO_trans P1 (Nat.le_refl _) (fun q => q) (Or.inl rfl) g
    exact ⟨y, z1, Γ', rRC_qq g1 (by omega) (by omega), g2⟩
  · cases h
/-- NOW -/
theorem rn_23 (I : rIN C sil D qq ft n u s (ce 23 nn id a b c) E w Γ x row fr) (h : ev1 L C r1 r2 r4 sil (ce 23 nn id a b c) E hb s = some (v, E1, s1)) (hs : s_b s1 ≤ 90000 ∧ s_nt s1 ≤ 900000) : ww_Ct 207 fr [.inr (.inr (.inl 73)), .inl x, .inl (row : Int), .inl (if hb = true then 1 else 0)] w (rVO C sil D qq ft n hb u s s1 v E1 row w Γ) := by
  have X := rIN_x I
  have hfr := I.2.2.2.2.2.2
  have hq := I.2.1
  have nr := X.2.2.1.2
  rw [ev1_23] at h
  split at h
  · rename_i tb
    have hb1 : s_b s + 1 ≤ 90000 := by
      have q := hs.1
      unfold o_ask at h
      split at h
      · cases h; exact q
      · unfold o_bad at h; cases h; exact q
    obtain ⟨I1, P1⟩ := rIN_go (hb := hb) I tb hb1
    have B := rRC_bd I1.1
    have A := I1.1.2.2.2.2.1.2.2.2.1 (nn % 3).toNat (by omega)
    have A47 := I1.1.2.2.2.2.1.2.1
    refine run_S (k := 23) rVO_yP (by omega) (by omega) X.2.1.1 (by omega) ?_
    refine lk_203b (k := 23) (n := nn) (by omega) (by omega) X.2.1.1 X.2.1.2.1 (by omega) nr (by omega) (lk_203_28n (by omega) nr (by omega) (lk_203_70_23 nr ?_))
    refine lk_203_125n (R := fun y w' => rVO C sil D qq ft n hb u s s1 v E1 row w Γ (some (.inl y)) w') (by omega) ?_ (fun y w' g => g)
    rcases A47 with z0 | z1
    · unfold o_ask at h
      rw [A.2 z0] at h
      unfold o_bad at h
      cases h
      refine lk_202n (by omega) (by omega) z0 (by omega) (yP_m rVO_yP _ _ ?_)
      obtain ⟨y, z1, Γ', g1, g2⟩ := rVO_trans P1 (Nat.le_refl _) (fun q => q) (Or.inl rfl) (bad_P (n := n) (hb := hb) (c := 7) I1.1 I1.2.2.2.2.1 ⟨X.2.1.2.2.1, X.2.1.2.2.2⟩ hs.2)
      exact ⟨y, z1, Γ', rRC_qq g1 (by omega) (by omega), g2⟩
    · have A1 := A.1 z1
      unfold o_ask at h
      rw [A1.1] at h
      cases h
      refine lk_202r (n := nn) (R := fun y w' => rVO C sil D qq ft n hb u s _ _ _ row w Γ (some (.inl y)) w') (by omega) (by omega) z1 X.2.1.2.1 nr ?_ (fun y w' g => yP_m rVO_yP _ _ g)
      have ei : 42 + nn % 3 = ((42 + (nn % 3).toNat : Nat) : Int) := by omega
      rw [ei]
      refine (ask_P (n := n) (hb := hb) I1.1 I1.2.2.2.2.1 (by omega) A1.1 A1.2 (by omega)).mono (fun r w' g => yP_m rVO_yP _ _ ?_)
      obtain ⟨y, z1, Γ', g1, g2⟩ := rVO_trans P1 (Nat.le_refl _) (fun q => q) (Or.inl rfl) g
      exact ⟨y, z1, Γ', rRC_qq g1 (by omega) (by omega), g2⟩
  · cases h
end
