/-! ===== HEAD, MEASURE, what has two parts ===== -/
/-- what is broken is WRONG -/
def rBr (K : K_) : Prop := ∀ sil E hb s v E1 s1, K sil .nil E hb s = some (v, E1, s1) → v = vW
section
variable {C : C_} {sil : Bool} {D : Prop} {qq : Int} {ft : Nat} {s s1 s2 : S_} {w w2 : W_} {Γ Γ2 : rG_} {n n1 fr fr1 L id : Nat} {hb hb1 : Bool} {u : Nat → Bool} {v v1 a b c e t : T_} {E E1 E2 : N_} {row : Nat} {x y nn : Int} {r1 r2 r4 : K_} {R : Int}
theorem kid_id {w : W_} (hB : rBr r1) {sl : Bool} (hr : r1 sl t E hb s = some (v1, E2, s2)) (hE : rEN w 0 (w.1 73 5) t (some none) y) (X : rAN w w2 0 (w.1 73 5)) : v_nf v1 = 0 ∨ (w2.2 79 y.toNat = ((e_id t / 60 : Nat) : Int) ∧ w2.2 80 y.toNat = ((e_id t % 60 : Nat) : Int)) := by
  rcases rEN_or hE with ⟨k, nn, id, a, b, c, q⟩ | q
  · rw [q, rEN_ce] at hE
    obtain ⟨⟨z1, z2, z3, z4, z5⟩, -⟩ := hE
    have A := X y.toNat (by omega) (by omega)
    rw [q]
    exact Or.inr ⟨by rw [A.1.2.2.1]; exact z4, by rw [A.1.2.2.2]; exact z5⟩
  · rw [q] at hr
    rw [hB _ _ _ _ _ _ _ hr]
    exact Or.inl rfl
theorem Q_m {mid fr : Nat} {as : List am_V} {w : W_} {C : C_} {sil : Bool} {D : Prop} {qq : Int} {ft n : Nat} {hb : Bool} {u : Nat → Bool} {s s1 : S_} {v : T_} {E1 : N_} {row : Nat} {w0 : W_} {Γ : rG_} (h : ww_Ct mid fr as w (rVO C sil D qq ft n hb u s s1 v E1 row w0 Γ)) : ww_Ct mid fr as w fun r w' => ∃ y, r = some (.inl y : am_V) ∧ rVO C sil D qq ft n hb u s s1 v E1 row w0 Γ (some (.inl y)) w' := h.mono (yP_m rVO_yP)
theorem kid_lt {w : W_} {own : Option Nat} (hE : rEN w 0 (w.1 73 5) t (some own) y) : 0 ≤ y ∧ y < w.1 73 5 := by
  rcases rEN_or hE with ⟨k, nn, id, a, b, c, q⟩ | q
  · rw [q, rEN_ce] at hE
    exact hE.1.1.1
  · rw [q] at hE
    unfold rEN at hE
    exact hE.1
/-- a first part is run, then runParts, where its code is known -/
theorem run_oneB {k : Nat} (I : rIN C sil D qq ft n u s (ce k nn id a b c) E w Γ x row fr) (hn : n1 + 1 ≤ n) (h1 : rSK C sil n1 r1) (M1 : eMK r1) (hB : rBr r1) (hK : k = 20 ∨ k = 28) (h : ev1 L C r1 r2 r4 sil (ce k nn id a b c) E hb s = some (v, E1, s1)) (hs : s_b s1 ≤ 90000 ∧ s_nt s1 ≤ 900000) (Lk : ∀ v1 E2 s2 rv w2 Γ2, o_one L C k nn id a v1 (ce k nn id a b c) E2 s2 = some (v, E1, s1) → rIN C sil D (qq - 3) ft n u s2 (ce k nn id a b c) E2 w2 Γ2 x row fr → rVF w2 Γ2 v1 rv → rPO n hb s s2 w Γ w2 Γ2 (row : Int) → (v_nf v1 = 0 ∨ (w2.2 79 (w2.2 81 (3 * x + 0).toNat).toNat = ((e_id a / 60 : Nat) : Int) ∧ w2.2 80 (w2.2 81 (3 * x + 0).toNat).toNat = ((e_id a % 60 : Nat) : Int))) → zr208 (fr - 1) (rVO C sil D qq ft n hb u s s1 v E1 row w Γ) 30 x rv (row : Int) (if hb = true then 1 else 0) (.inl (k : Int)) (.inl (w2.2 81 (3 * x + 0).toNat)) am_X am_X am_X w2) : ww_Ct 207 fr [.inr (.inr (.inl 73)), .inl x, .inl (row : Int), .inl (if hb = true then 1 else 0)] w (rVO C sil D qq ft n hb u s s1 v E1 row w Γ) := by
  have hK4 : k = 20 ∨ k = 21 ∨ k = 28 ∨ k = 31 := hK.elim Or.inl (fun q => Or.inr (Or.inr (Or.inl q)))
  have h0 := h
  rw [ev1_one (hK.elim (fun q => Or.inr (Or.inl q)) (fun q => Or.inr (Or.inr (Or.inr (Or.inl q)))))] at h
  split at h
  · rename_i tb
    cases hr : r1 sil a E hb (u_go s) with
    | none => rw [hr] at h; cases h
    | some z =>
      obtain ⟨v1, E2, s2⟩ := z
      rw [hr] at h
      have h : o_one L C k nn id a v1 (ce k nn id a b c) E2 s2 = some (v, E1, s1) := h
      have hfr := I.2.2.2.2.2.2
      have lt : s_lt (u_go s) ≤ s_b (u_go s) := by have := rIN_lt I; show s_lt s ≤ s_b s + 1; omega
      have m1 := M1 _ _ _ _ _ _ _ _ hr lt
      have hs2 := oo_le (hb := hb) (fun q => by rcases hK with rfl | rfl <;> omega) h m1.2.2.2.2.1 hs
      have hb1 : s_b s + 1 ≤ 90000 := Nat.le_trans m1.1 hs2.1
      have p1 : 1 ≤ j_par k := by rcases hK with rfl | rfl <;> decide
      have k15 : k ≠ 15 := by omega
      have ea := (rIN_x I).2.2.2.2.1 p1
      rw [if_neg k15] at ea
      have kx := (rIN_x I).1
      have hK7 : (9 ≤ k ∧ k ≤ 14) ∨ k = 17 ∨ k = 20 ∨ k = 21 ∨ k = 28 ∨ k = 30 ∨ k = 31 := by clear ea kx; omega
      have k64 : (0 ≤ (k : Int) ∧ (k : Int) < 64) ∧ ((k : Int) ≠ 14 ∧ (k : Int) ≠ 17) ∧ ((k : Int) = 20 ∨ (k : Int) = 28) := by clear ea kx hK7; omega
      refine run_kid I hn h1 tb hb1 hK7 hr hs2 (fun rv w2 Γ2 I2 V P _ => ?_)
      have X := (rIN_x I2).2.1.1
      have e81 : w2.2 81 (3 * x + 0).toNat = w.2 81 (3 * x + 0).toNat := by
        have A := P.1.1.2 x.toNat (by omega) (by omega)
        rw [show (3 * x + 0).toNat = 3 * x.toNat by omega]
        exact A.2.2.1
      have ki := kid_id (w2 := w2) hB hr ea P.1.1.2
      rw [← e81] at ki
      refine lk_207p (R := fun y w' => rVO C sil D qq ft n hb u s s1 v E1 row w Γ (some (.inl y)) w') k64.1 (by clear hK hK7 hK4; omega) k64.2.1 (Q_m ?_) (fun y w' g => g)
      refine lk_208a (k := (k : Int)) (p1 := w2.2 81 (3 * x + 0).toNat) (by clear hK hK7 hK4; omega) (by clear hK hK7 hK4; omega) X rfl k64.1 k64.2.2 ?_
      exact Lk v1 E2 s2 rv w2 Γ2 h I2 V P ki
  · cases h
/-- MEASURE -/
theorem rn_28 (I : rIN C sil D qq ft n u s (ce 28 nn id a b c) E w Γ x row fr) (hL : L + 12 ≤ 2 * n + 1010) (hn : n1 + 1 ≤ n) (h1 : rSK C sil n1 r1) (M1 : eMK r1) (hB : rBr r1) (h : ev1 L C r1 r2 r4 sil (ce 28 nn id a b c) E hb s = some (v, E1, s1)) (hs : s_b s1 ≤ 90000 ∧ s_nt s1 ≤ 900000) : ww_Ct 207 fr [.inr (.inr (.inl 73)), .inl x, .inl (row : Int), .inl (if hb = true then 1 else 0)] w (rVO C sil D qq ft n hb u s s1 v E1 row w Γ) := by
  refine run_oneB I hn h1 M1 hB (by omega) h hs (fun v1 E2 s2 rv w2 Γ2 h I2 V P ki => ?_)
  have hq := I.2.1
  have hfr := I.2.2.2.2.2.2
  have B := rRC_bd I2.1
  have ea := (rIN_x I2).2.2.2.2.1 (by decide)
  have kl := kid_lt ea
  rw [o_one_28] at h
  split at h
  · rename_i s3 hf
    cases h
    have hvv := V.1
    refine lk_208_30 (R := fun y w' => ∃ Γ', rRC C sil D (qq - 3 + 1) ft s1 w' Γ' ∧ rCC w' Γ' y (rFL v1) ∧ rPO n hb s2 s1 w2 Γ2 w' Γ' (-1)) (by omega) (by omega) ((lk_195E (n := n) (hb := hb) (R := -1) I2.1 V hf ki (by omega) (by omega) hs.2).mono ?_) ?_
    · rintro r w' ⟨y, rfl, g⟩
      exact ⟨y, rfl, g⟩
    · rintro y w' ⟨Γ', g1, g2, g3⟩
      have B' := rRC_bd g1
      have g2' := g2.1
      have ew := rCC_w g1.1 g2 hvv.2.1 (s := 1) (by omega)
      have wl := rWL_le (rFL v1) 1
      refine lk_208_51m (by omega) (by omega) ew (by omega) ?_
      have en : ((v_wd v1 1 : Nat) : Int) = (((rWL (rFL v1) 1).1 : Nat) : Int) := by
        show (((v_wq v1 1).1 : Nat) : Int) = _
        rw [hvv.1 1 (by omega)]
      rw [← en]
      exact ⟨_, rfl, Γ', rRC_qq g1 (by omega) (by omega), rVF_N (by omega), rNF_mono g3.1 I2.2.2.2.2.2.1.1 (by omega) I2.2.2.2.2.1, rPO_trans P g3 (Nat.le_refl _) (Nat.le_refl _) (fun q => q) (fun q => q) (Or.inl rfl) (by omega)⟩
  · cases h
/-- HEAD -/
theorem rn_20 (I : rIN C sil D qq ft n u s (ce 20 nn id a b c) E w Γ x row fr) (hL : L + 12 ≤ 2 * n + 1010) (hn : n1 + 1 ≤ n) (h1 : rSK C sil n1 r1) (M1 : eMK r1) (hB : rBr r1) (h : ev1 L C r1 r2 r4 sil (ce 20 nn id a b c) E hb s = some (v, E1, s1)) (hs : s_b s1 ≤ 90000 ∧ s_nt s1 ≤ 900000) : ww_Ct 207 fr [.inr (.inr (.inl 73)), .inl x, .inl (row : Int), .inl (if hb = true then 1 else 0)] w (rVO C sil D qq ft n hb u s s1 v E1 row w Γ) := by
  refine run_oneB I hn h1 M1 hB (by omega) h hs (fun v1 E2 s2 rv w2 Γ2 h I2 V P ki => ?_)
  have hq := I.2.1
  have hfr := I.2.2.2.2.2.2
  have B := rRC_bd I2.1
  have ea := (rIN_x I2).2.2.2.2.1 (by decide)
  have kl := kid_lt ea
  have X1 := (rIN_x I2).1
  have X2 := (rIN_x I2).2.1
  rw [o_one_20] at h
  split at h
  · rename_i s3 hf
    cases h
    have hvv := V.1
    refine lk_208_30 (R := fun y w' => ∃ Γ', rRC C sil D (qq - 3 + 1) ft s3 w' Γ' ∧ rCC w' Γ' y (rFL v1) ∧ rPO n hb s2 s3 w2 Γ2 w' Γ' (-1)) (by omega) (by omega) ((lk_195E (n := n) (hb := hb) (R := -1) I2.1 V hf ki (by omega) (by omega) hs.2).mono ?_) ?_
    · rintro r w' ⟨y, rfl, g⟩
      exact ⟨y, rfl, g⟩
    · rintro y w3 ⟨Γ3, g1, g2, g3⟩
      have B' := rRC_bd g1
      have g2' := g2.1
      have A := g3.1.1.2 x.toNat (by omega) (by omega)
      have T5 : rLf (.tag 5 (.tag id v1)) := ⟨5, _, rfl, by omega⟩
      have W5 : ∀ s : Nat, v_wq (.tag 5 (.tag id v1)) s = ((v_wq v1 s).1, s) := fun _ => rfl
      have yw : ∀ s : Nat, s < 3 → ((rWL [.tag 5 (.tag id v1)] (s + 1)).1 : Nat) = (rWL (rFL v1) (s + 1)).1 := fun s hs => by
        show m9 ((v_wq (.tag 5 (.tag id v1)) (s + 1)).1 + 0) = _
        rw [W5, Nat.add_zero]
        show m9 (v_wq v1 (s + 1)).1 = _
        rw [hvv.1 (s + 1) (by omega), m9_id (rWL_le _ _)]
      refine lk_208_51h (R := fun y' w' => (0 ≤ y' ∧ y' < 8192) ∧ ∃ Γ', rRC C sil D (qq - 3 + 1 + 1) ft s3 w' Γ' ∧ rCC w' Γ' y' [.tag 5 (.tag id v1)] ∧ rPO n hb s3 s3 w3 Γ3 w' Γ' (-1)) (by omega) (by omega) ?_ (fun _ _ g => g.1) ?_
      · refine (lk_newE (n := n) (hb := hb) (R := -1) (t := .tag 5 (.tag id v1)) (y := fun s => ((rWL (rFL v1) s).1 : Nat)) g1 (by omega) (by omega) T5 rfl (by decide) (fun s hs => by rw [yw s hs]) (fun v Hv e1 eA s k1 k2 => ?_) (fun m w' Γ' em X' G2 f1 f2 f3 f4 => ?_)).mono ?_
        · refine lk_189_20 (by omega) (by omega) (by omega) ?_
          have Cv : rCC v Γ3 y (rFL v1) := ⟨by rw [e1]; exact g2.1, g2.2⟩
          exact rCC_w Hv Cv hvv.2.1 ⟨k1, k2⟩
        · unfold rLF
          refine ⟨f1, by omega, ?_, ?_, ?_⟩
          · rw [f2]; exact (rCC_mono X' g2).2
          · rw [f3, A.1.2.2.1]; exact X2.2.2.1
          · rw [f4, A.1.2.2.2]; exact X2.2.2.2
        · rintro r w' ⟨z, rfl, zr, Γ', k1, k2, k3, -⟩
          exact ⟨z, rfl, zr, Γ', k1, k2, k3⟩
      · rintro z w' ⟨zr, Γ', k1, k2, k3⟩
        have P3 := rPO_trans (n := n) (hb := hb) (R := -1) g3 k3 (Nat.le_refl _) (Nat.le_refl _) (fun q => q) (fun q => q) (Or.inl rfl) (Or.inl rfl)
        exact ⟨_, rfl, Γ', rRC_nd (rRC_qq k1 (by omega) (by omega)), rVF_C (by omega) (vv_leaf (by omega) (fun s hs => by rw [W5]; exact vv_le hvv s hs) (by rw [vK_5]; exact ⟨hvv.2.2.2, fun s hs => vv_le hvv s hs⟩)) k2, rNF_mono P3.1 I2.2.2.2.2.2.1.1 (by omega) I2.2.2.2.2.1, rPO_nd (rPO_trans P P3 (Nat.le_refl _) (Nat.le_refl _) (fun q => q) (fun q => q) (Or.inl rfl) (by omega))⟩
  · cases h
end
