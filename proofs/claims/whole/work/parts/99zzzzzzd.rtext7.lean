/-! ===== a text: CODE ===== -/
section
variable {C : C_} {sil : Bool} {D : Prop} {qq : Int} {s s3 s4 : S_} {w : W_} {Γ : rG_} {fr ft n n1 L row : Nat} {f g t st i : Int} {v8 v9 v10 v11 : am_V} {P : Option am_V → W_ → Prop} {x v : T_} {E E1 : N_} {u : Nat → Bool} {rec : K_}
theorem txt_c (hK : rSK C sil n1 rec) (hB : rBr rec) (hn : n1 ≤ n) (hL : L + 10 ≤ fr) (hfr : 2 * n1 + 1011 ≤ fr) (H : rRC C sil D qq ft s w Γ) (hq : qq ≤ 395) (hk : w.2 77 i.toNat = 3) (hr : rec sil x E true (u_go s) = some (v, E1, s3)) (hf : f_fu L C v (e_id x) s3 = some s4) (hs3 : s_b s3 ≤ 90000 ∧ s_nt s3 ≤ 900000) (hs4 : s_nt s4 ≤ 900000) (ex : rEN w 0 (w.1 73 5) x (some none) (w.2 81 (3 * i + 0).toNat)) (hU : ∀ m, m < 10 → e_nm x m = true → u m = true) (hN : rNF w Γ u E row) (hrow : (row : Int) < w.1 73 15 ∧ Γ.2.2.2 row = false) (tb : s_tb s < 2000) (hb1 : s_b s + 1 ≤ 90000) (hv : (am_two v8 = false ∧ am_two v9 = false) ∧ am_two v10 = false ∧ am_two v11 = false) (hi : 0 ≤ i ∧ i < 1024) (LL : ∀ c p1 rv w2 Γ2, rRC C sil D (qq - 3 + 1) ft s4 w2 Γ2 → rCC w2 Γ2 c (rFL v) → vv v → rNF w2 Γ2 u E1 row → rPO n true s s4 w Γ w2 Γ2 (row : Int) → zr198 fr P 175 f (row : Int) 0 g t st i (.inl 3) (.inl c) (.inl p1) (.inl rv) w2) : zr198 fr P 18 f (row : Int) 0 g t st i v8 v9 v10 v11 w := by
  have B := rRC_bd H
  have kl := kid_lt ex
  obtain ⟨H1, P1⟩ := rRC_go (n := n) (hb := true) (R := (row : Int)) H tb (by omega)
  have N1 : rNF (r_b1 w) Γ u E row := rNF_go hN (fun j q => w_f_ne _ _ _ _ _ _ (by omega)) rfl
  refine lk_198c (k := 3) hv hi hk (lk_198_46c ⟨hv.2.1, hv.2.2⟩ ?_)
  refine lk_198_52_0 (p1 := w.2 81 (3 * i + 0).toNat) (R := fun y w' => rVO C sil D (qq - 3) ft n1 true u (u_go s) s3 v E1 row (r_b1 w) Γ (some (.inl y)) w') ⟨hv.2.1, hv.2.2⟩ (by omega) hi rfl ((rSK_to hK hr (fr := fr - 1) ⟨H1, by omega, rEN_X P1.1 ex, hU, N1, rOW P1 hrow, by omega⟩ hs3).mono (yP_m rVO_yP)) ?_
  rintro rv w1 ⟨y, q, Γ1, g1, g2, g3, g4⟩
  cases q
  have B1 := rRC_bd g1
  have ki := kid_id (w2 := w1) hB hr ex (rXT_trans (R := (row : Int)) P1.1 g4.1 (Or.inl rfl) (Or.inl rfl)).1.2
  refine lk_198_79 (R := fun c w' => ∃ Γ', rRC C sil D (qq - 3 + 1) ft s4 w' Γ' ∧ rCC w' Γ' c (rFL v) ∧ rPO n true s3 s4 w1 Γ1 w' Γ' (-1)) (by omega) (by omega) ((lk_195E (n := n) (hb := true) (R := -1) g1 g2 hf ki (by omega) (by omega) hs4).mono ?_) ?_
  · rintro r' w' ⟨c, rfl, z⟩
    exact ⟨c, rfl, z⟩
  · rintro c w2 ⟨Γ2, k1, k2, k3'⟩
    have P3 := rPO_trans (n := n) (hb := true) (R := (row : Int)) (rPO_trans (n := n) (hb := true) (R := (row : Int)) P1 g4 (Nat.le_refl _) (by omega) (fun q => q) (fun q => q) (Or.inl rfl) (Or.inl rfl)) k3' (Nat.le_refl _) (Nat.le_refl _) (fun q => q) (fun q => q) (Or.inl rfl) (by omega)
    exact LL c _ rv w2 Γ2 k1 k2 g2.1 (rNF_mono k3'.1 (rOW g4 (rOW P1 hrow)).1 (by omega) g3) P3
end
