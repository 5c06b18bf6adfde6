/-! ===== a text: formulas ===== -/
section
variable {C : C_} {sil : Bool} {D : Prop} {qq : Int} {s s2 : S_} {w : W_} {Γ : rG_} {fr ft n n1 L W2 row : Nat} {f g t st i : Int} {v8 v9 v10 v11 : am_V} {P : Option am_V → W_ → Prop} {x : T_} {E E2 : N_} {u : Nat → Bool} {rec : K_}
theorem txt_m (hK : rSK C sil n1 rec) (M1 : eMK rec) (hB : rBr rec) (hn : n1 ≤ n) (hL : L + 11 ≤ fr) (hfr : 2 * n1 + 1012 ≤ fr) (H : rRC C sil D qq ft s w Γ) (hq : qq ≤ 395) (hk : w.2 77 i.toNat = 4) (h : t_frm L rec C sil x 0 E (u_go s) = some (W2, E2, s2)) (hs : s_b s2 ≤ 90000 ∧ s_nt s2 ≤ 900000) (hO : r_fO x) (hE : rEN w 0 (w.1 73 5) x none (w.2 82 i.toNat)) (hU : ∀ m, m < 10 → e_nm x m = true → u m = true) (hN : rNF w Γ u E row) (hrow : (row : Int) < w.1 73 15 ∧ Γ.2.2.2 row = false) (tb : s_tb s < 2000) (hb1 : s_b s + 1 ≤ 90000) (hv : (am_two v8 = false ∧ am_two v9 = false) ∧ am_two v10 = false ∧ am_two v11 = false) (hi : 0 ≤ i ∧ i < 1024) (LL : ∀ c w1 Γ1, rRC C sil D (qq - 3 + 1) ft s2 w1 Γ1 → rCC w1 Γ1 c [.tag 4 (.nest (W2 : Int) .nil)] → rNF w1 Γ1 u E2 row → rPO n true s s2 w Γ w1 Γ1 (row : Int) → zr198 fr P 175 f (row : Int) 0 g t st i (.inl 4) (.inl c) v10 v11 w1) : zr198 fr P 18 f (row : Int) 0 g t st i v8 v9 v10 v11 w := by
  obtain ⟨H1, P1⟩ := rRC_go (n := n) (hb := true) (R := (row : Int)) H tb (by omega)
  refine lk_198c (k := 4) hv hi hk (lk_198_46n ⟨hv.2.1, hv.2.2⟩ (by omega) (by omega) ?_)
  have N1 : rNF (r_b1 w) Γ u E row := rNF_go hN (fun j q => w_f_ne _ _ _ _ _ _ (by omega)) rfl
  refine lk_198_104m (R := fun c w1 => ∃ Γ1, rRC C sil D (qq - 3 + 1) ft s2 w1 Γ1 ∧ rCC w1 Γ1 c [.tag 4 (.nest (W2 : Int) .nil)] ∧ rNF w1 Γ1 u E2 row ∧ rPO n false (u_go s) s2 (r_b1 w) Γ w1 Γ1 (row : Int)) ⟨hv.2.1, hv.2.2⟩ (by omega) hi (frm_C (fr := fr - 1) (n := n) hK M1 hB hn (by omega) (by omega) (by omega) h hs hO H1 (rEN_X P1.1 hE) hU N1 (rOW P1 hrow)) (fun c w1 z => ?_)
  obtain ⟨Γ1, g1, g2, g3, g4⟩ := z
  exact LL c w1 Γ1 g1 g2 g3 (rPO_trans P1 g4 (Nat.le_refl _) (Nat.le_refl _) (fun q => q) (fun q => by cases q) (Or.inl rfl) (Or.inl rfl))
end
