/-! ===== what was gathered: E's state ===== -/
section
variable {C : C_} {sil : Bool} {D : Prop} {qq : Int} {s s1 : S_} {w w0 w1 : W_} {Γ Γ0 Γ1 : rG_} {n g k ft : Nat} {R : Int}
/-- items are joined: what they cost is what the contents cost -/
theorem rGath (H : rRC C sil D qq ft s w Γ) (hg : w.1 73 33 = ((g + k : Nat) : Int)) (M : rMO w Γ (w_f w1 73 33 (w.1 73 33)) Γ1 0 k) (h33 : w1.1 73 33 = (g : Int)) : rRC C sil D qq ft s w1 Γ1 ∧ rPI n s s w Γ w1 Γ1 R g := by
  obtain ⟨X, H', G, ⟨F, A, S⟩, Dd⟩ := M
  have N : ∀ a j, ¬ (a = 73 ∧ (j = 26 ∨ j = 33)) → w1.1 a j = w.1 a j := fun a j q => by
    rw [← F a j (by omega), w_f_ne _ _ _ _ _ _ (by omega)]
  have A' : ∀ b, b < 90 ∨ 97 < b → w1.2 b = w.2 b := fun b q => A b q
  have S' : w1.2 90 = w.2 90 := funext fun p => S p (Nat.zero_le _)
  have X1 : ∀ R, rXT w Γ w1 Γ1 R := fun R => rXT_trans (R := R) X (rXT_same (R := -1) (fun j q => by rw [w_f_ne _ _ _ _ _ _ (by omega)]) (fun _ _ _ => rfl)) (by omega) (by omega)
  have H1 : rHH w1 Γ1 := rHH_same H' (fun j q => by rw [w_f_ne _ _ _ _ _ _ (by omega)]) (fun _ _ _ => rfl)
  have n26 : w1.1 73 26 ≤ w.1 73 26 + k := by
    have Dd : (w_f w1 73 33 (w.1 73 33)).1 73 26 + 3 * ((0 : Nat) : Int) ≤ w.1 73 26 + 3 * ((0 : Nat) : Int) + k := Dd
    rw [w_f_ne _ _ _ _ _ _ (by decide)] at Dd
    omega
  have Hc := H
  obtain ⟨q1, ⟨q2, q2'⟩, q3, q4, -, -, -, ⟨⟨k1, k1', k1''⟩, k2, k3, k4, k5⟩, -⟩ := H
  refine ⟨rRC_mk (qq' := qq) Hc (X1 (-1)) (rOK_m _) H1 (rFR_w (s := s) q2 (N _ _ (by omega)) (N _ _ (by omega)) (A' _ (by omega))) q2' ?_ (rS2_w q4 (N _ _ (by omega)) (N _ _ (by omega)) (N _ _ (by omega)) ⟨rfl, rfl, rfl⟩) (fun j q => N 73 j (by omega)) (fun b q _ _ => A' b (by omega)) ⟨rfl, rfl, rfl, rfl⟩ ⟨⟨?_, k1', k1''⟩, ?_, ?_, ?_, ?_⟩, X1 R, rOt_mk (fun a j q => N a j (by omega)) (fun b q => A' b (by omega)), fun i _ => by rw [A' 98 (by omega)], ⟨N 73 35 (by omega), fun i _ => by rw [A' 99 (by omega)]⟩, ⟨by rw [N 73 40 (by omega)]; exact Int.le_refl _, Nat.le_refl _, ⟨fun _ => N 73 40 (by omega), fun _ => rfl⟩⟩, by rw [N 73 45 (by omega)]; omega, by rw [N 73 21 (by omega)]; exact Int.le_refl _⟩
  · unfold rS1 at q3 ⊢
    rw [N 73 39 (by omega), N 73 43 (by omega), N 73 15 (by omega), N 73 80 (by omega), N 73 81 (by omega), N 73 79 (by omega)]
    exact q3
  · rw [N 73 21 (by omega), N 73 35 (by omega), S', h33]
    omega
  · rw [N 73 21 (by omega)]; exact k2
  · rw [N 73 17 (by omega)]; exact k3
  · rw [h33, N 73 35 (by omega)]; omega
  · rw [N 73 5 (by omega)]; exact k5
theorem rPO_back {hb : Bool} (h : rPI n s s1 w Γ w1 Γ1 R g) (hg : w.1 73 33 = (g : Int)) (h1 : w1.1 73 33 = (g : Int)) : rPO n hb s s1 w Γ w1 Γ1 R := by
  obtain ⟨a1, a2, a3, ⟨a4, a5⟩, a6⟩ := h
  exact ⟨a1, a2, ⟨by rw [h1, hg], fun i hi => a3 i (by omega)⟩, ⟨by rw [a4]; exact Int.le_refl _, a5, fun _ => a4⟩, a6⟩
/-- a formula is run as E does -/
theorem frm_C {rec : K_} {n1 L fr row W2 : Nat} {u : Nat → Bool} {t : T_} {E E2 : N_} {s2 : S_} {i : Int} (hK : rSK C sil n1 rec) (M1 : eMK rec) (hB : rBr rec) (hn : n1 ≤ n) (hL : L + 10 ≤ fr) (hfr : 2 * n1 + 1011 ≤ fr) (hq : qq ≤ 395) (h : t_frm L rec C sil t 0 E s = some (W2, E2, s2)) (hs : s_b s2 ≤ 90000 ∧ s_nt s2 ≤ 900000) (hO : r_fO t) (H : rRC C sil D qq ft s w Γ) (hE : rEN w 0 (w.1 73 5) t none i) (hU : ∀ m, m < 10 → e_nm t m = true → u m = true) (hN : rNF w Γ u E row) (hrow : (row : Int) < w.1 73 15 ∧ Γ.2.2.2 row = false) : ww_Ct 198 fr [.inr (.inr (.inl 73)), .inl i, .inl (row : Int), .inl 1] w fun r w' => ∃ c, r = some (.inl c) ∧ ∃ Γ', rRC C sil D (qq + 1) ft s2 w' Γ' ∧ rCC w' Γ' c [.tag 4 (.nest (W2 : Int) .nil)] ∧ rNF w' Γ' u E2 row ∧ rPO n false s s2 w Γ w' Γ' (row : Int) := by
  have B := rRC_bd H
  have Z : ∃ g tt : Nat, w.1 73 33 = (g : Int) ∧ w.1 73 35 = (tt : Int) := ⟨(w.1 73 33).toNat, (w.1 73 35).toNat, by omega, by omega⟩
  obtain ⟨g, tt, eg, et⟩ := Z
  refine lk_198a eg et ?_
  refine frm_R (n := n) (n1 := n1) (L := L) (u := u) (g := g) (D := D) (qq := qq) (ft := ft) hK M1 hB hn hL hfr hq (by omega) (it_len t) t (Nat.le_refl _) 0 E s W2 E2 s2 h hs hO w Γ i 0 0 [] _ _ _ _ H hE hU hN hrow (by rw [eg, Nat.add_zero]) et rfl (fun t ht => by cases ht) rfl ⟨⟨rfl, rfl⟩, rfl, rfl⟩ (fun w1 Γ1 k st l v8 v9 v10 v11 b1 b2 b3 b4 b5 b6 b7 b8 hv9 => ?_)
  have B1 := rRC_bd b1
  have S6 := b1.2.2.2.2.2.2.2.1.1
  have rows1 := b3.1.1.1.2.1
  refine lk_198_272f (R1 := fun c w2 => ∃ Γ2, rRC C sil D qq ft s2 w2 Γ2 ∧ rCC w2 Γ2 c l ∧ rPI n s2 s2 w1 Γ1 w2 Γ2 (-1) g ∧ w2.1 73 33 = (g : Int)) (R := fun c w3 => ∃ Γ3, rRC C sil D (qq + 1) ft s2 w3 Γ3 ∧ rCC w3 Γ3 c [.tag 4 (.nest (W2 : Int) .nil)] ∧ rPI n s2 s2 w1 Γ1 w3 Γ3 (-1) g ∧ w3.1 73 33 = (g : Int)) hv9 (by omega) ((lk_192 (fr := fr - 1) (fm := g) (n := k) b1.1 (by omega) b4 (by omega) (by omega) b5).mono ?_) ?_ ?_
  · rintro r w2 ⟨c, rfl, Γ2, g1, g2, g3⟩
    obtain ⟨k1, k2⟩ := rGath (n := n) (R := -1) b1 b4 g1 g2
    exact ⟨c, rfl, Γ2, k1, g3, k2, g2⟩
  · rintro c w2 ⟨Γ2, k1, k2, k3, k4⟩
    have B2 := rRC_bd k1
    have k2' := k2.1
    have T4 : rLf (.tag 4 (.nest (W2 : Int) .nil)) := ⟨4, _, rfl, by omega⟩
    have W9 : W2 ≤ 9999 := by rw [b7]; exact m9_le _
    have ew := rCC_w k1.1 k2 (fun t ht => (b6 t ht).2) (s := 1) (by omega)
    have wl := rWL_le l 1
    have yw : ∀ s : Nat, ((rWL [.tag 4 (.nest (W2 : Int) .nil)] s).1 : Nat) = W2 := fun s => by
      show m9 ((W2 : Int).toNat + 0) = W2
      rw [Nat.add_zero, show ((W2 : Int)).toNat = W2 by omega, m9_id W9]
    refine (lk_newE (n := n) (hb := false) (R := -1) (t := .tag 4 (.nest (W2 : Int) .nil)) (y := fun _ => (W2 : Int)) k1 (by omega) (by omega) T4 rfl (by decide) (fun s _ => by rw [yw]) (fun v Hv e1 eA s _ _ => ?_) (fun m w' Γ' em X' G2 f1 f2 f3 f4 => ?_)).mono ?_
    · have Cv : rCC v Γ2 c l := ⟨by rw [e1]; exact k2.1, k2.2⟩
      have ev := rCC_w Hv Cv (fun t ht => (b6 t ht).2) (s := 1) (by omega)
      have z := lk_189_4 (w := v) (fr := fr - 1 - 1) (x1 := (st : Int)) (x2 := c) (x3 := (s : Int)) (y := ((rWL l 1).1 : Nat)) (by omega) (by omega) ev (by omega) (by omega)
      have e : b9 ((st : Int) + ((rWL l 1).1 : Nat)) = (W2 : Int) := by
        rw [b7, ← b9_m9]; congr 1
      rw [e] at z
      exact z
    · unfold rLF
      exact ⟨f1, by omega, by omega⟩
    · rintro r w3 ⟨c', rfl, cr, Γ3, g1, g2, g3, -⟩
      exact ⟨c', rfl, Γ3, g1, g2, rPI_trans k3 (rPI_of (n := n) (R := -1) g3 (Nat.le_refl _) (by omega) (Or.inl rfl)) (Nat.le_refl _) (Nat.le_refl _) (Or.inl rfl) (Or.inl rfl), by rw [g3.2.2.1.1]; exact k4⟩
  · rintro c w3 ⟨Γ3, g1, g2, g3, g4⟩
    exact ⟨c, rfl, Γ3, g1, g2, rNF_mono g3.1 (by omega) (by omega) b2, rPO_back (rPI_trans (n := n) (R := (row : Int)) b3 g3 (Nat.le_refl _) (Nat.le_refl _) (Or.inl rfl) (by omega)) eg g4⟩
end
