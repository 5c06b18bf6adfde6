/-! ===== steps of the reference, and E's state ===== -/
section
variable {C : C_} {sil : Bool} {D : Prop} {qq : Int} {ft : Nat} {s s' s1 : S_} {w w' : W_} {Γ Γ' : rG_} {R : Int} {n : Nat} {hb : Bool}
theorem rRC_bd (H : rRC C sil D qq ft s w Γ) : rBD w ∧ (0 ≤ w.1 73 41 ∧ w.1 73 41 ≤ 60) ∧ (0 ≤ w.1 73 33 ∧ w.1 73 33 ≤ 6500 ∧ 0 ≤ w.1 73 35 ∧ w.1 73 35 ≤ 6500) ∧ (0 ≤ w.1 73 5 ∧ w.1 73 5 ≤ 723) ∧ (0 ≤ w.1 73 15 ∧ w.1 73 15 ≤ 2040) ∧ (1 ≤ w.1 73 26 ∧ w.1 73 26 ≤ 6500) ∧ (0 ≤ w.1 73 17 ∧ 0 ≤ w.1 73 21) := by
  obtain ⟨a1, ⟨a2, -⟩, a3, -, -, -, -, ⟨⟨b1, b2, b3⟩, b4, b5, b6, b7⟩, -⟩ := H
  have c1 := a1.1
  have c2 := a2.1
  have c3 := a3.2.2.1
  have c4 := a3.1
  refine ⟨⟨by omega, by omega, by omega⟩, by omega, by omega, by omega, by omega, by omega, by omega⟩
/-- changes of numbers alone -/
theorem rPO_c (hF : ∀ a j, ¬ (a = 73 ∧ (j = 39 ∨ j = 40 ∨ j = 41 ∨ j = 43 ∨ j = 44 ∨ j = 45 ∨ j = 46 ∨ j = 79 ∨ j = 80 ∨ j = 81)) → w'.1 a j = w.1 a j) (hA : ∀ b, b ≠ 102 → w'.2 b = w.2 b) (hn : w.1 73 40 ≤ w'.1 73 40 ∧ s_nt s ≤ s_nt s' ∧ (s_nt s' = s_nt s ↔ w'.1 73 40 = w.1 73 40)) (h45 : w'.1 73 45 ≤ max (w.1 73 45) (n : Int) ∧ s_tb s ≤ s_tb s') : rPO n hb s s' w Γ w' Γ R :=
  ⟨rXT_same (fun j q => hF 73 j (by omega)) (fun b _ _ => hA b (by omega)), rOt_mk (fun a j q => hF a j (by omega)) (fun b q => hA b (by omega)), ⟨hF 73 33 (by omega), fun i _ => by rw [hA 98 (by decide)]⟩, ⟨by rw [hF 73 35 (by omega)]; exact Int.le_refl _, fun i _ => by rw [hA 99 (by decide)], fun _ => hF 73 35 (by omega)⟩, hn, h45.1, by rw [hF 73 21 (by omega)]; have := h45.2; omega⟩
theorem w_f_ne (w : W_) (a j b k : Nat) (x : Int) (h : ¬ (b = a ∧ k = j)) : (w_f w a j x).1 b k = w.1 b k := by
  rw [w_f1, w_u_at, if_neg h]
theorem rS2_w (h : rS2 C D s w) (e1 : w'.1 73 44 = w.1 73 44) (e2 : w'.1 73 45 = w.1 73 45) (e3 : w'.1 73 46 = w.1 73 46) (es : s_sn s' = s_sn s ∧ s_lt s' = s_lt s ∧ s_as s' = s_as s) : rS2 C D s' w' := by
  unfold rS2 at h ⊢
  rw [e1, e2, e3, es.1, es.2.1, es.2.2]
  exact h
/-- one more is begun -/
theorem rRC_go (H : rRC C sil D qq ft s w Γ) (ht : s_tb s < 2000) (hb1 : s_b s + 1 ≤ 100000) : rRC C sil D (qq - 3) ft (u_go s) (r_b1 w) Γ ∧ rPO n hb s (u_go s) w Γ (r_b1 w) Γ R := by
  have N : ∀ a j, ¬ (a = 73 ∧ j = 39) → (r_b1 w).1 a j = w.1 a j := fun a j q => w_f_ne _ _ _ _ _ _ q
  have H0 := H
  obtain ⟨a1, ⟨a2, a2'⟩, ⟨⟨b1, b2, b3, b4⟩, b5, b6, b7, b8⟩, a4, -, -, -, -, -⟩ := H
  refine ⟨rRC_c H0 (rFR_w (s := s) a2 (N _ _ (by omega)) (N _ _ (by omega)) rfl) a2' ⟨⟨?_, hb1, ?_, ?_⟩, ?_, ?_, ?_, ?_⟩ (rS2_w a4 (N _ _ (by omega)) (N _ _ (by omega)) (N _ _ (by omega)) ⟨rfl, rfl, rfl⟩) (fun j q => N 73 j (by omega)) (fun b _ => rfl) ⟨rfl, rfl, rfl, rfl⟩ ⟨?_, ?_, ?_⟩ ?_, rPO_c (fun a j q => N a j (by omega)) (fun _ _ => rfl) ⟨by rw [N 73 40 (by omega)]; exact Int.le_refl _, Nat.le_refl _, ⟨fun _ => N 73 40 (by omega), fun _ => rfl⟩⟩ ⟨by rw [N 73 45 (by omega)]; omega, Nat.le_succ _⟩⟩
  · show w.1 73 39 + 1 = ((s_b s + 1 : Nat) : Int); omega
  · show s_tb s + 1 ≤ s_b s + 1; omega
  · show s_lt s ≤ s_b s + 1; omega
  · rw [N 73 43 (by omega)]; exact b5
  · rw [N 73 15 (by omega)]; exact b6
  · rw [N 73 80 (by omega), N 73 81 (by omega)]; exact b7
  · rw [N 73 79 (by omega)]; exact b8
  · show s_tb s ≤ s_tb s + 1; omega
  · show s_tb s + 1 ≤ 2000; omega
  · exact Nat.le_refl _
  · show qq - 3 = qq - 3 * (((s_tb s + 1 : Nat) : Int) - ((s_tb s : Nat) : Int)); omega
/-- a broken one is begun -/
theorem rRC_br (H : rRC C sil D qq ft s w Γ) (hb1 : s_b s + 1 ≤ 100000) : rRC C sil D qq ft (u_b s (s_b s + 1)) (r_b1 w) Γ ∧ rPO n hb s (u_b s (s_b s + 1)) w Γ (r_b1 w) Γ R := by
  have N : ∀ a j, ¬ (a = 73 ∧ j = 39) → (r_b1 w).1 a j = w.1 a j := fun a j q => w_f_ne _ _ _ _ _ _ q
  have H0 := H
  obtain ⟨a1, ⟨a2, a2'⟩, ⟨⟨b1, b2, b3, b4⟩, b5, b6, b7, b8⟩, a4, -, -, -, ⟨⟨-, -, c3⟩, -⟩, -⟩ := H
  refine ⟨rRC_c H0 (rFR_w (s := s) a2 (N _ _ (by omega)) (N _ _ (by omega)) rfl) a2' ⟨⟨?_, hb1, ?_, ?_⟩, ?_, ?_, ?_, ?_⟩ (rS2_w a4 (N _ _ (by omega)) (N _ _ (by omega)) (N _ _ (by omega)) ⟨rfl, rfl, rfl⟩) (fun j q => N 73 j (by omega)) (fun b _ => rfl) ⟨rfl, rfl, rfl, rfl⟩ ⟨Nat.le_refl _, c3, Nat.le_refl _⟩ ?_, rPO_c (fun a j q => N a j (by omega)) (fun _ _ => rfl) ⟨by rw [N 73 40 (by omega)]; exact Int.le_refl _, Nat.le_refl _, ⟨fun _ => N 73 40 (by omega), fun _ => rfl⟩⟩ ⟨by rw [N 73 45 (by omega)]; omega, Nat.le_refl _⟩⟩
  · show w.1 73 39 + 1 = ((s_b s + 1 : Nat) : Int); omega
  · show s_tb s ≤ s_b s + 1; omega
  · show s_lt s ≤ s_b s + 1; omega
  · rw [N 73 43 (by omega)]; exact b5
  · rw [N 73 15 (by omega)]; exact b6
  · rw [N 73 80 (by omega), N 73 81 (by omega)]; exact b7
  · rw [N 73 79 (by omega)]; exact b8
  · show qq = qq - 3 * (((s_tb s : Nat) : Int) - ((s_tb s : Nat) : Int)); omega
theorem r_nt_40 (c f p : Int) : (r_nt w c f p).1 73 40 = w.1 73 40 + 1 := r_nts_40 (w := w) (c := c) (f := f) (p := p) 1
/-- faults are noted -/
theorem rRC_nts {c f p z : Int} (H : rRC C sil D qq ft s w Γ) (hz : z = 100000 * c + (10000 * f + 100 * p)) (k : Nat) (hn : s_nt s + min 60 k ≤ 1000000) : rRC C sil D qq ft (f_notes C z (min 60 k) s) (r_nts w c f p (min 100 k)) Γ ∧ rPO n hb s (f_notes C z (min 60 k) s) w Γ (r_nts w c f p (min 100 k)) Γ R := by
  have N : ∀ a j, ¬ (a = 73 ∧ (j = 40 ∨ j = 41)) → (r_nts w c f p (min 100 k)).1 a j = w.1 a j := fun a j q => r_nts_1 _ q
  have H0 := H
  obtain ⟨a1, ⟨a2, a2'⟩, a3, a4, a5, -, -, ⟨⟨-, -, c3⟩, -⟩, -⟩ := H
  have l := f_notes_len (C := C) (z := z) (s := s) (min 60 k) a2.1.2
  have e40 := r_nts_40 (w := w) (c := c) (f := f) (p := p) (min 100 k)
  have M : ∀ m : Nat, ∃ nt fl, f_notes C z m s = u_flt s nt fl := by
    intro m
    induction m with
    | zero => exact ⟨s_nt s, s_fl s, rfl⟩
    | succ m ih =>
      obtain ⟨nt, fl, e⟩ := ih
      rw [f_notes_S, e]
      exact ⟨_, _, rfl⟩
  obtain ⟨nt, fl, e⟩ := M (min 60 k)
  have F := rFR_nts (n := k) a5.1.1 hz a2
  rw [e] at F l ⊢
  have l2 : nt = s_nt s + min 60 k := l.2
  refine ⟨rRC_c H0 F ?_ ?_ (rS2_w a4 (N _ _ (by omega)) (N _ _ (by omega)) (N _ _ (by omega)) ⟨rfl, rfl, rfl⟩) (fun j q => N 73 j (by omega)) (fun b q => r_nts_2 _ q) ⟨rfl, rfl, rfl, rfl⟩ ⟨Nat.le_refl _, c3, Nat.le_refl _⟩ ?_, rPO_c (fun a j q => N a j (by omega)) (fun b q => r_nts_2 _ q) ⟨by omega, ?_, ?_⟩ ⟨by rw [N 73 45 (by omega)]; omega, Nat.le_refl _⟩⟩
  · show nt ≤ 1000000; omega
  · unfold rS1 at a3 ⊢
    rw [N 73 39 (by omega), N 73 43 (by omega), N 73 15 (by omega), N 73 80 (by omega), N 73 81 (by omega), N 73 79 (by omega)]
    exact a3
  · show qq = qq - 3 * (((s_tb s : Nat) : Int) - ((s_tb s : Nat) : Int)); omega
  · show s_nt s ≤ nt; omega
  · show nt = s_nt s ↔ _
    rw [e40, l2]
    omega
theorem rRC_note {c f p z : Int} (H : rRC C sil D qq ft s w Γ) (hz : z = 100000 * c + (10000 * f + 100 * p)) (hn : s_nt s + 1 ≤ 1000000) : rRC C sil D qq ft (f_note C z s) (r_nt w c f p) Γ ∧ rPO n hb s (f_note C z s) w Γ (r_nt w c f p) Γ R := rRC_nts (n := n) (hb := hb) (R := R) H hz 1 hn
/-- contents were made -/
theorem rRC_MO {K : Nat} {d : Int} (H : rRC C sil D qq ft s w Γ) (M : rMO w Γ w' Γ' K d) (hK : (K : Int) ≤ w.1 73 21) (hd : qq + d ≤ 400) : rRC C sil D (qq + d) ft s w' Γ' ∧ rPO n hb s s w Γ w' Γ' R := by
  have H0 := H
  have B := rRC_bd H
  obtain ⟨a1, ⟨a2, a2'⟩, a3, a4, a5, -, -, ⟨⟨c1, c2, c3⟩, c4, c5, c6, c7⟩, -⟩ := H
  have M' := rMO_up M (K' := (w.1 73 21).toNat) (by omega)
  obtain ⟨X, H', G, ⟨F, A, S⟩, Dd⟩ := M'
  have N : ∀ j, j ≠ 26 → w'.1 73 j = w.1 73 j := fun j q => F 73 j (by omega)
  refine ⟨rRC_mk (qq' := qq + d) H0 X (rOK_m _) H' (rFR_w a2 (N _ (by omega)) (N _ (by omega)) (A 102 (by omega))) a2' ?_ (rS2_w a4 (N _ (by omega)) (N _ (by omega)) (N _ (by omega)) ⟨rfl, rfl, rfl⟩) (fun j q => N j (by omega)) (fun b q _ _ => A b (by omega)) ⟨rfl, rfl, rfl, rfl⟩ ?_, ?_⟩
  · unfold rS1 at a3 ⊢
    rw [N 39 (by omega), N 43 (by omega), N 15 (by omega), N 80 (by omega), N 81 (by omega), N 79 (by omega)]
    exact a3
  · unfold rS6
    rw [N 21 (by omega), N 33 (by omega), N 35 (by omega), N 17 (by omega), N 5 (by omega)]
    exact ⟨⟨by omega, hd, c3⟩, c4, c5, c6, c7⟩
  · exact ⟨rXT_wk X (by omega), rOt_mk (fun a j q => F a j (by omega)) (fun b q => A b (by omega)), ⟨N 33 (by omega), fun i _ => by rw [A 98 (by omega)]⟩, ⟨by rw [N 35 (by omega)]; exact Int.le_refl _, fun i _ => by rw [A 99 (by omega)], fun _ => N 35 (by omega)⟩, ⟨by rw [N 40 (by omega)]; exact Int.le_refl _, Nat.le_refl _, ⟨fun _ => N 40 (by omega), fun _ => rfl⟩⟩, by rw [N 45 (by omega)]; omega, by rw [N 21 (by omega)]; exact Int.le_refl _⟩
theorem rRC_qq {qq' : Int} (H : rRC C sil D qq ft s w Γ) (h : qq ≤ qq') (h4 : qq' ≤ 400) : rRC C sil D qq' ft s w Γ := by
  obtain ⟨a1, a2, a3, a4, a5, a6, a7, ⟨⟨c1, c2, c3⟩, c4⟩, a9⟩ := H
  exact ⟨a1, a2, a3, a4, a5, a6, a7, ⟨⟨by omega, h4, c3⟩, c4⟩, a9⟩
theorem f_spot_e (id : Nat) : f_spot id = 10000 * ((id / 60 : Nat) : Int) + 100 * ((id % 60 : Nat) : Int) := rfl
/-- a pair's number is among the pairs -/
theorem rKr_le (B : rBD w) {v : T_} {r : Int} (V : rVF w Γ v r) (h21 : 0 ≤ w.1 73 21) : (rKr r : Int) ≤ w.1 73 21 := by
  have z := rV0_c V.2 B
  unfold rKr
  split
  · rename_i q
    rcases z.2 with ⟨x, _, e, _⟩ | ⟨_, e⟩ | ⟨_, e⟩ | ⟨f, _, _, e, _⟩ | ⟨p, _, _, e, e2, e3⟩ | ⟨c, _, e, _⟩ <;> omega
  · omega
/-- the content of a value, as E asks for it -/
theorem lk_195E {L fr id : Nat} {v : T_} {r f p : Int} (H : rRC C sil D qq ft s w Γ) (V : rVF w Γ v r) (hE : f_fu L C v id s = some s1) (hid : v_nf v = 0 ∨ (f = ((id / 60 : Nat) : Int) ∧ p = ((id % 60 : Nat) : Int))) (hf : L + 9 ≤ fr) (hq : qq + 1 ≤ 400) (hn : s_nt s1 ≤ 900000) : ww_Ct 195 fr [.inr (.inr (.inl 73)), .inl r, .inl f, .inl p] w fun r' w' => ∃ x, r' = some (.inl x) ∧ ∃ Γ', rRC C sil D (qq + 1) ft s1 w' Γ' ∧ rCC w' Γ' x (rFL v) ∧ rPO n hb s s1 w Γ w' Γ' R := by
  unfold f_fu at hE
  by_cases c : v_dp v ≤ L
  · rw [if_pos c] at hE
    cases hE
    have B := rRC_bd H
    have S6 := H.2.2.2.2.2.2.2.1
    have K := rKr_le B.1 V B.2.2.2.2.2.2.2
    have u := rUC_le (w.2 90) (rKr r) (w.1 73 21).toNat (by omega)
    have S6' := S6.1
    refine (lk_195 (f := f) (p := p) H.1 V c hf B.1 (by omega) B.2.1).mono ?_
    rintro r' w' ⟨x, rfl, Γ', w1, M, Cx, hw⟩
    obtain ⟨H1, P1⟩ := rRC_MO (n := n) (hb := hb) (R := R) H (rMO_wk (d2 := 1) M (by split <;> omega)) K hq
    have hz : v_nf v = 0 ∨ f_code 3 id = 100000 * 3 + (10000 * f + 100 * p) := by
      rcases hid with q | ⟨q1, q2⟩
      · exact Or.inl q
      · right
        unfold f_code
        rw [f_spot_e, q1, q2]
        rfl
    rcases hz with q | q
    · have e1 : f_funs C v id s = s := by unfold f_funs; rw [q]; rfl
      rw [e1]
      have e2 : w' = w1 := by rw [hw, q]; rfl
      rw [e2]
      exact ⟨x, rfl, Γ', H1, Cx, P1⟩
    · have hn' : s_nt s + min 60 (v_nf v) ≤ 900000 := by
        have l := f_notes_len (C := C) (z := f_code 3 id) (s := s) (min 60 (v_nf v)) H.2.1.1.1.2
        have hn : s_nt (f_notes C (f_code 3 id) (min 60 (v_nf v)) s) ≤ 900000 := hn
        rw [l.2] at hn
        exact hn
      obtain ⟨H2, P2⟩ := rRC_nts (n := n) (hb := hb) (R := R) H1 q (v_nf v) (by omega)
      rw [← hw] at H2 P2
      have e26 : w'.1 73 26 = w1.1 73 26 := by rw [hw]; exact r_nts_1 _ (by omega)
      exact ⟨x, rfl, Γ', H2, ⟨by rw [e26]; exact Cx.1, Cx.2⟩, rPO_trans P1 P2 (Nat.le_refl _) (Nat.le_refl _) (fun q => q) (fun q => q) (Or.inl rfl) (Or.inl rfl)⟩
  · rw [if_neg c] at hE
    cases hE
end
