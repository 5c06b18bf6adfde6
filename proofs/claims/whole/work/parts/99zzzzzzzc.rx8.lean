/-! ===== realizing: a content that E asks for, counted well ===== -/
theorem isN_no {v : T_} (h : v_isF v = true ∨ v_isP v = true ∨ v_isC v = true) : v_isN v = false := by
  cases v <;> first | rfl | (rcases h with h | h | h <;> cases h)
section
variable {C : C_} {sil : Bool} {D : Prop} {qq : Int} {ft : Nat} {s s1 : S_} {w w' : W_} {Γ Γ' : rG_} {n fr : Nat} {hb : Bool} {R : Int}
theorem lk_195Q {L id : Nat} {v : T_} {r f p : Int} (H : rRC C sil D qq ft s w Γ) (V : rVF w Γ v r) (hE : f_fu L C v id s = some s1) (hid : v_nf v = 0 ∨ (f = ((id / 60 : Nat) : Int) ∧ p = ((id % 60 : Nat) : Int))) (hf : L + 9 ≤ fr) (hq : qq + 1 ≤ 400) (hn : s_nt s1 ≤ 900000) : ww_Ct 195 fr [.inr (.inr (.inl 73)), .inl r, .inl f, .inl p] w fun r' w' => ∃ x, r' = some (.inl x) ∧ ∃ (Γ' : rG_) (d : Nat), (d = 0 ∨ d = 1 ∧ w'.1 73 26 = w.1 73 26 + 1 ∧ w'.2 92 (w.1 73 26).toNat = 0) ∧ rRC C sil D (qq + (d : Int)) ft s1 w' Γ' ∧ rCC w' Γ' x (rFL v) ∧ rPO n hb s s1 w Γ w' Γ' R := by
  have hE0 := hE
  unfold f_fu at hE
  by_cases c : v_dp v ≤ L
  · rw [if_pos c] at hE
    cases hE
    have B := rRC_bd H
    have S6 := H.2.2.2.2.2.2.2.1
    have K := rKr_le B.1 V B.2.2.2.2.2.2.2
    have u := rUC_le (w.2 90) (rKr r) (w.1 73 21).toNat (by omega)
    have S6' := S6.1
    by_cases cN : v_isN v = true
    · rcases V.2 with ⟨x, e, e1, e2, e3⟩ | ⟨e, -⟩ | ⟨e, -⟩ | ⟨f', -, e, -⟩ | ⟨p', -, e, -⟩ | ⟨c', e, -⟩
      · have z := rV0_c V.2 B.1
        have n0 : v_nf v = 0 := by rw [e]; rfl
        have es : f_funs C v id s = s := by unfold f_funs; rw [n0]; rfl
        rw [es]
        have K0 : rKr r = 0 := by
          unfold rKr
          rw [if_neg (by omega)]
        refine lk_195a (R := fun y w' => y = w.1 73 26 ∧ ∃ Γ', rMO w Γ w' Γ' (rKr r) 1 ∧ w'.1 73 26 = w.1 73 26 + 1 ∧ Γ'.1 (w.1 73 26).toNat = [.tag 1 (.nest (1000 + x) .nil)] ∧ (w'.2 92 (w.1 73 26).toNat = 0) ∧ w'.2 90 = w.2 90 ∧ w'.2 91 = w.2 91) (by omega) (lk_193k (R := fun y w' => y = w.1 73 26 ∧ ∃ Γ', rMO w Γ w' Γ' (rKr r) 1 ∧ w'.1 73 26 = w.1 73 26 + 1 ∧ Γ'.1 (w.1 73 26).toNat = [.tag 1 (.nest (1000 + x) .nil)] ∧ (w'.2 92 (w.1 73 26).toNat = 0) ∧ w'.2 90 = w.2 90 ∧ w'.2 91 = w.2 91) (by omega) z.1 (by omega) (by omega) (show -9999 ≤ x ∧ x ≤ 9999 by omega) ((lk_word (K := rKr r) (fr := fr - 1 - 1) H.1 (by omega) (by omega) (by omega)).mono ?_) ?_) ?_
        · rintro r' w' ⟨rfl, h⟩
          exact ⟨_, rfl, rfl, h⟩
        · exact fun y w' h => ⟨y, rfl, h⟩
        · rintro y w1 ⟨rfl, Γ', M, q2, q3, q4, -⟩
          obtain ⟨H1, P1⟩ := rRC_MO (n := n) (hb := hb) (R := R) H M K hq
          have B1 := rRC_bd H1
          refine lk_195b (n := 0) (by omega) ⟨z.1, fun q => by omega⟩ (by rw [if_neg (by omega), if_neg (by omega)]) (by omega) (by omega) (by omega) (fun q => by omega) (fun _ => ⟨_, rfl, Γ', 1, Or.inr ⟨rfl, q2, q4⟩, H1, ⟨⟨by omega, by omega⟩, by rw [q3, e]; rfl⟩, P1⟩)
      · rw [e] at cN; cases cN
      · rw [e] at cN; cases cN
      · rw [isN_no (Or.inl e)] at cN; cases cN
      · rw [isN_no (Or.inr (Or.inl e))] at cN; cases cN
      · rw [isN_no (Or.inr (Or.inr e))] at cN; cases cN
    · have LK := lk_195 (f := f) (p := p) H.1 V c hf B.1 (by omega) B.2.1
      rw [if_neg cN] at LK
      refine LK.mono ?_
      rintro r' w' ⟨x, rfl, Γ', w1, M, Cx, hw⟩
      obtain ⟨H1, P1⟩ := rRC_MO (n := n) (hb := hb) (R := R) H M K (by omega)
      have hz : v_nf v = 0 ∨ f_code 3 id = 100000 * 3 + (10000 * f + 100 * p) := by
        rcases hid with q | ⟨q1, q2⟩
        · exact Or.inl q
        · right
          unfold f_code
          rw [f_spot_e, q1, q2]
          rfl
      rcases hz with q | q
      · have e1 : f_funs C v id s = s := by unfold f_funs; rw [q]; rfl
        rw [e1]
        have e2 : w' = w1 := by rw [hw, q]; rfl
        rw [e2]
        exact ⟨x, rfl, Γ', 0, Or.inl rfl, H1, Cx, P1⟩
      · have hn' : s_nt s + min 60 (v_nf v) ≤ 900000 := by
          have l := f_notes_len (C := C) (z := f_code 3 id) (s := s) (min 60 (v_nf v)) H.2.1.1.1.2
          have hn : s_nt (f_notes C (f_code 3 id) (min 60 (v_nf v)) s) ≤ 900000 := hn
          rw [l.2] at hn
          exact hn
        obtain ⟨H2, P2⟩ := rRC_nts (n := n) (hb := hb) (R := R) H1 q (v_nf v) (by omega)
        rw [← hw] at H2 P2
        have e26 : w'.1 73 26 = w1.1 73 26 := by rw [hw]; exact r_nts_1 _ (by omega)
        exact ⟨x, rfl, Γ', 0, Or.inl rfl, H2, ⟨by rw [e26]; exact Cx.1, Cx.2⟩, rPO_trans P1 P2 (Nat.le_refl _) (Nat.le_refl _) (fun q => q) (fun q => q) (Or.inl rfl) (Or.inl rfl)⟩
  · rw [if_neg c] at hE
    cases hE
end
section
variable {sil : Bool} {s s1 : S_} {w w' : W_} {Γ Γ' : rG_} {G : G_} {q q1 : Q_} {fr K L : Nat} {P : Option am_V → W_ → Prop} {y : Int}
/-- a content made of a number is a word -/
theorem cW_one {R : Int} (X : rXT w Γ w' Γ' R) (h : 1 ≤ w.1 73 26) (h1 : w'.1 73 26 = w.1 73 26 + 1) (h2 : w'.2 92 (w.1 73 26).toNat = 0) : cW (w.2 92) (w.1 73 26 - 1).toNat + 1 ≤ cW (w'.2 92) (w'.1 73 26 - 1).toNat := by
  have z := cW_eq (a := w'.2 92) (b := w.2 92) (w.1 73 26 - 1).toNat (fun k hk => (X.2.2.2.2 k (by omega)).1.1)
  have e1 : (w'.1 73 26 - 1).toNat = (w.1 73 26 - 1).toNat + 1 := by omega
  have e2 : (w.1 73 26).toNat = (w.1 73 26 - 1).toNat + 1 := by omega
  rw [e1, ← z]
  rw [e2] at h2
  show _ ≤ cW (w'.2 92) (w.1 73 26 - 1).toNat + (if w'.2 92 ((w.1 73 26 - 1).toNat + 1) = 0 then 1 else 0)
  rw [if_pos h2]
  exact Nat.le_refl _
/-- how many contents are no words -/
theorem uW_bd {nq : Nat} (H : rRC (g_C G q) sil False (8 + (nq : Int)) 0 s w Γ) (hq : nq ≤ cW (w.2 92) (w.1 73 26 - 1).toNat) {c : Nat} (hc : (c : Int) < w.1 73 26) : uW (w.2 92) c ≤ 3 * s_tb s + 11 := by
  have S6 := H.2.2.2.2.2.2.2.1
  obtain ⟨⟨a1, -⟩, -, -, ⟨a4, a5⟩, -⟩ := S6
  have e := uW_cW (w.2 92) (w.1 73 26 - 1).toNat
  have m := uW_mono (w.2 92) (show c ≤ (w.1 73 26 - 1).toNat by omega)
  omega
/-- .. so one more content waits within its bounds -/
theorem uW_lm {nq : Nat} (H : rRC (g_C G q) sil False (8 + (nq : Int)) 0 s w Γ) (hq : nq ≤ cW (w.2 92) (w.1 73 26 - 1).toNat) {c : Nat} (hc : (c : Int) < w.1 73 26) (ht : s_tb s ≤ 1800) : uW (w.2 92) c + 1 ≤ rLm s + 1 ∧ (s_b s < 300 → uW (w.2 92) c ≤ 909) ∧ uW (w.2 92) c ≤ 5411 := by
  have u := uW_bd H hq hc
  have tb := H.2.2.1.1.2.2.1
  refine ⟨?_, fun h => by omega, by omega⟩
  unfold rLm
  split <;> omega
end
