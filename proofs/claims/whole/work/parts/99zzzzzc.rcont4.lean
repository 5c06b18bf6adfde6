/-! ===== a value's content: E's leaves ===== -/
/-- the counts stay in their rows -/
def rBD (w : W_) : Prop := w.1 73 17 ≤ 2048 ∧ w.1 73 21 ≤ 2048 ∧ w.1 73 26 ≤ 8192
theorem rFL_F {v : T_} (h : v_isF v = true) : rFL v = [] ∧ v_nf v = 1 ∧ v_dp v = 0 ∧ v_isN v = false := by
  unfold v_isF at h
  split at h
  · exact ⟨rfl, rfl, rfl, rfl⟩
  · cases h
theorem v_C_nf {v : T_} (h : v_isC v = true) : v_nf v = 0 ∧ v_isN v = false := by
  unfold v_isC at h
  split at h
  · exact ⟨rfl, rfl⟩
  · rename_i k u
    have hk := of_decide_eq_true h
    refine ⟨?_, rfl⟩
    unfold v_nf
    split
    · rename_i e; cases e; omega
    · rename_i e; cases e; omega
    · rfl
  · cases h
section
variable {w w1 w2 : W_} {Γ Γ1 Γ2 : rG_} {K : Nat} {d : Int}
/-- a value's tag and number -/
theorem rV0_c {v : T_} {r : Int} (h : rV0 w Γ v r) (B : rBD w) : am_rg r ∧ ((∃ x, v = vN x ∧ r % 8 = 1 ∧ r / 8 = x ∧ -9999 ≤ x ∧ x ≤ 9999) ∨ (v = v0 ∧ r = 0) ∨ (v = vW ∧ r = 5) ∨ (∃ f : Nat, v = Γ.2.1 f ∧ v_isF v = true ∧ r % 8 = 3 ∧ r / 8 = f ∧ (f : Int) < w.1 73 17) ∨ (∃ p : Nat, v = Γ.2.2.1 p ∧ v_isP v = true ∧ r % 8 = 4 ∧ r / 8 = p ∧ (p : Int) < w.1 73 21) ∨ ∃ c : Nat, v_isC v = true ∧ r % 8 = 2 ∧ r / 8 = c ∧ (c : Int) < w.1 73 26 ∧ Γ.1 c = rFL v) := by
  obtain ⟨b1, b2, b3⟩ := B
  unfold am_rg
  rcases h with ⟨x, e1, e2, e3⟩ | q | q | ⟨f, e1, e2, e3, e4⟩ | ⟨p, e1, e2, e3, e4⟩ | ⟨c, e1, e2, e3, e4⟩
  · exact ⟨by omega, Or.inl ⟨x, e1, by omega, by omega, e3⟩⟩
  · exact ⟨by omega, Or.inr (Or.inl q)⟩
  · exact ⟨by omega, Or.inr (Or.inr (Or.inl q))⟩
  · exact ⟨by omega, Or.inr (Or.inr (Or.inr (Or.inl ⟨f, e1, e2, by omega, by omega, e4⟩)))⟩
  · exact ⟨by omega, Or.inr (Or.inr (Or.inr (Or.inr (Or.inl ⟨p, e1, e2, by omega, by omega, e4⟩))))⟩
  · exact ⟨by omega, Or.inr (Or.inr (Or.inr (Or.inr (Or.inr ⟨c, e1, by omega, by omega, e3, e4⟩))))⟩
theorem rVF_p4 {v : T_} {r : Int} (h : rVF w Γ v r) (B : rBD w) : am_rg r ∧ (r % 8 = 4 → 0 ≤ r / 8 ∧ r / 8 < 2048) := by
  have z := rV0_c h.2 B
  refine ⟨z.1, fun q => ?_⟩
  obtain ⟨b1, b2, b3⟩ := B
  rcases z.2 with ⟨x, _, e, _⟩ | ⟨_, e⟩ | ⟨_, e⟩ | ⟨f, _, _, e, _⟩ | ⟨p, _, _, e, e2, e3⟩ | ⟨c, _, e, _⟩ <;> omega
/-- how many functions are in a value, once its content is made -/
theorem rFN (H : rHH w Γ) {v : T_} {r : Int} (h : rVF w Γ v r) (B : rBD w) (hc : r % 8 = 4 → w.2 90 (r / 8).toNat ≠ -1) : (if r % 8 = 3 then 1 else if r % 8 = 4 then w.2 91 (r / 8).toNat else 0) = ((min 100 (v_nf v) : Nat) : Int) := by
  have z := rV0_c h.2 B
  rcases z.2 with ⟨x, e, e1, _⟩ | ⟨e, e1⟩ | ⟨e, e1⟩ | ⟨f, _, e, e1, _⟩ | ⟨p, e, _, e1, e2, e3⟩ | ⟨c, e, e1, _⟩
  · rw [if_neg (by omega), if_neg (by omega), e]; rfl
  · rw [if_neg (by omega), if_neg (by omega), e]; rfl
  · rw [if_neg (by omega), if_neg (by omega), e]; rfl
  · rw [if_pos e1, (rFL_F e).2.1]; rfl
  · rw [if_neg (by omega), if_pos e1]
    have hc := hc e1
    have ep : (r / 8).toNat = p := by omega
    rw [ep] at hc ⊢
    obtain ⟨a, b, h1, _, _, h4⟩ := H.2.2.2.1 p e3
    rcases h4 with q | ⟨_, _, q⟩
    · exact absurd q hc
    · rw [q, e, h1]; rfl
  · rw [if_neg (by omega), if_neg (by omega), (v_C_nf e).1]; rfl
/-- how far the pairs in a value go -/
def rKr (r : Int) : Nat := if r % 8 = 4 then (r / 8).toNat + 1 else 0
end
/-- a word's content -/
theorem lk_word {w : W_} {Γ : rG_} {K fr : Nat} {n : Int} (H : rHH w Γ) (hf : 3 ≤ fr) (hn : w.1 73 26 < 8192) (hb : -9000 ≤ n ∧ n ≤ 11000) : ww_Ct 187 fr [.inr (.inr (.inl 73)), .inl 0, .inl n, .inl 0, .inl 0, .inl 1] w fun r w' => r = some (.inl (w.1 73 26)) ∧ ∃ Γ', rMO w Γ w' Γ' K 1 ∧ w'.1 73 26 = w.1 73 26 + 1 ∧ Γ'.1 (w.1 73 26).toNat = [.tag 1 (.nest n .nil)] ∧ (w'.2 92 (w.1 73 26).toNat = 0) ∧ w'.2 90 = w.2 90 ∧ w'.2 91 = w.2 91 := by
  refine lk_new (y := fun s => (s : Int)) H hf hn ⟨fun q => by (cases q), fun t ht => ?_⟩ rfl (fun _ s hs => ?_) (fun s s1 s2 => ?_) (fun v _ _ _ s s1 s2 => ?_) (fun m w' Γ' en X G2 G3 f1 f2 f3 f4 => ?_)
  · rw [List.mem_singleton] at ht
    exact ⟨1, _, ht, by omega⟩
  · show ((s + 1 : Nat) : Int) = ((m9 (s + 1 + 0) : Nat) : Int)
    rw [Nat.add_zero, m9_id (by omega)]
  · show 0 ≤ (s : Int) ∧ (s : Int) ≤ 9999
    omega
  · exact lk_189_0 (by omega)
  · refine Or.inr ⟨by omega, _, G3, ?_⟩
    unfold rLF
    exact ⟨f1, f2, hb⟩
/-- the content of a value -/
theorem lk_193 : ∀ (L : Nat) {w : W_} {Γ : rG_} {v : T_} {r : Int} {fr : Nat}, rHH w Γ → rVF w Γ v r → v_dp v ≤ L → L + 8 ≤ fr → rBD w → w.1 73 26 + 3 * (rUC (w.2 90) (rKr r) : Int) + 1 ≤ 8192 → ww_Ct 193 fr [.inr (.inr (.inl 73)), .inl r] w fun r' w' => ∃ x, r' = some (.inl x) ∧ ∃ Γ', rMO w Γ w' Γ' (rKr r) (if v_isN v = true then 1 else 0) ∧ rCC w' Γ' x (rFL v) ∧ (r % 8 = 4 → w'.2 90 (r / 8).toNat ≠ -1) := by
  intro L
  induction L with
  | zero =>
    intro w Γ v r fr H V hL hfr B hb
    have z := rV0_c V.2 B
    have d0 : (0 : Int) ≤ (if v_isN v = true then 1 else 0) := by split <;> omega
    have n0 := H.1.2.2.2.2
    rcases z.2 with ⟨x, e, e1, e2, e3⟩ | ⟨e, e1⟩ | ⟨e, e1⟩ | ⟨f, _, e, e1, _⟩ | ⟨p, e, e', e1, e2, e3⟩ | ⟨c, e, e1, e2, e3, e4⟩
    · refine lk_193k (R := fun y w' => y = w.1 73 26 ∧ ∃ Γ', rMO w Γ w' Γ' (rKr r) 1 ∧ w'.1 73 26 = w.1 73 26 + 1 ∧ Γ'.1 (w.1 73 26).toNat = [.tag 1 (.nest (1000 + x) .nil)] ∧ (w'.2 92 (w.1 73 26).toNat = 0) ∧ w'.2 90 = w.2 90 ∧ w'.2 91 = w.2 91) (by omega) z.1 e1 e2 e3 ((lk_word (K := rKr r) (fr := fr - 1) H (by omega) (by omega) (by omega)).mono ?_) ?_
      · rintro r' w' ⟨rfl, h⟩
        exact ⟨_, rfl, rfl, h⟩
      · rintro y w' ⟨rfl, Γ', q1, q2, q3, -⟩
        refine ⟨_, rfl, Γ', ?_, ⟨⟨by omega, by omega⟩, by rw [q3, e]; rfl⟩, fun q => by omega⟩
        rw [e]; exact q1
    · refine lk_193n (t := 0) (by omega) z.1 (by omega) (by omega) ⟨_, rfl, Γ, rMO_wk (rMO_rfl H) d0, ⟨⟨by omega, by omega⟩, by rw [e]; exact H.2.1⟩, fun q => by omega⟩
    · refine lk_193n (t := 5) (by omega) z.1 (by omega) (by omega) ⟨_, rfl, Γ, rMO_wk (rMO_rfl H) d0, ⟨⟨by omega, by omega⟩, by rw [e]; exact H.2.1⟩, fun q => by omega⟩
    · refine lk_193n (t := 3) (by omega) z.1 e1 (by omega) ⟨_, rfl, Γ, rMO_wk (rMO_rfl H) d0, ⟨⟨by omega, by omega⟩, by rw [(rFL_F e).1]; exact H.2.1⟩, fun q => by omega⟩
    · obtain ⟨a, b, h1, _⟩ := H.2.2.2.1 p e3
      rw [e, h1] at hL
      exact absurd hL (by show ¬ max (v_dp a) (v_dp b) + 1 ≤ 0; omega)
    · refine lk_193c (by omega) z.1 e1 e2 ⟨_, rfl, Γ, rMO_wk (rMO_rfl H) d0, ⟨⟨by omega, e3⟩, ?_⟩, fun q => by omega⟩
      rw [show ((c : Int)).toNat = c by omega]; exact e4
  | succ L ih =>
    intro w Γ v r fr H V hL hfr B hb
    have z := rV0_c V.2 B
    have d0 : (0 : Int) ≤ (if v_isN v = true then 1 else 0) := by split <;> omega
    have n0 := H.1.2.2.2.2
    rcases z.2 with ⟨x, e, e1, e2, e3⟩ | ⟨e, e1⟩ | ⟨e, e1⟩ | ⟨f, _, e, e1, _⟩ | ⟨p, e, e', e1, e2, e3⟩ | ⟨c, e, e1, e2, e3, e4⟩
    · refine lk_193k (R := fun y w' => y = w.1 73 26 ∧ ∃ Γ', rMO w Γ w' Γ' (rKr r) 1 ∧ w'.1 73 26 = w.1 73 26 + 1 ∧ Γ'.1 (w.1 73 26).toNat = [.tag 1 (.nest (1000 + x) .nil)] ∧ (w'.2 92 (w.1 73 26).toNat = 0) ∧ w'.2 90 = w.2 90 ∧ w'.2 91 = w.2 91) (by omega) z.1 e1 e2 e3 ((lk_word (K := rKr r) (fr := fr - 1) H (by omega) (by omega) (by omega)).mono ?_) ?_
      · rintro r' w' ⟨rfl, h⟩
        exact ⟨_, rfl, rfl, h⟩
      · rintro y w' ⟨rfl, Γ', q1, q2, q3, -⟩
        refine ⟨_, rfl, Γ', ?_, ⟨⟨by omega, by omega⟩, by rw [q3, e]; rfl⟩, fun q => by omega⟩
        rw [e]; exact q1
    · refine lk_193n (t := 0) (by omega) z.1 (by omega) (by omega) ⟨_, rfl, Γ, rMO_wk (rMO_rfl H) d0, ⟨⟨by omega, by omega⟩, by rw [e]; exact H.2.1⟩, fun q => by omega⟩
    · refine lk_193n (t := 5) (by omega) z.1 (by omega) (by omega) ⟨_, rfl, Γ, rMO_wk (rMO_rfl H) d0, ⟨⟨by omega, by omega⟩, by rw [e]; exact H.2.1⟩, fun q => by omega⟩
    · refine lk_193n (t := 3) (by omega) z.1 e1 (by omega) ⟨_, rfl, Γ, rMO_wk (rMO_rfl H) d0, ⟨⟨by omega, by omega⟩, by rw [(rFL_F e).1]; exact H.2.1⟩, fun q => by omega⟩
    · obtain ⟨a, b, h1, h2, h3, h4⟩ := H.2.2.2.1 p e3
      rw [e, h1] at hL
      have hL : max (v_dp a) (v_dp b) + 1 ≤ L + 1 := hL
      obtain ⟨B1, B2, B3⟩ := B
      have eK : rKr r = p + 1 := by unfold rKr; rw [if_pos e1]; omega
      have ep : (r / 8).toNat = p := by omega
      have en : v_isN v = false := by rw [e, h1]; rfl
      have eF : rFL v = rFL a ++ rFL b := by rw [e, h1]; rfl
      rw [eK, en, eF, ep]
      rw [eK] at hb
      have eN : ((p : Nat) : Int).toNat = p := by omega
      have U1 : rUC (w.2 90) (p + 1) = rUC (w.2 90) p + (if w.2 90 p = -1 then 1 else 0) := rfl
      refine lk_193p (by omega) z.1 e1 (lk_193q (p := (p : Int)) (k := w.2 90 p) (R := fun x w' => ∃ Γ', rMO w Γ w' Γ' (rKr (w.2 88 p)) (if v_isN a = true then 1 else 0) ∧ rCC w' Γ' x (rFL a) ∧ (w.2 88 p % 8 = 4 → w'.2 90 (w.2 88 p / 8).toNat ≠ -1)) (by omega) z.1 e2 (by omega) (by rw [eN]) ?_ (fun k1 => ?_) (fun k1 => ?_) (fun k1 x1 w1 hR => ?_))
      · unfold am_rg
        rcases h4 with q | ⟨q, -⟩ <;> omega
      · rcases h4 with q | ⟨q1, q2, q3⟩
        · exact absurd q k1
        · exact ⟨_, rfl, Γ, rMO_wk (rMO_rfl H) (by omega), ⟨q1, q2⟩, fun _ => k1⟩
      · -- the first one's
        rw [if_pos k1] at U1
        have K1 : rKr (w.2 88 p) ≤ p := by
          unfold rKr
          split
          · rename_i q; have := h2.2 q; have := (rVF_p4 h2.1 ⟨B1, B2, B3⟩).2 q; omega
          · omega
        have := rUC_le (w.2 90) _ _ K1
        rw [eN]
        exact ih (fr := fr - 1) H h2.1 (by omega) (by omega) ⟨B1, B2, B3⟩ (by omega)
      · obtain ⟨Γ1, M1, C1, P1⟩ := hR
        rw [if_pos k1] at U1
        have K1 : rKr (w.2 88 p) ≤ p := by
          unfold rKr
          split
          · rename_i q; have := h2.2 q; have := (rVF_p4 h2.1 ⟨B1, B2, B3⟩).2 q; omega
          · omega
        have K2 : rKr (w.2 89 p) ≤ p := by
          unfold rKr
          split
          · rename_i q; have := h3.2 q; have := (rVF_p4 h3.1 ⟨B1, B2, B3⟩).2 q; omega
          · omega
        have M1 := rMO_wk (d2 := 1) (rMO_up M1 K1) (by split <;> omega)
        obtain ⟨X1, H1, G1, ⟨F1, A1, S1⟩, D1⟩ := M1
        have f21 := F1 73 21 (by omega)
        have f17 := F1 73 17 (by omega)
        have f26 := X1.1.1.2.2.2.2
        have a88 : w1.2 88 p = w.2 88 p := by rw [A1 88 (by omega)]
        have a89 : w1.2 89 p = w.2 89 p := by rw [A1 89 (by omega)]
        have u2 := rUC_le (w1.2 90) _ _ K2
        have V2 := rVF_mono X1 h3.1
        refine lk_193r (x := x1) (by omega) (by omega) (R1 := fun y w' => ∃ Γ', rMO w1 Γ1 w' Γ' p 1 ∧ rCC w' Γ' y (rFL b) ∧ (w.2 89 p % 8 = 4 → w'.2 90 (w.2 89 p / 8).toNat ≠ -1)) (R2 := fun z w'' => ∃ w2 Γ2 Γ3, rMO w1 Γ1 w2 Γ2 p 1 ∧ (w.2 89 p % 8 = 4 → w2.2 90 (w.2 89 p / 8).toNat ≠ -1) ∧ rMO w2 Γ2 w'' Γ3 p 1 ∧ rCC w'' Γ3 z (rFL a ++ rFL b)) ?_ ?_ ?_
        · rw [eN, a89]
          refine (ih (fr := fr - 1) H1 V2 (by omega) (by omega) ⟨by omega, by omega, by omega⟩ (by omega)).mono ?_
          rintro r' w' ⟨y, rfl, Γ', q1, q2, q3⟩
          exact ⟨y, rfl, Γ', rMO_wk (rMO_up q1 K2) (by split <;> omega), q2, q3⟩
        · rintro y w2 ⟨Γ2, M2, C2, P2⟩
          have M2' := M2
          obtain ⟨X2, H2, G2, ⟨F2, A2, S2⟩, D2⟩ := M2
          have g26 := X2.1.1.2.2.2.2
          obtain ⟨fr', l1, l2⟩ := lk_191 (K := p) (fr := fr) H2 (by omega) (by omega) (rCC_mono X2 C1) C2 (Or.inl h2.1.1.2.1)
          refine ww_Cn_of l2 l1 ?_
          rintro r' w3 ⟨x, rfl, Γ3, q1, q2, -⟩
          exact ⟨x, rfl, w2, Γ2, Γ3, M2', P2, rMO_wk q1 (by split <;> omega), q2⟩
        · rintro x w3 ⟨w2, Γ2, Γ3, M2, P2, M3, C3⟩
          obtain ⟨X2, H2, G2, ⟨F2, A2, S2⟩, D2⟩ := M2
          obtain ⟨X3, H3, G3, ⟨F3, A3, S3⟩, D3⟩ := M3
          rw [eN]
          have X13 : rXT w1 Γ1 w3 Γ3 (-1) := rXT_trans X2 X3 (Or.inl rfl) (Or.inl rfl)
          have X03 : rXT w Γ w3 Γ3 (-1) := rXT_trans X1 X13 (Or.inl rfl) (Or.inl rfl)
          have p88 : w3.2 88 p = w.2 88 p := by rw [A3 88 (by omega), A2 88 (by omega), a88]
          have p89 : w3.2 89 p = w.2 89 p := by rw [A3 89 (by omega), A2 89 (by omega), a89]
          have p90 : w3.2 90 p = -1 := by rw [S3 p (Nat.le_refl _), S2 p (Nat.le_refl _), S1 p (Nat.le_refl _)]; exact k1
          have B3' : rBD w3 := ⟨by rw [F3 73 17 (by omega), F2 73 17 (by omega), f17]; exact B1, by rw [F3 73 21 (by omega), F2 73 21 (by omega), f21]; exact B2, by omega⟩
          have c21 : w3.1 73 21 = w.1 73 21 := by rw [F3 73 21 (by omega), F2 73 21 (by omega), f21]
          have Va := rVF_mono X03 h2.1
          have Vb := rVF_mono X03 h3.1
          -- what is cached stays
          have Pa : w.2 88 p % 8 = 4 → w3.2 90 (w.2 88 p / 8).toNat ≠ -1 := fun q => by
            have q1 := P1 q
            have q2 := h2.2 q
            have pp := (rVF_p4 h2.1 ⟨B1, B2, B3⟩).2 q
            have s := (X13.2.2.2.1 (w.2 88 p / 8).toNat (by omega)).1.2.2 q1
            rw [s.1]; exact q1
          have Pb : w.2 89 p % 8 = 4 → w3.2 90 (w.2 89 p / 8).toNat ≠ -1 := fun q => by
            have q1 := P2 q
            have q2 := h3.2 q
            have pp := (rVF_p4 h3.1 ⟨B1, B2, B3⟩).2 q
            have s := (X3.2.2.2.1 (w.2 89 p / 8).toNat (by rw [F2 73 21 (by omega)]; omega)).1.2.2 q1
            rw [s.1]; exact q1
          have N1 := rFN H3 Va B3' Pa
          have N2 := rFN H3 Vb B3' Pb
          have f1 := rVF_p4 Va B3'
          have f2 := rVF_p4 Vb B3'
          refine lk_193s (n1 := ((min 100 (v_nf a) : Nat) : Int)) (n2 := ((min 100 (v_nf b) : Nat) : Int)) (by omega) (by omega) ?_ ?_ ?_ ?_ (by omega) (by omega) ?_
          · rw [eN]; show am_rg (w3.2 88 p) ∧ (w3.2 88 p % 8 = 4 → 0 ≤ w3.2 88 p / 8 ∧ w3.2 88 p / 8 < 2048); rw [p88]; exact f1
          · rw [eN]; show am_rg (w3.2 89 p) ∧ (w3.2 89 p % 8 = 4 → 0 ≤ w3.2 89 p / 8 ∧ w3.2 89 p / 8 < 2048); rw [p89]; exact f2
          · rw [eN]; show (if w3.2 88 p % 8 = 3 then 1 else if w3.2 88 p % 8 = 4 then w3.2 91 (w3.2 88 p / 8).toNat else 0) = _; rw [p88]; exact N1
          · rw [eN]; show (if w3.2 89 p % 8 = 3 then 1 else if w3.2 89 p % 8 = 4 then w3.2 91 (w3.2 89 p / 8).toNat else 0) = _; rw [p89]; exact N2
          · rw [eN]
            have e90 : (w_a w3 90 p x).2 90 p = x := by
              show (if 90 = 90 ∧ p = p then x else _) = x
              rw [if_pos ⟨rfl, rfl⟩]
            have en90 : ∀ q, q ≠ p → (w_a w3 90 p x).2 90 q = w3.2 90 q := fun q hq => by
              show (if 90 = 90 ∧ q = p then x else w3.2 90 q) = _
              rw [if_neg (fun z => hq z.2)]
            rw [e90]
            generalize eY : (if ((min 100 (v_nf a) : Nat) : Int) + ((min 100 (v_nf b) : Nat) : Int) < 100 then ((min 100 (v_nf a) : Nat) : Int) + ((min 100 (v_nf b) : Nat) : Int) else 100) = Y
            have Ye : Y = ((min 100 (v_nf a + v_nf b) : Nat) : Int) := by rw [← eY]; split <;> omega
            have V : ∃ w5, w_a (w_a w3 90 p x) 91 p Y = w5 := ⟨_, rfl⟩
            obtain ⟨w5, ew⟩ := V
            have i1 : w5.1 = w3.1 := by rw [← ew]; rfl
            have i2 : ∀ b', b' ≠ 90 → b' ≠ 91 → w5.2 b' = w3.2 b' := fun b' q q' => by rw [← ew, w_a_2ne _ _ _ q', w_a_2ne _ _ _ q]
            have i90 : w5.2 90 p = x := by rw [← ew, w_a_2ne _ _ _ (by decide)]; exact e90
            have i91 : w5.2 91 p = Y := by
              rw [← ew]
              show (if 91 = 91 ∧ p = p then Y else _) = Y
              rw [if_pos ⟨rfl, rfl⟩]
            have j90 : ∀ q, q ≠ p → w5.2 90 q = w3.2 90 q := fun q hq => by rw [← ew, w_a_2ne _ _ _ (by decide)]; exact en90 q hq
            have j91 : ∀ q, q ≠ p → w5.2 91 q = w3.2 91 q := fun q hq => by
              rw [← ew]
              show (if 91 = 91 ∧ q = p then Y else (w_a w3 90 p x).2 91 q) = _
              rw [if_neg (fun z => hq z.2), w_a_2ne _ _ _ (by decide)]
            rw [ew]
            have X5 : rXT w3 Γ3 w5 Γ3 (-1) := by
              have Bq : ∀ b' k, b' ≠ 90 → b' ≠ 91 → w5.2 b' k = w3.2 b' k := fun b' k q q' => by rw [i2 b' q q']
              refine ⟨⟨⟨by rw [i1]; exact Int.le_refl _, by rw [i1]; exact Int.le_refl _, by rw [i1]; exact Int.le_refl _, by rw [i1]; exact Int.le_refl _, by rw [i1]; exact Int.le_refl _⟩, fun i _ _ => ⟨⟨Bq _ _ (by decide) (by decide), Bq _ _ (by decide) (by decide), Bq _ _ (by decide) (by decide), Bq _ _ (by decide) (by decide)⟩, ⟨Bq _ _ (by decide) (by decide), Bq _ _ (by decide) (by decide)⟩, Bq _ _ (by decide) (by decide), Bq _ _ (by decide) (by decide), Bq _ _ (by decide) (by decide)⟩⟩, ⟨fun r m _ _ _ => Bq _ _ (by decide) (by decide), fun _ _ => rfl⟩, fun f _ => ⟨⟨Bq _ _ (by decide) (by decide), Bq _ _ (by decide) (by decide), Bq _ _ (by decide) (by decide)⟩, rfl⟩, fun q _ => ⟨⟨Bq _ _ (by decide) (by decide), Bq _ _ (by decide) (by decide), fun hq => ?_⟩, rfl⟩, fun c _ => ⟨⟨Bq _ _ (by decide) (by decide), Bq _ _ (by decide) (by decide), Bq _ _ (by decide) (by decide), Bq _ _ (by decide) (by decide), Bq _ _ (by decide) (by decide)⟩, fun s _ => Bq _ _ (by decide) (by decide), rfl⟩⟩
              have qp : q ≠ p := fun z => hq (by rw [z]; exact p90)
              exact ⟨j90 q qp, j91 q qp⟩
            have C5 := rCC_mono X5 C3
            have H5 : rHH w5 Γ3 := by
              refine rHH_of H3 X5 (rOK_m _) (fun c q0 q1 => ?_) (fun q hq => ?_) (fun f q0 q1 => ?_)
              · rw [i1] at q1; omega
              · rw [i1] at hq
                by_cases qp : q = p
                · refine Or.inr ⟨a, b, ?_, ?_, ?_, Or.inr ⟨?_, ?_, ?_⟩⟩
                  · rw [qp, (X03.2.2.2.1 p e3).2]; exact h1
                  · rw [qp, i2 88 (by decide) (by decide), p88]; exact ⟨rVF_mono X5 Va, h2.2⟩
                  · rw [qp, i2 89 (by decide) (by decide), p89]; exact ⟨rVF_mono X5 Vb, h3.2⟩
                  · rw [qp, i90]; exact C5.1
                  · rw [qp, i90]; exact C5.2
                  · rw [qp, i91]; exact Ye
                · exact Or.inl ⟨hq, j90 q qp, j91 q qp⟩
              · rw [i1] at q1; omega
            have U5 : rUC (w5.2 90) (p + 1) = rUC (w3.2 90) p := by
              show rUC (w5.2 90) p + (if w5.2 90 p = -1 then 1 else 0) = _
              rw [rUC_cg p (fun q hq => j90 q (by omega)), i90, if_neg (by have := C3.1; omega), Nat.add_zero]
            refine ⟨x, rfl, Γ3, ⟨rXT_trans X03 X5 (Or.inl rfl) (Or.inl rfl), H5, by rw [G3, G2, G1], ⟨fun a' j q => by rw [i1, F3 a' j q, F2 a' j q, F1 a' j q], fun b' q => by rw [i2 b' (by omega) (by omega), A3 b' (by omega), A2 b' (by omega), A1 b' (by omega)], fun q hq => by rw [j90 q (by omega), S3 q (by omega), S2 q (by omega), S1 q (by omega)]⟩, ?_⟩, C5, fun _ => ?_⟩
            · rw [U5, U1, i1]
              split <;> omega
            · rw [i90]
              have := C3.1
              omega
    · refine lk_193c (by omega) z.1 e1 e2 ⟨_, rfl, Γ, rMO_wk (rMO_rfl H) d0, ⟨⟨by omega, e3⟩, ?_⟩, fun q => by omega⟩
      rw [show ((c : Int)).toNat = c by omega]; exact e4
