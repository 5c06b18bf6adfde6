/-! ===== PAIR, JOIN ===== -/
def rGp (Γ : rG_) (k : Nat) (t : T_) : rG_ := (Γ.1, Γ.2.1, fun p => if p = k then t else Γ.2.2.1 p, Γ.2.2.2)
section
variable {C : C_} {sil : Bool} {D : Prop} {qq : Int} {ft : Nat} {s s0 s1 s2 : S_} {w w0 w2 : W_} {Γ Γ0 Γ2 : rG_} {n n1 fr fr1 L id : Nat} {hb hb1 : Bool} {u : Nat → Bool} {v v1 v2 a b c e t : T_} {E E1 E2 : N_} {row : Nat} {x y nn : Int} {r1 r2 r4 : K_} {R : Int}
/-- a pair is made -/
theorem rPair {o y : Int} {p : Nat} (H : rRC C sil D qq ft s w Γ) (H0 : rRC C sil D qq ft s0 w0 Γ0 ∨ w0.1 73 21 ≤ ((s_tb s0 : Nat) : Int)) (P : rPO n hb s0 s w0 Γ0 w Γ R) (ST : w.1 73 21 + 1 + ((s_tb s0 : Nat) : Int) ≤ w0.1 73 21 + ((s_tb s : Nat) : Int)) (hq : qq + 3 ≤ 400) (V1 : rVF w Γ v1 o) (V2 : rVF w Γ v2 y) (hp : w.1 73 21 = (p : Int)) : ∃ Γ', rRC C sil D (qq + 3) ft s (w_f (w_a (w_a (w_a w 88 p o) 89 p y) 90 p (-1)) 73 21 ((p : Int) + 1)) Γ' ∧ rPO n hb s0 s w0 Γ0 (w_f (w_a (w_a (w_a w 88 p o) 89 p y) 90 p (-1)) 73 21 ((p : Int) + 1)) Γ' R ∧ rVF (w_f (w_a (w_a (w_a w 88 p o) 89 p y) 90 p (-1)) 73 21 ((p : Int) + 1)) Γ' (.tag 13 (.append v1 v2)) (8 * (p : Int) + 4) ∧ rXT w Γ (w_f (w_a (w_a (w_a w 88 p o) 89 p y) 90 p (-1)) 73 21 ((p : Int) + 1)) Γ' (-1) := by
  have B := rRC_bd H
  have h0 : w0.1 73 21 ≤ ((s_tb s0 : Nat) : Int) := by
    rcases H0 with q | q
    · exact q.2.2.2.2.2.2.2.1.2.1.2
    · exact q
  have W : ∃ w', w_f (w_a (w_a (w_a w 88 p o) 89 p y) 90 p (-1)) 73 21 ((p : Int) + 1) = w' := ⟨_, rfl⟩
  obtain ⟨w', ew⟩ := W
  have c1 : ∀ a j, ¬ (a = 73 ∧ j = 21) → w'.1 a j = w.1 a j := fun a j q => by rw [← ew, w_f_ne _ _ _ _ _ _ q]; rfl
  have c21 : w'.1 73 21 = (p : Int) + 1 := by rw [← ew]; rfl
  have cb : ∀ b, b ≠ 88 → b ≠ 89 → b ≠ 90 → w'.2 b = w.2 b := fun b q1 q2 q3 => by rw [← ew, w_f2, w_a_2ne _ _ _ q3, w_a_2ne _ _ _ q2, w_a_2ne _ _ _ q1]
  have d88 : ∀ k, w'.2 88 k = if k = p then o else w.2 88 k := fun k => by
    rw [← ew, w_f2, w_a_2ne _ _ _ (by decide), w_a_2ne _ _ _ (by decide)]
    show (if 88 = 88 ∧ k = p then o else w.2 88 k) = _
    by_cases d : k = p
    · rw [if_pos ⟨rfl, d⟩, if_pos d]
    · rw [if_neg (fun q => d q.2), if_neg d]
  have d89 : ∀ k, w'.2 89 k = if k = p then y else w.2 89 k := fun k => by
    rw [← ew, w_f2, w_a_2ne _ _ _ (by decide)]
    show (if 89 = 89 ∧ k = p then y else (w_a w 88 p o).2 89 k) = _
    rw [w_a_2ne _ _ _ (by decide)]
    by_cases d : k = p
    · rw [if_pos ⟨rfl, d⟩, if_pos d]
    · rw [if_neg (fun q => d q.2), if_neg d]
  have d90 : ∀ k, w'.2 90 k = if k = p then -1 else w.2 90 k := fun k => by
    rw [← ew, w_f2]
    show (if 90 = 90 ∧ k = p then (-1 : Int) else (w_a (w_a w 88 p o) 89 p y).2 90 k) = _
    rw [w_a_2ne _ _ _ (by decide), w_a_2ne _ _ _ (by decide)]
    by_cases d : k = p
    · rw [if_pos ⟨rfl, d⟩, if_pos d]
    · rw [if_neg (fun q => d q.2), if_neg d]
  rw [ew]
  have GP : (rGp Γ p (.tag 13 (.append v1 v2))).2.2.1 p = .tag 13 (.append v1 v2) := by
    show (if p = p then _ else _) = _
    rw [if_pos rfl]
  have Bq : ∀ b k, b ≠ 88 → b ≠ 89 → b ≠ 90 → w'.2 b k = w.2 b k := fun b k q1 q2 q3 => by rw [cb b q1 q2 q3]
  have X : ∀ R, rXT w Γ w' (rGp Γ p (.tag 13 (.append v1 v2))) R := fun R => by
    refine ⟨⟨⟨?_, ?_, ?_, ?_, ?_⟩, fun i _ _ => ⟨⟨Bq _ _ (by decide) (by decide) (by decide), Bq _ _ (by decide) (by decide) (by decide), Bq _ _ (by decide) (by decide) (by decide), Bq _ _ (by decide) (by decide) (by decide)⟩, ⟨Bq _ _ (by decide) (by decide) (by decide), Bq _ _ (by decide) (by decide) (by decide)⟩, Bq _ _ (by decide) (by decide) (by decide), Bq _ _ (by decide) (by decide) (by decide), Bq _ _ (by decide) (by decide) (by decide)⟩⟩, ⟨fun r m _ _ _ => Bq _ _ (by decide) (by decide) (by decide), fun r _ => rfl⟩, fun g _ => ⟨⟨Bq _ _ (by decide) (by decide) (by decide), Bq _ _ (by decide) (by decide) (by decide), Bq _ _ (by decide) (by decide) (by decide)⟩, rfl⟩, fun k hk => ?_, fun c _ => ⟨⟨Bq _ _ (by decide) (by decide) (by decide), Bq _ _ (by decide) (by decide) (by decide), Bq _ _ (by decide) (by decide) (by decide), Bq _ _ (by decide) (by decide) (by decide), Bq _ _ (by decide) (by decide) (by decide)⟩, fun s _ => Bq _ _ (by decide) (by decide) (by decide), rfl⟩⟩
    · rw [c1 73 5 (by omega)]; exact Int.le_refl _
    · rw [c1 73 15 (by omega)]; exact Int.le_refl _
    · rw [c1 73 17 (by omega)]; exact Int.le_refl _
    · omega
    · rw [c1 73 26 (by omega)]; exact Int.le_refl _
    · have kp : k ≠ p := by omega
      refine ⟨⟨by rw [d88, if_neg kp], by rw [d89, if_neg kp], fun _ => ⟨by rw [d90, if_neg kp], Bq _ _ (by decide) (by decide) (by decide)⟩⟩, ?_⟩
      show (if k = p then _ else _) = _
      rw [if_neg kp]
  have T4 : ∀ {v' : T_} {r : Int}, rVF w Γ v' r → r % 8 = 4 → r < 8 * (p : Int) := fun V q => by
    have z := rV0_c V.2 B.1
    rcases z.2 with ⟨x, _, e, _⟩ | ⟨_, e⟩ | ⟨_, e⟩ | ⟨f, _, _, e, _⟩ | ⟨p', _, _, e, e2, e3⟩ | ⟨c, _, e, _⟩ <;> omega
  have H' : rHH w' (rGp Γ p (.tag 13 (.append v1 v2))) := by
    refine rHH_of H.1 (X (-1)) (rOK_m _) (fun c q0 q1 => ?_) (fun k hk => ?_) (fun f q0 q1 => ?_)
    · rw [c1 73 26 (by omega)] at q1; omega
    · by_cases kp : k = p
      · rw [kp]
        refine Or.inr ⟨v1, v2, GP, ?_, ?_, Or.inl ?_⟩
        · rw [d88, if_pos rfl]; exact ⟨rVF_mono (X (-1)) V1, T4 V1⟩
        · rw [d89, if_pos rfl]; exact ⟨rVF_mono (X (-1)) V2, T4 V2⟩
        · rw [d90, if_pos rfl]
      · exact Or.inl ⟨by omega, by rw [d90, if_neg kp], Bq _ _ (by decide) (by decide) (by decide)⟩
    · rw [c1 73 17 (by omega)] at q1; omega
  have Hc := H
  obtain ⟨q1, ⟨q2, q2'⟩, q3, q4, -, -, -, ⟨⟨k1, k1', k1''⟩, k2, k3, k4, k5⟩, -⟩ := H
  have UC : rUC (w'.2 90) (p + 1) = rUC (w.2 90) p + 1 := by
    show rUC (w'.2 90) p + (if w'.2 90 p = -1 then 1 else 0) = _
    rw [rUC_cg p (fun k hk => by rw [d90, if_neg (by omega)]), d90, if_pos rfl, if_pos rfl]
  refine ⟨_, rRC_mk (qq' := qq + 3) Hc (X (-1)) (rOK_m _) H' (rFR_w (s := s) q2 (c1 _ _ (by omega)) (c1 _ _ (by omega)) (cb _ (by decide) (by decide) (by decide))) q2' ?_ (rS2_w q4 (c1 _ _ (by omega)) (c1 _ _ (by omega)) (c1 _ _ (by omega)) ⟨rfl, rfl, rfl⟩) (fun j q => c1 73 j (by omega)) (fun b q _ _ => cb b (by omega) (by omega) (by omega)) ⟨rfl, rfl, rfl, rfl⟩ ⟨⟨?_, hq, k1''⟩, ?_, ?_, ?_, ?_⟩, ?_, ⟨vv_pair V1.1 V2.1, Or.inr (Or.inr (Or.inr (Or.inr (Or.inl ⟨p, GP.symm, rfl, rfl, by omega⟩))))⟩, X (-1)⟩
  · unfold rS1 at q3 ⊢
    rw [c1 73 39 (by omega), c1 73 43 (by omega), c1 73 15 (by omega), c1 73 80 (by omega), c1 73 81 (by omega), c1 73 79 (by omega)]
    exact q3
  · rw [c1 73 26 (by omega), c21, c1 73 33 (by omega), c1 73 35 (by omega), show ((p : Int) + 1).toNat = p + 1 by omega, UC]
    rw [hp, show ((p : Int)).toNat = p by omega] at k1
    omega
  · rw [c21]; omega
  · rw [c1 73 17 (by omega)]; exact k3
  · rw [c1 73 33 (by omega), c1 73 35 (by omega)]; exact k4
  · rw [c1 73 5 (by omega)]; exact k5
  · obtain ⟨a1, a2, ⟨a3, a4⟩, ⟨a5, a6, a7⟩, ⟨a8, a9, a10⟩, a11, a12⟩ := P
    refine ⟨rXT_trans a1 (X R) (Or.inl rfl) (Or.inl rfl), rOt_tr a2 (rOt_mk (fun a j q => c1 a j (by omega)) (fun b q => cb b (by omega) (by omega) (by omega))), ⟨by rw [c1 73 33 (by omega)]; exact a3, fun i q => by rw [cb 98 (by decide) (by decide) (by decide)]; exact a4 i q⟩, ⟨by rw [c1 73 35 (by omega)]; exact a5, fun i q => by rw [cb 99 (by decide) (by decide) (by decide)]; exact a6 i q, fun q => by rw [c1 73 35 (by omega)]; exact a7 q⟩, ⟨by rw [c1 73 40 (by omega)]; exact a8, a9, by rw [c1 73 40 (by omega)]; exact a10⟩, by rw [c1 73 45 (by omega)]; exact a11, by rw [c21]; omega⟩
/-- PAIR -/
theorem rn_30 (I : rIN C sil D qq ft n u s (ce 30 nn id a b c) E w Γ x row fr) (hn : n1 + 1 ≤ n) (h1 : rSK C sil n1 r1) (M1 : eMK r1) (hB : rBr r1) (h : ev1 L C r1 r2 r4 sil (ce 30 nn id a b c) E hb s = some (v, E1, s1)) (hs : s_b s1 ≤ 90000 ∧ s_nt s1 ≤ 900000) : ww_Ct 207 fr [.inr (.inr (.inl 73)), .inl x, .inl (row : Int), .inl (if hb = true then 1 else 0)] w (rVO C sil D qq ft n hb u s s1 v E1 row w Γ) := by
  refine run_two I hn h1 M1 hB (by omega) h hs (fun v1 v2 E3 s3 rv1 rv2 w3 Γ3 h I3 V1 V2 P ST _ _ => ?_)
  have hq := I.2.1
  have hfr := I.2.2.2.2.2.2
  have B := rRC_bd I3.1
  have h : some (.tag 13 (.append v1 v2), E3, u_nd s3 1) = some (v, E1, s1) := h
  cases h
  have Z : ∃ p : Nat, w3.1 73 21 = (p : Int) := ⟨(w3.1 73 21).toNat, by omega⟩
  obtain ⟨p, ep⟩ := Z
  have bp := B.1.2.1
  have S6 := I.1.2.2.2.2.2.2.2.1
  have S6' := I3.1.2.2.2.2.2.2.2.1.1.2.2
  have S7 := S6.2.1.2
  obtain ⟨Γ', g1, g2, g3, g4⟩ := rPair I3.1 (Or.inr S7) P ST (by omega) V1 V2 ep
  refine lk_208_243 (n := (p : Int)) (by omega) ep (by omega) ?_
  rw [show ((p : Int)).toNat = p by omega]
  exact ⟨_, rfl, Γ', rRC_nd (rRC_qq g1 (by omega) (by omega)), g3, rNF_mono g4 I3.2.2.2.2.2.1.1 (by omega) I3.2.2.2.2.1, rPO_nd g2⟩
theorem v_join_C {a b : T_} : v_isC (v_join a b) = true := by
  unfold v_join
  split
  · rfl
  · split
    · rename_i c; exact c.2
    · split
      · rename_i c; exact c.2
      · rfl
/-- JOIN -/
theorem rn_13 (I : rIN C sil D qq ft n u s (ce 13 nn id a b c) E w Γ x row fr) (hL : L + 13 ≤ 2 * n + 1010) (hn : n1 + 1 ≤ n) (h1 : rSK C sil n1 r1) (M1 : eMK r1) (hB : rBr r1) (h : ev1 L C r1 r2 r4 sil (ce 13 nn id a b c) E hb s = some (v, E1, s1)) (hs : s_b s1 ≤ 90000 ∧ s_nt s1 ≤ 900000) : ww_Ct 207 fr [.inr (.inr (.inl 73)), .inl x, .inl (row : Int), .inl (if hb = true then 1 else 0)] w (rVO C sil D qq ft n hb u s s1 v E1 row w Γ) := by
  refine run_two I hn h1 M1 hB (by omega) h hs (fun v1 v2 E3 s3 rv1 rv2 w3 Γ3 h I3 V1 V2 P ST kia kib => ?_)
  have hq := I.2.1
  have hfr := I.2.2.2.2.2.2
  have B := rRC_bd I3.1
  have X1 := (rIN_x I3).1
  have kla := kid_lt ((rIN_x I3).2.2.2.2.1 (by decide))
  have klb := kid_lt ((rIN_x I3).2.2.2.2.2.1 (by decide))
  unfold o_pair at h
  rw [if_pos rfl] at h
  split at h
  · rename_i s4 hf4
    split at h
    · rename_i s5 hf5
      cases h
      have hs5 : s_b s5 ≤ 90000 ∧ s_nt s5 ≤ 900000 := hs
      have hs4 : s_nt s4 ≤ 900000 := Nat.le_trans (f_fu_nt hf5).2.1 hs5.2
      refine lk_208_243n (by omega) (by decide) (lk_208_302 (R := fun y w' => ∃ Γ', rRC C sil D (qq - 3 + 1) ft s4 w' Γ' ∧ rCC w' Γ' y (rFL v1) ∧ rPO n hb s3 s4 w3 Γ3 w' Γ' (-1)) (by omega) (by omega) ((lk_195E (n := n) (hb := hb) (R := -1) I3.1 V1 hf4 kia (by omega) (by omega) hs4).mono ?_) ?_)
      · rintro r w' ⟨y, rfl, g⟩
        exact ⟨y, rfl, g⟩
      · rintro c1 w4 ⟨Γ4, g1, g2, g3⟩
        have B4 := rRC_bd g1
        have A := g3.1.1.2 x.toNat (by omega) (by omega)
        have e81 : w4.2 81 (3 * x + 1).toNat = w3.2 81 (3 * x + 1).toNat := by
          rw [show (3 * x + 1).toNat = 3 * x.toNat + 1 by omega]; exact A.2.2.2.1
        have A2 := g3.1.1.2 (w3.2 81 (3 * x + 1).toNat).toNat (by omega) (by omega)
        have kib' : v_nf v2 = 0 ∨ (w4.2 79 (w3.2 81 (3 * x + 1).toNat).toNat = ((e_id b / 60 : Nat) : Int) ∧ w4.2 80 (w3.2 81 (3 * x + 1).toNat).toNat = ((e_id b % 60 : Nat) : Int)) := by
          rw [A2.1.2.2.1, A2.1.2.2.2]; exact kib
        refine lk_208_330 (p2 := w3.2 81 (3 * x + 1).toNat) (R1 := fun y w' => ∃ Γ', rRC C sil D (qq - 3 + 1 + 1) ft s5 w' Γ' ∧ rCC w' Γ' y (rFL v2) ∧ rPO n hb s4 s5 w4 Γ4 w' Γ' (-1)) (R := fun z w' => (0 ≤ z ∧ z < 8192) ∧ ∃ Γ', rRC C sil D qq ft s5 w' Γ' ∧ rCC w' Γ' z (rFL v1 ++ rFL v2) ∧ rPO n hb s4 s5 w4 Γ4 w' Γ' (-1)) (by omega) (by omega) e81 (by omega) ((lk_195E (n := n) (hb := hb) (R := -1) g1 (rVF_mono g3.1 V2) hf5 kib' (by omega) (by omega) hs5.2).mono ?_) ?_ (fun _ _ g => g.1) ?_
        · rintro r w' ⟨y, rfl, g⟩
          exact ⟨y, rfl, g⟩
        · rintro c2 w5 ⟨Γ5, k1, k2, k3⟩
          have B5 := rRC_bd k1
          obtain ⟨fr', f1, f2⟩ := lk_191 (K := 0) (fr := fr - 1) k1.1 (by omega) (by omega) (rCC_mono k3.1 g2) k2 (Or.inl V1.1.2.1)
          refine ww_Cn_of f2 f1 ?_
          rintro r w6 ⟨z, rfl, Γ6, m1, m2, -⟩
          obtain ⟨H6, P6⟩ := rRC_MO (n := n) (hb := hb) (R := -1) k1 (rMO_wk (d2 := 1) m1 (by split <;> omega)) (by omega) (by omega)
          have B6 := rRC_bd H6
          have m2' := m2.1
          exact ⟨z, rfl, by omega, Γ6, rRC_qq H6 (by omega) (by omega), m2, rPO_trans k3 P6 (Nat.le_refl _) (Nat.le_refl _) (fun q => q) (fun q => q) (Or.inl rfl) (Or.inl rfl)⟩
        · rintro z w6 ⟨zr, Γ6, k1, k2, k3⟩
          have P6 := rPO_trans (n := n) (hb := hb) (R := -1) g3 k3 (Nat.le_refl _) (Nat.le_refl _) (fun q => q) (fun q => q) (Or.inl rfl) (Or.inl rfl)
          refine ⟨_, rfl, Γ6, rRC_nd k1, ⟨vv_join V1.1 V2.1, Or.inr (Or.inr (Or.inr (Or.inr (Or.inr ⟨z.toNat, v_join_C, by omega, by have := k2.1; omega, ?_⟩))))⟩, rNF_mono P6.1 I3.2.2.2.2.2.1.1 (by omega) I3.2.2.2.2.1, rPO_nd (rPO_trans P P6 (Nat.le_refl _) (Nat.le_refl _) (fun q => q) (fun q => q) (Or.inl rfl) (by omega))⟩
          rw [k2.2, rFL_join V1.1 V2.1]
    · cases h
  · cases h
end
