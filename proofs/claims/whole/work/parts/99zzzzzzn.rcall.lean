/-! ===== CALL ===== -/
section
variable {C : C_} {sil : Bool} {D : Prop} {qq : Int} {ft : Nat} {s s1 s2 : S_} {w w' : W_} {Γ : rG_} {n n1 fr L id : Nat} {hb : Bool} {u : Nat → Bool} {v v1 a b c fn : T_} {E E1 E2 : N_} {row : Nat} {x y nn : Int} {r1 r2 r4 : K_} {R : Int} {rec : K_}
/-- counts of calls, silence: E's state -/
theorem rRC_sn {sil' : Bool} {rn tk : Nat} (H : rRC C sil D qq ft s w Γ) (c1 : ∀ b j, ¬ (b = 73 ∧ (j = 79 ∨ j = 80 ∨ j = 81)) → w'.1 b j = w.1 b j) (cb : w'.2 = w.2) (h80 : w'.1 73 80 = ((rn : Nat) : Int) ∧ w'.1 73 81 = ((tk : Nat) : Int)) (h79 : w'.1 73 79 = if sil' = true then 1 else 0) : rRC C sil' D qq ft (u_rn s rn tk) w' Γ := by
  obtain ⟨q1, ⟨q2, q2'⟩, ⟨q3, q4, q5, q6, q7⟩, q8, q9, q10, q11, q12, q13⟩ := H
  refine ⟨rHH_same q1 (fun j q => c1 73 j (by omega)) (fun b _ q => by rw [cb]), ⟨rFR_w (s := s) q2 (c1 _ _ (by omega)) (c1 _ _ (by omega)) (by rw [cb]), q2'⟩, ⟨?_, ?_, ?_, h80, h79⟩, rS2_w q8 (c1 _ _ (by omega)) (c1 _ _ (by omega)) (c1 _ _ (by omega)) ⟨rfl, rfl, rfl⟩, ?_, fun f hf => ?_, ?_, ?_, ?_⟩
  · rw [c1 73 39 (by omega)]; exact q3
  · rw [c1 73 43 (by omega)]; exact q4
  · rw [c1 73 15 (by omega)]; exact q5
  · unfold rS3 at q9 ⊢
    rw [c1 73 62 (by omega), c1 73 47 (by omega), cb]
    exact q9
  · obtain ⟨z1, z2, z3⟩ := q10 f hf
    rw [cb]
    refine ⟨z1, z2, fun q => ?_⟩
    obtain ⟨rw', r1, r2, r3, r4⟩ := z3 q
    exact ⟨rw', r1, by rw [c1 73 15 (by omega)]; exact r2, r3, rNF_go r4 (fun j q => c1 73 j (by omega)) (by rw [cb])⟩
  · unfold rS5 at q11 ⊢
    rw [c1 73 70 (by omega), cb]
    exact q11
  · unfold rS6 at q12 ⊢
    rw [c1 73 26 (by omega), c1 73 21 (by omega), c1 73 33 (by omega), c1 73 35 (by omega), c1 73 17 (by omega), c1 73 5 (by omega), cb]
    exact q12
  · unfold rTl at q13 ⊢
    rw [c1 73 35 (by omega)]
    obtain ⟨⟨n, t1, t2⟩, t3, t4⟩ := q13
    exact ⟨⟨n, t1, rIT_mono (rXT_same (R := -1) (fun j q => c1 73 j (by omega)) (fun b _ q => by rw [cb])) n _ (fun i _ => by rw [cb]) t2⟩, t3, t4⟩
theorem rPO_sn {rn tk : Nat} (c1 : ∀ b j, ¬ (b = 73 ∧ (j = 79 ∨ j = 80 ∨ j = 81)) → w'.1 b j = w.1 b j) (cb : w'.2 = w.2) : rPO n hb s (u_rn s rn tk) w Γ w' Γ R := rPO_c (fun b j q => c1 b j (by omega)) (fun b _ => by rw [cb]) ⟨by rw [c1 73 40 (by omega)]; exact Int.le_refl _, Nat.le_refl _, ⟨fun _ => c1 73 40 (by omega), fun _ => rfl⟩⟩ ⟨by rw [c1 73 45 (by omega)]; omega, Nat.le_refl _⟩
/-- only the key, isFit, inBody are others: E's state -/
theorem rRC_kw (H : rRC C sil D qq ft s w Γ) (K : rKW w w') : rRC C sil D qq ft s w' Γ ∧ rPO n hb s s w Γ w' Γ R := by
  obtain ⟨c1, cb⟩ := K
  have X : ∀ R, rXT w Γ w' Γ R := fun R => rXT_same (fun j q => c1 73 j (by omega)) (fun b _ q => cb b (by omega))
  obtain ⟨q1, ⟨q2, q2'⟩, q3, q8, q9, q10, q11, q12, q13⟩ := H
  refine ⟨⟨rHH_same q1 (fun j q => c1 73 j (by omega)) (fun b _ q => cb b (by omega)), ⟨rFR_w (s := s) q2 (c1 _ _ (by omega)) (c1 _ _ (by omega)) (cb _ (by omega)), q2'⟩, ?_, rS2_w q8 (c1 _ _ (by omega)) (c1 _ _ (by omega)) (c1 _ _ (by omega)) ⟨rfl, rfl, rfl⟩, ?_, fun f hf => ?_, ?_, ?_, ?_⟩, X R, rOt_mk (fun a j q => c1 a j (by omega)) (fun b q => cb b (by omega)), ⟨c1 73 33 (by omega), fun i _ => by rw [cb 98 (by omega)]⟩, ⟨by rw [c1 73 35 (by omega)]; exact Int.le_refl _, fun i _ => by rw [cb 99 (by omega)], fun _ => c1 73 35 (by omega)⟩, ⟨by rw [c1 73 40 (by omega)]; exact Int.le_refl _, Nat.le_refl _, ⟨fun _ => c1 73 40 (by omega), fun _ => rfl⟩⟩, by rw [c1 73 45 (by omega)]; omega, by rw [c1 73 21 (by omega)]; exact Int.le_refl _⟩
  · unfold rS1 at q3 ⊢
    rw [c1 73 39 (by omega), c1 73 43 (by omega), c1 73 15 (by omega), c1 73 80 (by omega), c1 73 81 (by omega), c1 73 79 (by omega)]
    exact q3
  · unfold rS3 at q9 ⊢
    rw [c1 73 62 (by omega), c1 73 47 (by omega), cb 104 (by omega), cb 103 (by omega), cb 74 (by omega), cb 75 (by omega), cb 76 (by omega)]
    exact q9
  · obtain ⟨z1, z2, z3⟩ := q10 f hf
    rw [cb 100 (by omega), cb 101 (by omega)]
    refine ⟨z1, z2, fun q => ?_⟩
    obtain ⟨rw', r1, r2, r3, r4⟩ := z3 q
    exact ⟨rw', r1, by rw [c1 73 15 (by omega)]; exact r2, r3, rNF_go r4 (fun j q => c1 73 j (by omega)) (cb 84 (by omega))⟩
  · unfold rS5 at q11 ⊢
    rw [c1 73 70 (by omega), cb 114 (by omega), cb 115 (by omega), cb 116 (by omega), cb 117 (by omega), cb 118 (by omega), cb 119 (by omega), cb 120 (by omega), cb 121 (by omega)]
    exact q11
  · unfold rS6 at q12 ⊢
    rw [c1 73 26 (by omega), c1 73 21 (by omega), c1 73 33 (by omega), c1 73 35 (by omega), c1 73 17 (by omega), c1 73 5 (by omega), cb 90 (by omega)]
    exact q12
  · unfold rTl at q13 ⊢
    rw [c1 73 35 (by omega)]
    obtain ⟨⟨n, t1, t2⟩, t3, t4⟩ := q13
    exact ⟨⟨n, t1, rIT_mono (X (-1)) n _ (fun i _ => by rw [cb 99 (by omega)]) t2⟩, t3, t4⟩
/-- the turn of a call -/
theorem lk_212 {f : Nat} {e cl : T_} {node : Int} (hO : o_call rec C sil id (.tag 12 (.append e cl)) v E s = some (v1, E1, s1)) (hK : rSK C sil n1 rec) (hKt : rSK C true n1 rec) (M : eMK rec) (H : rRC C sil D qq ft s w Γ) (hf : (f : Int) < w.1 73 17) (hf2 : f < 2048) (hΓ : Γ.2.1 f = .tag 12 (.append e cl)) (V : rVF w Γ v y) (hq : qq ≤ 395) (hs : s_b s1 ≤ 90000 ∧ s_nt s1 ≤ 900000) (hn : n1 + 1 ≤ n) (hn9 : n1 ≤ 1900) (hx : 0 ≤ node ∧ node < 1024) (hid : w.2 79 node.toNat = ((id / 60 : Nat) : Int) ∧ w.2 80 node.toNat = ((id % 60 : Nat) : Int)) (hfr : 2 * n1 + 1013 ≤ fr) : ww_Ct 212 fr [.inr (.inr (.inl 73)), .inl node, .inl (f : Int), .inl y] w fun r w' => ∃ z, r = some (.inl z) ∧ ∃ Γ', rRC C sil D qq ft s1 w' Γ' ∧ rVF w' Γ' v1 z ∧ rPO n false s s1 w Γ w' Γ' (-1) := by
  have B := rRC_bd H
  obtain ⟨hE, hO⟩ := o_call_inv hO
  obtain ⟨rg, T⟩ := rVt V B.1
  have lt0 : s_lt s ≤ s_b s := H.2.2.1.1.2.2.2
  have S43 := H.2.2.1.2.1
  have S39 := H.2.2.1.1
  have S79 := H.2.2.1.2.2.2.2
  have S80 := H.2.2.1.2.2.2.1
  have BAD : ∀ cc : Nat, s_nt (f_note C (f_code cc id) s) ≤ 900000 → ∃ z, (some (.inl 5) : Option am_V) = some (.inl z) ∧ ∃ Γ', rRC C sil D qq ft (f_note C (f_code cc id) s) (r_nt w (cc : Int) (w.2 79 node.toNat) (w.2 80 node.toNat)) Γ' ∧ rVF (r_nt w (cc : Int) (w.2 79 node.toNat) (w.2 80 node.toNat)) Γ' vW z ∧ rPO n false s (f_note C (f_code cc id) s) w Γ (r_nt w (cc : Int) (w.2 79 node.toNat) (w.2 80 node.toNat)) Γ' (-1) := fun cc hcc => by
    have hn' : s_nt s + 1 ≤ 900000 := hcc
    have hz : f_code cc id = 100000 * (cc : Int) + (10000 * w.2 79 node.toNat + 100 * w.2 80 node.toNat) := by
      unfold f_code
      rw [f_spot_e, hid.1, hid.2]
    obtain ⟨H1, P1⟩ := rRC_note (n := n) (hb := false) (R := -1) H hz (by omega)
    exact ⟨5, rfl, Γ, H1, rVF_W, P1⟩
  rcases hO with ⟨c1, rfl, rfl⟩ | ⟨c1, ⟨c2, rfl, rfl⟩ | ⟨c2, ⟨c3, rfl, rfl⟩ | ⟨c3, hO⟩⟩⟩
  · rcases T with ⟨-, t⟩ | ⟨z, t, -⟩ | ⟨t, -⟩
    · exact lk_212a (by omega) rg t ⟨5, rfl, Γ, H, rVF_W, rPO_rfl⟩
    · rw [t] at c1; cases c1
    · rw [t] at c1; cases c1
  · have t5 : y % 8 ≠ 5 := by
      rcases T with ⟨t, -⟩ | ⟨z, -, t, -⟩ | ⟨-, -, t, -⟩
      · rw [t] at c1; cases c1
      · omega
      · exact t
    refine lk_212b (by omega) rg rfl t5 (lk_212d (by omega) hx (by omega) (by omega) (BAD 5 hs.2))
  · have t5 : y % 8 ≠ 5 := by
      rcases T with ⟨t, -⟩ | ⟨z, -, t, -⟩ | ⟨-, -, t, -⟩
      · rw [t] at c1; cases c1
      · omega
      · exact t
    refine lk_212b (by omega) rg rfl t5 (lk_212l (n := ((s_dp s : Nat) : Int)) (b := ((s_b s : Nat) : Int)) (by omega) hx S43.1 (by omega) S39.1 (by omega) (by omega) (BAD 6 hs.2))
  · have t5 : y % 8 ≠ 5 := by
      rcases T with ⟨t, -⟩ | ⟨z, -, t, -⟩ | ⟨-, -, t, -⟩
      · rw [t] at c1; cases c1
      · omega
      · exact t
    have f0 : (0 : Int) ≤ (f : Int) ∧ (f : Int) < 2048 := by omega
    have ff : ((f : Int)).toNat = f := by omega
    refine lk_212b (by omega) rg rfl t5 (lk_212g (n := ((s_dp s : Nat) : Int)) (b := ((s_b s : Nat) : Int)) S43.1 (by omega) S39.1 (by omega) ?_)
    -- a call that is run
    have RUN : ∀ (w2 : W_) (i j : Int), rRC C sil D qq ft s w2 Γ → rPO n false s s w Γ w2 Γ (-1) → r_find C sil (.tag 12 (.append e cl)) v s = none → (i = if r_keep C sil (.tag 12 (.append e cl)) v s = true then 1 else 0) → zr212 fr (fun r w' => ∃ z, r = some (.inl z) ∧ ∃ Γ', rRC C sil D qq ft s1 w' Γ' ∧ rVF w' Γ' v1 z ∧ rPO n false s s1 w Γ w' Γ' (-1)) 153 node (f : Int) y (.inl i) (.inl j) (.inl 0) am_X w2 := by
      intro w2 i j H2 P2 hfi hi
      have hO : o_body rec C sil (r_keep C sil (.tag 12 (.append e cl)) v s) (.tag 12 (.append e cl)) v (u_rn s (if sil = true then s_rn s else s_rn s + 1) (s_tk s)) = some (v1, s1) := by
        rcases hO with ⟨r, q, -⟩ | ⟨-, q⟩
        · rw [hfi] at q; cases q
        · exact q
      have T79 := H2.2.2.1.2.2.2.2
      have T80 := H2.2.2.1.2.2.2.1
      have f17 : (f : Int) < w2.1 73 17 := by have := P2.1.1.1.2.2.1; omega
      have V2 := rVF_mono P2.1 V
      have i01 : i = 0 ∨ i = 1 := by rw [hi]; split <;> omega
      have hk : r_keep C sil (.tag 12 (.append e cl)) v s = true → k_fit e cl = true ∧ ∃ x, v = vN x ∧ y = 8 * x + 1 ∧ -9999 ≤ x ∧ x ≤ 9999 := fun q => by
        unfold r_keep at q
        rw [Bool.and_eq_true, Bool.and_eq_true] at q
        refine ⟨q.2, ?_⟩
        rcases T with ⟨t, -⟩ | ⟨z, t, t1, t2, t3, t4⟩ | ⟨-, t, -⟩
        · rw [t] at q; cases q.1.2
        · exact ⟨z, t, by omega, t3, t4⟩
        · rw [t] at q; cases q.1.2
      have GO : ∀ w3 : W_, rRC C sil D qq ft (u_rn s (if sil = true then s_rn s else s_rn s + 1) (s_tk s)) w3 Γ → rPO n false s (u_rn s (if sil = true then s_rn s else s_rn s + 1) (s_tk s)) w2 Γ w3 Γ (-1) → zr212 fr (fun r w' => ∃ z, r = some (.inl z) ∧ ∃ Γ', rRC C sil D qq ft s1 w' Γ' ∧ rVF w' Γ' v1 z ∧ rPO n false s s1 w Γ w' Γ' (-1)) 217 node (f : Int) y (.inl i) (.inl j) (.inl 0) am_X w3 := by
        intro w3 H3 P3
        have f17' : (f : Int) < w3.1 73 17 := by have := P3.1.1.1.2.2.1; omega
        have BO := lk_213 (n := n) (fr := fr - 1) hO hK M H3 f17' hf2 hΓ (rVF_mono P3.1 V2) hi hk hq c2 hs hn hn9 (by omega)
        have CC : ∀ ki : Int, ki = i → ww_Ct 213 (fr - 1) [.inr (.inr (.inl 73)), .inl (f : Int), .inl y, .inl ki] w3 fun r w' => ∃ z, r = some (.inl z) ∧ ∃ Γ', rRC C sil D qq ft s1 w' Γ' ∧ rVF w' Γ' v1 z ∧ rPO n false s s1 w Γ w' Γ' (-1) := fun ki q => by
          rw [q]
          refine BO.mono ?_
          rintro r w' ⟨z, rfl, Γ', k1, k2, k3⟩
          exact ⟨z, rfl, Γ', k1, k2, rPO_trans P2 (rPO_trans (n := n) (hb := false) (R := -1) P3 k3 (Nat.le_refl _) (Nat.le_refl _) (fun q => q) (fun q => q) (Or.inl rfl) (Or.inl rfl)) (Nat.le_refl _) (Nat.le_refl _) (fun q => q) (fun q => q) (Or.inl rfl) (Or.inl rfl)⟩
        have E240 : ∀ (ii z : Int) (w4 : W_) (Γ' : rG_), rRC C sil D qq ft s1 w4 Γ' → rVF w4 Γ' v1 z → rPO n false s s1 w Γ w4 Γ' (-1) → zr212 fr (fun r w' => ∃ z, r = some (.inl z) ∧ ∃ Γ', rRC C sil D qq ft s1 w' Γ' ∧ rVF w' Γ' v1 z ∧ rPO n false s s1 w Γ w' Γ' (-1)) 240 node (f : Int) y (.inl ii) (.inl j) (.inl 0) (.inl z) w4 := by
          intro ii z w4 Γ' k1 k2 k3
          refine lk_212_240_0 ⟨z, rfl, Γ', ?_⟩
          have e : w_f w4 73 79 (w4.1 73 79 - 0) = w4 := w_f_id _ _ _ _ (by omega)
          rw [e]
          exact ⟨k1, k2, k3⟩
        rcases i01 with rfl | rfl
        · refine lk_212_217_00 (R := fun z w' => ∃ Γ', rRC C sil D qq ft s1 w' Γ' ∧ rVF w' Γ' v1 z ∧ rPO n false s s1 w Γ w' Γ' (-1)) (by omega) (CC 0 rfl) ?_
          rintro z w4 ⟨Γ', k1, k2, k3⟩
          exact E240 0 z w4 Γ' k1 k2 k3
        · refine lk_212_217_10 (R := fun z w' => ∃ Γ', rRC C sil D qq ft s1 w' Γ' ∧ rVF w' Γ' v1 z ∧ rPO n false s s1 w Γ w' Γ' (-1)) (by omega) (CC 1 rfl) ?_
          rintro z w4 ⟨Γ', k1, k2, k3⟩
          exact E240 1 z w4 Γ' k1 k2 k3
      cases sil with
      | true =>
        have e79 : w2.1 73 79 = 1 := T79
        refine lk_212_153s e79 (GO _ (rRC_sn H2 (fun b j q => ?_) rfl ⟨?_, ?_⟩ ?_) (rPO_sn (fun b j q => ?_) rfl))
        · rw [w_f_ne _ _ _ _ _ _ (by omega), w_f_ne _ _ _ _ _ _ (by omega), w_f_ne _ _ _ _ _ _ (by omega)]
        · rw [w_f_ne _ _ _ _ _ _ (by decide), w_f1, w_u_at, if_pos ⟨rfl, rfl⟩, T80.1]
          show ((s_rn s : Nat) : Int) + 0 = ((s_rn s : Nat) : Int)
          omega
        · rw [w_f_ne _ _ _ _ _ _ (by decide), w_f_ne _ _ _ _ _ _ (by decide), w_f1, w_u_at, if_pos ⟨rfl, rfl⟩, T80.2]; omega
        · rw [w_f1, w_u_at, if_pos ⟨rfl, rfl⟩]; rfl
        · rw [w_f_ne _ _ _ _ _ _ (by omega), w_f_ne _ _ _ _ _ _ (by omega), w_f_ne _ _ _ _ _ _ (by omega)]
      | false =>
        have e79 : w2.1 73 79 = 0 := T79
        refine lk_212_1530 e79 (GO _ (rRC_sn H2 (fun b j q => ?_) rfl ⟨?_, ?_⟩ ?_) (rPO_sn (fun b j q => ?_) rfl))
        · rw [w_f_ne _ _ _ _ _ _ (by omega), w_f_ne _ _ _ _ _ _ (by omega), w_f_ne _ _ _ _ _ _ (by omega)]
        · rw [w_f_ne _ _ _ _ _ _ (by decide), w_f1, w_u_at, if_pos ⟨rfl, rfl⟩, T80.1]
          show ((s_rn s : Nat) : Int) + 1 = ((s_rn s + 1 : Nat) : Int)
          omega
        · rw [w_f_ne _ _ _ _ _ _ (by decide), w_f_ne _ _ _ _ _ _ (by decide), w_f1, w_u_at, if_pos ⟨rfl, rfl⟩, T80.2]; omega
        · rw [w_f1, w_u_at, if_pos ⟨rfl, rfl⟩]; rfl
        · rw [w_f_ne _ _ _ _ _ _ (by omega), w_f_ne _ _ _ _ _ _ (by omega), w_f_ne _ _ _ _ _ _ (by omega)]
    cases sil with
    | true =>
      have e79 : w.1 73 79 = 1 := S79
      exact lk_212_50s e79 (lk_212_80n (lk_212_105n (RUN w 0 (-1) H rPO_rfl r_find_sil rfl)))
    | false =>
      have e79 : w.1 73 79 = 0 := S79
      rcases T with ⟨t, -⟩ | ⟨z, t, t1, t2, t3, t4⟩ | ⟨t, tn, -, t1⟩
      · rw [t] at c1; cases c1
      · -- a number
        have K215 := lk_215 (fr := fr - 1) H.1 B.1 (by omega) (by omega) hf hf2 hΓ (by omega)
        cases fit : k_fit e cl with
        | false =>
          refine lk_212_50k0 (R := fun y w' => y = 0 ∧ rKW w w') (by omega) e79 rg t1 (K215.mono ?_) (fun _ _ q => q.1) ?_
          · rintro r w' ⟨y', rfl, q1, ⟨-, q2, -⟩ | ⟨q2, -⟩⟩
            · rw [fit] at q2; cases q2
            · exact ⟨y', rfl, q2, q1⟩
          · rintro y' w' ⟨-, q1⟩
            obtain ⟨H2, P2⟩ := rRC_kw (n := n) (hb := false) (R := -1) H q1
            refine lk_212_80n (lk_212_105n (RUN w' 0 (-1) H2 P2 ?_ ?_))
            · unfold r_find
              rw [t]
              show (if k_fit e cl = true then _ else none) = none
              rw [fit]; rfl
            · have e : r_keep C false (.tag 12 (.append e cl)) v s = false := by
                unfold r_keep
                show (!false && (v_num v).isSome && k_fit e cl) = false
                rw [fit, Bool.and_false]
              rw [e]; rfl
        | true =>
          have kp : r_keep C false (.tag 12 (.append e cl)) v s = true := by
            unfold r_keep
            show (!false && (v_num v).isSome && k_fit e cl) = true
            rw [fit, t]; rfl
          refine lk_212_50k1 (R := fun y w' => y = 1 ∧ rKW w w' ∧ rKY w' e cl) (by omega) e79 rg t1 (K215.mono ?_) (fun _ _ q => q.1) ?_
          · rintro r w' ⟨y', rfl, q1, ⟨q2, -, q3⟩ | ⟨-, q2⟩⟩
            · exact ⟨y', rfl, q2, q1, q3⟩
            · rw [fit] at q2; cases q2
          · rintro y' w' ⟨-, q1, q2⟩
            obtain ⟨H2, P2⟩ := rRC_kw (n := n) (hb := false) (R := -1) H q1
            obtain ⟨e', cl', own, g1, g2, g3, -⟩ := H.1.2.2.2.2 f hf
            rw [hΓ] at g1
            cases g1
            have kl := kid_lt g3
            have tid : w.2 79 (w.2 85 f).toNat = ((e_id e / 60 : Nat) : Int) ∧ w.2 80 (w.2 85 f).toNat = ((e_id e % 60 : Nat) : Int) ∧ e_id e < 1000 := by
              rcases rEN_or g3 with ⟨k, nn, id, a', b', c', rfl⟩ | rfl
              · rw [rEN_ce] at g3
                exact ⟨g3.1.2.2.2.1, g3.1.2.2.2.2, g3.1.1.2⟩
              · cases g2
            have FD := lk_218 (fr := fr - 1) (s := s) (x := z) (id := e_id e) (node := w.2 85 f) H2.2.2.2.2.2.2.1 H2.2.2.2.2.1 q2 (by omega) (by rw [q1.2 79 (by decide), q1.2 80 (by decide)]; exact ⟨tid.1, tid.2.1⟩) (by omega) ⟨t3, t4⟩ (by omega)
            refine lk_212_80y (p := z) (m := w.2 85 f) (R := fun y w'' => w'' = w' ∧ ((y = -1 ∧ (s_me s).find? (r_is C (e_id e) z (k_nums e cl)) = none) ∨ ∃ (j : Nat) (r : R_), y = (j : Int) ∧ (s_me s)[j]? = some r ∧ (s_me s).find? (r_is C (e_id e) z (k_nums e cl)) = some r)) (by omega) f0 rg t2 (by rw [q1.2 85 (by decide), ff]) (FD.mono ?_) ?_
            · rintro r w'' ⟨z', rfl, q⟩
              exact ⟨z', rfl, q⟩
            · have RF : ∀ o : Option R_, (s_me s).find? (r_is C (e_id e) z (k_nums e cl)) = o → r_find C false (.tag 12 (.append e cl)) v s = (match o with | some r => if s_dp s + r_sn r < 8 ∧ s_b s + r_lt r < 300 then some r else none | none => none) := fun o ho => by
                unfold r_find
                rw [t]
                show (if k_fit e cl = true then (match (s_me s).find? (r_is C (e_id e) z (k_nums e cl)) with | some r => if s_dp s + r_sn r < 8 ∧ s_b s + r_lt r < 300 then some r else none | none => none) else none) = _
                rw [fit, if_pos rfl, ho]
              rintro y2 w'' ⟨rfl, ⟨rfl, q3⟩ | ⟨j, r, rfl, q3, q4⟩⟩
              · exact lk_212_105n (RUN _ 1 (-1) H2 P2 (RF none q3) (by rw [kp]; rfl))
              · have jl : j < (s_me s).length := (List.getElem?_eq_some_iff.1 q3).1
                obtain ⟨⟨m1, m2⟩, m3⟩ := H2.2.2.2.2.2.2.1
                obtain ⟨-, ⟨m4, m5, m6, m7⟩, -⟩ := m3 j r q3
                have jj : ((j : Int)).toNat = j := by omega
                have U43 := H2.2.2.1.2.1
                have U39 := H2.2.2.1.1
                have U79 : w''.1 73 79 = 0 := H2.2.2.1.2.2.2.2
                have U80 := H2.2.2.1.2.2.2.1
                by_cases k1 : s_dp s + r_sn r < 8
                · by_cases k2 : s_b s + r_lt r < 300
                  · -- it is taken
                    refine lk_212_105t (n := ((s_dp s : Nat) : Int)) (k := ((s_b s : Nat) : Int)) (p1 := ((r_sn r : Nat) : Int)) (p2 := ((r_lt r : Nat) : Int)) (by omega) U43.1 (by omega) U39.1 (by omega) (by rw [jj]; exact m6) (by omega) (by rw [jj]; exact m4) (by omega) ⟨by omega, by omega⟩ ?_
                    have hfi : r_find C false (.tag 12 (.append e cl)) v s = some r := by rw [RF _ q4]; exact if_pos ⟨k1, k2⟩
                    have hO : o_body rec C true false (.tag 12 (.append e cl)) v (u_rn s (s_rn s) (s_tk s + 1)) = some (v1, s1) := by
                      rcases hO with ⟨r', -, q⟩ | ⟨q, -⟩
                      · exact q
                      · rw [hfi] at q; cases q
                    have X1 : ∀ b j, ¬ (b = 73 ∧ (j = 79 ∨ j = 80 ∨ j = 81)) → (w_f (w_f (w_f w'' 73 81 (w''.1 73 81 + 1)) 73 80 (w''.1 73 80 + 0)) 73 79 1).1 b j = w''.1 b j := fun b j q => by
                      rw [w_f_ne _ _ _ _ _ _ (by omega), w_f_ne _ _ _ _ _ _ (by omega), w_f_ne _ _ _ _ _ _ (by omega)]
                    have X80 : (w_f (w_f (w_f w'' 73 81 (w''.1 73 81 + 1)) 73 80 (w''.1 73 80 + 0)) 73 79 1).1 73 80 = ((s_rn s : Nat) : Int) := by
                      rw [w_f_ne _ _ _ _ _ _ (by decide), w_f1, w_u_at, if_pos ⟨rfl, rfl⟩, U80.1]; omega
                    have X81 : (w_f (w_f (w_f w'' 73 81 (w''.1 73 81 + 1)) 73 80 (w''.1 73 80 + 0)) 73 79 1).1 73 81 = ((s_tk s + 1 : Nat) : Int) := by
                      rw [w_f_ne _ _ _ _ _ _ (by decide), w_f_ne _ _ _ _ _ _ (by decide), w_f1, w_u_at, if_pos ⟨rfl, rfl⟩, U80.2]; omega
                    have X79 : (w_f (w_f (w_f w'' 73 81 (w''.1 73 81 + 1)) 73 80 (w''.1 73 80 + 0)) 73 79 1).1 73 79 = 1 := by
                      rw [w_f1, w_u_at, if_pos ⟨rfl, rfl⟩]
                    refine lk_212_1531 U79 ?_
                    have Xb : (w_f (w_f (w_f w'' 73 81 (w''.1 73 81 + 1)) 73 80 (w''.1 73 80 + 0)) 73 79 1).2 = w''.2 := rfl
                    generalize w_f (w_f (w_f w'' 73 81 (w''.1 73 81 + 1)) 73 80 (w''.1 73 80 + 0)) 73 79 1 = w3 at X1 X80 X81 X79 Xb ⊢
                    have H3 := rRC_sn (sil' := true) (rn := s_rn s) (tk := s_tk s + 1) H2 X1 Xb ⟨X80, X81⟩ X79
                    have P3 : rPO n false s (u_rn s (s_rn s) (s_tk s + 1)) w'' Γ w3 Γ (-1) := rPO_sn X1 Xb
                    have P23 := rPO_trans (n := n) (hb := false) (R := -1) P2 P3 (Nat.le_refl _) (Nat.le_refl _) (fun q => q) (fun q => q) (Or.inl rfl) (Or.inl rfl)
                    have BO := lk_213 (n := n) (fr := fr - 1) (keep := false) (ki := 0) hO hKt M H3 (by have := P23.1.1.1.2.2.1; omega) hf2 hΓ (rVF_mono P23.1 V) rfl (fun q => by cases q) hq c2 hs hn hn9 (by omega)
                    refine lk_212_217_11 (R := fun z w' => ∃ Γ', rRC C true D qq ft s1 w' Γ' ∧ rVF w' Γ' v1 z ∧ rPO n false s s1 w Γ w' Γ' (-1)) (by omega) (BO.mono ?_) ?_
                    · rintro r' w' ⟨z', rfl, Γ', k1, k2, k3⟩
                      exact ⟨z', rfl, Γ', k1, k2, rPO_trans P23 k3 (Nat.le_refl _) (Nat.le_refl _) (fun q => q) (fun q => q) (Or.inl rfl) (Or.inl rfl)⟩
                    · rintro z' w4 ⟨Γ', k1, k2, k3⟩
                      have W79 : w4.1 73 79 = 1 := k1.2.2.1.2.2.2.2
                      have W80 := k1.2.2.1.2.2.2.1
                      have Y1 : ∀ b j, ¬ (b = 73 ∧ (j = 79 ∨ j = 80 ∨ j = 81)) → (w_f w4 73 79 (w4.1 73 79 - 1)).1 b j = w4.1 b j := fun b j q => w_f_ne _ _ _ _ _ _ (by omega)
                      have H5 := rRC_sn (sil' := false) (rn := s_rn s1) (tk := s_tk s1) k1 Y1 rfl ⟨by rw [w_f_ne _ _ _ _ _ _ (by decide)]; exact W80.1, by rw [w_f_ne _ _ _ _ _ _ (by decide)]; exact W80.2⟩ (by rw [w_f1, w_u_at, if_pos ⟨rfl, rfl⟩, W79]; rfl)
                      have P5 : rPO n false s1 (u_rn s1 (s_rn s1) (s_tk s1)) w4 Γ' (w_f w4 73 79 (w4.1 73 79 - 1)) Γ' (-1) := rPO_sn Y1 rfl
                      have es : u_rn s1 (s_rn s1) (s_tk s1) = s1 := rfl
                      rw [es] at H5 P5
                      exact lk_212_240_1 ⟨z', rfl, Γ', H5, rVF_mono P5.1 k2, rPO_trans k3 P5 (Nat.le_refl _) (Nat.le_refl _) (fun q => q) (fun q => q) (Or.inl rfl) (Or.inl rfl)⟩
                  · refine lk_212_105l (n := ((s_dp s : Nat) : Int)) (k := ((s_b s : Nat) : Int)) (p1 := ((r_sn r : Nat) : Int)) (p2 := ((r_lt r : Nat) : Int)) (by omega) U43.1 (by omega) U39.1 (by omega) (by rw [jj]; exact m6) (by omega) (by rw [jj]; exact m4) (by omega) ⟨by omega, by omega⟩ (RUN _ 1 _ H2 P2 ?_ (by rw [kp]; rfl))
                    rw [RF _ q4]; exact if_neg (fun q => k2 q.2)
                · refine lk_212_105d (n := ((s_dp s : Nat) : Int)) (k := ((s_b s : Nat) : Int)) (p1 := ((r_sn r : Nat) : Int)) (p2 := ((r_lt r : Nat) : Int)) (by omega) U43.1 (by omega) U39.1 (by omega) (by rw [jj]; exact m6) (by omega) (by rw [jj]; exact m4) (by omega) (by omega) (RUN _ 1 _ H2 P2 ?_ (by rw [kp]; rfl))
                  rw [RF _ q4]; exact if_neg (fun q => k1 q.1)
      · refine lk_212_50n (by omega) e79 rg rfl t1 (lk_212_80n (lk_212_105n (RUN w 0 (-1) H rPO_rfl ?_ ?_)))
        · unfold r_find
          rw [tn]
        · have e : r_keep C false (.tag 12 (.append e cl)) v s = false := by
            unfold r_keep
            rw [tn]; rfl
          rw [e]; rfl
theorem rn_17 (I : rIN C sil D qq ft n u s (ce 17 nn id a b c) E w Γ x row fr) (hn : n1 + 1 ≤ n) {n2 : Nat} (hn2 : n2 + 2 ≤ n) (hn9 : n ≤ 1900) (h1 : rSK C sil n1 r1) (M1 : eMK r1) (h2 : rSK C sil n2 r2) (h2t : rSK C true n2 r2) (M2 : eMK r2) (h : ev1 L C r1 r2 r4 sil (ce 17 nn id a b c) E hb s = some (v, E1, s1)) (hs : s_b s1 ≤ 90000 ∧ s_nt s1 ≤ 900000) : ww_Ct 207 fr [.inr (.inr (.inl 73)), .inl x, .inl (row : Int), .inl (if hb = true then 1 else 0)] w (rVO C sil D qq ft n hb u s s1 v E1 row w Γ) := by
  have hq := I.2.1
  have hfr := I.2.2.2.2.2.2
  rw [ev1_17] at h
  split at h
  · rename_i tb
    cases hr : r1 sil a E hb (u_go s) with
    | none => rw [hr] at h; cases h
    | some z =>
      obtain ⟨va, Ea, sa⟩ := z
      rw [hr] at h
      dsimp only at h
      have lt : s_lt (u_go s) ≤ s_b (u_go s) := by have := rIN_lt I; show s_lt s ≤ s_b s + 1; omega
      have m1 := M1 _ _ _ _ _ _ _ _ hr lt
      by_cases c1 : v_isW va = true
      · rw [if_pos c1] at h
        cases h
        have hb1 : s_b s + 1 ≤ 90000 := Nat.le_trans m1.1 hs.1
        refine run_kid I hn h1 tb hb1 (by omega) hr hs (fun rv w2 Γ2 I2 V P ST => ?_)
        have B := rRC_bd I2.1
        obtain ⟨rg, T⟩ := rVt V B.1
        have Xx := (rIN_x I2).1
        rcases T with ⟨-, t⟩ | ⟨z, t, -⟩ | ⟨t, -⟩
        · exact lk_207c5 (by omega) (by omega) rg t (by omega) (rVO_W I2 hq P)
        · rw [t] at c1; cases c1
        · rw [t] at c1; cases c1
      · rw [if_neg c1] at h
        by_cases c2 : v_isF va = true
        · rw [if_pos c2] at h
          cases hr2 : r1 sil b Ea hb sa with
          | none => rw [hr2] at h; cases h
          | some z =>
            obtain ⟨vb, Eb, sb⟩ := z
            rw [hr2] at h
            dsimp only at h
            have m2 := M1 _ _ _ _ _ _ _ _ hr2 m1.2.2.2.2.1
            have m3 := o_call_M (hb := hb) M2 h m2.2.2.2.2.1
            have hsb : s_b sb ≤ 90000 ∧ s_nt sb ≤ 900000 := ⟨Nat.le_trans m3.1 hs.1, Nat.le_trans m3.2.1 hs.2⟩
            have hsa : s_b sa ≤ 90000 ∧ s_nt sa ≤ 900000 := ⟨Nat.le_trans m2.1 hsb.1, Nat.le_trans m2.2.1 hsb.2⟩
            have hb1 : s_b s + 1 ≤ 90000 := Nat.le_trans m1.1 hsa.1
            refine run_kid I hn h1 tb hb1 (by omega) hr hsa (fun rv w2 Γ2 I2 V P ST => ?_)
            have B := rRC_bd I2.1
            have rg := (rVt V B.1).1
            rcases rVt3 V B.1 with ⟨-, t1, f, t2, t3, t4⟩ | ⟨t, -⟩
            · have Xx := (rIN_x I2).1
              have eb := (rIN_x I2).2.2.2.2.2.1 (by decide)
              have f2 : f < 2048 := by have := B.1.1; omega
              obtain ⟨e', cl', own, g1, g2, g3, -⟩ := I2.1.1.2.2.2.2 f t4
              have ho : o_call r2 C sil id (.tag 12 (.append e' cl')) vb Eb sb = some (v, E1, s1) := by rw [← g1, ← t2]; exact h
              have eE : E1 = Eb := (o_call_inv h).1
              refine lk_207c (p1 := (f : Int)) (R1 := fun y w' => rVO C sil D (qq - 3) ft n1 hb u sa sb vb Eb row w2 Γ2 (some (.inl y)) w') (R := fun y w' => rVO C sil D qq ft n hb u s s1 v E1 row w Γ (some (.inl y)) w') (by omega) (by omega) rg t1 t3 (by omega) ((rSK_to h1 hr2 (rIN_kid (n1 := n1) (fr1 := fr - 1) I2 eb (fun m q => nm_b q) (by omega)) hsb).mono (yP_m rVO_yP)) ?_ (fun y w' g => g)
              rintro y w3 ⟨y', q, Γ3, k1, k2, k3, k4⟩
              cases q
              have B3 := rRC_bd k1
              have P3 := rPO_trans (n := n) (hb := hb) (R := (row : Int)) P k4 (Nat.le_refl _) (by omega) (fun q => q) (fun q => q) (Or.inl rfl) (Or.inl rfl)
              have I3 := rIN_next I2 k1 k4 k3
              have X3 := rIN_x I3
              have g1' : Γ3.2.1 f = .tag 12 (.append e' cl') := by rw [(k4.1.2.2.1 f t4).2]; exact g1
              have f3 : (f : Int) < w3.1 73 17 := by have := k4.1.1.1.2.2.1; omega
              refine Q_m ((lk_212 (n := n) (fr := fr - 1) ho h2 h2t M2 k1 f3 f2 g1' k2 (by omega) hs (by omega) (by omega) (by omega) ⟨X3.2.1.2.2.1, X3.2.1.2.2.2⟩ (by omega)).mono ?_)
              rintro r w4 ⟨z, rfl, Γ4, j1, j2, j3⟩
              refine ⟨z, rfl, Γ4, rRC_qq j1 (by omega) (by omega), j2, ?_, rPO_trans P3 j3 (Nat.le_refl _) (Nat.le_refl _) (fun q => q) (fun _ => rfl) (Or.inl rfl) (by omega)⟩
              rw [eE]
              exact rNF_mono j3.1 I3.2.2.2.2.2.1.1 (by omega) I3.2.2.2.2.1
            · rw [t] at c2; cases c2
        · rw [if_neg c2] at h
          have hE : E1 = Ea ∧ v = vW ∧ s1 = f_note C (f_code 3 id) sa := by
            unfold o_bad at h
            have h := Option.some.inj h
            exact ⟨(congrArg (fun p => p.2.1) h).symm, (congrArg Prod.fst h).symm, (congrArg (fun p => p.2.2) h).symm⟩
          obtain ⟨rfl, rfl, rfl⟩ := hE
          have hsa : s_b sa ≤ 90000 ∧ s_nt sa ≤ 900000 := ⟨hs.1, Nat.le_trans (Nat.le_succ _) hs.2⟩
          have hb1 : s_b s + 1 ≤ 90000 := Nat.le_trans m1.1 hsa.1
          refine run_kid I hn h1 tb hb1 (by omega) hr hsa (fun rv w2 Γ2 I2 V P ST => ?_)
          have B := rRC_bd I2.1
          have Xx := (rIN_x I2).1
          obtain ⟨rg, T⟩ := rVt V B.1
          have t3 : rv % 8 ≠ 3 := by
            rcases rVt3 V B.1 with ⟨t, -⟩ | ⟨-, t⟩
            · exact absurd t c2
            · exact t
          have t5 : rv % 8 ≠ 5 := by
            rcases T with ⟨t, -⟩ | ⟨z, -, t, -⟩ | ⟨-, -, t, -⟩
            · rw [t] at c1; exact absurd rfl c1
            · omega
            · exact t
          exact lk_207c0 (by omega) (by omega) rg rfl ⟨t5, t3⟩ (by omega) (rVO_bad I2 hq P hs.2)
  · cases h
end
