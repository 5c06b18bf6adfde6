/-! ===== the class runs as the evaluator: what is reckoned, IF, questions ===== -/
/-- a value's number, and what else it is -/
theorem vW_num {w : W_} {v : T_} {x : Int} (h0 : 0 ≤ w.1 13 2) (h : vW_ w v x) : match v_num v with
  | some y => x = y ∧ -9999 ≤ x ∧ x ≤ 9999
  | none => ¬ (-9999 ≤ x ∧ x ≤ 9999) := by
  have h := h.1
  unfold cR at h
  split at h
  all_goals first | exact ⟨h.1, by omega, by omega⟩ | (have := h.1.1; show ¬ _; omega) | (show ¬ _; omega) | exact h.elim | skip
  all_goals (first | (have h1 := h.1; show ¬ _; omega) | skip)
theorem vW_isW {w : W_} {v : T_} {x : Int} (h : vW_ w v x) : v_isW v = true ↔ x = 20004 := by
  have h := h.1
  unfold cR at h
  split at h
  all_goals first | exact h.elim | exact ⟨fun _ => h, fun _ => rfl⟩ | exact ⟨fun q => (by cases q), fun q => (by exfalso; first | (have h1 := h.1.1; omega) | (have h1 := h.1; omega) | omega | exact h.elim)⟩
section
variable {C : C_} {sil : Bool} {o a0 : Nat} {D : Prop} {K0 : Int} {hb : Bool} {s s1 : S_} {E E1 : N_} {w : W_} {fr : Nat} {Q : Option am_V → W_ → Prop} {i : Int} {k : Nat} {n : Int} {id : Nat} {a b c v : T_}
theorem vW_rg {w : W_} {v : T_} {x : Int} (h0 : 0 ≤ w.1 13 2) (h1 : w.1 13 2 ≤ 300000) (h : vW_ w v x) : am_rg x ∧ -100000 ≤ x ∧ x < 10000000 := by
  have := cR_lt h0 h.1
  unfold am_rg
  omega
/-- the last step of what is reckoned -/
theorem sim_arith {s3 : S_} {E3 : N_} {x : T_} {w6 : W_} {y : Int} (hk : k = 9 ∨ k = 10 ∨ k = 11 ∨ k = 12) (he : eW w6 0 hb (ce k n id a b c)) (R : RD C sil o a0 D K0 hb s3 E3 w6) (hw : 0 ≤ w.1 33 1) (htx : hb = true → w.1 41 13 < w.1 33 1) (hc : w6.1 33 1 = w.1 33 1 + 1) (hq : fQ (w.1 33 1) hb w w6) (f0 : f_t w6 0 = 0) (f1 : f_t w6 1 = id) (f2 : f_t w6 2 = 2) (f3 : f_t w6 3 = y) (vv : vW_ w6 v y) (vx : vW_ w6 x (w6.1 41 11)) (hd : w6.1 41 10 = -1) (hf : 20 ≤ fr) (hi : 0 ≤ i ∧ i ≤ 900000) (hN : s_nt s1 ≤ 900000) {v' : T_} (hr : o_two C k id v x E3 s3 = some (v', E1, s1)) (K : ∀ w', RD C sil o a0 D K0 hb s1 E1 w' → w'.1 33 1 = w.1 33 1 → fQ (w.1 33 1) hb w w' → vW_ w' v' (w'.1 41 11) → w'.1 41 10 = -1 → dr fr Q (i + 1) w') : dr fr Q i w6 := by
  obtain ⟨⟨g1, g2, g3, g4, g5, g6, g7, -⟩, -⟩ := eW_ce he
  have hcn := R.1.2.2.1.2.2.2
  have h13 : 0 ≤ w6.1 13 2 ∧ w6.1 13 2 ≤ 300000 := by omega
  have n1 := vW_num h13.1 vv
  have n2 := vW_num h13.1 vx
  have r1 := vW_rg h13.1 h13.2 vv
  have r2 := vW_rg h13.1 h13.2 vx
  have i1 := vW_isW vv
  have i2 := vW_isW vx
  have hct : 1 ≤ w6.1 33 1 ∧ w6.1 33 1 < 24000 := by have := R.2.2.2.1; omega
  have htx6 : hb = true → w6.1 41 13 < w.1 33 1 := fun q => by rw [hq.1.2]; exact htx q
  obtain ⟨RP, cP⟩ := RD_po R hc hw htx6
  have ho := RD_oK R.1
  have OP : oQ (w.1 33 1) w6 (w_po w6) := oQ_po ho
  have dP : (w_po w6).1 41 10 = -1 := by rw [w_po1, if_neg (by decide)]; exact hd
  have knP := (CR_o RP.1).2
  have gP : w_g (w_po w6) 3 id = k := g2
  have hid : (0 : Int) ≤ id ∧ (id : Int) < 100000 := by omega
  unfold o_two at hr
  by_cases cw : v_isW v = true ∨ v_isW x = true
  · rw [if_pos cw] at hr
    cases hr
    refine dr_0 (f := 6) (by omega) hd hct f0 (lk_85r (id := id) (W := w_po w6) (u := 20004) f1 f2 f3 (by omega) g2 (by omega) hct (lk_86w r1.1 r2.1 (by rw [← i1, ← i2]; exact cw))) (by omega) (by omega) fun w7 hw7 => ?_
    rw [hw7]
    exact sim_fin (w0 := w) RP cP (fQ_tr hq (oQ_fQ OP)) dP vW_W K
  · rw [if_neg cw] at hr
    have c1 : y ≠ 20004 := fun q => cw (Or.inl (i1.mpr q))
    have c2 : w6.1 41 11 ≠ 20004 := fun q => cw (Or.inr (i2.mpr q))
    have B : ¬ ((-9999 ≤ y ∧ y ≤ 9999) ∧ -9999 ≤ w6.1 41 11 ∧ w6.1 41 11 ≤ 9999) → o_bad C 3 id E3 s3 = some (v', E1, s1) → dr fr Q i w6 := fun hB hr => by
      cases hr
      refine dr_0 (f := 6) (by omega) hd hct f0 (lk_85r (id := id) (W := w_nt (w_po w6) (100000 * 3 + w_spot id)) (u := 20004) f1 f2 f3 (by omega) g2 (by omega) hct (lk_86k r1.1 r2.1 c1 c2 hB knP hid)) (by omega) (by omega) fun w7 hw7 => ?_
      rw [hw7]
      have hcode : (100000 * 3 + w_spot (id : Int)) = f_code 3 id := f_code_w 3 id
      rw [hcode]
      have hoP := oK_x OP.2.2.2 ho
      have hN' : s_nt s3 + 1 ≤ 900000 := hN
      exact sim_fin (w0 := w) (RD_nt RP (by omega)) ((w_nt_n hoP).1.trans cP) (fQ_tr hq (oQ_fQ (oQ_tr OP (oQ_nt hoP)))) ((w_nt_n hoP).2.1.trans dP) vW_W K
    cases q1 : v_num v with
    | none =>
      rw [q1] at n1 hr
      exact B (fun q => n1 q.1) hr
    | some z1 =>
      cases q2 : v_num x with
      | none =>
        rw [q2] at n2
        rw [q1, q2] at hr
        exact B (fun q => n2 q.2) hr
      | some z2 =>
        rw [q1] at n1
        rw [q2] at n2
        rw [q1, q2] at hr
        cases hr
        have ea : (if (k : Int) = 9 then b9 (y + w6.1 41 11) else if (k : Int) = 10 then b9 (y - w6.1 41 11) else if (k : Int) = 11 then b9 (y * w6.1 41 11) else if y < w6.1 41 11 then 1 else 0) = v_arith k z1 z2 := by
          rw [n1.1, n2.1]
          unfold v_arith
          rcases hk with rfl | rfl | rfl | rfl <;> rfl
        refine dr_0 (f := 6) (by omega) hd hct f0 (lk_85r (id := id) (W := w_po w6) (u := v_arith k z1 z2) f1 f2 f3 (by omega) g2 (by omega) hct (ww_Ct.mono (lk_86n (k := k) ⟨n1.2, n2.2⟩ hid gP (by omega)) fun r w' q => ⟨by rw [← ea]; exact q.1, q.2⟩)) (by omega) (by omega) fun w7 hw7 => ?_
        rw [hw7]
        refine sim_fin (w0 := w) RP cP (fQ_tr hq (oQ_fQ OP)) dP (vW_N ?_) K
        unfold v_arith b9
        (repeat' split) <;> omega
end
