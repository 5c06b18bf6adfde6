/-! ===== the class runs as the evaluator: PAIR, JOIN ===== -/
theorem min60 (p q : Nat) : (if (60 : Int) < ((min 60 p : Nat) : Int) + ((min 60 q : Nat) : Int) then (60 : Int) else ((min 60 p : Nat) : Int) + ((min 60 q : Nat) : Int)) = ((min 60 (p + q) : Nat) : Int) := by
  split <;> omega
theorem rg60 (p q : Nat) : am_rg (if (60 : Int) < ((min 60 p : Nat) : Int) + ((min 60 q : Nat) : Int) then (60 : Int) else ((min 60 p : Nat) : Int) + ((min 60 q : Nat) : Int)) := by
  unfold am_rg
  split <;> omega
theorem rg01 (p : Prop) [Decidable p] : am_rg (if p then 1 else 0) := by
  unfold am_rg
  split <;> omega
theorem hW_node {a : Nat → Int} {v : T_} {n : Int} (hn : 0 ≤ n) (h1 : pH a (30000 + n) 5 = v_wd v 1) (h2 : pH a (30000 + n) 6 = v_wd v 2) (h3 : pH a (30000 + n) 7 = v_wd v 3) (hq : ∀ s : Nat, (v_wq v s).2 = s) : hW a v (30000 + n) := by
  unfold hW
  rw [if_neg (by omega), if_neg (by omega), if_neg (by omega)]
  exact ⟨h1, h2, h3, hq⟩
theorem hN_cF {n : Int} {a : Nat → Int} {F : T_ → Prop} {x k : Int} (h : hN n a F x k) : ((-9999 ≤ x ∧ x ≤ 9999) ∨ (1 ≤ pH a x 0 ∧ pH a x 0 ≤ 9) ∨ (pH a x 0 = 13 ∧ pH a x 4 ≠ 0)) ↔ (1 ≤ k ∧ k ≤ 9) ∨ (k = 13 ∧ pH a x 4 ≠ 0) := by
  rw [h.2.1]
  have := h.1
  constructor
  · rintro (q | q | q)
    · omega
    · exact Or.inl q
    · exact Or.inr q
  · rintro (q | q)
    · exact Or.inr (Or.inl q)
    · exact Or.inr (Or.inr q)
theorem vW_fl {w : W_} {v : T_} {x : Int} (h : vW_ w v x) : h_cF w x ↔ v_fl v = true := by
  show ((-9999 ≤ x ∧ x ≤ 9999) ∨ (1 ≤ pH (w.2 13) x 0 ∧ pH (w.2 13) x 0 ≤ 9) ∨ (pH (w.2 13) x 0 = 13 ∧ pH (w.2 13) x 4 ≠ 0)) ↔ _
  have Z : x < 30000 → ¬ (-9999 ≤ x ∧ x ≤ 9999) → ¬ ((-9999 ≤ x ∧ x ≤ 9999) ∨ (1 ≤ pH (w.2 13) x 0 ∧ pH (w.2 13) x 0 ≤ 9) ∨ (pH (w.2 13) x 0 = 13 ∧ pH (w.2 13) x 4 ≠ 0)) := fun q1 q2 => by
    have e : pH (w.2 13) x 0 = 0 := by unfold pH; rw [if_pos q1]
    rw [e]
    omega
  have h2 := h.1
  unfold cR at h2
  split at h2
  all_goals first
    | exact h2.elim
    | exact ⟨fun _ => rfl, fun _ => Or.inl ⟨by omega, by omega⟩⟩
    | exact ⟨fun q => absurd q (Z (by omega) (by omega)), fun q => by cases q⟩
    | exact (hN_cF h2.1).trans ⟨fun _ => rfl, fun _ => Or.inl (by decide)⟩
    | exact (hN_cF h2).trans ⟨fun _ => rfl, fun _ => Or.inl (by decide)⟩
    | exact (hN_cF h2.1).trans ⟨fun q => (by exfalso; rcases q with q | q <;> omega), fun q => by cases q⟩
    | exact (hN_cF h2.1).trans ⟨fun q => h2.2.2.1.mp (q.resolve_left (by decide)).2, fun q => Or.inr ⟨rfl, h2.2.2.1.mpr q⟩⟩
    | (refine (hN_cF h2.1).trans ⟨fun q => ?_, fun q => ?_⟩
       · exfalso; rcases q with q | q <;> omega
       · cases q)
    | skip
theorem vW_cC {w : W_} {v : T_} {x : Int} (h : vW_ w v x) : h_cC w x ↔ v_isC v = true := by
  show (x = 20000 ∨ (1 ≤ pH (w.2 13) x 0 ∧ pH (w.2 13) x 0 ≤ 9)) ↔ _
  have N : ∀ k, hN (w.1 13 2) (w.2 13) (fW w) x k → ((x = 20000 ∨ (1 ≤ pH (w.2 13) x 0 ∧ pH (w.2 13) x 0 ≤ 9)) ↔ 1 ≤ k ∧ k ≤ 9) := fun k q => by
    rw [q.2.1]
    have := q.1
    constructor
    · rintro (q | q)
      · omega
      · exact q
    · exact Or.inr
  have Z : x < 30000 → x ≠ 20000 → ¬ (x = 20000 ∨ (1 ≤ pH (w.2 13) x 0 ∧ pH (w.2 13) x 0 ≤ 9)) := fun q1 q2 => by
    have e : pH (w.2 13) x 0 = 0 := by unfold pH; rw [if_pos q1]
    rw [e]
    omega
  have h2 := h.1
  unfold cR at h2
  split at h2
  all_goals first
    | exact h2.elim
    | exact ⟨fun _ => rfl, fun _ => Or.inl h2⟩
    | exact ⟨fun q => absurd q (Z (by omega) (by omega)), fun q => by cases q⟩
    | exact (N _ h2.1).trans ⟨fun _ => rfl, fun _ => by decide⟩
    | exact (N _ h2).trans ⟨fun _ => rfl, fun _ => by decide⟩
    | exact (N _ h2.1).trans ⟨fun q => absurd q (by decide), fun q => by cases q⟩
    | skip
section
variable {C : C_} {sil : Bool} {o a0 : Nat} {D : Prop} {K0 : Int} {hb : Bool} {s s1 : S_} {E E1 : N_} {w : W_} {fr : Nat} {Q : Option am_V → W_ → Prop} {i : Int} {k : Nat} {n : Int} {id : Nat} {a b c v : T_}
theorem mn_wd {w : W_} {l r : T_} {y z : Int} (h1 : vW_ w l y) (h2 : vW_ w r z) : h_mn w y z 1 = v_wd (.tag 13 (.append l r)) 1 ∧ h_mn w y z 2 = v_wd (.tag 13 (.append l r)) 2 ∧ h_mn w y z 3 = v_wd (.tag 13 (.append l r)) 3 := by
  obtain ⟨a1, a2, a3⟩ := vW_w h1
  obtain ⟨b1, b2, b3⟩ := vW_w h2
  unfold h_mn
  rw [a1, a2, a3, b1, b2, b3]
  refine ⟨?_, ?_, ?_⟩
  · show _ = ((min 9999 (v_wd l 1 + v_wd r 1) : Nat) : Int)
    split <;> omega
  · show _ = ((min 9999 (v_wd l 2 + v_wd r 2) : Nat) : Int)
    split <;> omega
  · show _ = ((min 9999 (v_wd l 3 + v_wd r 3) : Nat) : Int)
    split <;> omega
theorem sim_30 {s3 : S_} {E3 : N_} {x : T_} {w6 : W_} {y : Int} (he : eW w6 0 hb (ce 30 n id a b c)) (R : RD C sil o a0 D K0 hb s3 E3 w6) (hw : 0 ≤ w.1 33 1) (htx : hb = true → w.1 41 13 < w.1 33 1) (hc : w6.1 33 1 = w.1 33 1 + 1) (hq : fQ (w.1 33 1) hb w w6) (f0 : f_t w6 0 = 0) (f1 : f_t w6 1 = id) (f2 : f_t w6 2 = 2) (f3 : f_t w6 3 = y) (vv : vW_ w6 v y) (vx : vW_ w6 x (w6.1 41 11)) (hd : w6.1 41 10 = -1) (hf : 20 ≤ fr) (hi : 0 ≤ i ∧ i ≤ 900000) (hn : s_nd s3 + 1 ≤ 11 * s_tb s3 + 300) (K : ∀ w', RD C sil o a0 D K0 hb (u_nd s3 1) E3 w' → w'.1 33 1 = w.1 33 1 → fQ (w.1 33 1) hb w w' → vW_ w' (.tag 13 (.append v x)) (w'.1 41 11) → w'.1 41 10 = -1 → dr fr Q (i + 1) w') : dr fr Q i w6 := by
  obtain ⟨⟨g1, g2, g3, g4, g5, g6, g7, -⟩, -⟩ := eW_ce he
  have hcn := R.1.2.2.1.2.2.2
  have h13 : 0 ≤ w6.1 13 2 ∧ w6.1 13 2 ≤ 262000 := by omega
  have hct : 1 ≤ w6.1 33 1 ∧ w6.1 33 1 < 24000 := by have := R.2.2.2.1; omega
  have htx6 : hb = true → w6.1 41 13 < w.1 33 1 := fun q => by rw [hq.1.2]; exact htx q
  obtain ⟨RP, cP⟩ := RD_po R hc hw htx6
  have ho := RD_oK RP.1
  have OP : oQ (w.1 33 1) w6 (w_po w6) := oQ_po (RD_oK R.1)
  obtain ⟨p11, p10, p12, p13⟩ := w_po_v w6
  have v1 := vW_po vv
  have v2 := vW_po vx
  generalize hz : w6.1 41 11 = z at *
  generalize hW : w_po w6 = W at *
  have hW13 : 0 ≤ W.1 13 2 ∧ W.1 13 2 ≤ 262000 := by rw [p13]; exact h13
  have l1 := (cR_lt hW13.1 v1.1).2
  have l2 := (cR_lt hW13.1 v2.1).2
  have o1 := vW_ok hW13.1 (by omega) v1
  have o2 := vW_ok hW13.1 (by omega) v2
  have n1 := vW_nf v1
  have n2 := vW_nf v2
  have F1 := vW_fl v1
  have F2 := vW_fl v2
  obtain ⟨m1, m2, m3⟩ := mn_wd v1 v2
  have z26 := lk_26 (x0 := y) (x1 := z) (w := W) (by omega) l1 l2 ⟨o1, vW_wk v1⟩ ⟨o2, vW_wk v2⟩ (by rw [n1]; omega) (by rw [n2]; omega)
  refine dr_0 (f := 6) (by omega) hd hct f0 (lk_85p (W := w_wid (w_mk W 13 y z (if 60 < h_nf W y + h_nf W z then 60 else h_nf W y + h_nf W z) (if h_cF W y ∨ h_cF W z then 1 else 0)) (30000 + W.1 13 2) (h_mn W y z 1) (h_mn W y z 2) (h_mn W y z 3)) (u := 30000 + W.1 13 2) f1 f2 f3 (by omega) g2 hct (by rw [hW, hz]; exact z26)) (by omega) (by omega) fun w7 hw7 => ?_
  rw [hw7]
  obtain ⟨y1, y2, y3, y4, y5, y6, y7, y8, y9⟩ := new_wid (W := W) (k := 13) (b := y) (c := z) (d := if 60 < h_nf W y + h_nf W z then 60 else h_nf W y + h_nf W z) (e := if h_cF W y ∨ h_cF W z then 1 else 0) (x := h_mn W y z 1) (y := h_mn W y z 2) (z := h_mn W y z 3) hW13.1 (by rw [n1, n2]; exact rg60 _ _) (rg01 _) (CR_gN RP.1)
  have HS : hS W (w_wid (w_mk W 13 y z (if 60 < h_nf W y + h_nf W z then 60 else h_nf W y + h_nf W z) (if h_cF W y ∨ h_cF W z then 1 else 0)) (30000 + W.1 13 2) (h_mn W y z 1) (h_mn W y z 2) (h_mn W y z 3)) := hS_wid (hS_mk hW13.1 (cpx_of hW13.1 v1.1) (cpx_of hW13.1 v2.1) (fun q => absurd q (by decide))) hW13.1
  generalize w_wid (w_mk W 13 y z (if 60 < h_nf W y + h_nf W z then 60 else h_nf W y + h_nf W z) (if h_cF W y ∨ h_cF W z then 1 else 0)) (30000 + W.1 13 2) (h_mn W y z 1) (h_mn W y z 2) (h_mn W y z 3) = W2 at *
  have x1 := vW_x (hS_x HS ho) hW13.1 v1
  have x2 := vW_x (hS_x HS ho) hW13.1 v2
  refine sim_fin (w0 := w) (RD_h (k := 1) RP HS (by rw [y1]; omega) hn) ?_ (fQ_tr hq (oQ_fQ (oQ_tr OP (oQ_h HS ho)))) ?_ ?_ K
  · rw [HS.1 33 1 (by decide)]; exact cP
  · rw [HS.1 41 10 (by decide), p10]; exact hd
  · refine ⟨⟨y2, ?_, ?_, ?_, ?_, ?_, ?_⟩, ?_⟩
    · rw [y5, n1, n2]
      exact min60 _ _
    · rw [y6, Bool.or_eq_true, ← F1, ← F2]
      split
      · exact ⟨fun _ => by assumption, fun _ => by decide⟩
      · exact ⟨fun q => absurd rfl q, fun q => absurd q (by assumption)⟩
    · rw [y3]; exact x1.1
    · rw [y3]; exact x1.2
    · rw [y4]; exact x2.1
    · rw [y4]; exact x2.2
    · exact hW_node hW13.1 (y7.trans m1) (y8.trans m2) (y9.trans m3) fun _ => rfl
end
