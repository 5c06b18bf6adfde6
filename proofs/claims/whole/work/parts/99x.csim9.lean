/-! ===== the class runs as the evaluator: JOIN ===== -/
theorem v_fl_tag {k : Nat} {t : T_} (hk : k ≠ 13) : v_fl (.tag k t) = decide (1 ≤ k ∧ k ≤ 9) := by
  unfold v_fl
  split
  · rename_i h; cases h
  · rename_i h; cases h; exact absurd rfl hk
  · rename_i h; cases h; rfl
  · rename_i h1 h2 h3; exact (h3 k t rfl).elim
theorem fl_wd' : ∀ v : T_, (v_fl v = false → ∀ s, (v_wq v s).1 = 0) ∧ ∀ a b, v = .append a b → (v_fl a = false → ∀ s, (v_wq a s).1 = 0) ∧ (v_fl b = false → ∀ s, (v_wq b s).1 = 0) := by
  intro v
  induction v with
  | append a b iha ihb => exact ⟨fun _ _ => rfl, fun a' b' e => by cases e; exact ⟨iha.1, ihb.1⟩⟩
  | tag k t ih =>
    refine ⟨fun h s => ?_, fun a b e => by cases e⟩
    by_cases hk : k = 13
    · subst hk
      cases t with
      | append a b =>
        have h1 : (v_fl a || v_fl b) = false := h
        obtain ⟨ha, hb⟩ := Bool.or_eq_false_iff.mp h1
        obtain ⟨i1, i2⟩ := ih.2 a b rfl
        show m9 ((v_wq a s).1 + (v_wq b s).1) = 0
        rw [i1 ha s, i2 hb s]
        rfl
      | _ => rfl
    · have hd : ¬ (1 ≤ k ∧ k ≤ 9) := fun q => by
        rw [v_fl_tag hk, decide_eq_true q] at h
        cases h
      unfold v_wq
      split <;> first | rfl | (rename_i heq; cases heq <;> (exfalso; omega))
  | nest x t ih =>
    refine ⟨fun h s => ?_, fun a b e => by cases e⟩
    cases t with
    | nil => cases h
    | _ => rfl
  | _ => exact ⟨fun _ _ => rfl, fun a b e => by cases e⟩
theorem join_wd {v x : T_} (hv : ∀ s : Nat, (v_wq v s).2 = s) (hx : ∀ s : Nat, (v_wq x s).2 = s) (s : Nat) : v_wq (.tag 8 (.append (if v_fl v = true then v else v0) (if v_fl x = true then x else v0))) s = (v_wd (.tag 13 (.append v x)) s, s) := by
  have e : ∀ u : T_, (∀ s : Nat, (v_wq u s).2 = s) → v_wq (if v_fl u = true then u else v0) s = ((v_wq u s).1, s) := fun u hu => by
    cases q : v_fl u with
    | true =>
      rw [if_pos rfl]
      exact Prod.ext rfl (hu s)
    | false =>
      rw [if_neg (by decide), (fl_wd' u).1 q s]
      rfl
  show (m9 ((v_wq (if v_fl v = true then v else v0) s).1 + (v_wq (if v_fl x = true then x else v0) (v_wq (if v_fl v = true then v else v0) s).2).1), (v_wq (if v_fl x = true then x else v0) (v_wq (if v_fl v = true then v else v0) s).2).2) = _
  rw [e v hv]
  dsimp only
  rw [e x hx]
  rfl
section
variable {C : C_} {sil : Bool} {o a0 : Nat} {D : Prop} {K0 : Int} {hb : Bool} {s s1 : S_} {E E1 : N_} {w : W_} {fr : Nat} {Q : Option am_V → W_ → Prop} {i : Int} {k : Nat} {n : Int} {id : Nat} {a b c v : T_}
theorem vW_E {w : W_} : vW_ w vE 20000 := by
  refine ⟨rfl, ?_⟩
  unfold hW pH
  exact ⟨rfl, rfl, rfl, fun _ => rfl⟩
/-- what join answers -/
theorem join_W {W : W_} {x : T_} {y z : Int} (h13 : 0 ≤ W.1 13 2 ∧ W.1 13 2 ≤ 262000) (ho : oK W) (hg : gN (W.1 13 2) (W.2 7)) (v1 : vW_ W v y) (v2 : vW_ W x z) : hS W (h_jW W y z) ∧ (h_jW W y z).1 13 2 ≤ W.1 13 2 + 1 ∧ vW_ (h_jW W y z) (v_join v x) (h_jR W y z) := by
  have F1 := vW_fl v1
  have F2 := vW_fl v2
  have C1 := vW_cC v1
  have C2 := vW_cC v2
  have hb : ∀ (p : Prop) (b : Bool), (p ↔ b = true) → (¬ p ↔ b = false) := fun p b q => by
    cases b with
    | true => exact ⟨fun h => absurd (q.mpr rfl) h, fun h => by cases h⟩
    | false => exact ⟨fun _ => rfl, fun _ h => by have := q.mp h; cases this⟩
  have G1 := hb _ _ F1
  have G2 := hb _ _ F2
  have S0 : hS W W := hS_rf W
  unfold h_jW h_jR v_join
  by_cases c1 : ¬ h_cF W y ∧ ¬ h_cF W z
  · rw [if_pos c1, if_pos c1, if_pos (show v_fl v = false ∧ v_fl x = false from ⟨G1.mp c1.1, G2.mp c1.2⟩)]
    exact ⟨S0, by omega, vW_E⟩
  · rw [if_neg c1, if_neg c1, if_neg (show ¬ (v_fl v = false ∧ v_fl x = false) from fun q => c1 ⟨G1.mpr q.1, G2.mpr q.2⟩)]
    by_cases c2 : ¬ h_cF W z ∧ h_cC W y
    · rw [if_pos c2, if_pos c2, if_pos (show v_fl x = false ∧ v_isC v = true from ⟨G2.mp c2.1, C1.mp c2.2⟩)]
      exact ⟨S0, by omega, v1⟩
    · rw [if_neg c2, if_neg c2, if_neg (show ¬ (v_fl x = false ∧ v_isC v = true) from fun q => c2 ⟨G2.mpr q.1, C1.mpr q.2⟩)]
      by_cases c3 : ¬ h_cF W y ∧ h_cC W z
      · rw [if_pos c3, if_pos c3, if_pos (show v_fl v = false ∧ v_isC x = true from ⟨G1.mp c3.1, C2.mp c3.2⟩)]
        exact ⟨S0, by omega, v2⟩
      · rw [if_neg c3, if_neg c3, if_neg (show ¬ (v_fl v = false ∧ v_isC x = true) from fun q => c3 ⟨G1.mpr q.1, C2.mpr q.2⟩)]
        obtain ⟨m1, m2, m3⟩ := mn_wd v1 v2
        obtain ⟨y1, y2, y3, y4, y5, y6, y7, y8, y9⟩ := new_wid (W := W) (k := 8) (b := if h_cF W y then y else 20003) (c := if h_cF W z then z else 20003) (d := 0) (e := 0) (x := h_mn W y z 1) (y := h_mn W y z 2) (z := h_mn W y z 3) h13.1 (by unfold am_rg; omega) (by unfold am_rg; omega) hg
        have HS : hS W (w_wid (w_mk W 8 (if h_cF W y then y else 20003) (if h_cF W z then z else 20003) 0 0) (30000 + W.1 13 2) (h_mn W y z 1) (h_mn W y z 2) (h_mn W y z 3)) := hS_wid (hS_mk h13.1 (cpx_if h13.1 (cpx_of h13.1 v1.1)) (cpx_if h13.1 (cpx_of h13.1 v2.1)) (fun q => absurd q (by decide))) h13.1
        generalize w_wid (w_mk W 8 (if h_cF W y then y else 20003) (if h_cF W z then z else 20003) 0 0) (30000 + W.1 13 2) (h_mn W y z 1) (h_mn W y z 2) (h_mn W y z 3) = W2 at *
        have x1 := vW_x (hS_x HS ho) h13.1 v1
        have x2 := vW_x (hS_x HS ho) h13.1 v2
        have jw := join_wd v1.2.2.2.2 v2.2.2.2.2
        refine ⟨HS, by rw [y1]; exact Int.le_refl _, ⟨y2, ?_, ?_⟩, hW_node h13.1 ?_ ?_ ?_ fun s => by rw [jw s]⟩
        · rw [y3]
          by_cases q : h_cF W y
          · rw [if_pos q, if_pos (F1.mp q)]; exact x1.1
          · rw [if_neg q, if_neg (fun r => q (F1.mpr r))]; exact (rfl : (20003 : Int) = 20003)
        · rw [y4]
          by_cases q : h_cF W z
          · rw [if_pos q, if_pos (F2.mp q)]; exact x2.1
          · rw [if_neg q, if_neg (fun r => q (F2.mpr r))]; exact (rfl : (20003 : Int) = 20003)
        · rw [y7, m1]; unfold v_wd; rw [jw 1]; rfl
        · rw [y8, m2]; unfold v_wd; rw [jw 2]; rfl
        · rw [y9, m3]; unfold v_wd; rw [jw 3]; rfl
theorem sim_13 {L : Nat} {s3 : S_} {E3 : N_} {x v' : T_} {w6 : W_} {y : Int} (he : eW w6 0 hb (ce 13 n id a b c)) (hpa : e_id a < 1000) (hpb : e_id b < 1000) (R : RD C sil o a0 D K0 hb s3 E3 w6) (hw : 0 ≤ w.1 33 1) (htx : hb = true → w.1 41 13 < w.1 33 1) (hc : w6.1 33 1 = w.1 33 1 + 1) (hq : fQ (w.1 33 1) hb w w6) (f0 : f_t w6 0 = 0) (f1 : f_t w6 1 = id) (f2 : f_t w6 2 = 2) (f3 : f_t w6 3 = y) (vv : vW_ w6 v y) (vx : vW_ w6 x (w6.1 41 11)) (hd : w6.1 41 10 = -1) (hf : 20 ≤ fr) (hi : 0 ≤ i ∧ i ≤ 900000) (hn : s_nd s3 + 1 ≤ 11 * s_tb s3 + 300) (hN : s_nt s1 ≤ 900000) (hr : (match f_fu L C v (e_id a) s3 with
    | some s4 => (match f_fu L C x (e_id b) s4 with
      | some s5 => some (v_join v x, E3, u_nd s5 1)
      | none => none)
    | none => none) = some (v', E1, s1)) (K : ∀ w', RD C sil o a0 D K0 hb s1 E1 w' → w'.1 33 1 = w.1 33 1 → fQ (w.1 33 1) hb w w' → vW_ w' v' (w'.1 41 11) → w'.1 41 10 = -1 → dr fr Q (i + 1) w') : dr fr Q i w6 := by
  cases q4 : f_fu L C v (e_id a) s3 with
  | none => rw [q4] at hr; cases hr
  | some s4 =>
    rw [q4] at hr
    dsimp only at hr
    cases q5 : f_fu L C x (e_id b) s4 with
    | none => rw [q5] at hr; cases hr
    | some s5 =>
      rw [q5] at hr
      cases hr
      have t4 := f_fu_nt q4
      have t5 := f_fu_nt q5
      obtain ⟨-, e4⟩ := f_fu_inv q4
      obtain ⟨-, e5⟩ := f_fu_inv q5
      have hN : s_nt s5 ≤ 900000 := hN
      obtain ⟨⟨g1, g2, g3, g4, g5, g6, g7, -⟩, -, -, ga, -⟩ := eW_ce he
      have hcn := R.1.2.2.1.2.2.2
      have h13 : 0 ≤ w6.1 13 2 ∧ w6.1 13 2 ≤ 262000 := by omega
      have hct : 1 ≤ w6.1 33 1 ∧ w6.1 33 1 < 24000 := by have := R.2.2.2.1; omega
      have htx6 : hb = true → w6.1 41 13 < w.1 33 1 := fun q => by rw [hq.1.2]; exact htx q
      obtain ⟨RP, cP⟩ := RD_po R hc hw htx6
      have ho := RD_oK RP.1
      have OP : oQ (w.1 33 1) w6 (w_po w6) := oQ_po (RD_oK R.1)
      obtain ⟨p11, p10, p12, p13⟩ := w_po_v w6
      have v1 := vW_po vv
      have v2 := vW_po vx
      have pa : w_g w6 37 ((id : Int) * 9 + 0) - 1 = e_id a := (ga (by decide)).1
      -- the first one's functions
      have O0 : oQ (w.1 33 1) (w_po w6) (w_f (w_po w6) 41 11 y) := oQ_val ho (Or.inr rfl)
      have R0 := RD_val (j := 11) (x := y) RP (Or.inr rfl)
      have x0 : (w_f (w_po w6) 41 11 y).1 41 11 = y := by rw [w_f1, w_u_at, if_pos ⟨rfl, rfl⟩]
      have hP13 : 0 ≤ (w_po w6).1 13 2 := by rw [p13]; exact h13.1
      have v10 : vW_ (w_f (w_po w6) 41 11 y) v ((w_f (w_po w6) 41 11 y).1 41 11) := by rw [x0]; exact vW_x O0.2.2.2 hP13 v1
      obtain ⟨hc1, RN⟩ := sim_ntn R0 v10 hpa (by omega)
      have ho0 := oK_x O0.2.2.2 ho
      obtain ⟨q1, q2, q3, q4', q5'⟩ := ntn_Q (n := w.1 33 1) (f := f_code 3 (e_id a)) (min 60 (v_nf v)) (w_f (w_po w6) 41 11 y) ho0
      rw [← e4] at RN
      have c0 : (w_f (w_po w6) 41 11 y).1 33 1 = w.1 33 1 := by rw [w_f1, w_u_at, if_neg (by decide)]; exact cP
      have d0 : (w_f (w_po w6) 41 11 y).1 41 10 = -1 := by rw [w_f1, w_u_at, if_neg (by decide), p10]; exact hd
      have n0 : (w_f (w_po w6) 41 11 y).1 13 2 = w6.1 13 2 := by rw [w_f1, w_u_at, if_neg (by decide)]; exact p13
      have QA : fQ (w.1 33 1) hb w (w_ntn (min 60 (v_nf v)) (w_f (w_po w6) 41 11 y) (f_code 3 (e_id a))) := fQ_tr hq (oQ_fQ (oQ_tr OP (oQ_tr O0 q1)))
      have eA := eW_x (oQ_tr OP (oQ_tr O0 q1)).2.2.2 he
      have vA : vW_ (w_ntn (min 60 (v_nf v)) (w_f (w_po w6) 41 11 y) (f_code 3 (e_id a))) v y := vW_x q1.2.2.2 (by rw [n0]; exact h13.1) (vW_x O0.2.2.2 hP13 v1)
      have vB : vW_ (w_ntn (min 60 (v_nf v)) (w_f (w_po w6) 41 11 y) (f_code 3 (e_id a))) x (w6.1 41 11) := vW_x q1.2.2.2 (by rw [n0]; exact h13.1) (vW_x O0.2.2.2 hP13 v2)
      have hoA := oK_x q1.2.2.2 ho0
      generalize w_ntn (min 60 (v_nf v)) (w_f (w_po w6) 41 11 y) (f_code 3 (e_id a)) = W1 at *
      obtain ⟨-, -, -, -, gb, -⟩ := eW_ce eA
      have pb : w_g W1 37 ((id : Int) * 9 + 1) - 1 = e_id b := (gb (by decide)).1
      have hA13 : 0 ≤ W1.1 13 2 ∧ W1.1 13 2 ≤ 262000 := by rw [q5', n0]; exact h13
      -- the second one's
      have O1 : oQ (w.1 33 1) W1 (w_f W1 41 11 (w6.1 41 11)) := oQ_val hoA (Or.inr rfl)
      have R1 := RD_val (j := 11) (x := w6.1 41 11) RN (Or.inr rfl)
      have x1 : (w_f W1 41 11 (w6.1 41 11)).1 41 11 = w6.1 41 11 := by rw [w_f1, w_u_at, if_pos ⟨rfl, rfl⟩]
      have v20 : vW_ (w_f W1 41 11 (w6.1 41 11)) x ((w_f W1 41 11 (w6.1 41 11)).1 41 11) := by rw [x1]; exact vW_x O1.2.2.2 hA13.1 vB
      obtain ⟨hc2, RM⟩ := sim_ntn R1 v20 hpb (by omega)
      have ho1 := oK_x O1.2.2.2 hoA
      obtain ⟨r1, r2, r3, r4, r5⟩ := ntn_Q (n := w.1 33 1) (f := f_code 3 (e_id b)) (min 60 (v_nf x)) (w_f W1 41 11 (w6.1 41 11)) ho1
      rw [← e5] at RM
      have n1 : (w_f W1 41 11 (w6.1 41 11)).1 13 2 = W1.1 13 2 := by rw [w_f1, w_u_at, if_neg (by decide)]
      have c1 : (w_f W1 41 11 (w6.1 41 11)).1 33 1 = w.1 33 1 := by rw [w_f1, w_u_at, if_neg (by decide), q2]; exact c0
      have d1 : (w_f W1 41 11 (w6.1 41 11)).1 41 10 = -1 := by rw [w_f1, w_u_at, if_neg (by decide), q3]; exact d0
      have vA2 := vW_x r1.2.2.2 (by rw [n1]; exact hA13.1) (vW_x O1.2.2.2 hA13.1 vA)
      have vB2 := vW_x r1.2.2.2 (by rw [n1]; exact hA13.1) (vW_x O1.2.2.2 hA13.1 vB)
      have QB := fQ_tr QA (oQ_fQ (oQ_tr O1 r1))
      have ho2 := oK_x r1.2.2.2 ho1
      generalize w_ntn (min 60 (v_nf x)) (w_f W1 41 11 (w6.1 41 11)) (f_code 3 (e_id b)) = W2 at *
      have hB13 : 0 ≤ W2.1 13 2 ∧ W2.1 13 2 ≤ 262000 := by rw [r5, n1]; exact hA13
      obtain ⟨j1, j2, j3⟩ := join_W hB13 ho2 (CR_gN RM.1) vA2 vB2
      have z25 := lk_25 (x0 := y) (x1 := w6.1 41 11) (w := W2) ⟨by omega, ⟨(cR_lt hB13.1 vA2.1).2, (cR_lt hB13.1 vB2.1).2⟩, ⟨vW_ok hB13.1 (by omega) vA2, vW_wk vA2⟩, vW_ok hB13.1 (by omega) vB2, vW_wk vB2⟩
      refine dr_0 (f := 6) (by omega) hd hct f0 (lk_85j f1 f2 f3 rfl (by omega) g2 hct pa hc1 pb hc2 z25) (by omega) (by omega) fun w7 hw7 => ?_
      rw [hw7]
      have hnd : s_nd s5 + 1 ≤ 11 * s_tb s5 + 300 := by rw [t5.2.2.1, t5.2.2.2, t4.2.2.1, t4.2.2.2]; exact hn
      exact sim_fin (w0 := w) (RD_h (k := 1) RM j1 j2 hnd) ((j1.1 33 1 (by decide)).trans (r2.trans c1)) (fQ_tr QB (oQ_fQ (oQ_h j1 ho2))) ((j1.1 41 10 (by decide)).trans (r3.trans d1)) j3 K
end
