/-! ===== the evaluator: it always comes to an end: expressions ===== -/
theorem eBQ_br {n o j c : Nat} {s : S_} (H : eBH n o j c s) : eBQ o 0 s (u_b s (s_b s + 1)) := by
  obtain ⟨a1, a2, a3, a4, a5, a6, a7, a8, a9, a10⟩ := H
  refine ⟨rfl, ?_, Nat.le_refl _, ?_, ?_, Nat.le_refl _, ?_, Nat.le_succ_of_le a9, a10, a6, fun _ => ⟨fun q => ?_, fun q => ⟨fun r => ?_, fun r => ?_⟩⟩⟩
  · exact Nat.le_refl _
  · exact Nat.le_refl _
  · exact Nat.le_refl _
  · exact Nat.le_refl _
  · exact Nat.le_refl _
  · exact Nat.le_refl _
  · have r : 300 ≤ s_tb s := r
    omega
theorem fcz_set {s : S_} {f : Nat} (hf : f < 3) (h0 : s_fs s f = 0) {y : Nat → N_} : fcz (u_fs s (fun g => if g = f then 1 else s_fs s g) y) + 1 = fcz s := by
  have e : f = 0 ∨ f = 1 ∨ f = 2 := by omega
  unfold fcz
  rcases e with rfl | rfl | rfl
  · show (if 1 = 0 then 1 else 0) + (if s_fs s 1 = 0 then 1 else 0) + (if s_fs s 2 = 0 then 1 else 0) + 1 = _
    rw [h0, if_neg (by decide), if_pos rfl]
    omega
  · show (if s_fs s 0 = 0 then 1 else 0) + (if 1 = 0 then 1 else 0) + (if s_fs s 2 = 0 then 1 else 0) + 1 = _
    rw [h0, if_neg (by decide : ¬ (1 = 0)), if_pos (rfl : 0 = 0)]
    omega
  · show (if s_fs s 0 = 0 then 1 else 0) + (if s_fs s 1 = 0 then 1 else 0) + (if 1 = 0 then 1 else 0) + 1 = _
    rw [h0, if_neg (by decide : ¬ (1 = 0)), if_pos (rfl : 0 = 0)]
theorem fcz_le {s s1 : S_} (h : ∀ g, s_fs s1 g = 0 → s_fs s g = 0) : fcz s1 ≤ fcz s := by
  have A : ∀ g, (if s_fs s1 g = 0 then 1 else 0) ≤ (if s_fs s g = 0 then 1 else 0) := fun g => by
    by_cases c : s_fs s1 g = 0
    · rw [if_pos c, if_pos (h g c)]
      exact Nat.le_refl _
    · rw [if_neg c]
      exact Nat.zero_le _
  have a0 := A 0
  have a1 := A 1
  have a2 := A 2
  unfold fcz
  omega
theorem n_none_G {T : Nat} : nG T n_none := fun m v e => by cases e
/-- a file is read and run -/
theorem o_file_B {n L : Nat} {C : C_} {rec : K_} {sil : Bool} (hK : eBKn n C rec) (hL : 2 * n + 994 ≤ L) {o j f : Nat} {s : S_} (hf : f < 3) (h0 : s_fs s f = 0) (hC : c_sz (C.2.2.1 f) ≤ 60) (H : s_dp s = 0 ∧ (1 ≤ j → o + kt s ≤ 297 + 61 * j) ∧ (j = 0 → o + kt s = 0) ∧ 512 ≤ n + 1 + o + 10 * j ∧ o + kt s ≤ s_tb s ∧ fcz s + j ≤ 3 ∧ s_rw s + 3 * fcz s ≤ s_tb s + 227 ∧ s_tb s ≤ s_b s ∧ sG (s_tb s - o - kt s) s) (hT : max (s_tb s) 740 + 500 * fcz s + 500 * j ≤ 2240 + 60 * j) (hR : s_rw s < 2040) : ∃ v s1, o_file L rec C sil f s = some (v, s1) ∧ s_dp s1 = 0 ∧ max (s_tb s1) 740 + 500 * fcz s1 + 440 ≤ max (s_tb s) 740 + 500 * fcz s ∧ fcz s1 + 1 ≤ fcz s ∧ s_tl s1 = s_tl s ∧ s_tb s ≤ s_tb s1 ∧ s_rw s1 + 3 * fcz s1 + s_tb s + 2 ≤ s_rw s + 3 * fcz s + s_tb s1 ∧ s_tb s1 ≤ s_b s1 ∧ sG (s_tb s1 - o - kt s1) s1 ∧ gv v ∧ v_m v + (o + kt s) ≤ s_tb s1 + 1 ∧ s_fs s1 f = 2 := by
  obtain ⟨a1, a3, a4, a5, a6, a7, a8, a9, a10⟩ := H
  obtain ⟨l, el, -⟩ := f_list_eq C (C.2.2.2 f) (u_fs s (fun g => if g = f then 1 else s_fs s g) (s_fe s))
  have fz := fcz_set (y := s_fe s) hf h0
  unfold o_file
  rw [if_pos hR, el]
  have H2 : eBH (n + 1) o j (c_sz (C.2.2.1 f)) (u_rw (u_flt (u_fs s (fun g => if g = f then 1 else s_fs s g) (s_fe s)) (s_nt (u_fs s (fun g => if g = f then 1 else s_fs s g) (s_fe s)) + (C.2.2.2 f).length) l) (s_rw s + 1)) := by
    refine ⟨?_, ?_, ?_, fun q => ?_, ?_, a6, ?_, ?_, a9, ⟨fun g q => a10.1 g ?_, a10.2⟩⟩
    · show s_dp s ≤ 8
      omega
    · show max (s_tb s) (Kd (s_dp s)) + c_sz (C.2.2.1 f) + 500 * fcz (u_fs s (fun g => if g = f then 1 else s_fs s g) (s_fe s)) + 500 * j ≤ Kd (s_dp s) + 1060 + 60 * j
      rw [a1]
      show max (s_tb s) 740 + c_sz (C.2.2.1 f) + 500 * fcz (u_fs s (fun g => if g = f then 1 else s_fs s g) (s_fe s)) + 500 * j ≤ 740 + 1060 + 60 * j
      omega
    · show o + kt s + c_sz (C.2.2.1 f) ≤ 358 + 61 * j
      rcases Nat.eq_zero_or_pos j with hj | hj
      · have := a4 hj; omega
      · have := a3 hj; omega
    · have := a4 q
      show o + kt s + c_sz (C.2.2.1 f) ≤ 60 + 58 * s_dp s
      omega
    · show 512 ≤ n + 1 + o + s_dp s + 10 * j
      omega
    · show fcz (u_fs s (fun g => if g = f then 1 else s_fs s g) (s_fe s)) + j ≤ 2
      omega
    · show s_rw s + 1 + 3 * fcz (u_fs s (fun g => if g = f then 1 else s_fs s g) (s_fe s)) ≤ s_tb s + 226
      omega
    · obtain ⟨q1, q2⟩ := q
      have q1 : (if g = f then 1 else s_fs s g) ≠ 0 := q1
      have q2 : (if g = f then 1 else s_fs s g) ≠ 1 := q2
      by_cases c : g = f
      · rw [if_pos c] at q2; exact absurd rfl q2
      · rw [if_neg c] at q1 q2
        exact ⟨q1, q2⟩
  obtain ⟨v, E1, s2, g1, g2, g3, g4, g5, g6⟩ := t_block_B (sil := sil) hK hL H2 hC (E := n_none) n_none_G
  rw [g1]
  obtain ⟨b1, b2, b3, b4, b5, b6, b7, b8, b9, b10, b11⟩ := g2
  have b1 : s_dp s2 = s_dp s := b1
  have b2 : max (s_tb s2) (Kd (s_dp s)) + 500 * fcz s2 ≤ max (s_tb s) (Kd (s_dp s)) + c_sz (C.2.2.1 f) + 500 * fcz (u_fs s (fun g => if g = f then 1 else s_fs s g) (s_fe s)) := b2
  rw [a1] at b2
  have b2 : max (s_tb s2) 740 + 500 * fcz s2 ≤ max (s_tb s) 740 + c_sz (C.2.2.1 f) + 500 * fcz (u_fs s (fun g => if g = f then 1 else s_fs s g) (s_fe s)) := b2
  have b3 : fcz s2 ≤ fcz (u_fs s (fun g => if g = f then 1 else s_fs s g) (s_fe s)) := b3
  have b6 : s_tb s ≤ s_tb s2 := b6
  have b7 : s_rw s2 + 3 * fcz s2 + s_tb s ≤ s_rw s + 1 + 3 * fcz (u_fs s (fun g => if g = f then 1 else s_fs s g) (s_fe s)) + s_tb s2 := b7
  have g3 : s_tl s2 = s_tl s := g3
  have ek : kt s2 = kt s := by show mk0 (s_tl s2) = mk0 (s_tl s); rw [g3]
  have zl : fcz (u_fs (u_nd s2 1) (fun g => if g = f then 2 else s_fs (u_nd s2 1) g) (fun g => if g = f then E1 else s_fe (u_nd s2 1) g)) ≤ fcz s2 := fcz_le fun g q => by
    have q : (if g = f then 2 else s_fs s2 g) = 0 := q
    by_cases c : g = f
    · rw [if_pos c] at q; cases q
    · rw [if_neg c] at q; exact q
  refine ⟨v, _, rfl, ?_, ?_, ?_, g3, b6, ?_, b8, ⟨fun g q => ?_, b9.2⟩, g4, g5, ?_⟩
  · show s_dp s2 = 0
    omega
  · show max (s_tb s2) 740 + 500 * fcz _ + 440 ≤ _
    omega
  · omega
  · show s_rw s2 + 3 * fcz _ + s_tb s + 2 ≤ _ + s_tb s2
    omega
  · obtain ⟨q1, q2⟩ := q
    have q1 : (if g = f then 2 else s_fs s2 g) ≠ 0 := q1
    have q2 : (if g = f then 2 else s_fs s2 g) ≠ 1 := q2
    show nG (s_tb s2 - o - kt s2) (if g = f then E1 else s_fe s2 g)
    by_cases c : g = f
    · rw [if_pos c, ek]
      exact g6
    · rw [if_neg c] at q1 q2 ⊢
      exact b9.1 g ⟨q1, q2⟩
  · show (if f = f then 2 else s_fs s2 f) = 2
    rw [if_pos rfl]
theorem imp_a1 {tb kd f j x : Nat} (h : max tb kd + x + 500 * f + 500 * j ≤ kd + 1060 + 60 * j) (hx : 1 ≤ x) (hk : kd ≤ 740) (hf : f + j ≤ 2) : max (tb + 1) 740 + 500 * f + 500 * (j + 1) ≤ 2240 + 60 * (j + 1) := by omega
theorem imp_a2 {o k j x : Nat} (h : o + k + x ≤ 358 + 61 * j) (hx : 1 ≤ x) : o + 1 + k ≤ 297 + 61 * (j + 1) := by omega
theorem imp_a3 {n o d j : Nat} (h : 512 ≤ n + 3 + 1 + o + d + 10 * j) (hd : d ≤ 8) : 512 ≤ n + 1 + (o + 1) + 10 * (j + 1) := by omega
theorem imp_a4 {t1 t kd f1 f : Nat} (h : max t1 740 + 500 * f1 + 440 ≤ max t 740 + 500 * f) (hk : 300 ≤ kd) (hf : f1 + 1 ≤ f) : max t1 kd + 500 * f1 ≤ max t kd + 0 + 500 * f := by omega
theorem o_import_B {n : Nat} {C : C_} {r4 : K_} {sil : Bool} (h4 : eBKn n C r4) (hC : ∀ f, c_sz (C.2.2.1 f) ≤ 60) {o j id c' : Nat} {n' : Int} {E : N_} {s : S_} (H : eBH (n + 3 + 1) o j (0 + 1) s) (hc1 : 0 + 1 ≤ c') (hE : nG (s_tb s - o - kt s) E) : eBR o c' s (o_import (2 * n + 1000) r4 C sil n' id E (u_go s)) := by
  have htb := tb_lt H
  have hE1 := nG_go hE
  have B0 := eBQ_0 H
  have HG := eBH_go H
  have hf3 : (n' / 10 % 3).toNat < 3 := by omega
  unfold o_import
  dsimp only
  generalize (n' / 10 % 3).toNat = f at hf3 ⊢
  by_cases c1 : s_fs (u_go s) f = 1
  · rw [if_pos c1]
    exact o_bad_B B0 hc1 hE1
  · rw [if_neg c1]
    by_cases c0 : s_fs (u_go s) f = 0
    · rw [if_pos c0]
      obtain ⟨a1, a2, a3, a4, a5, a6, a7, a8, a9, a10⟩ := H
      have a10' := HG.2.2.2.2.2.2.2.2.2
      have K740 : 300 ≤ Kd (s_dp s) ∧ Kd (s_dp s) ≤ 740 := by unfold Kd; omega
      have hT := imp_a1 a2 (Nat.le_refl _) K740.2 a7
      have hO := imp_a2 a3 (Nat.le_refl _)
      have hN := imp_a3 a5 a1
      have hA : o + 1 + kt s ≤ s_tb s + 1 := by rw [Nat.add_right_comm]; exact Nat.succ_le_succ a6
      have hB : s_rw s + 3 * fcz s ≤ s_tb s + 1 + 227 := Nat.le_trans a8 (by rw [Nat.add_assoc]; exact Nat.add_le_add_left (by decide) _)
      have z1 : s_tb (u_dp (u_go s) 0) = s_tb s + 1 := rfl
      have z2 : fcz (u_dp (u_go s) 0) = fcz s := rfl
      have z3 : kt (u_dp (u_go s) 0) = kt s := rfl
      have z4 : s_rw (u_dp (u_go s) 0) = s_rw s := rfl
      have z5 : s_b (u_dp (u_go s) 0) = s_b s + 1 := rfl
      have z6 : s_dp (u_dp (u_go s) 0) = 0 := rfl
      have z7 : s_tl (u_dp (u_go s) 0) = s_tl s := rfl
      have z8 : sG (s_tb (u_dp (u_go s) 0) - (o + 1) - kt (u_dp (u_go s) 0)) (u_dp (u_go s) 0) := ⟨a10'.1, a10'.2⟩
      have c0' : s_fs (u_dp (u_go s) 0) f = 0 := c0
      generalize u_dp (u_go s) 0 = S at z1 z2 z3 z4 z5 z6 z7 z8 c0' ⊢
      obtain ⟨v, s1, g1, g2, g3, g4, g5, g6, g7, g8, g9, -, -, g10⟩ := o_file_B (sil := sil) h4 (L := 2 * n + 1000) (Nat.add_le_add_left (by decide) _) (o := o + 1) (j := j + 1) (s := S) hf3 c0' (hC _) ⟨z6, fun _ => by rw [z3]; exact hO, fun q => absurd q (Nat.succ_ne_zero _), hN, by rw [z3, z1]; exact hA, by rw [z2]; exact Nat.succ_le_succ a7, by rw [z4, z2, z1]; exact hB, by rw [z1, z5]; exact Nat.succ_le_succ a9, z8⟩ (Nat.le_trans (Nat.le_of_eq (by rw [z1, z2])) hT) (by rw [z4]; exact htb.2)
      rw [g1]
      dsimp only
      rw [z1, z2] at g3
      rw [z2] at g4
      rw [z7] at g5
      rw [z1] at g6
      rw [z4, z2, z1] at g7
      have ek : kt s1 = kt s := by show mk0 (s_tl s1) = mk0 (s_tl s); rw [g5]
      have Q : eBQ (o + 1) 0 (u_go s) (u_dp s1 (s_dp (u_go s))) := by
        refine ⟨rfl, ?_, ?_, ?_, ?_, g6, ?_, g8, ⟨g9.1, g9.2⟩, ?_, fun e => ?_⟩
        · show max (s_tb s1) (Kd (s_dp s)) + 500 * fcz s1 ≤ max (s_tb s + 1) (Kd (s_dp s)) + 0 + 500 * fcz s
          exact imp_a4 g3 K740.1 g4
        · show fcz s1 ≤ fcz s
          exact Nat.le_of_succ_le g4
        · show s_tb s + 1 + kt s1 ≤ s_tb s1 + kt s
          rw [ek]; exact Nat.add_le_add_right g6 _
        · show kt s1 ≤ kt s + 0
          rw [ek]; exact Nat.le_refl _
        · show s_rw s1 + 3 * fcz s1 + (s_tb s + 1) ≤ s_rw s + 3 * fcz s + s_tb s1
          exact Nat.le_trans (Nat.le_add_right _ 2) g7
        · show o + 1 + kt s1 ≤ s_tb s1
          rw [ek]; exact Nat.le_trans hA g6
        · have e : fcz s1 = fcz s := e
          rw [e] at g4
          exact absurd g4 (Nat.not_succ_le_self _)
      refine o_name_B Q hc1 (nG_mono hE1 ?_) fun v q => ?_
      · show s_tb s + 1 - (o + 1) - kt s ≤ s_tb s1 - (o + 1) - kt s1
        rw [ek]; exact Nat.sub_le_sub_right (Nat.sub_le_sub_right g6 _) _
      · exact g9.1 f ⟨by rw [g10]; decide, by rw [g10]; decide⟩ _ _ q
    · rw [if_neg c0]
      exact o_name_B B0 hc1 hE1 fun v q => HG.2.2.2.2.2.2.2.2.2.1 _ ⟨c0, c1⟩ _ _ q
/-- a body in its bounds -/
theorem o_body_B {n : Nat} {C : C_} {r2 : K_} (h2 : eBKn (n + 2) C r2) (N2 : eNK r2) (M2 : eMK r2) {o j ca cb ce' : Nat} {sl kp : Bool} {v w : T_} {E3 : N_} {s s3 : S_} (H : eBH (n + 3 + 1) o j ce' s) (Q : eBQ (o + 1) (ca + cb) (u_go s) s3) (hca : 1 ≤ ca) (hcb : 1 ≤ cb) (hce : ca + cb + 1 ≤ ce') (cf : v_isF v = true) (q2 : gv v) (mvv : v_m v ≤ s_tb s3 - (o + 1) - kt s3) (p2 : gv w) (mww : v_m w ≤ s_tb s3 - (o + 1) - kt s3) (p4 : nG (s_tb s3 - (o + 1) - kt s3) E3) (d8 : s_dp s3 < 8) (d3 : s_b s3 < 300) (x y : Nat) (hkp : kp = true → k_fit (v_code v) (v_clos v) = true ∧ (v_num w).isSome = true) : ∃ u s4, o_body r2 C sl kp v w (u_rn s3 x y) = some (u, s4) ∧ eBR o ce' s (some (u, E3, s4)) := by
  obtain ⟨a1, a2, a3, a4, a5, a6, a7, a8, a9, a10⟩ := H
  obtain ⟨b1, b2, b3, b4, b5, b6, b7, b8, b9, b10, b11⟩ := Q
  replace b1 : s_dp s3 = s_dp s := b1
  replace b2 : max (s_tb s3) (Kd (s_dp s)) + 500 * fcz s3 ≤ max (s_tb s + 1) (Kd (s_dp s)) + (ca + cb) + 500 * fcz s := b2
  replace b3 : fcz s3 ≤ fcz s := b3
  replace b4 : s_tb s + 1 + kt s3 ≤ s_tb s3 + kt s := b4
  replace b5 : kt s3 ≤ kt s + (ca + cb) := b5
  replace b6 : s_tb s + 1 ≤ s_tb s3 := b6
  replace b7 : s_rw s3 + 3 * fcz s3 + (s_tb s + 1) ≤ s_rw s + 3 * fcz s + s_tb s3 := b7
  obtain ⟨f1, f2, f3⟩ := fn_G cf q2.1
  have hEb := n_body_G (T := s_tb s3 - (o + 1) - kt s3) cf q2 mvv p2 mww
  have hrw : s_rw (u_rn s3 x y) < 2040 := by
    show s_rw s3 < 2040
    omega
  have HB : eBH (n + 2) (o + 1) j (c_sz (e_part (v_code v))) (s_in (u_rn s3 x y)) := by
    have z := eBH_body (n := n + 2) (o := o) (j := j) (cb := c_sz (e_part (v_code v))) (s := s3) (by omega) (by omega) (by omega) b8 b10 (by omega) (by omega) f1 b9 (fun q => by have := a4 q; omega)
    exact ⟨z.1, z.2.1, z.2.2.1, z.2.2.2.1, z.2.2.2.2.1, z.2.2.2.2.2.1, z.2.2.2.2.2.2.1, z.2.2.2.2.2.2.2.1, z.2.2.2.2.2.2.2.2.1, ⟨z.2.2.2.2.2.2.2.2.2.1, z.2.2.2.2.2.2.2.2.2.2⟩⟩
  obtain ⟨⟨u, E4, s4, hr3, t1, t2, t3, t4⟩, -⟩ := h2 (o + 1) j sl (e_part (v_code v)) (n_body (v_code v) (v_clos v) w v) false (s_in (u_rn s3 x y)) HB (by omega) hEb
  obtain ⟨e1, e2, e3, e4, e5, e6, e7, e8, e9, e10, e11⟩ := t1
  replace e1 : s_dp s4 = s_dp s3 + 1 := e1
  replace e2 : max (s_tb s4) (Kd (s_dp s3 + 1)) + 500 * fcz s4 ≤ max (s_tb s3) (Kd (s_dp s3 + 1)) + c_sz (e_part (v_code v)) + 500 * fcz s3 := e2
  replace e3 : fcz s4 ≤ fcz s3 := e3
  have tl4 : s_tl s4 = s_tl s3 := (M2 _ _ _ _ _ _ _ _ hr3 (Nat.le_refl _)).2.2.2.2.2.2.2.1 rfl
  have ek : kt s4 = kt s3 := by show mk0 (s_tl s4) = mk0 (s_tl s3); rw [tl4]
  replace e6 : s_tb s3 ≤ s_tb s4 := e6
  replace e7 : s_rw s4 + 3 * fcz s4 + s_tb s3 ≤ s_rw s3 + 1 + 3 * fcz s3 + s_tb s4 := e7
  replace e11 : fcz s4 = fcz s3 → (300 ≤ s_tb s3 → 11 * s_nd s4 ≤ 11 * s_nd s3 + 22 * c_sz (e_part (v_code v))) ∧ (s_tb s3 < 300 → (s_tb s4 < 300 → 11 * s_nd s4 + 110 * s_tb s3 ≤ 11 * s_nd s3 + 110 * s_tb s4 + c_sz (e_part (v_code v))) ∧ (300 ≤ s_tb s4 → 11 * s_nd s4 + 110 * s_tb s3 ≤ 11 * s_nd s3 + 33000 + 23 * c_sz (e_part (v_code v)) + 1276 * (8 - (s_dp s3 + 1)))) := e11
  replace b11 : fcz s3 = fcz s → (300 ≤ s_tb s + 1 → 11 * s_nd s3 ≤ 11 * s_nd s + 22 * (ca + cb)) ∧ (s_tb s + 1 < 300 → (s_tb s3 < 300 → 11 * s_nd s3 + 110 * (s_tb s + 1) ≤ 11 * s_nd s + 110 * s_tb s3 + (ca + cb)) ∧ (300 ≤ s_tb s3 → 11 * s_nd s3 + 110 * (s_tb s + 1) ≤ 11 * s_nd s + 33000 + 23 * (ca + cb) + 1276 * (8 - s_dp s))) := b11
  have hkeep : ¬ (kp = true ∧ (s_tb (u_rn s3 x y) + 800 < s_tb s4 ∨ s_nd (u_rn s3 x y) + 3950 < s_nd s4)) := fun ⟨k1, k2⟩ => by
    obtain ⟨kf, kw⟩ := hkp k1
    obtain ⟨z, hz, -⟩ := v_num_some kw
    have hni := fit_ni cf q2.1 kf
    obtain ⟨hi, hcl⟩ := fn_ni cf hni
    have hfs := (N2 _ _ _ _ _ _ _ _ hr3 hi (n_body_ni hcl (by rw [hz]; rfl) hni)).1.1
    have hfz : fcz s4 = fcz s3 := fcz_eq hfs
    obtain ⟨x1, x2⟩ := e11 hfz
    obtain ⟨x3, x4⟩ := x2 (by omega)
    have k2 : s_tb s3 + 800 < s_tb s4 ∨ s_nd s3 + 3950 < s_nd s4 := k2
    clear x1 x2 b11 e11
    rcases k2 with k2 | k2
    · unfold Kd at e2
      omega
    · by_cases c : s_tb s4 < 300
      · have := x3 c
        omega
      · have := x4 (by omega)
        omega
  have hbody : o_body r2 C sl kp v w (u_rn s3 x y) = some (u, s_out (u_rn s3 x y) s4 (if kp = true ∧ s_nt s4 = s_nt (u_rn s3 x y) ∧ (s_me s4).length < 60 then s_me s4 ++ [r_rec C v w u (u_rn s3 x y) s4] else s_me s4)) := by
    unfold o_body
    rw [if_pos hrw]
    have hr3' : r2 sl (e_part (v_code v)) (n_body (v_code v) (v_clos v) w v) false (u_rw (u_as (u_lt (u_sn (u_dp (u_rn s3 x y) (s_dp (u_rn s3 x y) + 1)) 0) (s_b (u_rn s3 x y))) fun _ => false) (s_rw (u_rn s3 x y) + 1)) = some (u, E4, s4) := hr3
    rw [hr3']
    dsimp only
    rw [if_neg hkeep]
    by_cases ck : kp = true ∧ s_nt s4 = s_nt (u_rn s3 x y) ∧ (s_me s4).length < 60
    · rw [if_pos ck, if_pos ck]
      rfl
    · rw [if_neg ck, if_neg ck]
      rfl
  refine ⟨u, _, hbody, u, E3, _, rfl, ⟨b1, ?_, Nat.le_trans e3 b3, ?_, ?_, ?_, ?_, e8, ?_, ?_, fun ef => ?_⟩, t2, ?_, nG_mono p4 ?_⟩
  · show max (s_tb s4) (Kd (s_dp s)) + 500 * fcz s4 ≤ max (s_tb s) (Kd (s_dp s)) + ce' + 500 * fcz s
    rw [b1] at e2
    clear e11 b11
    unfold Kd at e2 b2 ⊢
    omega
  · show s_tb s + kt s4 ≤ s_tb s4 + kt s
    clear e11 b11 e2 b2 a2
    omega
  · show kt s4 ≤ kt s + ce'
    clear e11 b11 e2 b2 a2
    omega
  · show s_tb s ≤ s_tb s4
    clear e11 b11 e2 b2 a2
    omega
  · show s_rw s4 + 3 * fcz s4 + s_tb s ≤ s_rw s + 3 * fcz s + s_tb s4
    clear e11 b11 e2 b2 a2
    omega
  · refine ⟨fun g q => nG_mono (e9.1 g q) ?_, e9.2.1, Nat.le_trans e9.2.2.1 ?_, e9.2.2.2⟩
    · show _ ≤ s_tb s4 - o - kt s4
      clear e11 b11 e2 b2 a2
      omega
    · show _ ≤ s_tb s4 - o - kt s4
      clear e11 b11 e2 b2 a2
      omega
  · show o + kt s4 ≤ s_tb s4
    clear e11 b11 e2 b2 a2
    omega
  · have ef : fcz s4 = fcz s := ef
    obtain ⟨-, y2⟩ := e11 (by omega)
    obtain ⟨y3, y4⟩ := y2 (by omega)
    obtain ⟨z1, z2⟩ := b11 (by omega)
    obtain ⟨z3, -⟩ := z2 (by omega)
    have z3 := z3 (by omega)
    rw [b1] at y4
    clear e11 b11 z1 z2 y2 e2 b2 a2
    refine ⟨fun q => by omega, fun q => ⟨fun r => ?_, fun r => ?_⟩⟩
    · have r : s_tb s4 < 300 := r
      have := y3 r
      show 11 * s_nd s4 + 110 * s_tb s ≤ 11 * s_nd s + 110 * s_tb s4 + ce'
      omega
    · have r : 300 ≤ s_tb s4 := r
      have := y4 r
      show 11 * s_nd s4 + 110 * s_tb s ≤ 11 * s_nd s + 33000 + 23 * ce' + 1276 * (8 - s_dp s)
      omega
  · show v_m u + (o + kt s4) ≤ s_tb s4
    clear e11 b11 e2 b2 a2
    omega
  · show _ ≤ s_tb s4 - o - kt s4
    clear e11 b11 e2 b2 a2
    omega
