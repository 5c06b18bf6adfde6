/-! ===== the class runs as the evaluator: IMPORT, and so every expression ===== -/
section
variable {C : C_} {sil : Bool} {o : Nat} {K0 : Int}
theorem sim_29 {m : Nat} (h4 : cSK C sil o K0 (ev C m)) : cI C sil o K0 (2 * m + 1000) (ev C m) := by
  intro n id a b c E hb s v E1 s1 h0' a0 D w fr Q i H he hd nD ht hf i0 ib hB K
  obtain ⟨⟨g1, g2, g3, g4, g5, g6, g7, -⟩, -⟩ := eW_ce he
  have hl0 := H.2.2.2.2.2.1
  have hcnt := H.2.2.2.1
  have hnd := H.1.2.2.1.2.2.2.2.1
  have hdp := H.1.2.1.2.1
  have htx : hb = true → w.1 41 13 < w.1 33 1 := fun q => (H.2.2.1 q).1.2
  have ho := RD_oK H.1
  obtain ⟨f, ef⟩ : ∃ f : Nat, n / 10 % 3 = (f : Int) := ⟨_, (Int.toNat_of_nonneg (by omega)).symm⟩
  obtain ⟨mm, em⟩ : ∃ mm : Nat, n % 10 = (mm : Int) := ⟨_, (Int.toNat_of_nonneg (by omega)).symm⟩
  have f3 : f < 3 := by omega
  have h : (if s_fs s f = 1 then o_bad C 8 id E (u_go s) else if s_fs s f = 0 then (match o_file (2 * m + 1000) (ev C m) C sil f (u_dp (u_go s) 0) with
    | some (_, s2) => o_name C id (s_fe s2 f mm) E (u_dp s2 (s_dp s))
    | none => none) else o_name C id (s_fe s f mm) E (u_go s)) = some (v, E1, s1) := by
    have h' := h0'
    unfold o_import at h'
    rw [ef, em, Int.toNat_natCast, Int.toNat_natCast] at h'
    exact h'
  -- it is begun
  have mm0 := o_import_M (hb := hb) (ev_M C m) h0' (Nat.le_succ_of_le hl0)
  have mq : s_b s + 1 ≤ s_b s1 := mm0.1
  refine dr_due (f := 6) (by omega) ⟨by unfold am_rg; omega, by omega⟩ (lk_82p hd (by omega) g2 g3 ⟨g4, g5⟩ (by unfold am_rg; omega) (by decide) (lk_84e (w := w_bg w) rfl (by rw [w_bg_n]; omega))) (by omega) fun w1 hw1 => ?_
  have R1 : RD C sil o a0 D K0 hb (u_go s) E w1 := by
    rw [hw1]
    refine RD_pu (RD_bg H ht (by omega)) ?_
    rw [w_bg_n]
    show _ ≤ 19990 + 2 * ((s_tb s + 1 : Nat) : Int)
    omega
  have O1 : oQ (w.1 33 1) w w1 := by
    rw [hw1]
    exact oQ_tr (oQ_bg ho) (oQ_pu (oK_x (oQ_bg (n := 0) ho).2.2.2 ho) (by rw [w_bg_n]; omega) (by rw [w_bg_n]; omega))
  have c1 : w1.1 33 1 = w.1 33 1 + 1 := by rw [hw1, w_pu1, if_pos ⟨rfl, rfl⟩, w_bg_n]
  have d1 : w1.1 41 10 = -1 := by rw [hw1, w_pu1, if_neg (by decide)]; rfl
  have F1 : ∀ g : Int, 0 ≤ g ∧ g < 13 → f_t w1 g = if g = 0 then 4 else if g = 1 then (id : Int) else 0 := fun g hg => by
    rw [hw1]
    exact f_t_pu (by rw [w_bg_n]; omega) hg
  have ho1 := oK_x O1.2.2.2 ho
  have t1 : w1.1 41 13 = w.1 41 13 := O1.1.2
  clear hw1
  have e1 : eW w1 0 hb (ce 29 n id a b c) := eW_x O1.2.2.2 he
  obtain ⟨⟨-, k2, k3, -⟩, -⟩ := eW_ce e1
  have x0 : f_t w1 0 = 4 := by rw [F1 0 (by decide)]; rfl
  have x1 : f_t w1 1 = (id : Int) := by rw [F1 1 (by decide)]; rfl
  have x2 : f_t w1 2 = 0 := by rw [F1 2 (by decide)]; rfl
  have c1' : 1 ≤ w1.1 33 1 ∧ w1.1 33 1 < 24000 := by omega
  have htx1 : hb = true → w1.1 41 13 < w1.1 33 1 - 1 := fun q => by have := htx q; rw [t1]; omega
  have h14 : w1.1 41 14 = ((s_dp s : Nat) : Int) := R1.1.2.1.2.1.1
  have h46 : w1.2 46 f = ((s_fs s f : Nat) : Int) := (R1.1.2.2.1.2.1 f f3).1
  have h462 : s_fs s f ≤ 2 := (R1.1.2.2.1.2.1 f f3).2
  have kn1 := (CR_o R1.1).2
  -- the frame of IMPORT, the stage told
  have RA0 := RD_fs (f := 2) (x := 1) R1 (by omega) (by decide) htx1
  have RA1 := RD_fs (f := 10) (x := w1.1 41 14) RA0 (by show 1 ≤ w1.1 33 1; omega) (by decide) htx1
  have OA : oQ (w.1 33 1) w1 (w_fs (w_fs w1 2 1) 10 (w1.1 41 14)) := by
    have z1 : oQ (w.1 33 1) w1 (w_fs w1 2 1) := oQ_fs ho1 (by omega) (by omega) (by decide)
    have k1 := oK_x z1.2.2.2 ho1
    exact oQ_tr z1 (oQ_fs k1 (by show w.1 33 1 ≤ w1.1 33 1 - 1; omega) (by show 0 ≤ w1.1 33 1 - 1; omega) (by decide))
  have FA : ∀ g : Int, 0 ≤ g → f_t (w_fs (w_fs w1 2 1) 10 (w1.1 41 14)) g = if g = 10 then w1.1 41 14 else if g = 2 then 1 else f_t w1 g := fun g g0 => by
    rw [f_t_fs0 (by show 1 ≤ w1.1 33 1; omega) (by decide) g0, f_t_fs0 (by omega) (by decide) g0]
  have hoA := oK_x OA.2.2.2 ho1
  have Q1 : fQ (w.1 33 1) hb w w1 := oQ_fQ O1
  by_cases c8 : s_fs s f = 1
  · rw [if_pos c8] at h
    have hv : (vW : T_) = v ∧ E = E1 ∧ f_note C (f_code 8 id) (u_go s) = s1 := by
      have q : some ((vW : T_), E, f_note C (f_code 8 id) (u_go s)) = some (v, E1, s1) := h
      injection q with q
      injection q with q1 q
      injection q with q2 q3
      exact ⟨q1, q2, q3⟩
    obtain ⟨rfl, rfl, rfl⟩ := hv
    have hN : s_nt s + 1 ≤ 900000 := hB.2
    refine dr_4 (f := 6) (by omega) d1 c1' x0 (lk_93c (id := (id : Int)) (n := n) x1 x2 ⟨by omega, by omega⟩ k3 ⟨g4, g5⟩ (by rw [ef, w_g_0 w1 46 rfl, h46, c8]; rfl) kn1 c1') (by omega) (by omega) fun w2 hw2 => ?_
    have hcode : (100000 * 8 + w_spot (id : Int)) = f_code 8 id := f_code_w 8 id
    rw [hw2, hcode]
    obtain ⟨RP, cP⟩ := RD_po (n := w.1 33 1) RA1 c1 hcnt.1 (fun q => by show w1.1 41 13 < _; rw [t1]; exact htx q)
    have OP : oQ (w.1 33 1) w1 (w_po (w_fs (w_fs w1 2 1) 10 (w1.1 41 14))) := oQ_tr OA (oQ_po hoA)
    have hoP := oK_x OP.2.2.2 ho1
    refine sim_fin (w0 := w) (RD_nt (f := f_code 8 id) RP (by show s_nt s < 1000000; omega)) ((w_nt_n hoP).1.trans cP) (fQ_tr Q1 (oQ_fQ (oQ_tr OP (oQ_nt hoP)))) ((w_nt_n hoP).2.1.trans d1) vW_W fun w' z1 z2 z3 z4 z5 => K (i + 1 + 1) w' (by omega) ?_ z1 z2 z3 z4 z5
    show i + 1 + 1 + 12 * (s_b s : Int) ≤ i + 12 * ((s_b s + 1 : Nat) : Int)
    omega
  rw [if_neg c8] at h
  by_cases c0 : s_fs s f = 0
  · rw [if_pos c0] at h
    cases hr : o_file (2 * m + 1000) (ev C m) C sil f (u_dp (u_go s) 0) with
    | none => rw [hr] at h; cases h
    | some z =>
      obtain ⟨v2, s2⟩ := z
      rw [hr] at h
      have h : o_name C id (s_fe s2 f mm) E (u_dp s2 (s_dp s)) = some (v, E1, s1) := h
      have hr : (if s_rw s < 2040 then (match t_block (2 * m + 1000) (ev C m) C sil (C.2.2.1 f) n_none (u_rw (f_list C (C.2.2.2 f) (u_fs (u_dp (u_go s) 0) (fun g => if g = f then 1 else s_fs s g) (s_fe s))) (s_rw s + 1)) with
        | some (v, E, s1) => some (v, u_fs s1 (fun g => if g = f then 2 else s_fs s1 g) (fun g => if g = f then E else s_fe s1 g))
        | none => none) else none) = some (v2, s2) := hr
      split at hr
      · rename_i hrw
        cases hb2 : t_block (2 * m + 1000) (ev C m) C sil (C.2.2.1 f) n_none (u_rw (f_list C (C.2.2.2 f) (u_fs (u_dp (u_go s) 0) (fun g => if g = f then 1 else s_fs s g) (s_fe s))) (s_rw s + 1)) with
        | none => rw [hb2] at hr; cases hr
        | some y =>
          obtain ⟨v3, E3, s4⟩ := y
          rw [hb2] at hr
          have hr : some (v3, u_fs s4 (fun g => if g = f then 2 else s_fs s4 g) (fun g => if g = f then E3 else s_fe s4 g)) = some (v2, s2) := hr
          injection hr with hr
          injection hr with hv hs2
          rw [fl_fs] at hb2
          unfold t_block at hb2
          cases hq : t_run (2 * m + 1000) (ev C m) C sil (C.2.2.1 f) .nil false n_none (u_tl (u_rw (u_fs (f_list C (C.2.2.2 f) (u_dp (u_go s) 0)) (fun g => if g = f then 1 else s_fs s g) (s_fe s)) (s_rw s + 1)) .nil) with
          | none => rw [hq] at hb2; cases hb2
          | some x =>
            obtain ⟨q, fl, E4, s3⟩ := x
            rw [hq] at hb2
            have hb2 : some ((if fl = true then .tag 9 q else vE : T_), E4, u_tl (u_nd s3 1) (s_tl (f_list C (C.2.2.2 f) (u_dp (u_go s) 0)))) = some (v3, E3, s4) := hb2
            injection hb2 with hb2
            injection hb2 with hv3 hb2
            injection hb2 with hE hs4
            have etl : s_tl (f_list C (C.2.2.2 f) (u_dp (u_go s) 0)) = s_tl s := by rw [fl_eq]
            rw [etl] at hs4
            subst hE
            have mo := o_name_M (hb := hb) h (by
              have q := t_run_M (ev_M C m) _ _ (Nat.le_refl _) _ _ _ _ _ _ _ _ hq (by
                rw [fl_eq]
                exact Nat.le_succ_of_le hl0)
              rw [← hs2, ← hs4]
              exact q.2.2.2.2.1)
            have b31 : s_b s3 ≤ s_b s1 := by
              have := mo.1
              rw [← hs2, ← hs4] at this
              exact this
            have n31 : s_nt s3 ≤ s_nt s1 := by
              have := mo.2.1
              rw [← hs2, ← hs4] at this
              exact this
            refine sim_file (m := m) (w0 := w) (W1 := w1) (f := f) (dd := s_dp s) (s3 := s3) (E3 := E4) (q := q) (fl := fl) h4 R1 nD hf f3 c0 g1 c1 hcnt.1 (by rw [c1]; show w.1 33 1 + 1 + 1 ≤ 19990 + 2 * ((s_tb s + 1 : Nat) : Int); omega) Q1 htx x0 x1 x2 h14 k3 ⟨g4, g5⟩ ef d1 (by omega) hq hrw ?_ ?_ ⟨by omega, by omega⟩ fun i6 w6 l1 l2 R6 c6 q6 f0 f1 f2 f10 d6 => ?_
            · show i + 1 + 3 + 12 * (s_b s3 : Int) ≤ 900000 + 12 * ((s_b s + 1 : Nat) : Int)
              omega
            · show s_nd s + 11 ≤ 11 * (s_tb s + 1) + 300
              omega
            have l2 : i6 + 12 * ((s_b s + 1 : Nat) : Int) ≤ i + 1 + 2 + 12 * (s_b s3 : Int) := l2
            have es2 : u_tl (u_nd (u_fs s3 (fun g => if g = f then 2 else s_fs s3 g) (fun g => if g = f then E4 else s_fe s3 g)) 1) (s_tl s) = s2 := by
              rw [← hs2, ← hs4]
            have R6 : RD C sil o a0 D K0 hb (u_tl (u_nd (u_fs s3 (fun g => if g = f then 2 else s_fs s3 g) (fun g => if g = f then E4 else s_fe s3 g)) 1) (s_tl s)) E w6 := R6
            rw [es2] at R6
            have hs22 : s_fs s2 f = 2 := by
              rw [← es2]
              show (if f = f then 2 else s_fs s3 f) = 2
              rw [if_pos rfl]
            have e6 : eW w6 0 hb (ce 29 n id a b c) := eW_x q6.2.2.2 he
            obtain ⟨⟨-, -, k36, -⟩, -⟩ := eW_ce e6
            exact sim_nm (w0 := w) (f := f) (mm := mm) (dd := s_dp s) R6 nD hf c6 hcnt.1 q6 htx f0 f1 f2 f10 hdp.2 g1 k36 ⟨g4, g5⟩ ef f3 em hs22 d6 ⟨by omega, by omega⟩ hB.2 h fun w' z1 z2 z3 z4 z5 => K (i6 + 1) w' (by omega) (by omega) z1 z2 z3 z4 z5
      · cases hr
  · rw [if_neg c0] at h
    have c2 : s_fs s f = 2 := by omega
    refine dr_4 (f := 6) (by omega) d1 c1' x0 (lk_93b (id := (id : Int)) (n := n) x1 x2 ⟨by omega, by omega⟩ k3 ⟨g4, g5⟩ (by rw [ef, w_g_0 w1 46 rfl, h46, c2]; rfl) c1') (by omega) (by omega) fun w2 hw2 => ?_
    have Q2 : fQ (w.1 33 1) hb w (w_fs (w_fs w1 2 1) 10 (w1.1 41 14)) := fQ_tr Q1 (oQ_fQ OA)
    have e2 : eW (w_fs (w_fs w1 2 1) 10 (w1.1 41 14)) 0 hb (ce 29 n id a b c) := eW_x OA.2.2.2 e1
    obtain ⟨⟨-, -, k32, -⟩, -⟩ := eW_ce e2
    have es : u_dp (u_go s) (s_dp s) = u_go s := rfl
    have z0 : f_t (w_fs (w_fs w1 2 1) 10 (w1.1 41 14)) 0 = 4 := by rw [FA 0 (by decide)]; exact x0
    have z1 : f_t (w_fs (w_fs w1 2 1) 10 (w1.1 41 14)) 1 = (id : Int) := by rw [FA 1 (by decide)]; exact x1
    have z2 : f_t (w_fs (w_fs w1 2 1) 10 (w1.1 41 14)) 2 = 1 := by rw [FA 2 (by decide)]; rfl
    have z10 : f_t (w_fs (w_fs w1 2 1) 10 (w1.1 41 14)) 10 = ((s_dp s : Nat) : Int) := by rw [FA 10 (by decide)]; exact h14
    rw [← hw2] at Q2 k32 z0 z1 z2 z10 RA1
    refine sim_nm (w0 := w) (s5 := u_go s) (f := f) (mm := mm) (dd := s_dp s) RA1 nD hf (by rw [hw2]; exact c1) hcnt.1 Q2 htx z0 z1 z2 z10 hdp.2 g1 k32 ⟨g4, g5⟩ ef f3 em c2 (by rw [hw2]; exact d1) ⟨by omega, by omega⟩ hB.2 h fun w' y1 y2 y3 y4 y5 => K (i + 1 + 1 + 1) w' (by omega) (by omega) y1 y2 y3 y4 y5
/-- the class runs every expression as the evaluator does -/
theorem ev_sim : ∀ m, cSK C sil o K0 (ev C m) := fun m => ev_Q (fun _ _ h => sim_29 h) m K0
end
