/-! ===== IMPORT ===== -/
section
variable {C : C_} {sil : Bool} {D : Prop} {qq : Int} {ft : Nat} {s s1 s2 : S_} {w w' w1 : W_} {Γ Γ1 Γ' : rG_} {n n1 fr L id : Nat} {hb : Bool} {u : Nat → Bool} {v a b c : T_} {E E1 : N_} {row : Nat} {x nn R : Int} {r1 r2 r4 rec : K_}
theorem lk_210 {f : Nat} (hK : rSK C sil n1 rec) (M1 : eMK rec) (hB : rBr rec) (hn : n1 ≤ n) (hL : L + 13 ≤ fr) (hfr : 2 * n1 + 1014 ≤ fr) (hq : qq ≤ 395) (hf : f < 3) (h0 : s_fs s f = 0) (h : o_file L rec C sil f s = some (v, s2)) (hs : s_b s2 ≤ 90000 ∧ s_nt s2 ≤ 900000) (H : rRC C sil D qq ft s w Γ) : ww_Ct 210 fr [.inr (.inr (.inl 73)), .inl (f : Int)] w fun r w' => ∃ y, r = some (.inl y) ∧ ∃ Γ', rRC C sil D qq ft s2 w' Γ' ∧ rCC w' Γ' y (rFL v) ∧ vv v ∧ rPO n false s s2 w Γ w' Γ' (-1) := by
  have B := rRC_bd H
  unfold o_file at h
  split at h
  · rename_i rwb
    cases ht : t_block L rec C sil (C.2.2.1 f) n_none (u_rw (f_list C (C.2.2.2 f) (u_fs s (fun g => if g = f then 1 else s_fs s g) (s_fe s))) (s_rw s + 1)) with
    | none => rw [ht] at h; cases h
    | some z =>
      obtain ⟨v2, E2, s3⟩ := z
      rw [ht] at h
      dsimp only at h
      have h := Option.some.inj h
      have e1 : v2 = v := congrArg Prod.fst h
      have e2 : u_fs s3 (fun g => if g = f then 2 else s_fs s3 g) (fun g => if g = f then E2 else s_fe s3 g) = s2 := congrArg Prod.snd h
      have hs3 : s_b s3 ≤ 90000 ∧ s_nt s3 ≤ 900000 := by rw [← e2] at hs; exact hs
      have S3 := H.2.2.2.2.1
      obtain ⟨-, fl1, fl2⟩ := S3.2.2.2.2.1
      obtain ⟨⟨fa, fb⟩, fx, ff⟩ := fl2 f hf
      obtain ⟨fl, hl, -⟩ := f_list_eq C (C.2.2.2 f) (u_fs s (fun g => if g = f then 1 else s_fs s g) (s_fe s))
      have lt0 : s_lt s ≤ s_b s := H.2.2.1.1.2.2.2
      rw [hl] at ht
      have m1 := t_block_M M1 ht lt0
      have hnt : s_nt s + (C.2.2.2 f).length ≤ 1000000 := by
        have z : s_nt s + (C.2.2.2 f).length ≤ s_nt s3 := m1.2.1
        omega
      have f3 : (0 : Int) ≤ (f : Int) ∧ (f : Int) < 3 := by omega
      have fn : ((f : Int)).toNat = f := by omega
      -- reading
      have i74 : (w_f (w_f (w_a w 100 f 1) 73 13 (f : Int)) 73 14 0).2 74 = w.2 74 := by rw [w_f2, w_f2]; exact w_a_2ne _ _ _ (by decide)
      have i75 : (w_f (w_f (w_a w 100 f 1) 73 13 (f : Int)) 73 14 0).2 75 = w.2 75 := by rw [w_f2, w_f2]; exact w_a_2ne _ _ _ (by decide)
      have i76 : (w_f (w_f (w_a w 100 f 1) 73 13 (f : Int)) 73 14 0).2 76 = w.2 76 := by rw [w_f2, w_f2]; exact w_a_2ne _ _ _ (by decide)
      have i5 : (w_f (w_f (w_a w 100 f 1) 73 13 (f : Int)) 73 14 0).1 73 5 = w.1 73 5 := by rw [w_f_ne _ _ _ _ _ _ (by decide), w_f_ne _ _ _ _ _ _ (by decide)]; rfl
      have RA : rRA (w_f (w_f (w_a w 100 f 1) 73 13 (f : Int)) 73 14 0) f 0 0 := by
        have S6 := H.2.2.2.2.2.2.2.1.2.2.2.2
        have c5 := fcz_1 (s1 := u_fs s (fun g => if g = f then 1 else s_fs s g) (s_fe s)) hf h0 (by
          show (if f = f then 1 else s_fs s f) ≠ 0
          rw [if_pos rfl]; decide) (fun g hg => by
          show (if g = f then 1 else s_fs s g) = s_fs s g
          rw [if_neg hg])
        refine ⟨⟨?_, hf⟩, ⟨?_, by rw [i76]; exact fa⟩, by rw [i74, i75, i76]; exact ⟨fl1, fun g hg => (fl2 g hg).1⟩, ?_, by rw [i5]; exact B.2.2.2.1.1, by rw [i5, i76]; omega⟩
        · rw [w_f_ne _ _ _ _ _ _ (by decide), w_f1, w_u_at, if_pos ⟨rfl, rfl⟩]
        · rw [w_f1, w_u_at, if_pos ⟨rfl, rfl⟩]; rfl
        · rw [w_f_ne _ _ _ _ _ _ (by decide), w_f_ne _ _ _ _ _ _ (by decide)]
          exact B.2.1
      have RD := rdT_of (rd_all 200).2 _ (fr - 1) f 0 true false 0 1 0 RA (Int.le_refl _) (by rw [i76]; omega) (by omega) rfl rfl
      rw [i74, i75, i76] at RD
      refine lk_210a (R := fun y w' => ∃ W0, (W0 = w_f (w_f (w_a w 100 f 1) 73 13 (f : Int)) 73 14 0) ∧ rRP W0 w' 0 0 (j_go 200 (tJ (w.2 74) (w.2 75) (w.2 76) f) (some (true, false)) none 0) ∧ rEN w' (W0.1 73 5) (w'.1 73 5) (j_go 200 (tJ (w.2 74) (w.2 75) (w.2 76) f) (some (true, false)) none 0).1 none y) (by omega) f3 ?_ ?_
      · rw [fn]
        refine RD.mono ?_
        rintro r w' ⟨y, rfl, q1, q2⟩
        exact ⟨y, rfl, _, rfl, q1, q2⟩
      · rintro y w1 ⟨W0, hW, ⟨q1, q2, q3⟩, q4⟩
        rw [hW] at q1 q3 q4
        have jz := j_go_sz 200 (tJ (w.2 74) (w.2 75) (w.2 76) f) (some (true, false)) none 0
        have jl : (tJ (w.2 74) (w.2 75) (w.2 76) f).2.2.1 = (w.2 76 f).toNat := rfl
        have q5 := jz.2 (Nat.zero_le _)
        rw [jl] at q5
        rw [i5] at q3 q4
        rw [← ff] at q1
        obtain ⟨H1, P1⟩ := rRC_read (n := n) (hb := false) (R := -1) (F := fun g => if g = f then 1 else s_fs s g) H hf h0 (fun _ => rfl) q1 hl rfl hnt (by omega)
        have B1 := rRC_bd H1
        have e15 : w1.1 73 15 = ((s_rw s : Nat) : Int) := H1.2.2.1.2.2.1.1
        obtain ⟨H2, P2, N2, q15, Z2⟩ := rNew (n := n) (hb := false) (R := -1) false H1 e15 rwb
        have ea : rEN (r_new w1) 0 ((r_new w1).1 73 5) (C.2.2.1 f) none y := by
          have z := rEN_mono (lo' := 0) (by omega) (rAN_rfl w1 (w.1 73 5) (w1.1 73 5)) (by omega) (Int.le_refl _) _ _ _ q4
          have z := rEN_X P2.1 z
          rw [fx]
          exact z
        -- where its names are
        have C101 : ∀ (w' : W_), w' = w_a (r_new w1) 101 f ((s_rw s : Nat) : Int) → rRC C sil D (qq - 1) ft (u_rw (u_flt (u_fs s (fun g => if g = f then 1 else s_fs s g) (s_fe s)) (s_nt s + (C.2.2.2 f).length) fl) (s_rw s + 1)) w' (rGz Γ (s_rw s) false) ∧ rXT (r_new w1) (rGz Γ (s_rw s) false) w' (rGz Γ (s_rw s) false) (-1) ∧ w'.2 101 f = ((s_rw s : Nat) : Int) ∧ w'.1 = (r_new w1).1 ∧ ∀ b, b ≠ 101 → w'.2 b = (r_new w1).2 b := by
          intro w' hw'
          have cb : ∀ b, b ≠ 101 → w'.2 b = (r_new w1).2 b := fun b q => by rw [hw']; exact w_a_2ne _ _ _ q
          have c1 : w'.1 = (r_new w1).1 := by rw [hw']; rfl
          have e101 : ∀ k, w'.2 101 k = if k = f then ((s_rw s : Nat) : Int) else (r_new w1).2 101 k := fun k => by
            rw [hw']
            show (if 101 = 101 ∧ k = f then ((s_rw s : Nat) : Int) else (r_new w1).2 101 k) = _
            by_cases d : k = f
            · rw [if_pos ⟨rfl, d⟩, if_pos d]
            · rw [if_neg (fun q => d q.2), if_neg d]
          have X : rXT (r_new w1) (rGz Γ (s_rw s) false) w' (rGz Γ (s_rw s) false) (-1) := rXT_same (fun j _ => by rw [c1]) (fun b _ q => cb b (by omega))
          refine ⟨?_, X, by rw [e101, if_pos rfl], c1, cb⟩
          obtain ⟨k1, ⟨k2, k2'⟩, k3, k8, k9, k10, k11, k12, k13⟩ := H2
          refine ⟨rHH_same k1 (fun j _ => by rw [c1]) (fun b _ q => cb b (by omega)), ⟨rFR_w k2 (by rw [c1]) (by rw [c1]) (cb _ (by omega)), k2'⟩, ?_, rS2_w k8 (by rw [c1]) (by rw [c1]) (by rw [c1]) ⟨rfl, rfl, rfl⟩, ?_, fun g hg => ?_, ?_, ?_, ?_⟩
          · unfold rS1 at k3 ⊢
            rw [c1]
            exact k3
          · unfold rS3 at k9 ⊢
            rw [c1, cb 104 (by omega), cb 103 (by omega), cb 74 (by omega), cb 75 (by omega), cb 76 (by omega)]
            exact k9
          · obtain ⟨z1, z2, z3⟩ := k10 g hg
            rw [cb 100 (by omega), e101, c1]
            refine ⟨z1, z2, fun q => ?_⟩
            by_cases d : g = f
            · have q : (if g = f then 1 else s_fs s g) = 2 := q
              rw [if_pos d] at q
              cases q
            · rw [if_neg d]
              obtain ⟨r', y1, y2, y3, y4⟩ := z3 q
              exact ⟨r', y1, y2, y3, rNF_mono X y2 (by omega) y4⟩
          · unfold rS5 at k11 ⊢
            rw [c1, cb 114 (by omega), cb 115 (by omega), cb 116 (by omega), cb 117 (by omega), cb 118 (by omega), cb 119 (by omega), cb 120 (by omega), cb 121 (by omega)]
            exact k11
          · unfold rS6 at k12 ⊢
            rw [c1, cb 90 (by omega)]
            exact k12
          · unfold rTl at k13 ⊢
            obtain ⟨⟨n, t1, t2⟩, t3, t4⟩ := k13
            exact ⟨⟨n, by rw [c1]; exact t1, rIT_mono X n _ (fun i _ => by rw [cb 99 (by omega)]) t2⟩, t3, t4⟩
        obtain ⟨H3, X3, r101, c3, cb3⟩ := C101 _ rfl
        have ea3 := rEN_X X3 ea
        have N3 : rNF (w_a (r_new w1) 101 f ((s_rw s : Nat) : Int)) (rGz Γ (s_rw s) false) (fun _ => true) n_none (s_rw s) := rNF_mono X3 (by omega) (by omega) (N2 _)
        have row3 : ((s_rw s : Nat) : Int) < (w_a (r_new w1) 101 f ((s_rw s : Nat) : Int)).1 73 15 ∧ (rGz Γ (s_rw s) false).2.2.2 (s_rw s) = false := ⟨by rw [c3]; omega, Z2⟩
        refine lk_210b (r := ((s_rw s : Nat) : Int)) (R := fun z w' => ∃ Γ', rRC C sil D (qq - 1 + 1) ft s3 w' Γ' ∧ rVF w' Γ' v2 (8 * z + 2) ∧ rCC w' Γ' z (rFL v2) ∧ rNF w' Γ' (fun _ => true) E2 (s_rw s) ∧ rPO n false (u_rw (u_flt (u_fs s (fun g => if g = f then 1 else s_fs s g) (s_fe s)) (s_nt s + (C.2.2.2 f).length) fl) (s_rw s + 1)) s3 (w_a (r_new w1) 101 f ((s_rw s : Nat) : Int)) (rGz Γ (s_rw s) false) w' Γ' ((s_rw s : Nat) : Int)) (by omega) f3 e15 (by omega) ?_ ?_
        · rw [fn]
          refine (blk_C (n := n) (n1 := n1) (L := L) hK M1 hB hn (by omega) (by omega) (by omega) ht hs3 H3 ea3 (fun _ _ _ => rfl) N3 row3).mono ?_
          rintro r w' ⟨z, rfl, Γ', g⟩
          exact ⟨z, rfl, Γ', g⟩
        · rintro z w4 ⟨Γ4, g1, g2, g3, g4, g5⟩
          rw [fn]
          have st1 : (w_a (r_new w1) 101 f ((s_rw s : Nat) : Int)).2 100 f = 1 := by
            have k := (H3.2.2.2.2.2.1 f hf).1
            rw [k]
            show (((if f = f then 1 else s_fs s f : Nat)) : Int) = 1
            rw [if_pos rfl]; rfl
          have o5 := g5.2.1.2.2 f hf (by rw [st1]; decide)
          have fs3 : s_fs s3 f = 1 := by
            have k := (g1.2.2.2.2.2.1 f hf).1
            rw [o5.1, st1] at k
            omega
          have r4 : w4.2 101 f = ((s_rw s : Nat) : Int) := by rw [o5.2]; exact r101
          have m15 := g5.1.1.1.2.1
          have HE := rRC_end (F := fun g => if g = f then 2 else s_fs s3 g) (G := fun g => if g = f then E2 else s_fe s3 g) g1 hf fs3 (fun _ => rfl) (fun _ => rfl) r4 (by omega) g4
          rw [e2] at HE
          have X12 := rXT_trans (R := -1) P1.1 (rXT_trans (R := -1) P2.1 X3 (Or.inl rfl) (Or.inl rfl)) (Or.inl rfl) (Or.inl rfl)
          have w15 : w.1 73 15 = ((s_rw s : Nat) : Int) := H.2.2.1.2.2.1.1
          have X14 := rXT_trans (R := -1) X12 g5.1 (Or.inl rfl) (by omega)
          have X5 : rXT w4 Γ4 (w_a w4 100 f 2) Γ4 (-1) := rXT_same (fun _ _ => rfl) (fun b _ q => w_a_2ne _ _ _ (by omega))
          have X15 := rXT_fz (rw := s_rw s) (rXT_trans (R := -1) X14 X5 (Or.inl rfl) (Or.inl rfl)) (by omega)
          have O13 : rOt w (w_a (r_new w1) 101 f ((s_rw s : Nat) : Int)) := by
            have o := rOt_tr P1.2.1 P2.2.1
            refine ⟨fun b j q => by rw [c3]; exact o.1 b j q, fun b q => by rw [cb3 b (by omega)]; exact o.2.1 b q, fun g hg q => ?_⟩
            have z := o.2.2 g hg q
            have gf : g ≠ f := fun d => by
              have k := (H.2.2.2.2.2.1 g hg).1
              rw [d, h0] at k
              rw [d, k] at q
              exact q rfl
            refine ⟨by rw [cb3 100 (by omega)]; exact z.1, ?_⟩
            show (if 101 = 101 ∧ g = f then _ else (r_new w1).2 101 g) = _
            rw [if_neg (fun q => gf q.2)]
            exact z.2
          have O14 := rOt_tr O13 g5.2.1
          have O15 : rOt w (w_a w4 100 f 2) := by
            refine ⟨fun b j q => O14.1 b j q, fun b q => by rw [w_a_2ne _ _ _ (by omega)]; exact O14.2.1 b q, fun g hg q => ?_⟩
            have z := O14.2.2 g hg q
            have gf : g ≠ f := fun d => by
              have k := (H.2.2.2.2.2.1 g hg).1
              rw [d, h0] at k
              rw [d, k] at q
              exact q rfl
            refine ⟨?_, by rw [w_a_2ne _ _ _ (by decide)]; exact z.2⟩
            show (if 100 = 100 ∧ g = f then _ else w4.2 100 g) = _
            rw [if_neg (fun q => gf q.2)]
            exact z.1
          have P12 := rPO_trans (n := n) (hb := false) (R := -1) P1 P2 (Nat.le_refl _) (Nat.le_refl _) (fun q => q) (fun q => q) (Or.inl rfl) (Or.inl rfl)
          obtain ⟨-, -, ⟨p3, p4⟩, ⟨p5, p6, p7⟩, ⟨p8, p9, p10⟩, p11, p12⟩ := P12
          obtain ⟨-, -, ⟨o3, o4⟩, ⟨o5', o6, o7⟩, ⟨o8, o9, o10⟩, o11, o12⟩ := g5
          rw [c3] at o3 o4 o5' o6 o7 o8 o10 o11 o12
          have o7 := o7 rfl
          have p9 : s_nt s ≤ s_nt s + (C.2.2.2 f).length := p9
          have p10 : s_nt s + (C.2.2.2 f).length = s_nt s ↔ (r_new w1).1 73 40 = w.1 73 40 := p10
          have p12 : (r_new w1).1 73 21 + ((s_tb s : Nat) : Int) ≤ w.1 73 21 + ((s_tb s : Nat) : Int) := p12
          have o9 : s_nt s + (C.2.2.2 f).length ≤ s_nt s3 := o9
          have o10 : s_nt s3 = s_nt s + (C.2.2.2 f).length ↔ w4.1 73 40 = (r_new w1).1 73 40 := o10
          have o12 : w4.1 73 21 + ((s_tb s : Nat) : Int) ≤ (r_new w1).1 73 21 + ((s_tb s3 : Nat) : Int) := o12
          have p7 := p7 rfl
          have a1 : (w_a w4 100 f 2).1 = w4.1 := rfl
          have b98 : (w_a w4 100 f 2).2 98 = w4.2 98 := w_a_2ne _ _ _ (by decide)
          have b99 : (w_a w4 100 f 2).2 99 = w4.2 99 := w_a_2ne _ _ _ (by decide)
          refine ⟨z, rfl, rGz Γ4 (s_rw s) true, rRC_qq HE (by omega) (by omega), by rw [← e1]; exact g3, by rw [← e1]; exact g2.1, X15, O15, ⟨by rw [a1]; omega, fun i hi => ?_⟩, ⟨by rw [a1]; omega, fun i hi => ?_, fun _ => by rw [a1]; omega⟩, ?_, by rw [a1]; omega, ?_⟩
          · rw [b98, o4 i (by omega), cb3 98 (by decide)]; exact p4 i hi
          · rw [b99, o6 i (by omega), cb3 99 (by decide)]; exact p6 i hi
          · rw [a1, ← e2]
            show w.1 73 40 ≤ w4.1 73 40 ∧ s_nt s ≤ s_nt s3 ∧ (s_nt s3 = s_nt s ↔ w4.1 73 40 = w.1 73 40)
            refine ⟨by omega, Nat.le_trans p9 o9, ⟨fun q => ?_, fun q => ?_⟩⟩
            · have z1 := p10.1 (by omega)
              have z2 := o10.1 (by omega)
              omega
            · have z1 := p10.2 (by omega)
              have z2 := o10.2 (by omega)
              omega
          · rw [a1, ← e2]
            show w4.1 73 21 + ((s_tb s : Nat) : Int) ≤ w.1 73 21 + ((s_tb s3 : Nat) : Int)
            omega
  · cases h
/-- depth alone -/
theorem rRC_dp {dp : Nat} (H : rRC C sil D qq ft s w Γ) (hd : dp ≤ 8) : rRC C sil D qq ft (u_dp s dp) (w_f w 73 43 (dp : Int)) Γ ∧ rPO n hb s (u_dp s dp) w Γ (w_f w 73 43 (dp : Int)) Γ R := by
  have N : ∀ a j, ¬ (a = 73 ∧ j = 43) → (w_f w 73 43 (dp : Int)).1 a j = w.1 a j := fun a j q => w_f_ne _ _ _ _ _ _ q
  have H0 := H
  obtain ⟨a1, ⟨a2, a2'⟩, ⟨b1, b5, b6, b7, b8⟩, a4, -, -, -, ⟨⟨-, -, c3⟩, -⟩, -⟩ := H
  refine ⟨rRC_c H0 (rFR_w (s := s) a2 (N _ _ (by omega)) (N _ _ (by omega)) rfl) a2' ⟨?_, ⟨?_, hd⟩, ?_, ?_, ?_⟩ (rS2_w a4 (N _ _ (by omega)) (N _ _ (by omega)) (N _ _ (by omega)) ⟨rfl, rfl, rfl⟩) (fun j q => N 73 j (by omega)) (fun b _ => rfl) ⟨rfl, rfl, rfl, rfl⟩ ⟨Nat.le_refl _, c3, Nat.le_refl _⟩ ?_, rPO_c (fun a j q => N a j (by omega)) (fun _ _ => rfl) ⟨by rw [N 73 40 (by omega)]; exact Int.le_refl _, Nat.le_refl _, ⟨fun _ => N 73 40 (by omega), fun _ => rfl⟩⟩ ⟨by rw [N 73 45 (by omega)]; omega, Nat.le_refl _⟩⟩
  · rw [N 73 39 (by omega)]; exact b1
  · rw [w_f1, w_u_at, if_pos ⟨rfl, rfl⟩]
  · rw [N 73 15 (by omega)]; exact b6
  · rw [N 73 80 (by omega), N 73 81 (by omega)]; exact b7
  · rw [N 73 79 (by omega)]; exact b8
  · show qq = qq - 3 * (((s_tb s : Nat) : Int) - ((s_tb s : Nat) : Int)); omega
theorem rV_6 {r : Int} (h : rVF w Γ v r) (B : rBD w) : am_rg r ∧ r ≠ 6 := by
  refine ⟨(rVt h B).1, fun q => ?_⟩
  rcases h.2 with ⟨x, -, e, -⟩ | ⟨-, e⟩ | ⟨-, e⟩ | ⟨f, -, -, e, -⟩ | ⟨p, -, -, e, -⟩ | ⟨c, -, e, -⟩ <;> omega
theorem rn_29 (I : rIN C sil D qq ft n u s (ce 29 nn id a b c) E w Γ x row fr) (hL : L + 18 ≤ 2 * n + 1010) (hn : n1 + 4 ≤ n) (h4 : rSK C sil n1 r4) (M4 : eMK r4) (hB : rBr r4) (h : ev1 L C r1 r2 r4 sil (ce 29 nn id a b c) E hb s = some (v, E1, s1)) (hs : s_b s1 ≤ 90000 ∧ s_nt s1 ≤ 900000) : ww_Ct 207 fr [.inr (.inr (.inl 73)), .inl x, .inl (row : Int), .inl (if hb = true then 1 else 0)] w (rVO C sil D qq ft n hb u s s1 v E1 row w Γ) := by
  have hq := I.2.1
  have hfr := I.2.2.2.2.2.2
  have X := rIN_x I
  rw [ev1_29] at h
  split at h
  · rename_i tb
    have nr := X.2.2.1.2
    have hf3 : (nn / 10 % 3).toNat < 3 := by omega
    have ef : nn / 10 % 3 = (((nn / 10 % 3).toNat : Nat) : Int) := by omega
    have f3 : (0 : Int) ≤ nn / 10 % 3 ∧ nn / 10 % 3 < 3 := by omega
    have em : nn % 10 = (((nn % 10).toNat : Nat) : Int) := by omega
    have m10 : (nn % 10).toNat < 10 := by omega
    have hb1 : s_b s + 1 ≤ 90000 := by
      have m := o_import_M (hb := hb) M4 h (by have := rIN_lt I; show s_lt s ≤ s_b s + 1; omega)
      exact Nat.le_trans m.1 hs.1
    obtain ⟨I1, P1⟩ := rIN_go (hb := hb) I tb hb1
    have B := rRC_bd I1.1
    have X1 := rIN_x I1
    have Fs := I1.1.2.2.2.2.2.1 _ hf3
    refine run_S (k := 29) rVO_yP (by omega) (by omega) X.2.1.1 (by omega) ?_
    refine lk_203b (k := 29) (n := nn) (by omega) (by omega) X.2.1.1 X.2.1.2.1 (by omega) nr (by omega) (lk_203_28n (by omega) nr (by omega) (lk_203_70_29 nr ?_))
    refine (lk_203_125i (R := fun y w' => rVO C sil D qq ft n hb u s s1 v E1 row w Γ (some (.inl y)) w') (by omega) (Q_m ?_) (fun y w' g => g))
    have TAIL : ∀ (s4 : S_) (w4 : W_) (Γ4 : rG_) (v3 v4 : am_V), am_two v3 = false ∧ am_two v4 = false → rRC C sil D (qq - 3) ft s4 w4 Γ4 → rNF w4 Γ4 u E row → ((row : Int) < w4.1 73 15) → s_fs s4 (nn / 10 % 3).toNat = 2 → rPO n hb s s4 w Γ w4 Γ4 (row : Int) → o_name C id (s_fe s4 (nn / 10 % 3).toNat (nn % 10).toNat) E s4 = some (v, E1, s1) → zr209 (fr - 1 - 1) (rVO C sil D qq ft n hb u s s1 v E1 row w Γ) 61 x (nn / 10 % 3) v3 v4 w4 := by
      intro s4 w4 Γ4 v3 v4 hv H4 N4 r4 f4 P4 ho
      have B4 := rRC_bd H4
      have A4 := P4.1.1.2 x.toNat (by omega) (by omega)
      obtain ⟨-, -, z3⟩ := H4.2.2.2.2.2.1 _ hf3
      obtain ⟨er, y1, y2, y3, y4⟩ := z3 f4
      obtain ⟨n1', n2'⟩ := y4 (nn % 10).toNat m10 rfl
      have hn4 : w4.2 78 x.toNat = nn := by rw [A4.1.2.1]; exact X.2.1.2.1
      have hid : w4.2 79 x.toNat = ((id / 60 : Nat) : Int) ∧ w4.2 80 x.toNat = ((id % 60 : Nat) : Int) := by
        rw [A4.1.2.2.1, A4.1.2.2.2]
        exact ⟨X.2.1.2.2.1, X.2.1.2.2.2⟩
      have idx : (10 * (er : Int) + nn % 10).toNat = 10 * er + (nn % 10).toNat := by omega
      cases he : s_fe s4 (nn / 10 % 3).toNat (nn % 10).toNat with
      | none =>
        rw [he] at ho
        have ho := Option.some.inj ho
        have k1 : vW = v := congrArg Prod.fst ho
        have k2 : E = E1 := congrArg (fun p => p.2.1) ho
        have k3 : f_note C (f_code 4 id) s4 = s1 := congrArg (fun p => p.2.2) ho
        refine lk_209e (e := (er : Int)) (y := 6) (by omega) hv (by omega) hn4 nr f3 y1 (by omega) (by rw [idx]; exact n1' he) (by unfold am_rg; omega) (by omega) rfl ?_
        obtain ⟨y, k4, Γ5, k5, k6⟩ := rVO_trans (n := n) P4 (Nat.le_refl _) (fun q => q) (Or.inl rfl) (bad_P (n := n) (hb := hb) (c := 4) H4 N4 hid (by rw [k3]; exact hs.2))
        rw [← k1, ← k2, ← k3]
        exact ⟨y, k4, Γ5, rRC_qq k5 (by omega) (by omega), k6⟩
      | some v5 =>
        rw [he] at ho
        have ho := Option.some.inj ho
        have k1 : v5 = v := congrArg Prod.fst ho
        have k2 : E = E1 := congrArg (fun p => p.2.1) ho
        have k3 : s4 = s1 := congrArg (fun p => p.2.2) ho
        have V5 := n2' v5 he
        obtain ⟨g6, g7⟩ := rV_6 V5 B4.1
        refine lk_209d (e := (er : Int)) (y := w4.2 84 (10 * er + (nn % 10).toNat)) (by omega) hv (by omega) hn4 nr f3 y1 (by omega) (by rw [idx]) g6 g7 ?_
        rw [← k1, ← k2, ← k3]
        exact ⟨_, rfl, Γ4, rRC_qq H4 (by omega) (by omega), V5, N4, P4⟩
    unfold o_import at h
    dsimp only at h
    have hx1 : (0 : Int) ≤ x ∧ x < 1024 := by omega
    have nx : (r_b1 w).2 78 x.toNat = nn := X.2.1.2.1
    by_cases c1 : s_fs s (nn / 10 % 3).toNat = 1
    · rw [if_pos c1] at h
      have h := Option.some.inj h
      have k1 : vW = v := congrArg Prod.fst h
      have k2 : E = E1 := congrArg (fun p => p.2.1) h
      have k3 : f_note C (f_code 8 id) (u_go s) = s1 := congrArg (fun p => p.2.2) h
      refine lk_209a (t := 1) (by omega) hx1 nx nr rfl f3 (by rw [Fs.1]; show ((s_fs s (nn / 10 % 3).toNat : Nat) : Int) = 1; rw [c1]; rfl) (by omega) rfl ?_
      obtain ⟨y, k4, Γ5, k5, k6⟩ := rVO_trans (n := n) P1 (Nat.le_refl _) (fun q => q) (Or.inl rfl) (bad_P (n := n) (hb := hb) (c := 8) I1.1 I1.2.2.2.2.1 ⟨X1.2.1.2.2.1, X1.2.1.2.2.2⟩ (by rw [k3]; exact hs.2))
      rw [← k1, ← k2, ← k3]
      exact ⟨y, k4, Γ5, rRC_qq k5 (by omega) (by omega), k6⟩
    · rw [if_neg c1] at h
      by_cases c0 : s_fs s (nn / 10 % 3).toNat = 0
      · rw [if_pos c0] at h
        cases ho : o_file L r4 C sil (nn / 10 % 3).toNat (u_dp (u_go s) 0) with
        | none => rw [ho] at h; cases h
        | some z =>
          obtain ⟨v3, s3⟩ := z
          rw [ho] at h
          dsimp only at h
          have sdp : s_dp (u_go s) ≤ 8 := I1.1.2.2.1.2.1.2
          have hs3 : s_b s3 ≤ 90000 ∧ s_nt s3 ≤ 900000 := by
            have z : s_b (u_dp s3 (s_dp (u_go s))) ≤ 90000 ∧ s_nt (u_dp s3 (s_dp (u_go s))) ≤ 900000 := by
              unfold o_name at h
              split at h
              · have h := Option.some.inj h
                have k3 : u_dp s3 (s_dp (u_go s)) = s1 := congrArg (fun p => p.2.2) h
                rw [k3]; exact hs
              · have h := Option.some.inj h
                have k3 : f_note C (f_code 4 id) (u_dp s3 (s_dp (u_go s))) = s1 := congrArg (fun p => p.2.2) h
                rw [← k3] at hs
                exact ⟨hs.1, Nat.le_trans (Nat.le_succ _) hs.2⟩
            exact z
          obtain ⟨H2, P2⟩ := rRC_dp (dp := 0) (n := n) (hb := hb) (R := (row : Int)) I1.1 (by omega)
          refine lk_209b (t := 0) (d := ((s_dp (u_go s) : Nat) : Int)) (R := fun y w' => ∃ Γ', rRC C sil D (qq - 3) ft s3 w' Γ' ∧ rPO n false (u_dp (u_go s) 0) s3 (w_f (r_b1 w) 73 43 0) Γ w' Γ' (-1)) (by omega) hx1 nx nr rfl f3 (by rw [Fs.1]; show ((s_fs s (nn / 10 % 3).toNat : Nat) : Int) = 0; rw [c0]; rfl) rfl I1.1.2.2.1.2.1.1 ?_ ?_
          · rw [ef]
            refine (lk_210 (s := u_dp (u_go s) 0) (n := n) (n1 := n1) (L := L) h4 M4 hB (by omega) (by omega) (by omega) (by omega) hf3 c0 ho hs3 H2).mono ?_
            rintro r w' ⟨y, rfl, Γ', k1, k2, k3, k4⟩
            exact ⟨y, rfl, Γ', k1, k4⟩
          · rintro y w' ⟨Γ', k1, k4⟩
            obtain ⟨H5, P5⟩ := rRC_dp (dp := s_dp (u_go s)) (n := n) (hb := hb) (R := (row : Int)) k1 sdp
            have P6 := rPO_trans (n := n) (hb := hb) (R := (row : Int)) P2 (rPO_trans (n := n) (hb := hb) (R := (row : Int)) k4 P5 (Nat.le_refl _) (Nat.le_refl _) (fun _ => rfl) (fun q => q) (by omega) (Or.inl rfl)) (Nat.le_refl _) (Nat.le_refl _) (fun q => q) (fun q => q) (Or.inl rfl) (Or.inl rfl)
            have P7 := rPO_trans (n := n) (hb := hb) (R := (row : Int)) P1 P6 (Nat.le_refl _) (Nat.le_refl _) (fun q => q) (fun q => q) (Or.inl rfl) (Or.inl rfl)
            have hrow := I1.2.2.2.2.2.1
            have N5 : rNF (w_f w' 73 43 ((s_dp (u_go s) : Nat) : Int)) Γ' u E row := rNF_go (rNF_mono k4.1 (by rw [w_f_ne _ _ _ _ _ _ (by decide)]; exact hrow.1) (by omega) (rNF_go I1.2.2.2.2.1 (fun j q => w_f_ne _ _ _ _ _ _ (by omega)) rfl)) (fun j q => w_f_ne _ _ _ _ _ _ (by omega)) rfl
            refine TAIL (u_dp s3 (s_dp (u_go s))) _ Γ' _ _ ⟨rfl, rfl⟩ H5 N5 ?_ (show s_fs s3 _ = 2 from o_file_2 ho) P7 h
            have m := P6.1.1.1.2.1
            omega
      · rw [if_neg c0] at h
        have f2 : s_fs s (nn / 10 % 3).toNat = 2 := by
          have z : s_fs s (nn / 10 % 3).toNat ≤ 2 := Fs.2.1
          omega
        refine lk_209c (t := 2) (by omega) hx1 nx nr rfl f3 (by rw [Fs.1]; show ((s_fs s (nn / 10 % 3).toNat : Nat) : Int) = 2; rw [f2]; rfl) rfl ?_
        exact TAIL (u_go s) _ Γ _ _ ⟨rfl, rfl⟩ I1.1 I1.2.2.2.2.1 I1.2.2.2.2.2.1.1 f2 P1 h
  · cases h
end
