/-! ===== the reference follows a call ===== -/
section
variable {C : C_} {sil : Bool} {D : Prop} {qq : Int} {ft : Nat} {s s2 : S_} {w : W_} {Γ : rG_} {n n1 fr : Nat} {v v1 e cl : T_} {a : Int} {rec : K_}
theorem lk_213 {f : Nat} {keep : Bool} {ki : Int} (hO : o_body rec C sil keep (.tag 12 (.append e cl)) v s = some (v1, s2)) (hK : rSK C sil n1 rec) (M : eMK rec) (H : rRC C sil D qq ft s w Γ) (hf : (f : Int) < w.1 73 17) (hf2 : f < 2048) (hΓ : Γ.2.1 f = .tag 12 (.append e cl)) (V : rVF w Γ v a) (hki : ki = if keep = true then 1 else 0) (hkeep : keep = true → k_fit e cl = true ∧ ∃ x, v = vN x ∧ a = 8 * x + 1 ∧ -9999 ≤ x ∧ x ≤ 9999) (hq : qq ≤ 395) (hd : s_dp s < 8) (hs : s_b s2 ≤ 90000 ∧ s_nt s2 ≤ 900000) (hn : n1 + 1 ≤ n) (hn9 : n1 ≤ 1900) (hfr : 2 * n1 + 1012 ≤ fr) : ww_Ct 213 fr [.inr (.inr (.inl 73)), .inl (f : Int), .inl a, .inl ki] w fun r w' => ∃ y, r = some (.inl y) ∧ ∃ Γ', rRC C sil D qq ft s2 w' Γ' ∧ rVF w' Γ' v1 y ∧ rPO n false s s2 w Γ w' Γ' (-1) := by
  obtain ⟨rwb, E1, s1, me, hrec, -, hs2, hme⟩ := o_body_inv hO
  have hrec : rec sil (e_part e) (n_body e cl v (.tag 12 (.append e cl))) false (s_in s) = some (v1, E1, s1) := hrec
  have B := rRC_bd H
  have lt0 : s_lt s ≤ s_b s := H.2.2.1.1.2.2.2
  have es2 : s2 = u_as (u_sn (u_lt (u_dp (u_me s1 me) (s_dp s)) (s_lt s1)) (max (s_sn s) (s_sn s1 + 1))) (fun q => s_as s q || s_as s1 q) := hs2
  have hs1 : s_b s1 ≤ 90000 ∧ s_nt s1 ≤ 900000 := by rw [es2] at hs; exact hs
  have m1 := M _ _ _ _ _ _ _ _ hrec (Nat.le_refl _)
  have dp1 : s_dp s1 = s_dp s + 1 := m1.2.2.2.2.2.1
  have lt1 : s_b s ≤ s_lt s1 := m1.2.2.2.1
  have lt2 : s_lt s1 ≤ s_b s1 := m1.2.2.2.2.1
  have nt1 : s_nt s ≤ s_nt s1 := m1.2.1
  obtain ⟨a0, g0, g1, g2⟩ := H.2.2.2.1.2.2.1
  have D0 := H.2.2.2.1.2.2.2
  have S45 := H.2.2.2.1.1
  have S39 := H.2.2.1.1.1
  have S43 := H.2.2.1.2.1.1
  have N0 : ∀ b j, ¬ (b = 73 ∧ (j = 43 ∨ j = 44 ∨ j = 45 ∨ j = 46)) → (w_f (w_f (w_f (w_f w 73 44 ((s_b s : Nat) : Int)) 73 45 0) 73 46 0) 73 43 (((s_dp s : Nat) : Int) + 1)).1 b j = w.1 b j := fun b j q => by
    rw [w_f_ne _ _ _ _ _ _ (by omega), w_f_ne _ _ _ _ _ _ (by omega), w_f_ne _ _ _ _ _ _ (by omega), w_f_ne _ _ _ _ _ _ (by omega)]
  have z43 : (w_f (w_f (w_f (w_f w 73 44 ((s_b s : Nat) : Int)) 73 45 0) 73 46 0) 73 43 (((s_dp s : Nat) : Int) + 1)).1 73 43 = ((s_dp s + 1 : Nat) : Int) := by
    rw [w_f1, w_u_at, if_pos ⟨rfl, rfl⟩]; omega
  have z46 : (w_f (w_f (w_f (w_f w 73 44 ((s_b s : Nat) : Int)) 73 45 0) 73 46 0) 73 43 (((s_dp s : Nat) : Int) + 1)).1 73 46 = ((0 : Nat) : Int) := by
    rw [w_f_ne _ _ _ _ _ _ (by decide), w_f1, w_u_at, if_pos ⟨rfl, rfl⟩]; rfl
  have z45 : (w_f (w_f (w_f (w_f w 73 44 ((s_b s : Nat) : Int)) 73 45 0) 73 46 0) 73 43 (((s_dp s : Nat) : Int) + 1)).1 73 45 = 0 := by
    rw [w_f_ne _ _ _ _ _ _ (by decide), w_f_ne _ _ _ _ _ _ (by decide), w_f1, w_u_at, if_pos ⟨rfl, rfl⟩]
  have z44 : (w_f (w_f (w_f (w_f w 73 44 ((s_b s : Nat) : Int)) 73 45 0) 73 46 0) 73 43 (((s_dp s : Nat) : Int) + 1)).1 73 44 = ((s_b s : Nat) : Int) := by
    rw [w_f_ne _ _ _ _ _ _ (by decide), w_f_ne _ _ _ _ _ _ (by decide), w_f_ne _ _ _ _ _ _ (by decide), w_f1, w_u_at, if_pos ⟨rfl, rfl⟩]
  have zb : (w_f (w_f (w_f (w_f w 73 44 ((s_b s : Nat) : Int)) 73 45 0) 73 46 0) 73 43 (((s_dp s : Nat) : Int) + 1)).2 = w.2 := rfl
  refine lk_213a (t := ((s_b s : Nat) : Int)) (d := w.1 73 45) (g := (a0 : Int)) (n := w.1 73 40) (m := ((s_dp s : Nat) : Int)) (R := fun y w' => ∃ Γ', rRC C sil True qq ft s1 w' Γ' ∧ rVF w' Γ' v1 y ∧ rPO n1 false s s1 w Γ w' Γ' (-1) ∧ w'.1 73 45 ≤ (n1 : Int)) (by omega) S39 rfl g0 rfl S43 ?_ ?_
  · generalize w_f (w_f (w_f (w_f w 73 44 ((s_b s : Nat) : Int)) 73 45 0) 73 46 0) 73 43 (((s_dp s : Nat) : Int) + 1) = W0 at N0 z43 z44 z45 z46 zb ⊢
    have R5 : rS5 (u_me s (s_me s)) W0 := by
      have z := H.2.2.2.2.2.2.1
      unfold rS5 at z ⊢
      rw [N0 73 70 (by omega), zb]
      exact z
    have h2 : rS2 C True (u_as (u_sn (u_lt (u_dp (u_me s (s_me s)) (s_dp s + 1)) (s_b s)) 0) fun _ => false) W0 := by
      refine ⟨by rw [z45]; exact ⟨Int.le_refl _, by decide⟩, by rw [z44]; unfold am_rg; have := H.2.2.1.1.2.1; omega, ⟨0, z46, by decide, fun _ q _ => Nat.zero_testBit q⟩, fun _ => ⟨z45, z44, fun q hq => by cases hq⟩⟩
    have H0 := rRC_fin (D := True) (me := s_me s) (dp := s_dp s + 1) (sn := 0) (lt := s_b s) (as := fun _ => false) H (fun b j q => N0 b j (by omega)) (fun b _ => by rw [zb]) ⟨z43, by omega⟩ (Nat.le_refl _) h2 R5
    have P0 : rPO n1 false s (u_as (u_sn (u_lt (u_dp (u_me s (s_me s)) (s_dp s + 1)) (s_b s)) 0) fun _ => false) w Γ W0 Γ (-1) := rPO_c (fun b j q => N0 b j (by omega)) (fun b _ => by rw [zb]) ⟨by rw [N0 73 40 (by omega)]; exact Int.le_refl _, Nat.le_refl _, ⟨fun _ => N0 73 40 (by omega), fun _ => rfl⟩⟩ ⟨by rw [z45]; omega, Nat.le_refl _⟩
    have hr2 : rec sil (e_part e) (n_body e cl v (.tag 12 (.append e cl))) false (u_rw (u_as (u_sn (u_lt (u_dp (u_me s (s_me s)) (s_dp s + 1)) (s_b s)) 0) fun _ => false) (s_rw (u_as (u_sn (u_lt (u_dp (u_me s (s_me s)) (s_dp s + 1)) (s_b s)) 0) fun _ => false) + 1)) = some (v1, E1, s1) := hrec
    refine (lk_211 (D := True) H0 (by rw [N0 73 17 (by omega)]; exact hf) hf2 hΓ (rVF_mono P0.1 V) hr2 hK rwb hq hs1 (by omega)).mono ?_
    rintro r w' ⟨y, rfl, Γ', k1, k2, k3⟩
    exact ⟨y, rfl, Γ', k1, k2, rPO_trans P0 k3 (Nat.le_refl _) (Nat.le_refl _) (fun q => q) (fun q => q) (Or.inl rfl) (Or.inl rfl), by have z := k3.2.2.2.2.2.1; rw [z45] at z; omega⟩
  · clear N0 z43 z44 z45 z46 zb
    rintro y w1 ⟨Γ1, H1, V1, P, P45⟩
    have D1 := H1.2.2.2.1.2.2.2 trivial
    obtain ⟨a1, k0, k1, k2⟩ := H1.2.2.2.1.2.2.1
    have k2 := k2 trivial
    have R44 := H1.2.2.2.1.2.1
    have R45 := H1.2.2.2.1.1
    have e43 : w1.1 73 43 = (((s_dp s + 1 : Nat)) : Int) := by rw [H1.2.2.1.2.1.1, dp1]
    obtain ⟨z1, z2⟩ := bz_lor_n k1 g1
    have sb1 := H1.2.2.1.1.2.1
    have F40 := H1.2.1.1.2.2
    have F41 := H1.2.1.2
    have G40 := H.2.1.1.2.2
    have G41 := H.2.1.2
    have U40 := P.2.2.2.2.1.2.2
    have FIN : ∀ (w3 : W_) (v10 : am_V), am_two v10 = false → (∀ b j, ¬ (b = 73 ∧ (j = 43 ∨ j = 70 ∨ j = 83 ∨ j = 84)) → w3.1 b j = w1.1 b j) → (∀ b, b < 114 ∨ 122 < b → w3.2 b = w1.2 b) → w3.1 73 43 = ((s_dp s : Nat) : Int) → rS5 (u_me s1 me) w3 → zr213 fr (fun r w' => ∃ y, r = some (.inl y) ∧ ∃ Γ', rRC C sil D qq ft s2 w' Γ' ∧ rVF w' Γ' v1 y ∧ rPO n false s s2 w Γ w' Γ' (-1)) 118 (f : Int) a ki ((s_b s : Nat) : Int) (w.1 73 45) (a0 : Int) (w.1 73 40) (.inl y) v10 w3 := by
      intro w3 v10 hv c1 cb c43 R5
      have END : ∀ X : Int, X = max (w.1 73 45) (w1.1 73 45 + 1) → (fun r w' => ∃ y, r = some (.inl y) ∧ ∃ Γ', rRC C sil D qq ft s2 w' Γ' ∧ rVF w' Γ' v1 y ∧ rPO n false s s2 w Γ w' Γ' (-1)) (some (.inl y : am_V)) (w_f (w_f w3 73 45 X) 73 46 ((a1 ||| a0 : Nat) : Int)) := by
        intro X hX
        have e45 : (w_f (w_f w3 73 45 X) 73 46 ((a1 ||| a0 : Nat) : Int)).1 73 45 = X := by
          rw [w_f_ne _ _ _ _ _ _ (by decide), w_f1, w_u_at, if_pos ⟨rfl, rfl⟩]
        have e46 : (w_f (w_f w3 73 45 X) 73 46 ((a1 ||| a0 : Nat) : Int)).1 73 46 = ((a1 ||| a0 : Nat) : Int) := by
          rw [w_f1, w_u_at, if_pos ⟨rfl, rfl⟩]
        have ne : ∀ b j, ¬ (b = 73 ∧ (j = 45 ∨ j = 46)) → (w_f (w_f w3 73 45 X) 73 46 ((a1 ||| a0 : Nat) : Int)).1 b j = w3.1 b j := fun b j q => by
          rw [w_f_ne _ _ _ _ _ _ (by omega), w_f_ne _ _ _ _ _ _ (by omega)]
        have eb : (w_f (w_f w3 73 45 X) 73 46 ((a1 ||| a0 : Nat) : Int)).2 = w3.2 := rfl
        generalize w_f (w_f w3 73 45 X) 73 46 ((a1 ||| a0 : Nat) : Int) = w4 at e45 e46 ne eb ⊢
        have C1 : ∀ b j, ¬ (b = 73 ∧ (j = 43 ∨ j = 44 ∨ j = 45 ∨ j = 46 ∨ j = 70 ∨ j = 83 ∨ j = 84)) → w4.1 b j = w1.1 b j := fun b j q => by rw [ne b j (by omega), c1 b j (by omega)]
        have CB : ∀ b, b < 114 ∨ 122 < b → w4.2 b = w1.2 b := fun b q => by rw [eb]; exact cb b q
        have e44 : w4.1 73 44 = w1.1 73 44 := by rw [ne 73 44 (by omega), c1 73 44 (by omega)]
        have R5' : rS5 (u_me s1 me) w4 := by
          unfold rS5 at R5 ⊢
          rw [ne 73 70 (by omega), eb]
          exact R5
        refine ⟨y, rfl, Γ1, ?_, rVF_mono (rXT_same (R := -1) (fun j q => C1 73 j (by omega)) (fun b _ q => CB b (by omega))) V1, ?_⟩
        · rw [es2]
          refine rRC_fin H1 C1 CB ⟨by rw [ne 73 43 (by omega)]; exact c43, by omega⟩ lt2 ⟨?_, ?_, ⟨a1 ||| a0, e46, z2, fun d q hq => ?_⟩, fun d => ⟨?_, ?_, fun q hq => ?_⟩⟩ R5'
          · rw [e45]; omega
          · rw [e44]; exact R44
          · show (a1 ||| a0).testBit q = (s_as s q || s_as s1 q)
            rw [Nat.testBit_or, k2 q hq, g2 d q hq, Bool.or_comm]
          · rw [e45, hX, (D0 d).1, D1.1]
            show max ((s_sn s : Nat) : Int) (((s_sn s1 : Nat) : Int) + 1) = ((max (s_sn s) (s_sn s1 + 1) : Nat) : Int)
            omega
          · rw [e44]; exact D1.2.1
          · have hq : (s_as s q || s_as s1 q) = true := hq
            rw [Bool.or_eq_true] at hq
            exact hq.elim ((D0 d).2.2 q) (D1.2.2 q)
        · rw [es2]
          refine rPO_fin (n' := n1) P C1 CB ?_
          rw [e45]
          have P1 := P45
          omega
      have c45 : w3.1 73 45 = w1.1 73 45 := c1 73 45 (by omega)
      have c46 : w3.1 73 46 = (a1 : Int) := by rw [c1 73 46 (by omega)]; exact k0
      by_cases c : w.1 73 45 < w1.1 73 45 + 1
      · exact lk_213g hv c45 (by omega) (by omega) c46 z1 c (END _ (by omega))
      · exact lk_213l hv c45 (by omega) (by omega) c46 z1 c (END _ (by omega))
    have w58 : ∀ b j, ¬ (b = 73 ∧ (j = 43 ∨ j = 70 ∨ j = 83 ∨ j = 84)) → (w_f w1 73 43 (((s_dp s + 1 : Nat) : Int) - 1)).1 b j = w1.1 b j := fun b j q => w_f_ne _ _ _ _ _ _ (by omega)
    have x43 : (w_f w1 73 43 (((s_dp s + 1 : Nat) : Int) - 1)).1 73 43 = ((s_dp s : Nat) : Int) := by
      rw [w_f1, w_u_at, if_pos ⟨rfl, rfl⟩]; omega
    have M0 : me = s_me s1 → rS5 (u_me s1 me) (w_f w1 73 43 (((s_dp s + 1 : Nat) : Int) - 1)) := fun q => by
      have z := H1.2.2.2.2.2.2.1
      rw [q]
      unfold rS5 at z ⊢
      rw [w_f_ne _ _ _ _ _ _ (by decide)]
      exact z
    cases keep with
    | false =>
      have ki0 : ki = 0 := by rw [hki]; rfl
      refine lk_213b e43 ki0 ?_
      subst ki0
      refine FIN _ am_X rfl w58 (fun b _ => rfl) x43 (M0 ?_)
      rcases hme with ⟨-, q⟩ | ⟨⟨q, -⟩, -⟩
      · exact q
      · cases q
    | true =>
      have ki1 : ki = 1 := by rw [hki]; rfl
      subst ki1
      obtain ⟨fit, x, hv, ha, hx⟩ := hkeep rfl
      by_cases nt : s_nt s1 = s_nt s
      · have e40 : w1.1 73 40 = w.1 73 40 := U40.1 nt
        have rg40 : am_rg (w.1 73 40) := by unfold am_rg; omega
        by_cases ln : (s_me s1).length < 60
        · have R5 := H1.2.2.2.2.2.2.1
          have e70 : w1.1 73 70 = (((s_me s1).length : Nat) : Int) := R5.1.1
          refine lk_213e (k := (((s_me s1).length : Nat) : Int)) e43 rfl e40 rg40 e70 (by omega) ?_
          have hmr : me = s_me s1 ++ [r_rec C (.tag 12 (.append e cl)) v v1 s s1] := by
            rcases hme with ⟨q, -⟩ | ⟨-, q⟩
            · exact absurd ⟨rfl, nt, ln⟩ q
            · exact q
          have f17 : (f : Int) < w1.1 73 17 := by have := P.1.1.1.2.2.1; omega
          have hΓ1 : Γ1.2.1 f = .tag 12 (.append e cl) := by rw [(P.1.2.2.1 f hf).2]; exact hΓ
          have HA : rHH (w_f w1 73 43 (((s_dp s + 1 : Nat) : Int) - 1)) Γ1 := rHH_same H1.1 (fun j q => w_f_ne _ _ _ _ _ _ (by omega)) (fun _ _ _ => rfl)
          have B1 := rRC_bd H1
          obtain ⟨e', cl', own, t1, t2, t3, -⟩ := H1.1.2.2.2.2 f f17
          rw [hΓ1] at t1
          cases t1
          have kl := kid_lt t3
          have tid : w1.2 79 (w1.2 85 f).toNat = ((e_id e / 60 : Nat) : Int) ∧ w1.2 80 (w1.2 85 f).toNat = ((e_id e % 60 : Nat) : Int) ∧ e_id e < 1000 := by
            rcases rEN_or t3 with ⟨k, nn, id, a', b', c', rfl⟩ | rfl
            · rw [rEN_ce] at t3
              exact ⟨t3.1.2.2.2.1, t3.1.2.2.2.2, t3.1.1.2⟩
            · cases t2
          have ff : ((f : Int)).toNat = f := by omega
          refine lk_213f (p := x) (p1 := w1.2 85 f) (p2 := w1.1 73 44) (R1 := fun y w' => rKW (w_f w1 73 43 (((s_dp s + 1 : Nat) : Int) - 1)) w' ∧ rKY w' e cl) (R2 := fun _ w'' => ∃ w', (rKW (w_f w1 73 43 (((s_dp s + 1 : Nat) : Int) - 1)) w' ∧ rKY w' e cl) ∧ rKQ w' w'' (s_me s1).length (w1.2 85 f) x (w1.1 73 44 - ((s_b s : Nat) : Int)) ∧ (∀ m, m < 10 → w''.2 117 (10 * (s_me s1).length + m) = w'.2 122 m) ∧ (∀ q, q < 45 → w''.2 121 (45 * (s_me s1).length + q) = rAw w' q) ∧ w''.1 73 70 = (((s_me s1).length : Nat) : Int) + 1) (by omega) (by omega) (by unfold am_rg; omega) (by omega) ((lk_215 (fr := fr - 1) HA (by unfold rBD; rw [w_f_ne _ _ _ _ _ _ (by decide), w_f_ne _ _ _ _ _ _ (by decide), w_f_ne _ _ _ _ _ _ (by decide)]; exact B1.1) (by rw [w_f_ne _ _ _ _ _ _ (by decide)]; omega) (by rw [w_f_ne _ _ _ _ _ _ (by decide)]; omega) (by rw [w_f_ne _ _ _ _ _ _ (by decide)]; exact f17) hf2 hΓ1 (by omega)).mono ?_) ?_ ?_ ?_
          · rintro r w' ⟨y', rfl, q1, ⟨-, -, q2⟩ | ⟨-, q2⟩⟩
            · exact ⟨y', rfl, q1, q2⟩
            · rw [fit] at q2; cases q2
          · rintro y' w' ⟨q1, -⟩
            rw [ff, q1.2 85 (by decide), q1.1 73 44 (by decide)]
            exact ⟨rfl, w_f_ne _ _ _ _ _ _ (by decide)⟩
          · rintro y' w' ⟨q1, q2⟩
            have b79 := q1.2 79 (by decide)
            have b103 := q1.2 103 (by decide)
            have b104 := q1.2 104 (by decide)
            have S3 := H1.2.2.2.2.1
            have q45 : w'.1 73 45 = w1.1 73 45 := by rw [q1.1 73 45 (by decide)]; exact w_f_ne _ _ _ _ _ _ (by decide)
            refine (lk_219 (k := (s_me s1).length) (by omega) (by rw [q1.1 73 70 (by decide), w_f_ne _ _ _ _ _ _ (by decide)]; exact e70) ln (by omega) (by unfold am_rg; omega) (by unfold am_rg at R44 ⊢; rw [D1.2.1]; omega) (by rw [q45]; unfold am_rg; omega) (fun m hm => ?_) (fun q hq => ?_)).mono ?_
            · rcases q2 m hm with ⟨z, -, z2, z3⟩ | ⟨-, z2⟩ <;> (rw [z2]; unfold am_rg; omega)
            · unfold rAw
              rw [b103, b104]
              split
              · have z := S3.2.2.1 q (by omega)
                show am_rg (w1.2 104 q)
                unfold am_rg
                omega
              · exact S3.2.2.2.2.2 (q - 42) (by omega)
            · rintro r w'' ⟨rfl, z⟩
              exact ⟨rfl, w', ⟨q1, q2⟩, z⟩
          · rintro z w'' ⟨w', ⟨q1, q2⟩, q3, q4, q5, q6⟩
            have C1 : ∀ b j, ¬ (b = 73 ∧ (j = 43 ∨ j = 70 ∨ j = 83 ∨ j = 84)) → w'.1 b j = w1.1 b j := fun b j q => by rw [q1.1 b j (by omega)]; exact w58 b j q
            have CB : ∀ b, b ≠ 122 → w'.2 b = w1.2 b := fun b q => by rw [q1.2 b q]; rfl
            have R5w : rS5 s1 w' := by
              unfold rS5 at R5 ⊢
              rw [q1.1 73 70 (by decide), w_f_ne _ _ _ _ _ _ (by decide), CB 114 (by decide), CB 115 (by decide), CB 116 (by decide), CB 117 (by decide), CB 118 (by decide), CB 119 (by decide), CB 120 (by decide), CB 121 (by decide)]
              exact R5
            have S3 := H1.2.2.2.2.1
            have K3 := q3
            obtain ⟨k3, k4, k5, ⟨k6, k7, k8, k9, k10, k11⟩, -, -⟩ := q3
            refine FIN w'' (.inl z) rfl (fun b j q => by rw [k3 b j (by omega), C1 b j q]) (fun b q => by rw [k4 b (by omega), CB b (by omega)]) (by rw [k3 73 43 (by decide), q1.1 73 43 (by decide)]; exact x43) (rS5_add R5w rfl ln K3 q6 ⟨⟨?_, ?_, tid.2.2, ?_, ?_, ?_⟩, ⟨?_, ?_, ?_, ?_⟩, fun m hm => ?_, ⟨a1, ?_, k1, k2⟩, fun q hq hA => ?_⟩ hmr)
            · rw [k6, CB 79 (by decide)]; exact tid.1
            · rw [k7, CB 80 (by decide)]; exact tid.2.1
            · rw [k8]
              show x = (v_num v).getD 0
              rw [hv]
              rfl
            · show -9999 ≤ (v_num v).getD 0
              rw [hv]
              exact hx.1
            · show (v_num v).getD 0 ≤ 9999
              rw [hv]
              exact hx.2
            · rw [k9, D1.2.1]
              show ((s_lt s1 : Nat) : Int) - ((s_b s : Nat) : Int) = ((s_lt s1 - s_b s : Nat) : Int)
              omega
            · show s_lt s1 - s_b s ≤ 100000
              omega
            · rw [k10, C1 73 45 (by omega)]; exact D1.1
            · show s_sn s1 ≤ 2000
              have z := D1.1
              omega
            · rw [q4 m hm]
              exact q2 m hm
            · rw [k11, C1 73 46 (by omega)]; exact k0
            · have hA : s_as s1 q = true := hA
              rw [q5 q hq]
              show C.1 q = some (rAw w' q) ∧ _
              obtain ⟨-, hi⟩ := D1.2.2 q hA
              unfold rAw
              rw [CB 103 (by decide), CB 104 (by decide)]
              by_cases c : q < 42
              · rw [if_pos c]
                exact S3.2.2.1 q c
              · rw [if_neg c]
                have z := S3.2.2.2.1 (q - 42) (by omega)
                rw [show 42 + (q - 42) = q by omega] at z
                rcases S3.2.1 with y1 | y1
                · rw [z.2 y1] at hi; cases hi
                · exact z.1 y1
        · refine lk_213d e43 rfl e40 rg40 ?_ (FIN _ am_X rfl w58 (fun b _ => rfl) x43 (M0 ?_))
          · have z := H1.2.2.2.2.2.2.1.1
            omega
          · rcases hme with ⟨-, q⟩ | ⟨⟨-, -, q⟩, -⟩
            · exact q
            · exact absurd q ln
      · refine lk_213c (k := w1.1 73 40) e43 rfl rfl ⟨by unfold am_rg; omega, by unfold am_rg; omega⟩ (fun q => nt (U40.2 q)) (FIN _ am_X rfl w58 (fun b _ => rfl) x43 (M0 ?_))
        rcases hme with ⟨-, q⟩ | ⟨⟨-, q, -⟩, -⟩
        · exact q
        · exact absurd q nt
end
