/-! ===== SET, SHOW ===== -/
section
variable {C : C_} {sil : Bool} {D : Prop} {qq : Int} {ft : Nat} {s s0 s1 s2 : S_} {w w0 w2 : W_} {Γ Γ0 Γ2 : rG_} {n n1 fr fr1 L id : Nat} {hb hb1 : Bool} {u : Nat → Bool} {v v1 v2 a b c e t : T_} {E E1 E2 : N_} {row : Nat} {x y nn r h o : Int} {r1 r2 r4 : K_} {R : Int} {P : Option am_V → W_ → Prop}
/-- a mark is told -/
theorem rTold {c : Int} {mk : T_} (kk : Nat) (H : rRC C sil D qq ft s w Γ) (hc : rCC w Γ c [mk]) (hk : w.2 92 c.toNat ≠ 50) (hm : rFL mk = [mk]) (hv : vc mk) (hnk : rNK mk = false) (hq : qq + 1 ≤ 400) : rRC C sil D (qq + 1) ft (u_tl (u_nd s kk) (v_chain (s_tl s) mk)) (w_f (w_a w 99 (w.1 73 35).toNat c) 73 35 (w.1 73 35 + 1)) Γ ∧ rPO n true s (u_tl (u_nd s kk) (v_chain (s_tl s) mk)) w Γ (w_f (w_a w 99 (w.1 73 35).toNat c) 73 35 (w.1 73 35 + 1)) Γ R := by
  have B := rRC_bd H
  have c1 : ∀ a j, ¬ (a = 73 ∧ j = 35) → (w_f (w_a w 99 (w.1 73 35).toNat c) 73 35 (w.1 73 35 + 1)).1 a j = w.1 a j := fun a j q => by rw [w_f_ne _ _ _ _ _ _ q]; rfl
  have c35 : (w_f (w_a w 99 (w.1 73 35).toNat c) 73 35 (w.1 73 35 + 1)).1 73 35 = w.1 73 35 + 1 := rfl
  have cb : ∀ b, b ≠ 99 → (w_f (w_a w 99 (w.1 73 35).toNat c) 73 35 (w.1 73 35 + 1)).2 b = w.2 b := fun b q => by rw [w_f2, w_a_2ne _ _ _ q]
  have d99 : ∀ k, (w_f (w_a w 99 (w.1 73 35).toNat c) 73 35 (w.1 73 35 + 1)).2 99 k = if k = (w.1 73 35).toNat then c else w.2 99 k := fun k => by
    rw [w_f2]
    show (if 99 = 99 ∧ k = (w.1 73 35).toNat then c else w.2 99 k) = _
    by_cases d : k = (w.1 73 35).toNat
    · rw [if_pos ⟨rfl, d⟩, if_pos d]
    · rw [if_neg (fun q => d q.2), if_neg d]
  generalize w_f (w_a w 99 (w.1 73 35).toNat c) 73 35 (w.1 73 35 + 1) = w' at c1 c35 cb d99 ⊢
  obtain ⟨q1, ⟨q2, q2'⟩, q3, q4, q5, q6, q7, ⟨⟨k1, k1', k1''⟩, k2, k3, k4, k5⟩, ⟨m, t1, t2⟩, t3, t4⟩ := H
  have X : ∀ R, rXT w Γ w' Γ R := fun R => rXT_same (fun j q => c1 73 j (by omega)) (fun b _ q => cb b (by omega))
  refine ⟨⟨rHH_same q1 (fun j q => c1 73 j (by omega)) (fun b _ q => cb b (by omega)), ⟨rFR_w (s := s) q2 (c1 _ _ (by omega)) (c1 _ _ (by omega)) (cb _ (by decide)), q2'⟩, ?_, rS2_w q4 (c1 _ _ (by omega)) (c1 _ _ (by omega)) (c1 _ _ (by omega)) ⟨rfl, rfl, rfl⟩, ?_, fun f hf => ?_, ?_, ⟨⟨?_, hq, k1''⟩, ?_, ?_, ?_, ?_⟩, ⟨m + 1, ?_, ?_⟩, ?_, ?_⟩, X R, rOt_mk (fun a j q => c1 a j (by omega)) (fun b q => cb b (by omega)), ⟨c1 73 33 (by omega), fun i _ => by rw [cb 98 (by decide)]⟩, ⟨by omega, fun i hi => by rw [d99, if_neg (by omega)], fun q => by cases q⟩, ⟨by rw [c1 73 40 (by omega)]; exact Int.le_refl _, Nat.le_refl _, ⟨fun _ => c1 73 40 (by omega), fun _ => rfl⟩⟩, by rw [c1 73 45 (by omega)]; omega, by rw [c1 73 21 (by omega)]; exact Int.le_refl _⟩
  · unfold rS1 at q3 ⊢
    rw [c1 73 39 (by omega), c1 73 43 (by omega), c1 73 15 (by omega), c1 73 80 (by omega), c1 73 81 (by omega), c1 73 79 (by omega)]
    exact q3
  · unfold rS3 at q5 ⊢
    rw [c1 73 62 (by omega), c1 73 47 (by omega), cb 104 (by decide), cb 103 (by decide), cb 74 (by decide), cb 75 (by decide), cb 76 (by decide)]
    exact q5
  · obtain ⟨z1, z2, z3⟩ := q6 f hf
    rw [cb 100 (by decide), cb 101 (by decide)]
    refine ⟨z1, z2, fun q => ?_⟩
    obtain ⟨rw', r1, r2, r3, r4⟩ := z3 q
    exact ⟨rw', r1, by rw [c1 73 15 (by omega)]; exact r2, r3, rNF_go r4 (fun j q => c1 73 j (by omega)) (cb 84 (by decide))⟩
  · unfold rS5 at q7 ⊢
    rw [c1 73 70 (by omega), cb 114 (by decide), cb 115 (by decide), cb 116 (by decide), cb 117 (by decide), cb 118 (by decide), cb 119 (by decide), cb 120 (by decide), cb 121 (by decide)]
    exact q7
  · rw [c1 73 26 (by omega), c1 73 21 (by omega), c1 73 33 (by omega), c35, cb 90 (by decide)]
    have ef : fcz (u_tl (u_nd s kk) (v_chain (s_tl s) mk)) = fcz s := rfl
    have et : s_tb (u_tl (u_nd s kk) (v_chain (s_tl s) mk)) = s_tb s := rfl
    rw [ef, et]
    omega
  · rw [c1 73 21 (by omega)]; exact k2
  · rw [c1 73 17 (by omega)]; exact k3
  · rw [c1 73 33 (by omega), c35]; omega
  · rw [c1 73 5 (by omega)]; exact k5
  · rw [c35, t1]; omega
  · have et : (w.1 73 35).toNat = ft + m := by omega
    rw [et] at d99
    refine ⟨rFL (s_tl s), [mk], rIT_mono (X (-1)) m _ (fun i hi => by rw [d99, if_neg (by omega)]) t2, ?_, fun q => by (cases q), Or.inr ?_, ?_⟩
    · rw [d99, if_pos rfl]; exact rCC_mono (X (-1)) hc
    · rw [d99, if_pos rfl, cb 92 (by decide)]; exact hk
    · show rFL (v_chain (s_tl s) mk) = _
      rw [rFL_chain, hm]
  · exact vc_chain t3 hv
  · intro z hz
    have hz : z ∈ rFL (v_chain (s_tl s) mk) := hz
    rw [rFL_chain, hm, List.mem_append, List.mem_singleton] at hz
    rcases hz with q | q
    · exact t4 z q
    · rw [q]; exact hnk
/-- what is told, bounded -/
theorem r_tel (h1 : 2 ≤ fr) (hx : 0 ≤ x ∧ x < 1024) (ho : am_rg o) (hq : o / 8 = y) (hn : w.2 78 x.toNat = nn) (nr : 0 ≤ nn ∧ nn < 100) (hy : -9999 ≤ y ∧ y ≤ 9999) (LL : ∀ z p2, p2 = (if nn % 2 = 0 then max 1 (min 3 y) else max 0 (min 3 y)) → zr206 fr P 123 x r h (.inl o) (.inl y) (.inl (nn % 2)) (.inl z) (.inl p2) w) : zr206 fr P 68 x r h (.inl o) am_X am_X am_X am_X w := by
  have yr : am_rg y := by unfold am_rg; omega
  have r1 : am_rg 1 := by unfold am_rg; omega
  have r0 : am_rg 0 := by unfold am_rg; omega
  by_cases c0 : nn % 2 = 0
  · rw [c0] at LL
    refine lk_206f_0 h1 hx ho hq hn nr c0 ?_
    by_cases c1 : y < 1
    · exact lk_206ga yr r1 c1 (LL 1 1 (by rw [if_pos rfl]; omega))
    · by_cases c3 : 3 < y
      · exact lk_206gb yr r1 ⟨c1, c3⟩ (LL 1 3 (by rw [if_pos rfl]; omega))
      · exact lk_206gc yr r1 ⟨c1, c3⟩ (LL 1 y (by rw [if_pos rfl]; omega))
  · have c1 : nn % 2 = 1 := by omega
    rw [c1] at LL
    refine lk_206f_1 h1 hx ho hq hn nr c1 ?_
    by_cases c1 : y < 0
    · exact lk_206ga yr r0 c1 (LL 0 0 (by rw [if_neg (by decide)]; omega))
    · by_cases c3 : 3 < y
      · exact lk_206gb yr r0 ⟨c1, c3⟩ (LL 0 3 (by rw [if_neg (by decide)]; omega))
      · exact lk_206gc yr r0 ⟨c1, c3⟩ (LL 0 y (by rw [if_neg (by decide)]; omega))
/-- no block -/
theorem rn_pl {k : Nat} (I : rIN C sil D qq ft n u s (ce k nn id a b c) E w Γ x row fr) (hk : k = 18 ∨ k = 19) (h : ev1 L C r1 r2 r4 sil (ce k nn id a b c) E false s = some (v, E1, s1)) (hs : s_b s1 ≤ 90000 ∧ s_nt s1 ≤ 900000) : ww_Ct 207 fr [.inr (.inr (.inl 73)), .inl x, .inl (row : Int), .inl (if false = true then 1 else 0)] w (rVO C sil D qq ft n false u s s1 v E1 row w Γ) := by
  have hq := I.2.1
  have hfr := I.2.2.2.2.2.2
  have X1 := (rIN_x I).1
  have Xk := (rIN_x I).2.1
  rw [ev1_pl hk] at h
  split at h
  · rename_i tb
    unfold o_bad at h
    cases h
    have hb1 : s_b s + 1 ≤ 90000 := hs.1
    obtain ⟨I1, P1⟩ := rIN_go (hb := false) I tb hb1
    have B := rRC_bd I1.1
    refine run_T rVO_yP (by omega) (by omega) Xk.1 hk (lk_206a (by omega) (by omega) rfl (by omega) ?_)
    obtain ⟨y, z1, Γ', g1, g2⟩ := rVO_trans P1 (Nat.le_refl _) (fun q => q) (Or.inl rfl) (bad_P (n := n) (hb := false) (c := 7) I1.1 I1.2.2.2.2.1 ⟨Xk.2.2.1, Xk.2.2.2⟩ hs.2)
    exact ⟨y, z1, Γ', rRC_qq g1 (by omega) (by omega), g2⟩
  · cases h
/-- in a block: the part is run -/
theorem run_tel {k : Nat} (I : rIN C sil D qq ft n u s (ce k nn id a b c) E w Γ x row fr) (hn : n1 + 1 ≤ n) (h1 : rSK C sil n1 r1) (M1 : eMK r1) (hk : k = 18 ∨ k = 19) (h : ev1 L C r1 r2 r4 sil (ce k nn id a b c) E true s = some (v, E1, s1)) (hs : s_b s1 ≤ 90000 ∧ s_nt s1 ≤ 900000) (Lk : ∀ v1 E2 s2 rv w2 Γ2, o_mark C k nn id v1 (ce k nn id a b c) E2 s2 = some (v, E1, s1) → rIN C sil D (qq - 3) ft n u s2 (ce k nn id a b c) E2 w2 Γ2 x row fr → rVF w2 Γ2 v1 rv → rPO n true s s2 w Γ w2 Γ2 (row : Int) → zr206 (fr - 1) (rVO C sil D qq ft n true u s s1 v E1 row w Γ) 26 x (row : Int) 1 (.inl rv) am_X am_X am_X am_X w2) : ww_Ct 207 fr [.inr (.inr (.inl 73)), .inl x, .inl (row : Int), .inl (if true = true then 1 else 0)] w (rVO C sil D qq ft n true u s s1 v E1 row w Γ) := by
  have hfr := I.2.2.2.2.2.2
  have X1 := (rIN_x I).1
  have Xk := (rIN_x I).2.1
  have p1 : 1 ≤ j_par k ∧ k ≠ 15 := by rcases hk with rfl | rfl <;> decide
  rw [ev1_one (Or.inr (Or.inr (Or.inr (Or.inr (Or.inr ⟨hk, rfl⟩)))))] at h
  split at h
  · rename_i tb
    cases hr : r1 sil a E true (u_go s) with
    | none => rw [hr] at h; cases h
    | some z =>
      obtain ⟨v1, E2, s2⟩ := z
      rw [hr] at h
      have h0 : o_one L C k nn id a v1 (ce k nn id a b c) E2 s2 = some (v, E1, s1) := h
      have h : o_mark C k nn id v1 (ce k nn id a b c) E2 s2 = some (v, E1, s1) := by
        rcases hk with rfl | rfl <;> exact h0
      have lt : s_lt (u_go s) ≤ s_b (u_go s) := by have := rIN_lt I; show s_lt s ≤ s_b s + 1; omega
      have m1 := M1 _ _ _ _ _ _ _ _ hr lt
      have hs2 := oo_le (hb := true) (fun _ => rfl) h0 m1.2.2.2.2.1 hs
      have hb1 : s_b s + 1 ≤ 90000 := Nat.le_trans m1.1 hs2.1
      obtain ⟨I1, P1⟩ := rIN_go (hb := true) I tb hb1
      have ea := (rIN_x I1).2.2.2.2.1 p1.1
      rw [if_neg p1.2] at ea
      refine run_T rVO_yP (by omega) (by omega) Xk.1 hk ?_
      refine lk_206b (R := fun y w' => rVO C sil D (qq - 3) ft n1 true u (u_go s) s2 v1 E2 row (r_b1 w) Γ (some (.inl y)) w') (by omega) (by omega) rfl ((rSK_to h1 hr (rIN_kid (n1 := n1) (fr1 := fr - 1 - 1) I1 ea (fun m q => nm_a q) (by omega)) hs2).mono (yP_m rVO_yP)) ?_
      rintro rv w2 ⟨y, q, Γ2, g1, g2, g3, g4⟩
      cases q
      exact Lk v1 E2 s2 rv w2 Γ2 h (rIN_next I1 g1 g4 g3) g2 (rPO_trans P1 g4 (Nat.le_refl _) (by omega) (fun q => q) (fun q => q) (Or.inl rfl) (Or.inl rfl))
  · cases h
/-- SET -/
theorem rn_18 (I : rIN C sil D qq ft n u s (ce 18 nn id a b c) E w Γ x row fr) (hn : n1 + 1 ≤ n) (h1 : rSK C sil n1 r1) (M1 : eMK r1) (h : ev1 L C r1 r2 r4 sil (ce 18 nn id a b c) E hb s = some (v, E1, s1)) (hs : s_b s1 ≤ 90000 ∧ s_nt s1 ≤ 900000) : ww_Ct 207 fr [.inr (.inr (.inl 73)), .inl x, .inl (row : Int), .inl (if hb = true then 1 else 0)] w (rVO C sil D qq ft n hb u s s1 v E1 row w Γ) := by
  cases hb with
  | false => exact rn_pl I (Or.inl rfl) h hs
  | true =>
    refine run_tel I hn h1 M1 (Or.inl rfl) h hs (fun v1 E2 s2 rv w2 Γ2 h I2 V P => ?_)
    have hq := I.2.1
    have hfr := I.2.2.2.2.2.2
    have B := rRC_bd I2.1
    have X1 := (rIN_x I2).1
    have Xk := (rIN_x I2).2.1
    have nr := (rIN_x I2).2.2.1.2
    obtain ⟨rg, T⟩ := rVt V B.1
    unfold o_mark at h
    rcases T with ⟨e1, e2⟩ | ⟨z, e1, e2, e3, e4⟩ | ⟨e1, e2, e3, e4⟩
    · rw [e1] at h
      cases h
      exact lk_206c (by omega) rg e2 (rVO_W I2 hq P)
    · rw [e1] at h
      have h : some (v0, E2, u_tl (u_nd s2 2) (v_chain (s_tl s2) (.tag 10 (.tag (nn % 2).toNat (.nest (if nn % 2 = 0 then max 1 (min 3 z) else max 0 (min 3 z)) .nil))))) = some (v, E1, s1) := h
      refine lk_206e_18 (by omega) (by omega) rg e2 Xk.1 (r_tel (by omega) (by omega) rg e3 Xk.2.1 nr e4 (fun zz p2 hp => ?_))
      rw [← hp] at h
      have PP : ∃ p : Nat, (nn % 2).toNat = p ∧ nn % 2 = (p : Int) ∧ p < 2 := ⟨_, rfl, by omega, by omega⟩
      obtain ⟨p, ep, ep2, ep3⟩ := PP
      rw [ep] at h
      have b2 : (p = 0 → 1 ≤ p2) ∧ 0 ≤ p2 ∧ p2 ≤ 3 := by rw [hp]; split <;> omega
      have T10 : rLf (.tag 10 (.tag p (.nest p2 .nil))) := ⟨10, _, rfl, by omega⟩
      have W10 : ∀ s : Nat, (v_wq (.tag 10 (.tag p (.nest p2 .nil))) s).1 = 0 := fun s => by
        rcases p with _ | p <;> rfl
      rw [ep2]
      refine lk_206h_18 (n := nn) (R := fun y w' => ∃ Γ', rRC C sil D (qq - 3 + 1) ft s2 w' Γ' ∧ rCC w' Γ' y [.tag 10 (.tag p (.nest p2 .nil))] ∧ rPO n true s2 s2 w2 Γ2 w' Γ' (-1) ∧ w'.2 92 y.toNat = 18 ∧ w'.1 73 35 = w2.1 73 35) (by omega) (by omega) Xk.1 Xk.2.1 (by omega) ?_ (fun y w' g => by obtain ⟨Γ', _, _, _, _, g5⟩ := g; exact g5) ?_
      · refine (lk_newE (n := n) (hb := true) (R := -1) (t := .tag 10 (.tag p (.nest p2 .nil))) (y := fun _ => 0) I2.1 (by omega) (by omega) T10 rfl (by decide) (fun s _ => ?_) (fun v _ _ _ s _ _ => lk_189_x (by omega) (by omega) (by omega)) (fun m w' Γ' em X' G2 f1 f2 f3 f4 => ?_)).mono ?_
        · show (0 : Int) = ((m9 ((v_wq (.tag 10 (.tag p (.nest p2 .nil))) (s + 1)).1 + 0) : Nat) : Int)
          rw [W10]; rfl
        · unfold rLF
          exact ⟨f1, f2, f3, ep3, b2.1, b2.2⟩
        · rintro r w' ⟨y, rfl, yr, Γ', g1, g2, g3, g4, g5, g6, g7⟩
          exact ⟨y, rfl, Γ', g1, g2, g3, g4, g6⟩
      · rintro y w' ⟨Γ', g1, g2, g3, g4, g5⟩
        obtain ⟨k1, k2⟩ := rTold (n := n) (R := (row : Int)) 2 g1 g2 (by rw [g4]; decide) (rFL_tag (by omega)) (vc_10 (by omega)) rfl (by omega)
        rw [g5] at k1 k2
        have N2 := rNF_mono g3.1 I2.2.2.2.2.2.1.1 (by omega) I2.2.2.2.2.1
        have hrow := rOW (rPO_wk g3 (n := n) (hb := true) (R := (row : Int)) (Nat.le_refl _) (fun q => q) (by omega)) I2.2.2.2.2.2.1
        have P3 := rPO_trans (n := n) (hb := true) (R := (row : Int)) P g3 (Nat.le_refl _) (Nat.le_refl _) (fun q => q) (fun q => q) (Or.inl rfl) (by omega)
        have P4 := rPO_trans (n := n) (hb := true) (R := (row : Int)) P3 k2 (Nat.le_refl _) (Nat.le_refl _) (fun q => q) (fun q => q) (Or.inl rfl) (Or.inl rfl)
        have N3 : rNF (w_f (w_a w' 99 (w2.1 73 35).toNat y) 73 35 (w2.1 73 35 + 1)) Γ' u E2 row := rNF_go N2 (fun j q => by rw [w_f_ne _ _ _ _ _ _ (by omega)]; rfl) (by rw [w_f2, w_a_2ne _ _ _ (by decide)])
        cases h
        exact ⟨0, rfl, Γ', rRC_qq k1 (by omega) (by omega), rVF_0, N3, P4⟩
    · rw [if_neg (by rw [e1]; decide), if_pos rfl, e2] at h
      unfold o_bad at h
      cases h
      exact lk_206d_18 (by omega) (by omega) rg rfl ⟨e3, e4⟩ Xk.1 (by omega) (rVO_bad I2 hq P hs.2)
/-- SHOW -/
theorem rn_19 (I : rIN C sil D qq ft n u s (ce 19 nn id a b c) E w Γ x row fr) (hn : n1 + 1 ≤ n) (h1 : rSK C sil n1 r1) (M1 : eMK r1) (h : ev1 L C r1 r2 r4 sil (ce 19 nn id a b c) E hb s = some (v, E1, s1)) (hs : s_b s1 ≤ 90000 ∧ s_nt s1 ≤ 900000) : ww_Ct 207 fr [.inr (.inr (.inl 73)), .inl x, .inl (row : Int), .inl (if hb = true then 1 else 0)] w (rVO C sil D qq ft n hb u s s1 v E1 row w Γ) := by
  cases hb with
  | false => exact rn_pl I (Or.inr rfl) h hs
  | true =>
    refine run_tel I hn h1 M1 (Or.inr rfl) h hs (fun v1 E2 s2 rv w2 Γ2 h I2 V P => ?_)
    have hq := I.2.1
    have hfr := I.2.2.2.2.2.2
    have B := rRC_bd I2.1
    have X1 := (rIN_x I2).1
    have Xk := (rIN_x I2).2.1
    have nr := (rIN_x I2).2.2.1.2
    have eI := I2.2.2.1
    obtain ⟨rg, T⟩ := rVt V B.1
    have T3 := rVt3 V B.1
    have bd := B.1.1
    unfold o_mark at h
    by_cases w1 : v_isW v1 = true
    · rw [if_pos w1] at h
      cases h
      rcases T with ⟨e1, e2⟩ | ⟨z, e1, e2, e3, e4⟩ | ⟨e1, e2, e3, e4⟩
      · exact lk_206c (by omega) rg e2 (rVO_W I2 hq P)
      · rw [e1] at w1; cases w1
      · rw [e1] at w1; cases w1
    · rw [if_neg w1, if_neg (by decide)] at h
      have n5 : rv % 8 ≠ 5 := fun q => w1 (by
        rcases T with ⟨e1, e2⟩ | ⟨z, e1, e2, e3, e4⟩ | ⟨e1, e2, e3, e4⟩
        · rw [e1]; rfl
        · omega
        · exact absurd q e3)
      rcases T3 with ⟨e1, e2, f, e3, e4, e5⟩ | ⟨e1, e2⟩
      · rw [if_pos e1] at h
        refine lk_206e_19 (by omega) (by omega) rg e2 Xk.1 (r_tel (by omega) (by omega) rg e4 Xk.2.1 nr (by omega) (fun zz p2 hp => ?_))
        have T11 : rLf (.tag 11 (.tag nn.toNat (.append (ce 19 nn id a b c) v1))) := ⟨11, _, rfl, by omega⟩
        refine lk_206h_19 (n := nn) (R := fun y w' => ∃ Γ', rRC C sil D (qq - 3 + 1) ft s2 w' Γ' ∧ rCC w' Γ' y [.tag 11 (.tag nn.toNat (.append (ce 19 nn id a b c) v1))] ∧ rPO n true s2 s2 w2 Γ2 w' Γ' (-1) ∧ w'.2 92 y.toNat = 19 ∧ w'.1 73 35 = w2.1 73 35) (by omega) (by omega) Xk.1 Xk.2.1 (by omega) ?_ (fun y w' g => by obtain ⟨Γ', _, _, _, _, g5⟩ := g; exact g5) ?_
        · refine (lk_newE (n := n) (hb := true) (R := -1) (t := .tag 11 (.tag nn.toNat (.append (ce 19 nn id a b c) v1))) (y := fun _ => 0) I2.1 (by omega) (by omega) T11 rfl (by decide) (fun _ _ => rfl) (fun v _ _ _ s _ _ => lk_189_x (by omega) (by omega) (by omega)) (fun m w' Γ' em X' G2 f1 f2 f3 f4 => ?_)).mono ?_
          · unfold rLF
            have m17 := X'.1.1.2.2.1
            refine ⟨f1, by rw [f2]; omega, by omega, ?_, f, by rw [f3], by omega, ?_, e1, rfl⟩
            · rw [f4]; exact rEN_X X' eI
            · rw [(X'.2.2.1 f e5).2]; exact e3.symm
          · rintro r w' ⟨y, rfl, yr, Γ', g1, g2, g3, g4, g5, g6, g7⟩
            exact ⟨y, rfl, Γ', g1, g2, g3, g4, g6⟩
        · rintro y w' ⟨Γ', g1, g2, g3, g4, g5⟩
          obtain ⟨k1, k2⟩ := rTold (n := n) (R := (row : Int)) 2 g1 g2 (by rw [g4]; decide) (rFL_tag (by omega)) vc_11 rfl (by omega)
          rw [g5] at k1 k2
          have N2 := rNF_mono g3.1 I2.2.2.2.2.2.1.1 (by omega) I2.2.2.2.2.1
          have P3 := rPO_trans (n := n) (hb := true) (R := (row : Int)) P g3 (Nat.le_refl _) (Nat.le_refl _) (fun q => q) (fun q => q) (Or.inl rfl) (by omega)
          have P4 := rPO_trans (n := n) (hb := true) (R := (row : Int)) P3 k2 (Nat.le_refl _) (Nat.le_refl _) (fun q => q) (fun q => q) (Or.inl rfl) (Or.inl rfl)
          have N3 : rNF (w_f (w_a w' 99 (w2.1 73 35).toNat y) 73 35 (w2.1 73 35 + 1)) Γ' u E2 row := rNF_go N2 (fun j q => by rw [w_f_ne _ _ _ _ _ _ (by omega)]; rfl) (by rw [w_f2, w_a_2ne _ _ _ (by decide)])
          cases h
          exact ⟨0, rfl, Γ', rRC_qq k1 (by omega) (by omega), rVF_0, N3, P4⟩
      · rw [if_neg (by rw [e1]; decide)] at h
        unfold o_bad at h
        cases h
        exact lk_206d_19 (by omega) (by omega) rg rfl ⟨n5, e2⟩ Xk.1 (by omega) (rVO_bad I2 hq P hs.2)
end
