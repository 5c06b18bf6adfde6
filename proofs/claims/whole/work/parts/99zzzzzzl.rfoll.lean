/-! ===== the reference runs a body ===== -/
theorem bz_lor_n {a b : Nat} (ha : a < 35184372088832) (hb : b < 35184372088832) : bz_lor (a : Int) (b : Int) = ((a ||| b : Nat) : Int) ∧ a ||| b < 35184372088832 := by
  have h45 : (2 : Nat) ^ 45 = 35184372088832 := by decide
  refine ⟨?_, ?_⟩
  · unfold bz_lor
    rw [bit_or64 (by omega) (by omega) (by omega) (by omega), Int.toNat_natCast, Int.toNat_natCast]
  · have := Nat.or_lt_two_pow (n := 45) (x := a) (y := b) (by rw [h45]; exact ha) (by rw [h45]; exact hb)
    rw [h45] at this
    exact this
/-- the names of a function: those kept, its own -/
def rOwE (own : Option Nat) (cl fn : T_) : N_ := match own with
  | some m => n_set (n_get cl) m fn
  | none => n_get cl
section
variable {C : C_} {sil : Bool} {D : Prop} {qq : Int} {ft : Nat} {s s1 s2 sa : S_} {w w1 w' : W_} {Γ Γ1 : rG_} {n n' n1 fr : Nat} {hb : Bool} {u : Nat → Bool} {v v1 e cl : T_} {E E1 : N_} {row : Nat} {R a : Int} {rec : K_}
/-- one more name is known -/
theorem rNF_add {m : Nat} (h : rNF w Γ (fun k => u k && !(k == m)) E row) (hv : E m = some v) (hr : rVF w Γ v (w.2 84 (10 * row + m))) : rNF w Γ u E row := by
  intro k hk hu
  by_cases c : k = m
  · rw [c, hv]
    refine ⟨fun q => by (cases q), fun v' q => ?_⟩
    cases q
    exact hr
  · refine h k hk ?_
    show (u k && !(k == m)) = true
    rw [hu, beq_eq_false_iff_ne.2 c]
    rfl
theorem lk_211 {f : Nat} (H : rRC C sil D qq ft sa w Γ) (hf : (f : Int) < w.1 73 17) (hf2 : f < 2048) (hΓ : Γ.2.1 f = .tag 12 (.append e cl)) (V : rVF w Γ v a) (h : rec sil (e_part e) (n_body e cl v (.tag 12 (.append e cl))) false (u_rw sa (s_rw sa + 1)) = some (v1, E1, s1)) (hK : rSK C sil n1 rec) (rwb : s_rw sa < 2040) (hq : qq ≤ 395) (hs : s_b s1 ≤ 90000 ∧ s_nt s1 ≤ 900000) (hfr : 2 * n1 + 1011 ≤ fr) : ww_Ct 211 fr [.inr (.inr (.inl 73)), .inl (f : Int), .inl a] w fun r w' => ∃ y, r = some (.inl y) ∧ ∃ Γ', rRC C sil D qq ft s1 w' Γ' ∧ rVF w' Γ' v1 y ∧ rPO n1 false sa s1 w Γ w' Γ' (-1) := by
  have B := rRC_bd H
  obtain ⟨e', cl', own, h1, h2, h3, h4, h5, h6, frow, h7, h8, h9, h10⟩ := H.1.2.2.2.2 f hf
  rw [hΓ] at h1
  cases h1
  rcases rEN_or h3 with ⟨k, nn, id, a', b', c', rfl⟩ | rfl
  · have k16 : k = 16 := h2
    subst k16
    have hE := h3
    rw [rEN_ce] at hE
    obtain ⟨⟨hx, hk, hn, -, -⟩, kr, -, -, e1, -, -, -, -, -⟩ := hE
    have ea := e1 (by decide)
    rw [if_neg (by decide)] at ea
    have f0 : (0 : Int) ≤ (f : Int) ∧ (f : Int) < 2048 := by omega
    have ff : ((f : Int)).toNat = f := by omega
    have S1 := H.2.2.1.2.2.1
    have e15 : w.1 73 15 = ((s_rw sa : Nat) : Int) := S1.1
    have n0 : 0 ≤ nn ∧ nn < 100 := kr.2
    have par : (nn % 10).toNat < 10 := by omega
    obtain ⟨H1, P1, N1, q15, Z1⟩ := rCopy (row := frow) (n := n1) (hb := false) (R := -1) false H e15 (by omega) rwb
    have N1 := N1 _ _ h10
    have B1 := rRC_bd H1
    have V1 := rVF_mono P1.1 V
    have VF : rVF (r_copy w (frow : Int)) (rGz Γ (s_rw sa) false) (.tag 12 (.append (ce 16 nn id a' b' c') cl)) (8 * (f : Int) + 3) := ⟨vv_12 _, Or.inr (Or.inr (Or.inr (Or.inl ⟨f, by rw [(P1.1.2.2.1 f hf).2]; exact hΓ.symm, rfl, rfl, by have := P1.1.1.1.2.2.1; omega⟩)))⟩
    have ea1 := rEN_X P1.1 ea
    have c78 : (r_copy w (frow : Int)).2 78 = w.2 78 := r_copy_b _ _ (by decide)
    have c87 : (r_copy w (frow : Int)).2 87 = w.2 87 := r_copy_b _ _ (by decide)
    have c81 : (r_copy w (frow : Int)).2 81 = w.2 81 := r_copy_b _ _ (by decide)
    have P1' : rPO n1 false sa (u_rw sa (s_rw sa + 1)) w Γ (r_copy w (frow : Int)) (rGz Γ (s_rw sa) false) (-1) := P1
    refine lk_211a (m := w.2 85 f) (o := (frow : Int)) (by omega) f0 (by rw [ff]) (by rw [ff]; exact h7) ⟨⟨by omega, by omega⟩, by omega, by omega⟩ ?_
    rw [e15]
    generalize r_copy w (frow : Int) = w1 at *
    generalize rGz Γ (s_rw sa) false = Γ1 at *
    have eu : ∀ m, e_use (ce 16 nn id a' b' c') m = (e_nm a' m && !((nn % 10).toNat == m || e_own (ce 16 nn id a' b' c') == some m)) := fun m => rfl
    rw [h4] at eu
    have row1 : ((s_rw sa : Nat) : Int) < w1.1 73 15 ∧ Γ1.2.2.2 (s_rw sa) = false := ⟨by omega, Z1⟩
    have MID : ∀ (w2 : W_) (E2 : N_), rRC C sil D qq ft (u_rw sa (s_rw sa + 1)) w2 Γ1 → rPO n1 false (u_rw sa (s_rw sa + 1)) (u_rw sa (s_rw sa + 1)) w1 Γ1 w2 Γ1 ((s_rw sa : Nat) : Int) → rNF w2 Γ1 (e_use (ce 16 nn id a' b' c')) E2 (s_rw sa) → (∀ m, own = some m → E2 m = some (.tag 12 (.append (ce 16 nn id a' b' c') cl)) ∧ w2.2 84 (10 * s_rw sa + m) = 8 * (f : Int) + 3) → E2 = rOwE own cl (.tag 12 (.append (ce 16 nn id a' b' c') cl)) → zr211 fr (fun r w' => ∃ y, r = some (.inl y) ∧ ∃ Γ', rRC C sil D qq ft s1 w' Γ' ∧ rVF w' Γ' v1 y ∧ rPO n1 false sa s1 w Γ w' Γ' (-1)) 51 (f : Int) a (w.2 85 f) ((s_rw sa : Nat) : Int) w2 := by
      intro w2 E2 H2 P2 N2 hown hE2
      have X2 := P2.1
      have A2 := X2.1.2 (w.2 85 f).toNat (by omega) (by have := P1'.1.1.1.1; omega)
      have row2 : ((s_rw sa : Nat) : Int) < w2.1 73 15 ∧ Γ1.2.2.2 (s_rw sa) = false := rOW P2 row1
      have V2 := rVF_mono X2 V1
      obtain ⟨H3, P3, N3⟩ := rStore (m := (nn % 10).toNat) (n := n1) (hb := false) H2 N2 row2 V2 par
      have idx : (10 * ((s_rw sa : Nat) : Int) + nn % 10).toNat = 10 * s_rw sa + (nn % 10).toNat := by omega
      have VF3 := rVF_mono P3.1 (rVF_mono X2 VF)
      have V3 := rVF_mono P3.1 V2
      have B2 := rRC_bd H2
      have ea2 := rEN_X X2 ea1
      have kl := kid_lt ea2
      have e84 : ∀ j, (w_a w2 84 (10 * s_rw sa + (nn % 10).toNat) a).2 84 j = if j = 10 * s_rw sa + (nn % 10).toNat then a else w2.2 84 j := fun j => by
        show (if 84 = 84 ∧ j = 10 * s_rw sa + (nn % 10).toNat then a else w2.2 84 j) = _
        by_cases d : j = 10 * s_rw sa + (nn % 10).toNat
        · rw [if_pos ⟨rfl, d⟩, if_pos d]
        · rw [if_neg (fun q => d q.2), if_neg d]
      have e78 : w2.2 78 (w.2 85 f).toNat = nn := by rw [A2.1.2.1, c78]; exact hn
      have e81 : w2.2 81 (3 * w.2 85 f + 0).toNat = w.2 81 (3 * (w.2 85 f).toNat) := by
        rw [show (3 * w.2 85 f + 0).toNat = 3 * (w.2 85 f).toNat by omega, A2.2.2.1, c81]
      refine lk_211d (n := nn) (p := w.2 81 (3 * (w.2 85 f).toNat)) (R := fun y w' => rVO C sil D qq ft n1 false (e_nm a') (u_rw sa (s_rw sa + 1)) s1 v1 E1 (s_rw sa) (w_a w2 84 (10 * s_rw sa + (nn % 10).toNat) a) Γ1 (some (.inl y)) w') (by omega) (by omega) (by omega) e78 n0 e81 ?_ ?_
      · rw [idx]
        have EB : n_body (ce 16 nn id a' b' c') cl v (.tag 12 (.append (ce 16 nn id a' b' c') cl)) = n_set E2 (nn % 10).toNat v := by
          unfold n_body
          rw [h4, hE2]
          rfl
        rw [EB] at h
        have N4 : rNF (w_a w2 84 (10 * s_rw sa + (nn % 10).toNat) a) Γ1 (e_nm a') (n_set E2 (nn % 10).toNat v) (s_rw sa) := by
          intro m hm hu
          by_cases c1 : m = (nn % 10).toNat
          · have es : n_set E2 (nn % 10).toNat v m = some v := by unfold n_set; rw [if_pos c1]
            rw [es, e84, if_pos (by omega)]
            refine ⟨fun q => by (cases q), fun v' q => ?_⟩
            cases q
            exact V3
          · have es : n_set E2 (nn % 10).toNat v m = E2 m := by unfold n_set; rw [if_neg c1]
            by_cases c2 : own = some m
            · obtain ⟨o1, o2⟩ := hown m c2
              rw [es, e84, if_neg (by omega), o1, o2]
              refine ⟨fun q => by (cases q), fun v' q => ?_⟩
              cases q
              exact VF3
            · refine N3 m hm ?_
              rw [eu, hu, beq_eq_false_iff_ne.2 (fun q => c1 q.symm), beq_eq_false_iff_ne.2 c2]
              rfl
        have er : (rec sil a' (n_set E2 (nn % 10).toNat v) false (u_rw sa (s_rw sa + 1))) = some (v1, E1, s1) := h
        exact (rSK_to hK er (fr := fr - 1) (u := e_nm a') ⟨H3, hq, rEN_X P3.1 ea2, fun m _ q => q, N4, rOW P3 row2, by omega⟩ hs).mono (yP_m rVO_yP)
      · rintro y w3 ⟨y', q, Γ3, g1, g2, g3, g4⟩
        cases q
        have P4 := rPO_trans (n := n1) (hb := false) (R := ((s_rw sa : Nat) : Int)) P2 (rPO_trans (n := n1) (hb := false) (R := ((s_rw sa : Nat) : Int)) P3 g4 (Nat.le_refl _) (Nat.le_refl _) (fun q => q) (fun q => q) (Or.inl rfl) (Or.inl rfl)) (Nat.le_refl _) (Nat.le_refl _) (fun q => q) (fun q => q) (Or.inl rfl) (Or.inl rfl)
        exact ⟨y, rfl, Γ3, g1, g2, rPO_trans P1' P4 (Nat.le_refl _) (Nat.le_refl _) (fun q => q) (fun q => q) (Or.inl rfl) (by omega)⟩
    cases own with
    | none =>
      refine lk_211b f0 (by rw [c87, ff]; exact h6) (MID w1 _ H1 rPO_rfl N1 (fun m q => by (cases q)) rfl)
    | some m0 =>
      have m10 := h5 m0 rfl
      obtain ⟨H2, P2, N2⟩ := rStore (m := m0) (n := n1) (hb := false) H1 N1 row1 VF m10
      have idx : (10 * ((s_rw sa : Nat) : Int) + (m0 : Int)).toNat = 10 * s_rw sa + m0 := by omega
      refine lk_211c (o := (m0 : Int)) (by omega) f0 (by omega) (by rw [c87, ff]; exact h6) (by omega) ?_
      rw [idx]
      refine MID _ _ H2 P2 N2 (fun m q => ?_) rfl
      cases q
      refine ⟨by unfold n_set; rw [if_pos rfl], ?_⟩
      show (if 84 = 84 ∧ 10 * s_rw sa + m0 = 10 * s_rw sa + m0 then 8 * (f : Int) + 3 else _) = _
      rw [if_pos ⟨rfl, rfl⟩]
  · cases h2
/-- behind a body, ahead of it: E's state -/
theorem rRC_fin {D0 : Prop} {me : List R_} {dp sn lt : Nat} {as : Nat → Bool} (H : rRC C sil D0 qq ft s1 w1 Γ1) (c1 : ∀ a j, ¬ (a = 73 ∧ (j = 43 ∨ j = 44 ∨ j = 45 ∨ j = 46 ∨ j = 70 ∨ j = 83 ∨ j = 84)) → w'.1 a j = w1.1 a j) (cb : ∀ b, b < 114 ∨ 122 < b → w'.2 b = w1.2 b) (h43 : w'.1 73 43 = ((dp : Nat) : Int) ∧ dp ≤ 8) (hlt : lt ≤ s_b s1) (h2 : rS2 C D (u_as (u_sn (u_lt (u_dp (u_me s1 me) dp) lt) sn) as) w') (h5 : rS5 (u_me s1 me) w') : rRC C sil D qq ft (u_as (u_sn (u_lt (u_dp (u_me s1 me) dp) lt) sn) as) w' Γ1 := by
  obtain ⟨q1, ⟨q2, q2'⟩, ⟨⟨p1, p2, p3, p4⟩, q4, q5, q6, q7⟩, -, q9, q10, -, q11, q12⟩ := H
  refine ⟨rHH_same q1 (fun j q => c1 73 j (by omega)) (fun b _ q => cb b (by omega)), ⟨rFR_w (s := s1) q2 (c1 _ _ (by omega)) (c1 _ _ (by omega)) (cb _ (by omega)), q2'⟩, ⟨⟨?_, p2, p3, hlt⟩, h43, ?_, ?_, ?_⟩, h2, ?_, fun f hf => ?_, h5, ?_, ?_⟩
  · rw [c1 73 39 (by omega)]; exact p1
  · rw [c1 73 15 (by omega)]; exact q5
  · rw [c1 73 80 (by omega), c1 73 81 (by omega)]; exact q6
  · rw [c1 73 79 (by omega)]; exact q7
  · unfold rS3 at q9 ⊢
    rw [c1 73 62 (by omega), c1 73 47 (by omega), cb 104 (by omega), cb 103 (by omega), cb 74 (by omega), cb 75 (by omega), cb 76 (by omega)]
    exact q9
  · obtain ⟨z1, z2, z3⟩ := q10 f hf
    rw [cb 100 (by omega), cb 101 (by omega)]
    refine ⟨z1, z2, fun q => ?_⟩
    obtain ⟨rw', r1, r2, r3, r4⟩ := z3 q
    exact ⟨rw', r1, by rw [c1 73 15 (by omega)]; exact r2, r3, rNF_go r4 (fun j q => c1 73 j (by omega)) (cb 84 (by omega))⟩
  · unfold rS6 at q11 ⊢
    rw [c1 73 26 (by omega), c1 73 21 (by omega), c1 73 33 (by omega), c1 73 35 (by omega), c1 73 17 (by omega), c1 73 5 (by omega), cb 90 (by omega)]
    exact q11
  · unfold rTl at q12 ⊢
    rw [c1 73 35 (by omega)]
    obtain ⟨⟨n, t1, t2⟩, t3, t4⟩ := q12
    exact ⟨⟨n, t1, rIT_mono (rXT_same (R := -1) (fun j q => c1 73 j (by omega)) (fun b _ q => cb b (by omega))) n _ (fun i _ => by rw [cb 99 (by omega)]) t2⟩, t3, t4⟩
theorem rPO_fin {me : List R_} {dp sn lt : Nat} {as : Nat → Bool} (P : rPO n' false s s1 w Γ w1 Γ1 R) (c1 : ∀ a j, ¬ (a = 73 ∧ (j = 43 ∨ j = 44 ∨ j = 45 ∨ j = 46 ∨ j = 70 ∨ j = 83 ∨ j = 84)) → w'.1 a j = w1.1 a j) (cb : ∀ b, b < 114 ∨ 122 < b → w'.2 b = w1.2 b) (h45 : w'.1 73 45 ≤ max (w.1 73 45) (n : Int)) : rPO n false s (u_as (u_sn (u_lt (u_dp (u_me s1 me) dp) lt) sn) as) w Γ w' Γ1 R := by
  obtain ⟨a1, a2, ⟨a3, a4⟩, ⟨a5, a6, a7⟩, ⟨a8, a9, a10⟩, -, a12⟩ := P
  have X : ∀ R, rXT w1 Γ1 w' Γ1 R := fun R => rXT_same (fun j q => c1 73 j (by omega)) (fun b _ q => cb b (by omega))
  refine ⟨rXT_trans a1 (X R) (Or.inl rfl) (Or.inl rfl), rOt_tr a2 (rOt_mk (fun a j q => c1 a j (by omega)) (fun b q => cb b (by omega))), ⟨by rw [c1 73 33 (by omega)]; exact a3, fun i hi => by rw [cb 98 (by omega)]; exact a4 i hi⟩, ⟨by rw [c1 73 35 (by omega)]; exact a5, fun i hi => by rw [cb 99 (by omega)]; exact a6 i hi, fun q => by rw [c1 73 35 (by omega)]; exact a7 q⟩, ⟨by rw [c1 73 40 (by omega)]; exact a8, a9, by rw [c1 73 40 (by omega)]; exact a10⟩, h45, by rw [c1 73 21 (by omega)]; exact a12⟩
end
