/-! ===== the class runs as the evaluator: numbers, names, questions, two parts, IF ===== -/
theorem eW_ce {w : W_} {hb : Bool} {k : Nat} {n : Int} {id : Nat} {a b c : T_} (h : eW w 0 hb (ce k n id a b c)) : (id < 180 ∧ w_g w 3 id = k ∧ w_g w 5 id = n ∧ 0 ≤ n ∧ n < 100 ∧ 6 ≤ k ∧ k ≤ 31 ∧ w.2 46 (id / 60) ≠ 0) ∧
      (k = 18 ∨ k = 19 → w_g w 37 (id * 9 + 6) = if hb = true then 1 else 0) ∧
      (k = 8 → w_g w 37 (id * 9) - 1 = it_id a ∧ eW w 1 true a) ∧
      (1 ≤ j_par k → w_g w 37 (id * 9 + 0) - 1 = e_id a ∧ eW w 0 (if k = 16 ∨ k = 22 then false else hb) a) ∧
      (2 ≤ j_par k → w_g w 37 (id * 9 + 1) - 1 = e_id b ∧ eW w 0 hb b) ∧
      (3 ≤ j_par k → w_g w 37 (id * 9 + 2) - 1 = e_id c ∧ eW w 0 hb c) ∧
      (k = 16 ∨ k = 22 → (0 ≤ w_g w 37 (id * 9 + 4) ∧ w_g w 37 (id * 9 + 4) < 1024 ∧ ∀ m, m < 10 → ((w_g w 37 (id * 9 + 4)).toNat >>> m % 2 = 1 ↔ e_use (ce k n id a b c) m = true)) ∧ (w_g w 37 (id * 9 + 5) = if e_imp a = true then 1 else 0) ∧ (k = 16 → w_g w 37 (id * 9 + 7) - 1 = match e_own (ce k n id a b c) with
        | some m => (m : Int)
        | none => -1)) := by
  obtain ⟨⟨h1, h2, h3, h4, h5, h6, h7⟩, g⟩ := h
  obtain ⟨ga, gb, gc⟩ := tI_ce g
  exact ⟨h1, h2, fun q => ⟨(h3 q).1, (h3 q).2, ga⟩, fun q => ⟨(h4 q).1, (h4 q).2, ga⟩, fun q => ⟨(h5 q).1, (h5 q).2, gb⟩, fun q => ⟨(h6 q).1, (h6 q).2, gc⟩, h7.1⟩
section
variable {C : C_} {sil : Bool} {o a0 : Nat} {D : Prop} {K0 : Int} {hb : Bool} {s s1 : S_} {E E1 : N_} {w : W_} {fr : Nat} {Q : Option am_V → W_ → Prop} {i : Int} {k : Nat} {n : Int} {id : Nat} {a b c v : T_}
/-- what goes on behind an expression -/
abbrev cK (C : C_) (sil : Bool) (o a0 : Nat) (D : Prop) (K0 : Int) (hb : Bool) (s s1 : S_) (E1 : N_) (w : W_) (v : T_) (fr : Nat) (Q : Option am_V → W_ → Prop) (i : Int) : Prop := ∀ i' w', i ≤ i' → i' + 12 * (s_b s : Int) ≤ i + 12 * (s_b s1 : Int) → RD C sil o a0 D K0 hb s1 E1 w' → w'.1 33 1 = w.1 33 1 → fQ (w.1 33 1) hb w w' → vW_ w' v (w'.1 41 11) → w'.1 41 10 = -1 → dr fr Q i' w'
theorem sim_6 (H : RD C sil o a0 D K0 hb s E w) (he : eW w 0 hb (ce 6 n id a b c)) (hd : w.1 41 10 = id) (hf : 20 ≤ fr) (hi : 0 ≤ i ∧ i ≤ 900000) (ht : s_tb s < 2000) (hB : s_b s < 90000) (K : cK C sil o a0 D K0 hb s (u_go s) E w (vN n) fr Q i) : dr fr Q i w := by
  obtain ⟨⟨h1, h2, h3, h4, h5, -⟩, -⟩ := eW_ce he
  refine dr_due (f := 6) (by omega) ⟨by unfold am_rg; omega, by omega⟩ (lk_82n hd (by omega) h2 h3 ⟨h4, h5⟩) (by omega) fun w' hw => ?_
  rw [hw]
  refine sim_fin (w0 := w) (RD_bg H ht (by omega)) (w_bg_n w) (oQ_fQ (oQ_bg (RD_oK H.1))) (w_bg_d w) (vW_N (by omega)) fun w1 g1 g2 g3 g4 g5 => K (i + 1) w1 (by omega) ?_ g1 g2 g3 g4 g5
  show i + 1 + 12 * (s_b s : Int) ≤ i + 12 * ((s_b s + 1 : Nat) : Int)
  omega
theorem wg_row {w : W_} {n : Int} {m : Nat} (h0 : 0 ≤ w.1 41 12) (hn : n % 10 = m) : w_g w 42 (w.1 41 12 * 10 + n % 10) = w.2 42 ((w.1 41 12).toNat * 10 + m) := by
  unfold w_g
  have e : (w.1 41 12 * 10 + n % 10).toNat = (w.1 41 12).toNat * 10 + m := by omega
  rw [if_neg (by omega), e]
theorem sim_7 (H : RD C sil o a0 D K0 hb s E w) (he : eW w 0 hb (ce 7 n id a b c)) (hd : w.1 41 10 = id) (hf : 20 ≤ fr) (hi : 0 ≤ i ∧ i ≤ 900000) (ht : s_tb s < 2000) (hB : s_b s < 90000) (hN : s_nt s1 ≤ 900000) (he1 : o_name C id (E (n % 10).toNat) E (u_go s) = some (v, E1, s1)) (K : cK C sil o a0 D K0 hb s s1 E1 w v fr Q i) : dr fr Q i w := by
  obtain ⟨⟨h1, h2, h3, h4, h5, -⟩, -⟩ := eW_ce he
  have hc := H.2.2.2.2.1
  have hrw := H.1.2.2.1.2.2.2.2.2.2.1
  have hrow := H.2.1 (n % 10).toNat (by omega)
  have hb10 : 0 ≤ w.1 41 12 ∧ w.1 41 12 < 2300 := by omega
  have er : w_g w 42 (w.1 41 12 * 10 + n % 10) = w.2 42 ((w.1 41 12).toNat * 10 + (n % 10).toNat) := wg_row hb10.1 (by omega)
  cases q : E (n % 10).toNat with
  | none =>
    rw [q] at hrow he1
    cases he1
    refine dr_due (f := 6) (by omega) ⟨by unfold am_rg; omega, by omega⟩ (lk_82u hd (by omega) h2 h3 ⟨h4, h5⟩ hb10 (er.trans hrow) (CR_o H.1).2) (by omega) fun w' hw => ?_
    rw [hw]
    have hcode : (100000 * 4 + w_spot (id : Int)) = f_code 4 id := f_code_w 4 id
    rw [hcode]
    have H1 := RD_val (x := 20005) (RD_bg H ht (by omega)) (Or.inr rfl)
    have hN' : s_nt s + 1 ≤ 900000 := hN
    have ho := RD_oK H.1
    have g1 : oQ (w.1 33 1) w (w_f (w_bg w) 41 11 20005) := oQ_tr (oQ_bg ho) (oQ_val (oK_x (oQ_bg (n := 0) ho).2.2.2 ho) (Or.inr rfl))
    have ho1 := oK_x g1.2.2.2 ho
    have g2 := oQ_tr g1 (oQ_nt (x := f_code 4 id) ho1)
    have e33 : (w_f (w_bg w) 41 11 20005).1 33 1 = w.1 33 1 := by rw [w_f1, w_u_at, if_neg (by decide)]; exact w_bg_n w
    have e10 : (w_f (w_bg w) 41 11 20005).1 41 10 = -1 := by rw [w_f1, w_u_at, if_neg (by decide)]; exact w_bg_d w
    refine sim_fin (w0 := w) (RD_nt (f := f_code 4 id) H1 (by show s_nt s < 1000000; omega)) ((w_nt_n ho1).1.trans e33) (oQ_fQ g2) ((w_nt_n ho1).2.1.trans e10) vW_W fun w1 g1 g2 g3 g4 g5 => K (i + 1) w1 (by omega) ?_ g1 g2 g3 g4 g5
    show i + 1 + 12 * (s_b s : Int) ≤ i + 12 * ((s_b s + 1 : Nat) : Int)
    omega
  | some x =>
    rw [q] at hrow he1
    cases he1
    have hx := cR_lt H.1.2.2.1.2.2.2.1.1 hrow.1
    have hn0 := H.1.2.2.1.2.2.2.1
    have hnd := H.1.2.2.1.2.2.2.2
    have hne : w.2 42 ((w.1 41 12).toNat * 10 + (n % 10).toNat) ≠ 20005 := by
      intro q5
      have h9 := hrow.1
      rw [q5] at h9
      unfold cR at h9
      split at h9
      all_goals first | (have := h9.1.1; omega) | (have := h9.1; omega) | omega | (exact h9.elim)
    refine dr_due (f := 6) (by omega) ⟨by unfold am_rg; omega, by omega⟩ (lk_82v hd (by omega) h2 h3 ⟨h4, h5⟩ hb10 er ⟨by unfold am_rg; omega, hne⟩) (by omega) fun w' hw => ?_
    rw [hw]
    refine sim_fin (w0 := w) (RD_bg H ht (by omega)) (w_bg_n w) (oQ_fQ (oQ_bg (RD_oK H.1))) (w_bg_d w) ?_ fun w1 g1 g2 g3 g4 g5 => K (i + 1) w1 (by omega) ?_ g1 g2 g3 g4 g5
    · exact vW_x (oQ_bg (n := 0) (RD_oK H.1)).2.2.2 hn0.1 hrow
    · show i + 1 + 12 * (s_b s : Int) ≤ i + 12 * ((s_b s + 1 : Nat) : Int)
      omega
/-- two parts, one behind the other: ahead of the last step -/
theorem sim_two {r1 : K_} (N1 : eNK r1) (M1 : eMK r1) (h1 : cSK C sil o K0 r1) {s2 s3 : S_} {E2 E3 : N_} {x : T_} (H : RD C sil o a0 D K0 hb s E w) (he : eW w 0 hb (ce k n id a b c)) (hk : k = 9 ∨ k = 10 ∨ k = 11 ∨ k = 12 ∨ k = 13 ∨ k = 30) (hd : w.1 41 10 = id) (hf : 20 ≤ fr) (hi : 0 ≤ i) (hi2 : i + 12 * (s_b s3 : Int) ≤ 900000 + 12 * (s_b s : Int)) (ht : s_tb s < 2000) (hB : s_b s3 ≤ 90000 ∧ s_nt s3 ≤ 900000) (hD : D → e_imp (ce k n id a b c) = false ∧ n_ni E) (hr : r1 sil a E hb (u_go s) = some (v, E2, s2)) (hr2 : r1 sil b E2 hb s2 = some (x, E3, s3))
    (K : ∀ i' w' y, i ≤ i' → i' + 1 + 12 * (s_b s : Int) ≤ i + 12 * (s_b s3 : Int) → RD C sil o a0 D K0 hb s3 E3 w' → w'.1 33 1 = w.1 33 1 + 1 → fQ (w.1 33 1) hb w w' → f_t w' 0 = 0 → f_t w' 1 = id → f_t w' 2 = 2 → f_t w' 3 = y → vW_ w' v y → vW_ w' x (w'.1 41 11) → w'.1 41 10 = -1 → dr fr Q i' w') : dr fr Q i w := by
  obtain ⟨⟨g1, g2, g3, g4, g5, g6, g7, -⟩, -, -, ga, gb, -, -⟩ := eW_ce he
  have hjp : 2 ≤ j_par k := by rcases hk with rfl | rfl | rfl | rfl | rfl | rfl <;> decide
  have hhb : (if k = 16 ∨ k = 22 then false else hb) = hb := if_neg (by omega)
  have hl0 := H.2.2.2.2.2.1
  have m1 := M1 _ _ _ _ _ _ _ _ hr (Nat.le_succ_of_le hl0)
  have m2 := M1 _ _ _ _ _ _ _ _ hr2 m1.2.2.2.2.1
  have mb1 : s_b s + 1 ≤ s_b s2 := m1.1
  have mb2 : s_b s2 ≤ s_b s3 := m2.1
  have mn2 : s_nt s2 ≤ s_nt s3 := m2.2.1
  have hcnt := H.2.2.2.1
  have htx : hb = true → w.1 41 13 < w.1 33 1 := fun q => (H.2.2.1 q).1.2
  have ho := RD_oK H.1
  refine dr_due (f := 6) (by omega) ⟨by unfold am_rg; omega, by omega⟩ (lk_82p hd (by omega) g2 g3 ⟨g4, g5⟩ (by unfold am_rg; omega) (by omega) (lk_84a (w := w_bg w) (by omega) (by rw [w_bg_n]; omega))) (by omega) fun w1 hw1 => ?_
  -- the frame stands
  have R1 : RD C sil o a0 D K0 hb (u_go s) E w1 := by
    rw [hw1]
    refine RD_pu (RD_bg H ht (by omega)) ?_
    rw [w_bg_n]
    show _ ≤ 19990 + 2 * ((s_tb s + 1 : Nat) : Int)
    omega
  have O1 : oQ (w.1 33 1) w w1 := by
    rw [hw1]
    exact oQ_tr (oQ_bg ho) (oQ_pu (oK_x (oQ_bg (n := 0) ho).2.2.2 ho) (by rw [w_bg_n]; omega) (by rw [w_bg_n]; omega))
  have c1 : w1.1 33 1 = w.1 33 1 + 1 := by rw [hw1, w_pu1, if_pos ⟨rfl, rfl⟩, w_bg_n]
  have d1 : w1.1 41 10 = -1 := by rw [hw1, w_pu1, if_neg (by decide)]; rfl
  have F1 : ∀ g : Int, 0 ≤ g ∧ g < 13 → f_t w1 g = if g = 0 then 0 else if g = 1 then (id : Int) else 0 := fun g hg => by
    rw [hw1]
    exact f_t_pu (by rw [w_bg_n]; omega) hg
  have ho1 := oK_x O1.2.2.2 ho
  have t1 : w1.1 41 13 = w.1 41 13 := O1.1.2
  clear hw1
  have e1 : eW w1 0 hb (ce k n id a b c) := eW_x O1.2.2.2 he
  obtain ⟨-, -, -, ga1, -⟩ := eW_ce e1
  obtain ⟨ga2, ga3⟩ := ga1 (by omega)
  rw [hhb] at ga3
  have hct : w1.1 33 1 < 24000 := by rw [c1]; omega
  -- the first part
  refine dr_0 (f := 6) (by omega) d1 (by omega) (by rw [F1 0 (by decide)]; rfl) (lk_85a (id := id) (st := 0) (by rw [F1 1 (by decide)]; rfl) (by rw [F1 2 (by decide)]; rfl) (by omega) (by omega) (by omega)) (by omega) (by omega) fun w2 hw2 => ?_
  have htx1 : hb = true → w1.1 41 13 < w1.1 33 1 - 1 := fun q => by have := htx q; rw [t1]; omega
  have cA : (w_fs w1 3 (w1.1 41 11)).1 33 1 = w1.1 33 1 := rfl
  have R2 : RD C sil o a0 D K0 hb (u_go s) E w2 := by
    rw [hw2]
    exact RD_val (RD_fs (RD_fs R1 (by omega) (by decide) htx1) (by rw [cA]; omega) (by decide) htx1) (Or.inl rfl)
  have O2 : oQ (w.1 33 1) w1 w2 := by
    rw [hw2]
    have z1 : oQ (w.1 33 1) w1 (w_fs w1 3 (w1.1 41 11)) := oQ_fs ho1 (by omega) (by omega) (by decide)
    have z2 : oQ (w.1 33 1) (w_fs w1 3 (w1.1 41 11)) (w_fs (w_fs w1 3 (w1.1 41 11)) 2 (0 + 1)) := oQ_fs (oK_x z1.2.2.2 ho1) (by rw [cA]; omega) (by rw [cA]; omega) (by decide)
    exact oQ_tr (oQ_tr z1 z2) (oQ_val (oK_x z2.2.2.2 (oK_x z1.2.2.2 ho1)) (Or.inl rfl))
  have c2 : w2.1 33 1 = w.1 33 1 + 1 := by rw [hw2, w_f1, w_u_at, if_neg (by decide)]; exact c1
  have d2 : w2.1 41 10 = e_id a := by rw [hw2, w_f1, w_u_at, if_pos ⟨rfl, rfl⟩]; exact ga2
  have F2 : ∀ g : Int, 0 ≤ g ∧ g < 13 → g ≠ 3 → f_t w2 g = if g = 2 then 1 else f_t w1 g := fun g hg h3 => by
    rw [hw2, f_t_f (by decide), f_t_fs0 (by show 1 ≤ w1.1 33 1; omega) (by decide) hg.1]
    split
    · rfl
    · rw [f_t_fs0 (by omega) (by decide) hg.1, if_neg h3]
  have ho2 := oK_x O2.2.2.2 ho1
  have t2 : w2.1 41 13 = w.1 41 13 := O2.1.2.trans t1
  clear hw2
  have hDa : D → e_imp a = false ∧ n_ni E := fun q => ⟨(e_imp_ce (hD q).1).2.1, (hD q).2⟩
  refine h1 a E hb (u_go s) v E2 s2 hr a0 D w2 fr Q (i + 1 + 1) R2 (eW_x O2.2.2.2 ga3) d2 hDa hf (by omega) ?_ ⟨by omega, by omega⟩ fun i3 w3 l1 l2 R3 c3 Q3 v3 d3 => ?_
  · show i + 1 + 1 + 12 * (s_b s2 : Int) ≤ 900000 + 12 * ((s_b s + 1 : Nat) : Int)
    omega
  have l2 : i3 + 12 * ((s_b s + 1 : Nat) : Int) ≤ i + 1 + 1 + 12 * (s_b s2 : Int) := l2
  rw [c2] at c3
  have htx2 : hb = true → w2.1 41 13 < w2.1 33 1 - 1 := fun q => by have := htx q; rw [t2]; omega
  have F3 : ∀ g : Int, 0 ≤ g ∧ g < 13 → f_t w3 g = f_t w2 g := fun g hg => f_t_Q Q3 (by rw [c3, c2]) (by omega) htx2 hg
  have Q3' : fQ (w.1 33 1) hb w2 w3 := fQ_le Q3 (by omega)
  have QQ3 : fQ (w.1 33 1) hb w w3 := fQ_tr (oQ_fQ (oQ_tr O1 O2)) Q3'
  have t3 : w3.1 41 13 = w.1 41 13 := Q3.1.2.trans t2
  have ho3 := oK_x Q3.2.2.2 ho2
  have e3 : eW w3 0 hb (ce k n id a b c) := eW_x QQ3.2.2.2 he
  obtain ⟨-, -, -, -, gb1, -⟩ := eW_ce e3
  obtain ⟨gb2, gb3⟩ := gb1 hjp
  have hct3 : w3.1 33 1 < 24000 := by
    have := R3.2.2.2.1
    have := R3.1.2.2.1.2.2.2.2.2.1
    omega
  have htx3 : hb = true → w3.1 41 13 < w3.1 33 1 - 1 := fun q => by have := htx q; rw [t3]; omega
  -- the second part
  refine dr_0 (f := 6) (by omega) d3 (by omega) (by rw [F3 0 (by decide), F2 0 (by decide) (by decide), if_neg (by decide), F1 0 (by decide)]; rfl) (lk_85a (id := id) (st := 1) (by rw [F3 1 (by decide), F2 1 (by decide) (by decide), if_neg (by decide), F1 1 (by decide)]; rfl) (by rw [F3 2 (by decide), F2 2 (by decide) (by decide), if_pos rfl]) (by omega) (by omega) (by omega)) (by omega) (by omega) fun w4 hw4 => ?_
  have cB : (w_fs w3 3 (w3.1 41 11)).1 33 1 = w3.1 33 1 := rfl
  have R4 : RD C sil o a0 D K0 hb s2 E2 w4 := by
    rw [hw4]
    exact RD_val (RD_fs (RD_fs R3 (by omega) (by decide) htx3) (by rw [cB]; omega) (by decide) htx3) (Or.inl rfl)
  have O4 : oQ (w.1 33 1) w3 w4 := by
    rw [hw4]
    have z1 : oQ (w.1 33 1) w3 (w_fs w3 3 (w3.1 41 11)) := oQ_fs ho3 (by omega) (by omega) (by decide)
    have z2 : oQ (w.1 33 1) (w_fs w3 3 (w3.1 41 11)) (w_fs (w_fs w3 3 (w3.1 41 11)) 2 (1 + 1)) := oQ_fs (oK_x z1.2.2.2 ho3) (by rw [cB]; omega) (by rw [cB]; omega) (by decide)
    exact oQ_tr (oQ_tr z1 z2) (oQ_val (oK_x z2.2.2.2 (oK_x z1.2.2.2 ho3)) (Or.inl rfl))
  have c4 : w4.1 33 1 = w.1 33 1 + 1 := by rw [hw4, w_f1, w_u_at, if_neg (by decide)]; exact c3
  have d4 : w4.1 41 10 = e_id b := by rw [hw4, w_f1, w_u_at, if_pos ⟨rfl, rfl⟩]; exact gb2
  have F4 : ∀ g : Int, 0 ≤ g ∧ g < 13 → f_t w4 g = if g = 2 then 2 else if g = 3 then w3.1 41 11 else f_t w3 g := fun g hg => by
    rw [hw4, f_t_f (by decide), f_t_fs0 (by show 1 ≤ w3.1 33 1; omega) (by decide) hg.1]
    split
    · rfl
    · rw [f_t_fs0 (by omega) (by decide) hg.1]
  have ho4 := oK_x O4.2.2.2 ho3
  have t4 : w4.1 41 13 = w.1 41 13 := O4.1.2.trans t3
  have v4 : vW_ w4 v (w3.1 41 11) := vW_x O4.2.2.2 R3.1.2.2.1.2.2.2.1.1 v3
  clear hw4
  have hDb : D → e_imp b = false ∧ n_ni E2 := fun q => ⟨(e_imp_ce (hD q).1).2.2.1, (N1 _ _ _ _ _ _ _ _ hr (hDa q).1 (hDa q).2).2.2⟩
  refine h1 b E2 hb s2 x E3 s3 hr2 a0 D w4 fr Q (i3 + 1) R4 (eW_x O4.2.2.2 gb3) d4 hDb hf (by omega) (by omega) hB fun i5 w5 l3 l4 R5 c5 Q5 v5 d5 => ?_
  rw [c4] at c5
  have htx4 : hb = true → w4.1 41 13 < w4.1 33 1 - 1 := fun q => by have := htx q; rw [t4]; omega
  have F5 : ∀ g : Int, 0 ≤ g ∧ g < 13 → f_t w5 g = f_t w4 g := fun g hg => f_t_Q Q5 (by rw [c5, c4]) (by omega) htx4 hg
  have Q5' : fQ (w.1 33 1) hb w4 w5 := fQ_le Q5 (by omega)
  refine K i5 w5 (w3.1 41 11) (by omega) (by omega) R5 c5 (fQ_tr QQ3 (fQ_tr (oQ_fQ O4) Q5')) ?_ ?_ ?_ ?_ (vW_x Q5.2.2.2 R4.1.2.2.1.2.2.2.1.1 v4) v5 d5
  · rw [F5 0 (by decide), F4 0 (by decide), if_neg (by decide), if_neg (by decide), F3 0 (by decide), F2 0 (by decide) (by decide), if_neg (by decide), F1 0 (by decide)]; rfl
  · rw [F5 1 (by decide), F4 1 (by decide), if_neg (by decide), if_neg (by decide), F3 1 (by decide), F2 1 (by decide) (by decide), if_neg (by decide), F1 1 (by decide)]; rfl
  · rw [F5 2 (by decide), F4 2 (by decide), if_pos rfl]
  · rw [F5 3 (by decide), F4 3 (by decide), if_neg (by decide), if_pos rfl]
end
