/-! ===== the class runs as the evaluator: questions ===== -/
section
variable {C : C_} {sil : Bool} {o a0 : Nat} {D : Prop} {K0 : Int} {hb : Bool} {s s1 : S_} {E E1 : N_} {w : W_} {fr : Nat} {Q : Option am_V → W_ → Prop} {i : Int} {k : Nat} {n : Int} {id : Nat} {a b c v : T_}
theorem CR_ask {q : Nat} (H : CR C sil o a0 D K0 s w) (hq : q < 45) (hn : w.1 17 3 + 1 ≤ 46 * min (s_b s) 300 + s_tb s) : CR C sil o a0 D K0 (u_as s fun p => p == q || s_as s p) (w_f (w_a w 22 (w.1 17 3).toNat q) 17 3 (w.1 17 3 + 1)) := by
  obtain ⟨Ha, Hb, Hc, Hm⟩ := H
  have ho := Ha.1.1
  have e : ∀ a j, ¬ (a = 17 ∧ j = 3) → (w_f (w_a w 22 (w.1 17 3).toNat q) 17 3 (w.1 17 3 + 1)).1 a j = w.1 a j := fun a j h => by rw [w_f1, w_u_at, if_neg h]; rfl
  have e3 : (w_f (w_a w 22 (w.1 17 3).toNat q) 17 3 (w.1 17 3 + 1)).1 17 3 = w.1 17 3 + 1 := by rw [w_f1, w_u_at, if_pos ⟨rfl, rfl⟩]
  have e2 : ∀ b, b ≠ 22 → (w_f (w_a w 22 (w.1 17 3).toNat q) 17 3 (w.1 17 3 + 1)).2 b = w.2 b := fun b h => w_a_2ne w _ _ h
  have e22 : ∀ j, (w_f (w_a w 22 (w.1 17 3).toNat q) 17 3 (w.1 17 3 + 1)).2 22 j = if j = (w.1 17 3).toNat then (q : Int) else w.2 22 j := fun j => by
    show w_u w.2 22 _ (q : Int) 22 j = _
    rw [w_u_at]
    by_cases c : j = (w.1 17 3).toNat
    · rw [if_pos ⟨rfl, c⟩, if_pos c]
    · rw [if_neg (fun r => c r.2), if_neg c]
  refine ⟨?_, ?_, ?_, ?_⟩
  · unfold CRa at Ha ⊢
    rw [e 17 7 (by decide), e 17 4 (by decide), e 17 5 (by decide), e 17 6 (by decide), e o 5 (by omega), e2 (o + 3) (by omega), e2 18 (by decide)]
    exact Ha
  · unfold CRb at Hb ⊢
    rw [e3, e 41 14 (by decide), e 41 15 (by decide), e 41 16 (by decide), e 41 17 (by decide)]
    obtain ⟨⟨m, m1, m2, m3, m4, m5⟩, r⟩ := Hb
    refine ⟨⟨m + 1, by omega, by omega, by show m + 1 ≤ 46 * min (s_b s) 300 + s_tb s; omega, fun j hj => ?_, fun p hp => ?_⟩, r⟩
    · rw [e22, m1]
      split
      · omega
      · exact m4 j (by omega)
    · show (p == q || s_as s p) = true ↔ _
      rw [Bool.or_eq_true, m5 p hp]
      constructor
      · rintro (r | ⟨j, j1, j2, j3⟩)
        · refine ⟨m, m2, Nat.lt_succ_self m, ?_⟩
          rw [e22, if_pos (by omega), beq_iff_eq.mp r]
        · refine ⟨j, j1, by omega, ?_⟩
          rw [e22, if_neg (by omega)]
          exact j3
      · rintro ⟨j, j1, j2, j3⟩
        rw [e22] at j3
        by_cases c : j = (w.1 17 3).toNat
        · rw [if_pos c] at j3
          exact Or.inl (beq_iff_eq.mpr (by omega))
        · rw [if_neg c] at j3
          exact Or.inr ⟨j, j1, by omega, j3⟩
  · unfold CRc fW0 at Hc ⊢
    rw [e o 7 (by omega), e o 8 (by omega), e 13 2 (by decide), e2 46 (by decide), e2 13 (by decide), e2 3 (by decide), e2 5 (by decide), e2 37 (by decide), e2 44 (by decide), e2 7 (by decide)]
    exact Hc
  · unfold CRm at Hm ⊢
    rw [e 10 1 (by decide), e 13 2 (by decide), e 13 3 (by decide), e2 11 (by decide), e2 13 (by decide), e2 3 (by decide), e2 5 (by decide), e2 7 (by decide)]
    exact Hm
theorem oQ_ask {m : Int} {q : Int} {j : Nat} {x : Int} (ho : oK w) (hj : w.1 17 3 ≤ (j : Int)) (hx : w.1 17 3 ≤ x) : oQ m w (w_f (w_a w 22 j q) 17 3 x) := by
  have e : ∀ a i, ¬ (a = 17 ∧ i = 3) → (w_f (w_a w 22 j q) 17 3 x).1 a i = w.1 a i := fun a i h => by rw [w_f1, w_u_at, if_neg h]; rfl
  have e2 : ∀ b, b ≠ 22 → (w_f (w_a w 22 j q) 17 3 x).2 b = w.2 b := fun b h => w_a_2ne w _ _ h
  refine ⟨⟨e _ _ (by decide), e _ _ (by decide)⟩, fun k _ => by rw [e2 34 (by decide)], e2 42 (by decide), ⟨by rw [e _ _ (by decide)]; omega, fun k _ => by rw [e2 13 (by decide)]⟩, fun i => e _ _ (by omega), ⟨e2 _ (by decide), e2 _ (by decide), e2 _ (by decide), e2 _ (by decide), e2 _ (by decide), e2 _ (by decide), by rw [w_f1, w_u_at, if_pos ⟨rfl, rfl⟩]; exact hx, fun k hk => by
    show w_u w.2 22 j q 22 k = _
    rw [w_u_at, if_neg (by omega)], rQ_1 (fun a j q => e _ _ (by omega)) (fun b q => e2 _ (by omega))⟩, ⟨e _ _ (by decide), e2 _ (by omega), e _ _ (by omega)⟩, fun m hb t h => ?_⟩
  unfold eW0 at h ⊢
  rw [e2 3 (by decide), e2 5 (by decide), e2 37 (by decide), e2 46 (by decide), e2 7 (by decide)]
  exact h
theorem sim_ask {q : Nat} (H : RD C sil o a0 D K0 hb s E w) (hd : w.1 41 10 = id) (hid : id < 180) (hq : q < 45) (hf : 20 ≤ fr) (hi : 0 ≤ i ∧ i ≤ 900000) (ht : s_tb s < 2000) (hB : s_b s < 90000 ∧ s_nt s1 ≤ 900000) (hc : ∀ P : W_ → Prop, (ww_Ct 83 5 [.inr (.inr (.inl 41)), .inl id, .inl q] (w_bg w) fun r w' => r = none ∧ P w') → ww_Ct 82 6 [.inr (.inr (.inl 41))] w fun r w' => r = none ∧ P w') (hr : o_ask C q id E (u_go s) = some (v, E1, s1)) (K : cK C sil o a0 D K0 hb s s1 E1 w v fr Q i) : dr fr Q i w := by
  have HB := RD_bg H ht (by omega)
  have ho := RD_oK H.1
  have O1 : oQ (w.1 33 1) w (w_bg w) := oQ_bg ho
  have hoB := oK_x O1.2.2.2 ho
  obtain ⟨m, m1, m2, m3, -⟩ := H.1.2.1.1
  have e3 : (w_bg w).1 17 3 = w.1 17 3 := by rw [w_bg1, if_neg (by decide), if_neg (by decide)]
  have hnow := HB.1.1.2.2.2 q hq
  have htb := H.1.2.2.1.2.2.2.2.2.1
  have wq : w_g (w_bg w) 18 q = (w_bg w).2 18 q := by
    unfold w_g
    rw [if_neg (by omega)]
    rfl
  have kn := (CR_o HB.1).2
  unfold o_ask at hr
  cases cq : C.1 q with
  | none =>
    rw [cq] at hr hnow
    cases hr
    have hN : s_nt s + 1 ≤ 900000 := hB.2
    have hx : w_g (w_bg w) 18 q = 20005 := wq.trans hnow
    refine dr_due (f := 6) (by omega) ⟨by unfold am_rg; omega, by omega⟩ (hc _ (lk_83 (x0 := id) (x1 := q) (w := w_bg w) ⟨kn, by omega, by unfold am_rg; omega, by rw [hx]; unfold am_rg; omega, by rw [e3]; omega⟩)) (by omega) fun w' hw => ?_
    rw [hw, hx, if_pos rfl]
    have hcode : (100000 * 7 + w_spot (id : Int)) = f_code 7 id := f_code_w 7 id
    rw [hcode]
    have H1 := RD_val (j := 11) (x := 20005) HB (Or.inr rfl)
    have g1 : oQ (w.1 33 1) w (w_f (w_bg w) 41 11 20005) := oQ_tr O1 (oQ_val hoB (Or.inr rfl))
    have ho1 := oK_x g1.2.2.2 ho
    have e33 : (w_f (w_bg w) 41 11 20005).1 33 1 = w.1 33 1 := by rw [w_f1, w_u_at, if_neg (by decide)]; exact w_bg_n w
    have e10 : (w_f (w_bg w) 41 11 20005).1 41 10 = -1 := by rw [w_f1, w_u_at, if_neg (by decide)]; exact w_bg_d w
    refine sim_fin (w0 := w) (RD_nt (f := f_code 7 id) H1 (by show s_nt s < 1000000; omega)) ((w_nt_n ho1).1.trans e33) (oQ_fQ (oQ_tr g1 (oQ_nt ho1))) ((w_nt_n ho1).2.1.trans e10) vW_W fun w1 g1 g2 g3 g4 g5 => K (i + 1) w1 (by omega) ?_ g1 g2 g3 g4 g5
    show i + 1 + 12 * (s_b s : Int) ≤ i + 12 * ((s_b s + 1 : Nat) : Int)
    omega
  | some x =>
    rw [cq] at hr hnow
    cases hr
    have hx : w_g (w_bg w) 18 q = x := wq.trans hnow.1
    refine dr_due (f := 6) (by omega) ⟨by unfold am_rg; omega, by omega⟩ (hc _ (lk_83 (x0 := id) (x1 := q) (w := w_bg w) ⟨kn, by omega, by unfold am_rg; omega, by rw [hx]; unfold am_rg; omega, by rw [e3]; omega⟩)) (by omega) fun w' hw => ?_
    rw [hw, hx, if_neg (by omega)]
    have H1 := RD_val (j := 11) (x := x) HB (Or.inr rfl)
    have g1 : oQ (w.1 33 1) w (w_f (w_bg w) 41 11 x) := oQ_tr O1 (oQ_val hoB (Or.inr rfl))
    have ho1 := oK_x g1.2.2.2 ho
    have e33 : (w_f (w_bg w) 41 11 x).1 33 1 = w.1 33 1 := by rw [w_f1, w_u_at, if_neg (by decide)]; exact w_bg_n w
    have e10 : (w_f (w_bg w) 41 11 x).1 41 10 = -1 := by rw [w_f1, w_u_at, if_neg (by decide)]; exact w_bg_d w
    have e11 : (w_f (w_bg w) 41 11 x).1 41 11 = x := by rw [w_f1, w_u_at, if_pos ⟨rfl, rfl⟩]
    have e17 : (w_f (w_bg w) 41 11 x).1 17 3 = w.1 17 3 := by rw [w_f1, w_u_at, if_neg (by decide)]; exact e3
    have z := CR_ask (q := q) H1.1 hq (by rw [e17, m1]; show (m : Int) + 1 ≤ ((46 * min (s_b s + 1) 300 + (s_tb s + 1) : Nat) : Int); omega)
    rw [e17] at z
    rw [e3]
    have O2 : oQ (w.1 33 1) (w_f (w_bg w) 41 11 x) (w_f (w_a (w_f (w_bg w) 41 11 x) 22 (w.1 17 3).toNat q) 17 3 (w.1 17 3 + 1)) := oQ_ask ho1 (by show w.1 17 3 ≤ ((w.1 17 3).toNat : Int); omega) (by show w.1 17 3 ≤ w.1 17 3 + 1; omega)
    have c2 : (w_f (w_a (w_f (w_bg w) 41 11 x) 22 (w.1 17 3).toNat q) 17 3 (w.1 17 3 + 1)).1 33 1 = w.1 33 1 := by rw [w_f1, w_u_at, if_neg (by decide)]; exact e33
    have d2 : (w_f (w_a (w_f (w_bg w) 41 11 x) 22 (w.1 17 3).toNat q) 17 3 (w.1 17 3 + 1)).1 41 10 = -1 := by rw [w_f1, w_u_at, if_neg (by decide)]; exact e10
    have x2 : (w_f (w_a (w_f (w_bg w) 41 11 x) 22 (w.1 17 3).toNat q) 17 3 (w.1 17 3 + 1)).1 41 11 = x := by rw [w_f1, w_u_at, if_neg (by decide)]; exact e11
    have cn1 := H1.2.2.2.1
    refine K (i + 1) _ (by omega) ?_ (RD_o H1 z (oQ_ask ho1 (by show w.1 17 3 ≤ ((w.1 17 3).toNat : Int); omega) (by show w.1 17 3 ≤ w.1 17 3 + 1; omega)) rfl (Nat.le_refl _) H1.2.2.2.2.2.1 ?_) c2 (oQ_fQ (oQ_tr g1 O2)) ?_ d2
    · show i + 1 + 12 * (s_b s : Int) ≤ i + 12 * ((s_b s + 1 : Nat) : Int)
      omega
    · rw [c2, e33]
      rw [e33] at cn1
      exact ⟨Int.le_refl _, cn1.2⟩
    · rw [x2]
      exact vW_N hnow.2
end
