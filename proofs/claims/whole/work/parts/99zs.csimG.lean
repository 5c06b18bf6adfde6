/-! ===== the class runs as the evaluator: formulas ===== -/
theorem eR_or {a3 a5 a37 a46 : Nat → Int} : ∀ (m : Nat) (hb : Bool) (t : T_), m ≠ 0 → eR a3 a5 a37 a46 m hb t → t = .nil ∨ ∃ k n id x r, t = ct k n id x r := by
  intro m hb t hm h
  unfold eR at h
  split at h
  all_goals first
    | exact absurd rfl hm
    | exact Or.inl rfl
    | exact Or.inr ⟨_, _, _, _, _, rfl⟩
    | exact h.elim
theorem eR_id {a3 a5 a37 a46 : Nat → Int} {hb : Bool} {e : T_} (h : eR a3 a5 a37 a46 0 hb e) : e_id e < 1000 := by
  unfold eR at h
  split at h
  all_goals first
    | exact Nat.lt_of_lt_of_le h.1.1 (by decide)
    | (show 183 < 1000; omega)
    | exact h.elim
    | (exfalso; simp_all)
theorem eW_ct1 {w : W_} {hb : Bool} {k : Nat} {n : Int} {id : Nat} {x r : T_} (h : eW w 1 hb (ct k n id x r)) : (id < 180 ∧ w_g w 3 id = k ∧ w_g w 5 id = n ∧ 0 ≤ n ∧ n < 100 ∧ k ≤ 4 ∧ w.2 46 (id / 60) ≠ 0) ∧ w_g w 37 (id * 9 + 3) - 1 = it_id r ∧ (k = 3 → w_g w 37 (id * 9 + 0) - 1 = e_id x ∧ eW w 0 true x) ∧ (k = 4 → w_g w 37 (id * 9) - 1 = it_id x ∧ eW w 2 false x) ∧ eW w 1 false r := by
  obtain ⟨h, g⟩ := h
  obtain ⟨ga, gb⟩ := tI_ct g
  exact ⟨h.1, h.2.2.1, fun q => ⟨(h.2.2.2.1 q).1, (h.2.2.2.1 q).2, ga⟩, fun q => ⟨(h.2.2.2.2.1 q).1, (h.2.2.2.2.1 q).2, ga⟩, h.2.2.2.2.2, gb⟩
theorem eW_ct2 {w : W_} {hb : Bool} {k : Nat} {n : Int} {id : Nat} {x r : T_} (h : eW w 2 hb (ct k n id x r)) : (id < 180 ∧ w_g w 3 id = k ∧ w_g w 5 id = n ∧ 0 ≤ n ∧ n < 100 ∧ k ≤ 4 ∧ w.2 46 (id / 60) ≠ 0) ∧ (k = 0 ∨ k = 3) ∧ w_g w 37 (id * 9 + 3) - 1 = it_id r ∧ (k = 3 → w_g w 37 (id * 9 + 0) - 1 = e_id x ∧ eW w 0 false x) ∧ eW w 2 false r := by
  obtain ⟨h, g⟩ := h
  obtain ⟨ga, gb⟩ := tI_ct g
  exact ⟨h.1, h.2.1.1 rfl, h.2.2.1, fun q => ⟨(h.2.2.2.1 q).1, (h.2.2.2.1 q).2, ga⟩, h.2.2.2.2.2, gb⟩
theorem w_bg_eq {w : W_} (h : w.1 41 10 = -1) : w_f w 17 4 (w.1 17 4 + 1) = w_bg w := by
  have e : w_f w 41 10 (-1) = w := by
    have : w_u w.1 41 10 (-1) = w.1 := by
      funext b k
      rw [w_u_at]
      by_cases c : b = 41 ∧ k = 10
      · rw [if_pos c, c.1, c.2, h]
      · rw [if_neg c]
    unfold w_f
    rw [this]
  unfold w_bg
  rw [e]
theorem m9_i (x y : Nat) : (if (9999 : Int) < (x : Int) + (y : Int) then (9999 : Int) else (x : Int) + (y : Int)) = ((m9 (x + y) : Nat) : Int) := by
  unfold m9
  split <;> omega
/-- a formula's own frame -/
def FX (w0 : W_) (t : T_) (d : Nat) (w : W_) : Prop := (w.1 33 1 = w0.1 33 1 + 1 ∧ 0 ≤ w0.1 33 1) ∧ f_t w 0 = 6 ∧ f_t w 3 = it_id t ∧ f_t w 10 = (d : Int)
section
variable {C : C_} {sil : Bool} {o a0 : Nat} {D : Prop} {K0 : Int} {hb : Bool} {s s1 : S_} {E E1 : N_} {w : W_} {fr : Nat} {Q : Option am_V → W_ → Prop} {i : Int} {k : Nat} {n : Int} {id : Nat} {a b c v : T_}

theorem FX_3 {w0 w W : W_} {t r : T_} {d d' : Nat} {x : Int} (h : FX w0 t d w) (e33 : W.1 33 1 = w.1 33 1) (hf : ∀ g : Int, 0 ≤ g ∧ g < 13 → g ≠ 2 → f_t W g = f_t w g) (hx : x = (d' : Int)) : FX w0 r d' (w_fs (w_fs (w_fs W 10 x) 2 0) 3 (it_id r)) ∧ f_t (w_fs (w_fs (w_fs W 10 x) 2 0) 3 (it_id r)) 2 = 0 := by
  obtain ⟨⟨a1, a2⟩, a3, a4, a5⟩ := h
  have h1 : 1 ≤ W.1 33 1 := by omega
  have F : ∀ g : Int, 0 ≤ g → f_t (w_fs (w_fs (w_fs W 10 x) 2 0) 3 (it_id r)) g = if g = 3 then it_id r else if g = 2 then 0 else if g = 10 then x else f_t W g := fun g g0 => by
    rw [f_t_fs0 (by exact h1) (by decide) g0, f_t_fs0 (by exact h1) (by decide) g0, f_t_fs0 (by exact h1) (by decide) g0]
  refine ⟨⟨⟨e33.trans a1, a2⟩, ?_, ?_, ?_⟩, ?_⟩
  · rw [F 0 (by decide)]; exact (hf 0 (by decide) (by decide)).trans a3
  · rw [F 3 (by decide)]; rfl
  · rw [F 10 (by decide)]; exact hx
  · rw [F 2 (by decide)]; rfl
theorem RD_fs3 {n x y z : Int} {W : W_} (H : RD C sil o a0 D K0 false s E W) (h1 : 1 ≤ W.1 33 1) (hn : n ≤ W.1 33 1 - 1) : RD C sil o a0 D K0 false s E (w_fs (w_fs (w_fs W 10 x) 2 y) 3 z) ∧ fQ n false W (w_fs (w_fs (w_fs W 10 x) 2 y) 3 z) := by
  have ho := RD_oK H.1
  have R1 := RD_fs (f := 10) (x := x) H h1 (by decide) (fun q => Bool.noConfusion q)
  have R2 := RD_fs (f := 2) (x := y) R1 h1 (by decide) (fun q => Bool.noConfusion q)
  have R3 := RD_fs (f := 3) (x := z) R2 h1 (by decide) (fun q => Bool.noConfusion q)
  have o1 : oQ n W (w_fs W 10 x) := oQ_fs ho hn (by omega) (by decide)
  have k1 := oK_x o1.2.2.2 ho
  have o2 : oQ n (w_fs W 10 x) (w_fs (w_fs W 10 x) 2 y) := oQ_fs k1 hn (by show 0 ≤ W.1 33 1 - 1; omega) (by decide)
  have k2 := oK_x o2.2.2.2 k1
  have o3 : oQ n (w_fs (w_fs W 10 x) 2 y) (w_fs (w_fs (w_fs W 10 x) 2 y) 3 z) := oQ_fs k2 hn (by show 0 ≤ W.1 33 1 - 1; omega) (by decide)
  exact ⟨R3, oQ_fQ (oQ_tr o1 (oQ_tr o2 o3))⟩
theorem sim_frm {L : Nat} {rec : K_} {w0 : W_} (N1 : eNK rec) (M1 : eMK rec) (h1 : cSK C sil o K0 rec) (hf : 20 ≤ fr) : ∀ (m : Nat) (t : T_), it_len t ≤ m → ∀ (d : Nat) (E : N_) (s : S_) (d1 : Nat) (E1 : N_) (s1 : S_), t_frm L rec C sil t d E s = some (d1, E1, s1) → ∀ (w : W_) (i : Int) (hb : Bool), RD C sil o a0 D K0 false s E w → FX w0 t d w → d ≤ 9999 → f_t w 2 = 0 → fQ (w0.1 33 1) false w0 w → eW w 2 hb t → w.1 41 10 = -1 → (D → e_imp t = false ∧ n_ni E) → 0 ≤ i → i + 12 * (s_b s1 : Int) ≤ 900000 + 12 * (s_b s : Int) → s_b s1 ≤ 90000 ∧ s_nt s1 ≤ 900000 → (∀ i' w', i ≤ i' → i' + 12 * (s_b s : Int) ≤ i + 12 * (s_b s1 : Int) → RD C sil o a0 D K0 false s1 E1 w' → FX w0 .nil d1 w' → d1 ≤ 9999 → fQ (w0.1 33 1) false w0 w' → w'.1 41 10 = -1 → dr fr Q i' w') → dr fr Q i w := by
  intro m
  induction m with
  | zero =>
    intro t hm d E s d1 E1 s1 h w i hb R F d9 f2 q e hd hD i0 ib hB K
    rcases eR_or 2 hb t (by decide) e.1 with rfl | ⟨k, n, id, x, r, rfl⟩
    · cases h
      exact K i w (Int.le_refl _) (Int.le_refl _) R F d9 q hd
    · rw [it_ct] at hm; omega
  | succ m ih =>
    intro t hm d E s d1 E1 s1 h w i hb R F d9 f2 q e hd hD i0 ib hB K
    rcases eR_or 2 hb t (by decide) e.1 with rfl | ⟨k, n, id, x, r, rfl⟩
    · cases h
      exact K i w (Int.le_refl _) (Int.le_refl _) R F d9 q hd
    · rw [it_ct] at hm
      rw [t_frm_ct] at h
      obtain ⟨⟨g1, g2, g3, g4, g5, g6, g7⟩, g8, g9, g10, g11⟩ := eW_ct2 e
      have hl0 := R.2.2.2.2.2.1
      have hct := R.2.2.2.1
      have htb := R.1.2.2.1.2.2.2.2.2.1
      have F' := F
      obtain ⟨⟨a1, a2⟩, a3, a4, a5⟩ := F'
      have a4 : f_t w 3 = (id : Int) := a4
      have c1 : 1 ≤ w.1 33 1 ∧ w.1 33 1 < 24000 := by omega
      have ho := RD_oK R.1
      have eb := w_bg_eq hd
      have hob := oK_x (oQ_bg (n := 0) ho).2.2.2 ho
      have cb : (w_bg w).1 33 1 = w.1 33 1 := w_bg_n w
      have fb : ∀ g : Int, f_t (w_bg w) g = f_t w g := fun g => by
        unfold f_t
        rw [cb]
        rfl
      by_cases ht : s_tb s < 2000
      · rw [if_pos ht] at h
        by_cases c3 : k = 3
        · rw [if_pos c3] at h
          subst c3
          obtain ⟨gx1, gx2⟩ := g10 rfl
          cases hr : rec sil x E false (u_go s) with
          | none => rw [hr] at h; cases h
          | some z =>
            obtain ⟨v, E2, s2⟩ := z
            rw [hr] at h
            cases hq : f_fu L C v (e_id x) s2 with
            | none =>
              have h : (match f_fu L C v (e_id x) s2 with
                | some s2 => t_frm L rec C sil r (m9 (d + v_wd v 1)) E2 s2
                | none => none) = some (d1, E1, s1) := h
              rw [hq] at h; cases h
            | some s3 =>
              have h : (match f_fu L C v (e_id x) s2 with
                | some s2 => t_frm L rec C sil r (m9 (d + v_wd v 1)) E2 s2
                | none => none) = some (d1, E1, s1) := h
              rw [hq] at h
              have h : t_frm L rec C sil r (m9 (d + v_wd v 1)) E2 s3 = some (d1, E1, s1) := h
              have hs := f_fu_nt hq
              obtain ⟨-, e3⟩ := f_fu_inv hq
              have m1 := M1 _ _ _ _ _ _ _ _ hr (Nat.le_succ_of_le hl0)
              have ml : s_lt s3 ≤ s_b s3 := by
                rw [e3]
                exact (eMQ_funs (hb := false) (C := C) (v := v) (id := e_id x) m1.2.2.2.2.1).2.2.2.2.1
              have m2 := t_frm_M M1 _ _ (Nat.le_refl _) _ _ _ _ _ _ h ml
              have mb1 : s_b s + 1 ≤ s_b s2 := m1.1
              have mb2 : s_b s3 ≤ s_b s1 := m2.1
              have mn2 : s_nt s3 ≤ s_nt s1 := m2.2.1
              have Rb := RD_bg R ht (by omega)
              have R1 := RD_val (j := 10) (x := (e_id x : Int)) (RD_fs (f := 2) (x := 1) Rb (by rw [cb]; omega) (by decide) (fun q => Bool.noConfusion q)) (Or.inl rfl)
              refine dr_6 (f := 5) (by omega) hd c1 a3 (lk_109b (item := (id : Int)) a4 (by omega) g2 f2 c1) (by omega) (by omega) fun w1 hw1 => ?_
              rw [eb, gx1] at hw1
              rw [← hw1] at R1
              have o1 : oQ (w0.1 33 1) w w1 := by
                rw [hw1]
                have z1 : oQ (w0.1 33 1) (w_bg w) (w_fs (w_bg w) 2 1) := oQ_fs hob (by rw [cb]; omega) (by rw [cb]; omega) (by decide)
                exact oQ_tr (oQ_bg ho) (oQ_tr z1 (oQ_val (oK_x z1.2.2.2 hob) (Or.inl rfl)))
              have c33 : w1.1 33 1 = w.1 33 1 := by rw [hw1, w_f1, w_u_at, if_neg (by decide)]; exact cb
              have d10 : w1.1 41 10 = e_id x := by rw [hw1, w_f1, w_u_at, if_pos ⟨rfl, rfl⟩]
              have F1 : ∀ g : Int, 0 ≤ g → f_t w1 g = if g = 2 then 1 else f_t w g := fun g g0 => by
                rw [hw1, f_t_f (by decide), f_t_fs0 (by rw [cb]; omega) (by decide) g0, fb]
              clear hw1
              refine h1 x E false (u_go s) v E2 s2 hr a0 D w1 fr Q (i + 1) R1 (eW_x o1.2.2.2 gx2) d10 (fun z => ⟨(e_imp_ct (hD z).1).1, (hD z).2⟩) hf (by omega) ?_ ⟨by omega, by omega⟩ fun i3 w3 l1 l2 R3 c3 Q3 v3 d3 => ?_
              · show i + 1 + 12 * (s_b s2 : Int) ≤ 900000 + 12 * ((s_b s + 1 : Nat) : Int)
                omega
              have l2 : i3 + 12 * ((s_b s + 1 : Nat) : Int) ≤ i + 1 + 12 * (s_b s2 : Int) := l2
              have F3 : ∀ g : Int, 0 ≤ g ∧ g < 13 → f_t w3 g = if g = 2 then 1 else f_t w g := fun g hg => by
                rw [f_t_Q Q3 c3 (by rw [c33]; omega) (fun q => Bool.noConfusion q) hg, F1 g hg.1]
              have e3' : eW w3 2 hb (ct 3 n id x r) := eW_x Q3.2.2.2 (eW_x o1.2.2.2 e)
              obtain ⟨⟨-, k2, k3, -⟩, -, k9, k10, k11⟩ := eW_ct2 e3'
              have hp := eR_id gx2.1
              obtain ⟨hcx, RN⟩ := sim_ntn R3 v3 hp (by omega)
              have ho3 := RD_oK R3.1
              have hcn3 := R3.1.2.2.1.2.2.2
              obtain ⟨q1, q2, q3, q4, q5⟩ := ntn_Q (n := w0.1 33 1) (f := f_code 3 (e_id x)) (min 60 (v_nf v)) w3 ho3
              have vN' : vW_ (w_ntn (min 60 (v_nf v)) w3 (f_code 3 (e_id x))) v ((w_ntn (min 60 (v_nf v)) w3 (f_code 3 (e_id x))).1 41 11) := by
                rw [q4]
                exact vW_x q1.2.2.2 hcn3.1.1 v3
              rw [← e3] at RN
              have qf : ∀ g : Int, 0 ≤ g ∧ g < 13 → f_t (w_ntn (min 60 (v_nf v)) w3 (f_code 3 (e_id x))) g = f_t w3 g := fun g hg => by
                have z := (ntn_Q (n := w3.1 33 1) (f := f_code 3 (e_id x)) (min 60 (v_nf v)) w3 ho3).1
                exact f_t_Q (oQ_fQ (hb := false) z) q2 (by rw [c3, c33]; omega) (fun q => Bool.noConfusion q) hg
              generalize w_ntn (min 60 (v_nf v)) w3 (f_code 3 (e_id x)) = W at *
              have hcnW := RN.1.2.2.1.2.2.2
              have hwx := (vW_w vN').1
              have hle := (cR_wd _ _ vN'.1 1 (by decide)).1
              have c33W : W.1 33 1 = w.1 33 1 := by rw [q2, c3, c33]
              have eW3 : eW W 2 hb (ct 3 n id x r) := eW_x q1.2.2.2 e3'
              obtain ⟨-, -, j9, -, j11⟩ := eW_ct2 eW3
              refine dr_6 (f := 5) (by omega) d3 (by rw [c3, c33]; exact c1) (by rw [F3 0 (by decide)]; exact a3) (lk_109d (item := (id : Int)) (d := (d : Int)) (v := W.1 41 11) (by rw [F3 3 (by decide)]; exact a4) (by omega) k2 (F3 2 (by decide)) (by rw [c3, c33]; exact c1) (k10 rfl).1 (by rw [F3 10 (by decide)]; exact a5) (by omega) hcx (by rw [c33W]; exact c1) rfl (vW_ok hcnW.1.1 (by omega) vN') hwx (by unfold v_wd; omega)) (by omega) (by omega) fun w4 hw4 => ?_
              rw [j9, m9_i] at hw4
              obtain ⟨R4, Q4⟩ := RD_fs3 (n := w0.1 33 1) (x := ((m9 (d + v_wd v 1) : Nat) : Int)) (y := 0) (z := it_id r) RN (by rw [c33W]; omega) (by rw [c33W]; omega)
              obtain ⟨X4, f4⟩ := FX_3 (w0 := w0) (r := r) (d' := m9 (d + v_wd v 1)) F c33W (fun g hg g2 => by rw [qf g hg, F3 g hg, if_neg g2]) rfl
              have d4 : (w_fs (w_fs (w_fs W 10 ((m9 (d + v_wd v 1) : Nat) : Int)) 2 0) 3 (it_id r)).1 41 10 = -1 := by
                show W.1 41 10 = -1
                rw [q3]; exact d3
              rw [← hw4] at R4 Q4 X4 f4 d4
              refine ih r (by omega) _ E2 s3 d1 E1 s1 h w4 (i3 + 1) false R4 X4 (Nat.min_le_left _ _) f4 (fQ_tr q (fQ_tr (oQ_fQ o1) (fQ_tr (fQ_le Q3 (by rw [c33]; omega)) (fQ_tr (oQ_fQ q1) Q4)))) (eW_x Q4.2.2.2 j11) d4 (fun z => ⟨(e_imp_ct (hD z).1).2, (N1 _ _ _ _ _ _ _ _ hr (e_imp_ct (hD z).1).1 (hD z).2).2.2⟩) (by omega) (by rw [hs.1]; omega) hB fun i' w' l3 l4 y1 y2 y3 y4 y5 => K i' w' (by omega) (by rw [hs.1] at l4; omega) y1 y2 y3 y4 y5
        · rw [if_neg c3] at h
          have k0 : k = 0 := by omega
          subst k0
          have m2 := t_frm_M M1 _ _ (Nat.le_refl _) _ _ _ _ _ _ h (Nat.le_succ_of_le hl0)
          have mb2 : s_b s + 1 ≤ s_b s1 := m2.1
          refine dr_6 (f := 5) (by omega) hd c1 a3 (lk_109c (item := (id : Int)) (k := 0) (d := (d : Int)) a4 (by omega) g2 (by decide) f2 a5 (by omega) c1) (by omega) (by omega) fun w1 hw1 => ?_
          have e1 : (1 : Int) = ((1 : Nat) : Int) := rfl
          have em : (if (9999 : Int) < (d : Int) + 1 then (9999 : Int) else (d : Int) + 1) = ((m9 (d + 1) : Nat) : Int) := m9_i d 1
          rw [eb, g9, em] at hw1
          have Rb := RD_bg R ht (by omega)
          obtain ⟨R4, Q4⟩ := RD_fs3 (n := w0.1 33 1) (x := ((m9 (d + 1) : Nat) : Int)) (y := 0) (z := it_id r) Rb (by rw [cb]; omega) (by rw [cb]; omega)
          obtain ⟨X4, f4⟩ := FX_3 (w0 := w0) (r := r) (d' := m9 (d + 1)) F cb (fun g hg g2 => fb g) rfl
          have d4 : (w_fs (w_fs (w_fs (w_bg w) 10 ((m9 (d + 1) : Nat) : Int)) 2 0) 3 (it_id r)).1 41 10 = -1 := w_bg_d w
          rw [← hw1] at R4 Q4 X4 f4 d4
          have QA : fQ (w0.1 33 1) false w w1 := fQ_tr (oQ_fQ (oQ_bg ho)) Q4
          refine ih r (by omega) _ E (u_go s) d1 E1 s1 h w1 (i + 1) false R4 X4 (Nat.min_le_left _ _) f4 (fQ_tr q QA) (eW_x QA.2.2.2 g11) d4 (fun z => ⟨(e_imp_ct (hD z).1).2, (hD z).2⟩) (by omega) ?_ hB fun i' w' l3 l4 y1 y2 y3 y4 y5 => K i' w' (by omega) ?_ y1 y2 y3 y4 y5
          · show i + 1 + 12 * (s_b s1 : Int) ≤ 900000 + 12 * ((s_b s + 1 : Nat) : Int)
            omega
          · have l4 : i' + 12 * ((s_b s + 1 : Nat) : Int) ≤ i + 1 + 12 * (s_b s1 : Int) := l4
            omega
      · rw [if_neg ht] at h
        cases h
end
