/-! ===== the class runs as the evaluator: a text's frame ===== -/
section
variable {C : C_} {sil : Bool} {o a0 : Nat} {D : Prop} {K0 : Int} {hb : Bool} {s s1 : S_} {E E1 : N_} {w : W_} {fr : Nat} {Q : Option am_V → W_ → Prop} {i : Int} {k : Nat} {n : Int} {id : Nat} {a b c v : T_}
theorem f_t_T {w w' : W_} (h : fQ (w.1 33 1) true w w') (hc : w'.1 33 1 = w.1 33 1) (h1 : 1 ≤ w.1 33 1) (ht : w.1 41 13 = w.1 33 1 - 1) {g : Int} (g0 : 0 ≤ g ∧ g < 13) (g5 : g ≠ 5 ∧ g ≠ 8) : f_t w' g = f_t w g := by
  unfold f_t w_g
  rw [hc, if_neg (by omega), if_neg (by omega)]
  rcases h.2.1 ((w.1 33 1 - 1) * 13 + g).toNat (by omega) with ⟨-, r⟩ | q
  · omega
  · exact q
theorem f_t_wg (ht : w.1 41 13 = w.1 33 1 - 1) (g : Int) : wg (w.2 34) (w.1 41 13 * 13 + g) = f_t w g := by
  rw [ht]
  rfl
theorem mkR_ft {s : S_} {w : W_} (ht : w.1 41 13 = w.1 33 1 - 1) (h1 : 1 ≤ w.1 33 1) (h5 : cR (w.1 13 2) (w.2 13) (fW w) (s_tl s) (f_t w 5)) (h7 : 0 ≤ f_t w 7 ∧ f_t w 7 ≤ 3) (h8 : 0 ≤ f_t w 8 ∧ f_t w 8 ≤ 3) (hz : ∀ k : Nat, 1 ≤ k → k ≤ 3 → ((v_wq (s_tl s) (if f_t w 7 = 0 then k else (f_t w 7).toNat)).2 : Int) = if f_t w 8 = 0 then (k : Int) else f_t w 8) : mkR true s w := fun _ => by
  rw [f_t_wg ht, f_t_wg ht, f_t_wg ht]
  exact ⟨by omega, h5, h7, h8, hz⟩
theorem ft_mkR {s : S_} {w : W_} (ht : w.1 41 13 = w.1 33 1 - 1) (h : mkR true s w) : cR (w.1 13 2) (w.2 13) (fW w) (s_tl s) (f_t w 5) ∧ (0 ≤ f_t w 7 ∧ f_t w 7 ≤ 3) ∧ (0 ≤ f_t w 8 ∧ f_t w 8 ≤ 3) ∧ ∀ k : Nat, 1 ≤ k → k ≤ 3 → ((v_wq (s_tl s) (if f_t w 7 = 0 then k else (f_t w 7).toNat)).2 : Int) = if f_t w 8 = 0 then (k : Int) else f_t w 8 := by
  have h := h rfl
  rw [f_t_wg ht, f_t_wg ht, f_t_wg ht] at h
  exact h.2
/-- the innermost frame is another, the marks are told anew -/
theorem RD_top {W W' : W_} {x : T_} (H : RD C sil o a0 D K0 true s E W) (S : wS W W') (e1 : W'.1 = W.1) (e42 : W'.2 42 = W.2 42) (hm : mkR true (u_tl s x) W') : RD C sil o a0 D K0 true (u_tl s x) E W' := by
  obtain ⟨h1, h2, h3, h4, h5, h6, h7, h8⟩ := H
  have h0 := h1.2.2.1.2.2.2.1.1
  refine ⟨CR_tl (CR_S h1 S), nW_S h2 S (RD_oK h1) h0 e42 (by rw [e1]), hm, ?_, ?_, h6, ?_, ?_⟩
  · rw [e1]; exact h4
  · rw [e1]; exact h5
  · rw [S.2.2 3 (by decide) (by decide)]; exact h7
  · rw [S.2.2 3 (by decide) (by decide), S.2.2 5 (by decide) (by decide), S.2.2 7 (by decide) (by decide)]; exact h8
theorem RD_fsT {f x : Int} (H : RD C sil o a0 D K0 true s E w) (hf : 0 ≤ f ∧ f < 13) (hne : f ≠ 5 ∧ f ≠ 7 ∧ f ≠ 8) (ht : w.1 41 13 = w.1 33 1 - 1) (h1 : 1 ≤ w.1 33 1) : RD C sil o a0 D K0 true s E (w_fs w f x) := by
  obtain ⟨m1, m2, m3, m4⟩ := ft_mkR ht H.2.2.1
  have e : ∀ g : Int, 0 ≤ g → g ≠ f → f_t (w_fs w f x) g = f_t w g := fun g g0 gn => by
    rw [f_t_fs0 (by exact h1) hf.1 g0, if_neg gn]
  have hx := xP_S (wS_fs w f x) (RD_oK H.1)
  refine RD_top (x := s_tl s) H (wS_fs w f x) rfl (w_fs2 w f x (by decide)) (mkR_ft ht h1 ?_ ?_ ?_ ?_)
  · rw [e 5 (by decide) (by omega)]; exact cW_x hx m1
  · rw [e 7 (by decide) (by omega)]; exact m2
  · rw [e 8 (by decide) (by omega)]; exact m3
  · rw [e 7 (by decide) (by omega), e 8 (by decide) (by omega)]; exact m4
/-- one content goes behind another -/
theorem chn {W : W_} {q m : T_} {x y : Int} (h0 : 0 ≤ W.1 13 2) (ho : oK W) (hg : gN (W.1 13 2) (W.2 7)) (hq : cR (W.1 13 2) (W.2 13) (fW W) q x) (hm : cR (W.1 13 2) (W.2 13) (fW W) m y) : ∃ M u, M = (if x = 20003 then W else w_mk W 8 x y 0 0) ∧ u = (if x = 20003 then y else 30000 + W.1 13 2) ∧ hS W M ∧ M.1 13 2 ≤ W.1 13 2 + 1 ∧ cR (M.1 13 2) (M.2 13) (fW M) (v_chain q m) u := by
  have hnil := cR_ne hq
  refine ⟨_, _, rfl, rfl, ?_⟩
  by_cases c : x = 20003
  · rw [if_pos c, if_pos c, hnil.mp c]
    exact ⟨hS_rf _, by omega, hm⟩
  · rw [if_neg c, if_neg c, v_chain_ne (fun r => c (hnil.mpr r))]
    have HM : hS W (w_mk W 8 x y 0 0) := hS_mk h0 (cpx_of h0 hq) (cpx_of h0 hm) (fun q => absurd q (by decide))
    obtain ⟨k1, k2⟩ := new_mk (W := W) (k := 8) (b := x) (c := y) (d := 0) (e := 0) h0 (by unfold am_rg; omega) (by unfold am_rg; omega) hg
    have km := mk_f (w := W) (a := 8) (b := x) (c := y) (d := 0) (e := 0) h0
    have xM := hS_x HM ho
    refine ⟨HM, by rw [k1]; omega, k2, ?_, ?_⟩
    · rw [km.2.1]; exact cW_x xM hq
    · rw [km.2.2.1]; exact cW_x xM hm
theorem chain_w1 {q v : T_} {z : Nat} (hv : (v_wq v (v_wq q z).2).1 ≤ 9999) : (v_wq (v_chain q v) z).1 = m9 ((v_wq q z).1 + (v_wq v (v_wq q z).2).1) := by
  by_cases c : q = .nil
  · subst c
    show (v_wq v z).1 = m9 (0 + (v_wq v z).1)
    have hv : (v_wq v z).1 ≤ 9999 := hv
    unfold m9
    omega
  · rw [v_chain_ne c]; rfl
theorem vW_ws {x : Int} (h : vW_ w v x) {z : Int} (h1 : 1 ≤ z) (h3 : z ≤ 3) : h_w w x z = (v_wq v z.toNat).1 := by
  obtain ⟨a1, a2, a3⟩ := vW_w h
  have : z = 1 ∨ z = 2 ∨ z = 3 := by omega
  rcases this with rfl | rfl | rfl
  · exact a1
  · exact a2
  · exact a3
/-- a text's own frame: which items are to come, what is joined so far, is anything in it, its widths -/
def TX (w0 : W_) (own : Int) (t q : T_) (f : Bool) (w : W_) : Prop := (w.1 33 1 = w0.1 33 1 + 1 ∧ w.1 41 13 = w0.1 33 1 ∧ 0 ≤ w0.1 33 1) ∧ (f_t w 0 = 5 ∧ f_t w 1 = own ∧ f_t w 3 = it_id t ∧ f_t w 9 = w0.1 41 13) ∧ cR (w.1 13 2) (w.2 13) (fW w) q (f_t w 4) ∧ (f_t w 6 = if f = true then 1 else 0) ∧ ∀ k : Nat, 1 ≤ k → k ≤ 3 → ((v_wq q k).1 : Int) = f_t w (9 + k) ∧ (v_wq q k).1 ≤ 9999 ∧ ((v_wq q k).2 : Int) = if f_t w 7 = 0 then (k : Int) else f_t w 7
/-- what stays below a text -/
def TQ (w0 w : W_) : Prop := w.1 41 12 = w0.1 41 12 + 1 ∧ (∀ k : Nat, (k : Int) < 13 * w0.1 33 1 → w.2 34 k = w0.2 34 k) ∧ (∀ k : Nat, (k : Int) < 10 * (w0.1 41 12 + 1) → w.2 42 k = w0.2 42 k) ∧ xP w0 w
theorem TQ_o {w0 w w' : W_} (h : TQ w0 w) (g : oQ (w0.1 33 1) w w') : TQ w0 w' := ⟨g.1.1.trans h.1, fun k hk => (g.2.1 k hk).trans (h.2.1 k hk), fun k hk => by rw [g.2.2.1]; exact h.2.2.1 k hk, xP_tr h.2.2.2 g.2.2.2⟩
theorem TQ_f {w0 w w' : W_} (h : TQ w0 w) {n : Int} (hn : w0.1 33 1 ≤ n) (ht : w0.1 33 1 ≤ w.1 41 13) (g : fQ n hb w w') : TQ w0 w' := ⟨g.1.1.trans h.1, fun k hk => by
  rcases g.2.1 k (by omega) with ⟨-, r⟩ | r
  · omega
  · exact r.trans (h.2.1 k hk), fun k hk => (g.2.2.1 k (by rw [h.1]; omega)).trans (h.2.2.1 k hk), xP_tr h.2.2.2 g.2.2.2⟩
theorem TX_rg {w0 : W_} {own : Int} {t q : T_} {f : Bool} (H : RD C sil o a0 D K0 true s E w) (h : TX w0 own t q f w) : h_tf w := by
  obtain ⟨⟨t1, t2, t3⟩, -, t4, -, t5⟩ := h
  obtain ⟨m1, m2, m3, m4⟩ := ft_mkR (by omega) H.2.2.1
  have hcn := H.1.2.2.1.2.2.2
  have hc := H.2.2.2.1
  have h0 := hcn.1.1
  have l1 := cR_lt h0 t4
  have l2 := cR_lt h0 m1
  have z1 := t5 1 (by decide) (by decide)
  have z2 := t5 2 (by decide) (by decide)
  have z3 := t5 3 (by decide) (by decide)
  refine ⟨by omega, by omega, ⟨by omega, by omega⟩, ⟨by omega, by omega⟩, ⟨by omega, by omega⟩, m2, fun z y1 y3 => ?_⟩
  have : z = 1 ∨ z = 2 ∨ z = 3 := by omega
  rcases this with rfl | rfl | rfl
  · have e : f_t w (9 + 1) = ((v_wq q 1).1 : Int) := z1.1.symm
    rw [e]; omega
  · have e : f_t w (9 + 2) = ((v_wq q 2).1 : Int) := z2.1.symm
    rw [e]; omega
  · have e : f_t w (9 + 3) = ((v_wq q 3).1 : Int) := z3.1.symm
    rw [e]; omega
/-- an item's value goes into its text -/
theorem RT_ap {w0 W : W_} {own : Int} {t q : T_} {f : Bool} {y : Int} (R : RD C sil o a0 D K0 true s E W) (T : TX w0 own t q f W) (hv : vW_ W v y) (hn : s_nd s + 1 ≤ 11 * s_tb s + 300) : RD C sil o a0 D K0 true (u_nd s 1) E (w_ap W y) ∧ TX w0 own t (t_app q f v).1 (t_app q f v).2 (w_ap W y) ∧ oQ (w0.1 33 1) W (w_ap W y) ∧ (w_ap W y).1 33 1 = W.1 33 1 ∧ (w_ap W y).1 41 10 = W.1 41 10 := by
  have hcn := R.1.2.2.1.2.2.2
  have h0 := hcn.1.1
  have ho := RD_oK R.1
  obtain ⟨⟨t1, t2, t3⟩, ⟨t4, t5, t6, t7⟩, t8, t9, t10⟩ := T
  have ht : W.1 41 13 = W.1 33 1 - 1 := by omega
  have h1 : 1 ≤ W.1 33 1 := by omega
  obtain ⟨m1, m2, m3, m4⟩ := ft_mkR ht R.2.2.1
  have hfl := vW_fl hv
  unfold w_ap t_app
  by_cases c : v_fl v = true
  · rw [if_pos (hfl.mpr c), if_pos c]
    obtain ⟨M, u, eM, eu, X1, X2, X3⟩ := chn h0 ho (CR_gN R.1) t8 hv.1
    have RM := RD_h (k := 1) R X1 X2 hn
    have c33 : M.1 33 1 = W.1 33 1 := X1.1 33 1 (by decide)
    have c13 : M.1 41 13 = W.1 41 13 := X1.1 41 13 (by decide)
    have c10 : M.1 41 10 = W.1 41 10 := X1.1 41 10 (by decide)
    have fM : ∀ g, f_t M g = f_t W g := fun g => by
      unfold f_t w_g
      rw [c33, X1.2.1 34 (by decide)]
    have htM : M.1 41 13 = M.1 33 1 - 1 := by omega
    have h1M : 1 ≤ M.1 33 1 := by omega
    have eA : w_app W y = w_fs (w_fs (w_fs (w_fs (w_fs M 4 u) 6 1) 10 (a_m W y 1)) 11 (a_m W y 2)) 12 (a_m W y 3) := by
      unfold w_app w_app0
      rw [← eM, ← eu]
    rw [eA]
    have R1 := RD_fsT (f := 4) (x := u) RM (by decide) (by decide) htM h1M
    have R2 := RD_fsT (f := 6) (x := 1) R1 (by decide) (by decide) htM h1M
    have R3 := RD_fsT (f := 10) (x := a_m W y 1) R2 (by decide) (by decide) htM h1M
    have R4 := RD_fsT (f := 11) (x := a_m W y 2) R3 (by decide) (by decide) htM h1M
    have R5 := RD_fsT (f := 12) (x := a_m W y 3) R4 (by decide) (by decide) htM h1M
    have hoM := oK_x (hS_x X1 ho) ho
    have S5 : wS M (w_fs (w_fs (w_fs (w_fs (w_fs M 4 u) 6 1) 10 (a_m W y 1)) 11 (a_m W y 2)) 12 (a_m W y 3)) := wS_tr (wS_tr (wS_tr (wS_tr (wS_fs _ _ _) (wS_fs _ _ _)) (wS_fs _ _ _)) (wS_fs _ _ _)) (wS_fs _ _ _)
    have O1 : ∀ (f x : Int), 0 ≤ f → ∀ N : W_, N.1 = M.1 → oK N → oQ (w0.1 33 1) N (w_fs N f x) := fun f x hf N e oN => oQ_fs oN (by rw [e]; omega) (by rw [e]; omega) hf
    have o1 := O1 4 u (by decide) M rfl hoM
    have k1 := oK_x o1.2.2.2 hoM
    have o2 := O1 6 1 (by decide) (w_fs M 4 u) rfl k1
    have k2 := oK_x o2.2.2.2 k1
    have o3 := O1 10 (a_m W y 1) (by decide) (w_fs (w_fs M 4 u) 6 1) rfl k2
    have k3 := oK_x o3.2.2.2 k2
    have o4 := O1 11 (a_m W y 2) (by decide) (w_fs (w_fs (w_fs M 4 u) 6 1) 10 (a_m W y 1)) rfl k3
    have k4 := oK_x o4.2.2.2 k3
    have o5 := O1 12 (a_m W y 3) (by decide) (w_fs (w_fs (w_fs (w_fs M 4 u) 6 1) 10 (a_m W y 1)) 11 (a_m W y 2)) rfl k4
    have F : ∀ g : Int, 0 ≤ g → f_t (w_fs (w_fs (w_fs (w_fs (w_fs M 4 u) 6 1) 10 (a_m W y 1)) 11 (a_m W y 2)) 12 (a_m W y 3)) g = if g = 12 then a_m W y 3 else if g = 11 then a_m W y 2 else if g = 10 then a_m W y 1 else if g = 6 then 1 else if g = 4 then u else f_t W g := fun g g0 => by
      rw [f_t_fs0 (by exact h1M) (by decide) g0, f_t_fs0 (by exact h1M) (by decide) g0, f_t_fs0 (by exact h1M) (by decide) g0, f_t_fs0 (by exact h1M) (by decide) g0, f_t_fs0 (by exact h1M) (by decide) g0, fM]
    have e33 : (w_fs (w_fs (w_fs (w_fs (w_fs M 4 u) 6 1) 10 (a_m W y 1)) 11 (a_m W y 2)) 12 (a_m W y 3)).1 = M.1 := rfl
    generalize w_fs (w_fs (w_fs (w_fs (w_fs M 4 u) 6 1) 10 (a_m W y 1)) 11 (a_m W y 2)) 12 (a_m W y 3) = Z at *
    have F7 : f_t Z 7 = f_t W 7 := by rw [F 7 (by decide)]; rfl
    refine ⟨R5, ⟨⟨by rw [e33]; omega, by rw [e33]; omega, t3⟩, ⟨?_, ?_, ?_, ?_⟩, ?_, ?_, fun z z1 z3 => ?_⟩, oQ_tr (oQ_h X1 ho) (oQ_tr (oQ_tr (oQ_tr (oQ_tr o1 o2) o3) o4) o5), by rw [e33]; exact c33, by rw [e33]; exact c10⟩
    · rw [F 0 (by decide)]; exact t4
    · rw [F 1 (by decide)]; exact t5
    · rw [F 3 (by decide)]; exact t6
    · rw [F 9 (by decide)]; exact t7
    · rw [F 4 (by decide)]; exact cW_x (xP_S S5 hoM) X3
    · rw [F 6 (by decide)]; rfl
    · obtain ⟨q1, q2, q3⟩ := t10 z z1 z3
      have q4 : (v_wq q z).2 ≤ 3 := by split at q3 <;> omega
      have q5 : 1 ≤ (v_wq q z).2 := by split at q3 <;> omega
      have wd := cR_wd v y hv.1 (v_wq q z).2 q4
      have ew := chain_w1 (q := q) (v := v) (z := z) wd.1
      have ez : (v_wq (v_chain q v) z).2 = (v_wq q z).2 := by rw [chain_wq, hv.2.2.2.2]
      have hw := vW_ws hv (z := ((v_wq q z).2 : Int)) (by omega) (by omega)
      rw [Int.toNat_natCast] at hw
      have ea : a_m W y z = ((v_wq (v_chain q v) z).1 : Int) := by
        unfold a_m
        have e7 : (if f_t W 7 = 0 then (z : Int) else f_t W 7) = ((v_wq q z).2 : Int) := q3.symm
        rw [e7, hw, ew, ← q1]
        unfold m9
        split <;> omega
      refine ⟨?_, by rw [ew]; exact Nat.min_le_left _ _, by rw [ez, F7]; exact q3⟩
      rw [← ea, F (9 + z) (by omega)]
      have : z = 1 ∨ z = 2 ∨ z = 3 := by omega
      rcases this with rfl | rfl | rfl <;> rfl
  · have c' : v_fl v = false := Bool.eq_false_iff.mpr c
    rw [if_neg (fun q => c (hfl.mp q)), c', if_neg Bool.false_ne_true]
    have HR : hS W W := hS_rf _
    exact ⟨RD_h (k := 1) R HR (by omega) hn, ⟨⟨t1, t2, t3⟩, ⟨t4, t5, t6, t7⟩, t8, t9, t10⟩, oQ_refl W ho, rfl, rfl⟩
end
