/-! ===== the class runs as the evaluator: texts ===== -/
section
variable {C : C_} {sil : Bool} {o a0 : Nat} {D : Prop} {K0 : Int} {hb : Bool} {s s1 : S_} {E E1 : N_} {w : W_} {fr : Nat} {Q : Option am_V → W_ → Prop} {i : Int} {k : Nat} {n : Int} {id : Nat} {a b c v : T_}

theorem TX_Q {w0 w' : W_} {own : Int} {t q : T_} {f : Bool} (T : TX w0 own t q f w) (g : fQ (w.1 33 1) true w w') (hc : w'.1 33 1 = w.1 33 1) : TX w0 own t q f w' := by
  obtain ⟨⟨t1, t2, t3⟩, ⟨t4, t5, t6, t7⟩, t8, t9, t10⟩ := T
  have F : ∀ z : Int, 0 ≤ z ∧ z < 13 → z ≠ 5 ∧ z ≠ 8 → f_t w' z = f_t w z := fun z z0 z5 => f_t_T g hc (by omega) (by omega) z0 z5
  refine ⟨⟨by omega, by rw [g.1.2]; exact t2, t3⟩, ⟨?_, ?_, ?_, ?_⟩, ?_, ?_, fun z z1 z3 => ?_⟩
  · rw [F 0 (by decide) (by decide)]; exact t4
  · rw [F 1 (by decide) (by decide)]; exact t5
  · rw [F 3 (by decide) (by decide)]; exact t6
  · rw [F 9 (by decide) (by decide)]; exact t7
  · rw [F 4 (by decide) (by decide)]; exact cW_x g.2.2.2 t8
  · rw [F 6 (by decide) (by decide)]; exact t9
  · rw [F (9 + z) (by omega) (by omega), F 7 (by decide) (by decide)]
    exact t10 z z1 z3
theorem TX_2 {w0 : W_} {own x : Int} {t q : T_} {f : Bool} (T : TX w0 own t q f w) : TX w0 own t q f (w_fs w 2 x) ∧ f_t (w_fs w 2 x) 2 = x := by
  obtain ⟨⟨t1, t2, t3⟩, ⟨t4, t5, t6, t7⟩, t8, t9, t10⟩ := T
  have h1 : 1 ≤ w.1 33 1 := by omega
  have F : ∀ g : Int, 0 ≤ g → f_t (w_fs w 2 x) g = if g = 2 then x else f_t w g := fun g g0 => f_t_fs0 (by exact h1) (by decide) g0
  refine ⟨⟨⟨t1, t2, t3⟩, ⟨?_, ?_, ?_, ?_⟩, ?_, ?_, fun z z1 z3 => ?_⟩, ?_⟩
  · rw [F 0 (by decide)]; exact t4
  · rw [F 1 (by decide)]; exact t5
  · rw [F 3 (by decide)]; exact t6
  · rw [F 9 (by decide)]; exact t7
  · rw [F 4 (by decide), if_neg (by decide)]
    have e13 : (w_fs w 2 x).2 13 = w.2 13 := w_fs2 w 2 x (by decide)
    have eF : fW (w_fs w 2 x) = fW w := by
      unfold fW
      rw [w_fs2 w 2 x (by decide), w_fs2 w 2 x (by decide), w_fs2 w 2 x (by decide), w_fs2 w 2 x (by decide), w_fs2 w 2 x (by decide)]
    rw [e13, eF]
    exact t8
  · rw [F 6 (by decide)]; exact t9
  · have F7 : f_t (w_fs w 2 x) 7 = f_t w 7 := by rw [F 7 (by decide)]; rfl
    rw [F (9 + z) (by omega), if_neg (by omega), F7]
    exact t10 z z1 z3
  · rw [F 2 (by decide)]; rfl
theorem RD_fl (H : RD C sil o a0 D K0 hb s E w) : RD C sil o a0 D K0 false s E w := ⟨H.1, H.2.1, fun q => Bool.noConfusion q, H.2.2.2⟩
theorem RD_tf {hb' : Bool} (H : RD C sil o a0 D K0 hb' s E w) (h : mkR hb s w) : RD C sil o a0 D K0 hb s E w := ⟨H.1, H.2.1, h, H.2.2.2⟩
theorem mkR_fQ {s s' : S_} {w w' : W_} {n : Int} (h : mkR hb s w) (hs : s_tl s' = s_tl s) (g : fQ n false w w') (hn : w.1 33 1 ≤ n) (hc : w.1 33 1 ≤ w'.1 33 1) : mkR hb s' w' := fun q => by
  obtain ⟨a1, a2, a3, a4, a5⟩ := h q
  have e : ∀ f : Int, 0 ≤ f → f < 13 → wg (w'.2 34) (w'.1 41 13 * 13 + f) = wg (w.2 34) (w.1 41 13 * 13 + f) := fun f f0 f1 => by
    unfold wg
    rw [g.1.2, if_neg (by omega), if_neg (by omega)]
    rcases g.2.1 (w.1 41 13 * 13 + f).toNat (by omega) with ⟨r, -⟩ | r
    · exact Bool.noConfusion r
    · exact r
  rw [hs, e 5 (by decide) (by decide), e 7 (by decide) (by decide), e 8 (by decide) (by decide), g.1.2]
  exact ⟨by omega, cW_x g.2.2.2 a2, a3, a4, a5⟩
theorem vW_vl {W : W_} {y : Int} (h0 : 0 ≤ W.1 13 2) (h1 : W.1 13 2 ≤ 300000) (h : vW_ W v y) : h_vl W y := ⟨vW_ok h0 h1 h, vW_wk h, (cR_lt h0 h.1).2⟩
/-- a word, a break, a label -/
theorem leaf_W {W0 W : W_} (h0 : 0 ≤ W0.1 13 2) (ho : oK W0) (hg : gN (W0.1 13 2) (W0.2 7)) (hk : k < 3) (n0 : 0 ≤ n ∧ n < 100) (eqW : W = (if (k : Int) = 0 then w_wid (w_mk W0 1 20003 20003 n 0) (30000 + W0.1 13 2) 1 2 3 else w_mk W0 (if (k : Int) = 1 then 2 else 3) 20003 20003 (n % 10) 0)) : hS W0 W ∧ W.1 13 2 = W0.1 13 2 + 1 ∧ vW_ W (t_leaf k n) (30000 + W0.1 13 2) := by
  by_cases c : k = 0
  · subst c
    rw [if_pos (by rfl)] at eqW
    have HS : hS W0 (w_wid (w_mk W0 1 20003 20003 n 0) (30000 + W0.1 13 2) 1 2 3) := hS_wid (hS_mk0 h0) h0
    obtain ⟨y1, y2, y3, y4, y5, y6, y7, y8, y9⟩ := new_wid (W := W0) (k := 1) (b := 20003) (c := 20003) (d := n) (e := 0) (x := 1) (y := 2) (z := 3) h0 (by unfold am_rg; omega) (by unfold am_rg; omega) hg
    rw [← eqW] at HS y1 y2 y5 y7 y8 y9
    have hw : hW (W.2 13) (.tag 1 (.nest n .nil)) (30000 + W0.1 13 2) := by
      unfold hW
      rw [if_neg (by omega), if_neg (by omega), if_neg (by omega), y7, y8, y9]
      exact ⟨rfl, rfl, rfl, fun _ => rfl⟩
    exact ⟨HS, y1, ⟨y2, y5, ⟨by omega, by omega⟩, hw⟩, hw⟩
  · rw [if_neg (by omega)] at eqW
    have HS : hS W0 (w_mk W0 (if (k : Int) = 1 then 2 else 3) 20003 20003 (n % 10) 0) := hS_mk0 h0
    obtain ⟨k1, k2⟩ := new_mk (W := W0) (k := (if (k : Int) = 1 then 2 else 3)) (b := 20003) (c := 20003) (d := n % 10) (e := 0) h0 (by unfold am_rg; omega) (by unfold am_rg; omega) hg
    have km := mk_f (w := W0) (a := (if (k : Int) = 1 then 2 else 3)) (b := 20003) (c := 20003) (d := n % 10) (e := 0) h0
    rw [← eqW] at HS k1 k2 km
    have hw0 : ∀ u : T_, (∀ z : Nat, v_wq u z = (0, z)) → hW (W.2 13) u (30000 + W0.1 13 2) := fun u hu => by
      unfold hW v_wd
      rw [if_neg (by omega), if_neg (by omega), if_neg (by omega), km.2.2.2.2.2.1, km.2.2.2.2.2.2.1, km.2.2.2.2.2.2.2, hu, hu, hu]
      exact ⟨rfl, rfl, rfl, fun z => by rw [hu]⟩
    by_cases c1 : k = 1
    · subst c1
      exact ⟨HS, k1, k2, hw0 _ fun _ => rfl⟩
    · have c2 : k = 2 := by omega
      subst c2
      exact ⟨HS, k1, ⟨k2, km.2.2.2.1, by omega⟩, hw0 _ fun _ => rfl⟩
end
