/-! ===== the class and the evaluator: what a value's number shows ===== -/
theorem hN_rg {n : Int} {a : Nat → Int} {x k : Int} (h : hN n a x k) (hk : am_rg k) : am_rg (pH a x 0) ∧ am_rg (pH a x 3) ∧ am_rg (pH a x 4) := ⟨by rw [h.2.1]; exact hk, h.2.2.1, h.2.2.2⟩
theorem vW_ok {w : W_} {v : T_} {x : Int} (h0 : 0 ≤ w.1 13 2) (h1 : w.1 13 2 ≤ 300000) (h : vW_ w v x) : h_ok w x := by
  have hx := cR_lt h0 h.1
  refine ⟨by omega, ?_⟩
  rw [pH_w, pH_w, pH_w]
  by_cases c : x < 30000
  · have e : ∀ f, pH (w.2 13) x f = 0 := fun f => by unfold pH; rw [if_pos c]
    rw [e, e, e]
    unfold am_rg
    omega
  · have h2 := h.1
    unfold cR at h2
    split at h2
    all_goals first | exact h2.elim | (exfalso; omega) | exact hN_rg h2.1 (by unfold am_rg; omega) | exact hN_rg h2 (by unfold am_rg; omega)
theorem hN_nf {n : Int} {a : Nat → Int} {x k : Int} (h : hN n a x k) : (if pH a x 0 = 12 then (1 : Int) else if pH a x 0 = 13 then pH a x 3 else 0) = if k = 12 then 1 else if k = 13 then pH a x 3 else 0 := by rw [h.2.1]
theorem pH_nf {a : Nat → Int} {x : Int} (h : x < 30000) : (if pH a x 0 = 12 then (1 : Int) else if pH a x 0 = 13 then pH a x 3 else 0) = 0 := by
  have e : pH a x 0 = 0 := by unfold pH; rw [if_pos h]
  rw [e, if_neg (by decide), if_neg (by decide)]
theorem vW_nf {w : W_} {v : T_} {x : Int} (h : vW_ w v x) : h_nf w x = (min 60 (v_nf v) : Nat) := by
  show (if pH (w.2 13) x 0 = 12 then (1 : Int) else if pH (w.2 13) x 0 = 13 then pH (w.2 13) x 3 else 0) = _
  have h2 := h.1
  unfold cR at h2
  split at h2
  all_goals first | exact h2.elim | exact (hN_nf h2.1).trans h2.2.1 | exact (hN_nf h2.1).trans rfl | exact (hN_nf h2).trans rfl | exact (pH_nf (by omega)).trans rfl | exact (hN_nf h2.1).trans (by first | rfl | (rename_i v _; cases v <;> rfl))
theorem cR_wd {n : Int} {a : Nat → Int} {F : T_ → Prop} : ∀ (v : T_) (x : Int), cR n a F v x → ∀ s : Nat, s ≤ 3 → (v_wq v s).1 ≤ 9999 ∧ (v_wq v s).2 ≤ 3 := by
  intro v x
  induction v, x using cR.induct (a := a) with
  | case1 m x => intro h s hs; show s ≤ 9999 ∧ s ≤ 3; omega
  | case2 x => intro h s hs; show 0 ≤ 9999 ∧ s ≤ 3; omega
  | case3 x => intro h s hs; show 0 ≤ 9999 ∧ s ≤ 3; omega
  | case4 x => intro h s hs; show 0 ≤ 9999 ∧ s ≤ 3; omega
  | case5 m t x => intro h s hs; show s ≤ 9999 ∧ s ≤ 3; omega
  | case6 t x => intro h s hs; show 0 ≤ 9999 ∧ s ≤ 3; omega
  | case7 m t x => intro h s hs; show 0 ≤ 9999 ∧ s ≤ 3; omega
  | case8 m t x => intro h s hs; obtain ⟨-, -, ⟨h1, h2⟩, -⟩ := h; show m.toNat ≤ 9999 ∧ s ≤ 3; omega
  | case9 id v x ih => intro h s hs; have := ih h.2.2.2.1 s hs; exact ⟨this.1, hs⟩
  | case10 c m t x => intro h s hs; show 0 ≤ 9999 ∧ s ≤ 3; omega
  | case11 e cl x ih => intro h s hs; show 0 ≤ 9999 ∧ s ≤ 3; omega
  | case12 l r x ih1 ih2 =>
    intro h s hs
    have h1 := ih1 h.2.1 s hs
    have h2 := ih2 h.2.2 (v_wq l s).2 h1.2
    exact ⟨Nat.min_le_left _ _, h2.2⟩
  | case13 v x ih =>
    intro h s hs
    have h : hN n a x 9 ∧ cR n a F v (pH a x 1) := by cases v <;> exact h
    have := ih h.2 s hs
    cases v <;> exact ⟨this.1, hs⟩
  | case14 p m t x =>
    intro h s hs
    obtain ⟨-, -, h1, -, h2, h3, h4⟩ := h
    have hp : p = 0 ∨ p = 1 := by omega
    rcases hp with rfl | rfl
    · show 0 ≤ 9999 ∧ m.toNat ≤ 3
      omega
    · show 0 ≤ 9999 ∧ s ≤ 3
      omega
  | case15 m e f x ih => intro h s hs; show 0 ≤ 9999 ∧ s ≤ 3; omega
  | case16 e cl x ih => intro h s hs; show 0 ≤ 9999 ∧ s ≤ 3; omega
  | case17 l r x ih1 ih2 => intro h s hs; exact ⟨Nat.min_le_left _ _, hs⟩
  | case18 m v r x ih1 ih2 => intro h s hs; show 0 ≤ 9999 ∧ s ≤ 3; omega
  | case19 t x =>
    intro h
    unfold cR at h
    split at h <;> first | exact h.elim | (exfalso; simp_all)
theorem vW_w {w : W_} {v : T_} {x : Int} (h : vW_ w v x) : h_w w x 1 = v_wd v 1 ∧ h_w w x 2 = v_wd v 2 ∧ h_w w x 3 = v_wd v 3 := by
  obtain ⟨h1, h2, h3, -⟩ := h.2
  refine ⟨?_, ?_, ?_⟩
  · rw [← h1]; rfl
  · rw [← h2]; rfl
  · rw [← h3]; rfl
theorem vW_wk {w : W_} {v : T_} {x : Int} (h : vW_ w v x) : h_wk w x := by
  obtain ⟨h1, h2, h3⟩ := vW_w h
  have a1 := (cR_wd v x h.1 1 (by decide)).1
  have a2 := (cR_wd v x h.1 2 (by decide)).1
  have a3 := (cR_wd v x h.1 3 (by decide)).1
  unfold h_wk
  rw [h1, h2, h3]
  unfold v_wd
  omega
/-- only the heap grows -/
def hS (w w' : W_) : Prop := (∀ a j, ¬ (a = 13 ∧ j = 2) → w'.1 a j = w.1 a j) ∧ (∀ b, b ≠ 13 → w'.2 b = w.2 b) ∧ w.1 13 2 ≤ w'.1 13 2 ∧ ∀ k : Nat, (k : Int) < 8 * w.1 13 2 → w'.2 13 k = w.2 13 k
theorem hS_tr {w w1 w2 : W_} (h : hS w w1) (g : hS w1 w2) : hS w w2 := ⟨fun a j q => (g.1 a j q).trans (h.1 a j q), fun b q => (g.2.1 b q).trans (h.2.1 b q), Int.le_trans h.2.2.1 g.2.2.1, fun k hk => (g.2.2.2 k (by have := h.2.2.1; omega)).trans (h.2.2.2 k hk)⟩
theorem hS_mk {w : W_} {a b c d e : Int} (h0 : 0 ≤ w.1 13 2) : hS w (w_mk w a b c d e) := by
  refine ⟨fun i j q => ?_, fun b' q => w_mk_2ne w a b c d e q, ?_, fun k hk => ?_⟩
  · rw [w_mk1, w_u_at, if_neg q]
  · rw [w_mk1, w_u_at, if_pos ⟨rfl, rfl⟩]; omega
  · unfold w_mk
    dsimp only
    rw [if_neg (by omega)]
theorem hS_wid {w w1 : W_} {a b c : Int} (h : hS w w1) (h0 : 0 ≤ w.1 13 2) : hS w (w_wid w1 (30000 + w.1 13 2) a b c) := by
  refine ⟨fun i j q => by rw [w_wid1]; exact h.1 i j q, fun b' q => (w_wid_2ne w1 _ a b c q).trans (h.2.1 b' q), by rw [w_wid1]; exact h.2.2.1, fun k hk => ?_⟩
  unfold w_wid
  show w_u (w_u (w_u w1.2 13 _ a) 13 _ b) 13 _ c 13 k = _
  rw [w_u_at, if_neg (by omega), w_u_at, if_neg (by omega), w_u_at, if_neg (by omega)]
  exact h.2.2.2 k hk
theorem hS_x {w w' : W_} (h : hS w w') (ho : oK w) : xP w w' := by
  have g := h.2.1
  exact ⟨h.2.2, fun j => h.1 50 j (by omega), ⟨g 51 (by decide), g 53 (by decide), g 20 (by decide), g 3 (by decide), g 5 (by decide), g 7 (by decide), by rw [h.1 17 3 (by decide)]; exact Int.le_refl _, fun k _ => by rw [g 22 (by decide)]⟩, ⟨h.1 17 7 (by decide), g _ (by omega), h.1 _ 4 (by omega)⟩, fun m hb t q => by unfold eW at q ⊢; rw [g 3 (by decide), g 5 (by decide), g 37 (by decide), g 46 (by decide), g 7 (by decide)]; exact q⟩
theorem oQ_h {n : Int} {w w' : W_} (h : hS w w') (ho : oK w) : oQ n w w' := ⟨⟨h.1 41 12 (by decide), h.1 41 13 (by decide)⟩, fun k _ => by rw [h.2.1 34 (by decide)], h.2.1 42 (by decide), hS_x h ho⟩
theorem CR_h {C : C_} {sil : Bool} {o a0 : Nat} {D : Prop} {K0 : Int} {s : S_} {w w' : W_} {k : Nat} (H : CR C sil o a0 D K0 s w) (h : hS w w') (hk : w'.1 13 2 ≤ w.1 13 2 + k) (hn : s_nd s + k ≤ 11 * s_tb s + 300) : CR C sil o a0 D K0 (u_nd s k) w' := by
  have hx := hS_x h (RD_oK H)
  obtain ⟨Ha, Hb, Hc, Hm⟩ := H
  have ho := Ha.1.1
  have g := h.2.1
  have h0 := Hc.2.2.2.1.1
  refine ⟨?_, ?_, ?_, ?_⟩
  · unfold CRa at Ha ⊢
    rw [h.1 17 7 (by decide), h.1 17 4 (by decide), h.1 17 5 (by decide), h.1 17 6 (by decide), h.1 o 5 (by omega), g (o + 3) (by omega), g 18 (by decide)]
    exact Ha
  · unfold CRb at Hb ⊢
    rw [h.1 17 3 (by decide), g 22 (by decide), h.1 41 14 (by decide), h.1 41 15 (by decide), h.1 41 16 (by decide), h.1 41 17 (by decide)]
    exact Hb
  · obtain ⟨c0, c4, c5, c6, c7⟩ := Hc
    refine ⟨?_, ?_, fun f hf hq m hm => ?_, ?_, ?_⟩
    · rw [h.1 o 7 (by omega), h.1 o 8 (by omega)]; exact c0
    · rw [g 46 (by decide)]; exact c4
    · have h1 := c5 f hf hq m hm
      rw [g 44 (by decide)]
      show match s_fe s f m with
        | none => _
        | some v => vW_ w' v (w.2 44 (f * 10 + m))
      cases q : s_fe s f m with
      | none => rw [q] at h1; exact h1
      | some v => rw [q] at h1; exact vW_x hx h0 h1
    · refine ⟨by have := h.2.2.1; omega, ?_, c6.2.2⟩
      show w'.1 13 2 ≤ K0 + ((s_nd s + k : Nat) : Int)
      omega
    · exact ⟨hn, c7.2⟩
  · intro q
    obtain ⟨m1, m2, m3, m4⟩ := Hm q
    rw [h.1 10 1 (by decide), g 11 (by decide), g 3 (by decide), g 5 (by decide), g 7 (by decide)]
    refine ⟨m1, m2, fun i r hr => ?_, m4⟩
    obtain ⟨r1, r2, r3, r4⟩ := m3 i r hr
    exact ⟨r1, r2, vR_mono h0 h.2.2.1 h.2.2.2 (fun _ q => q) r3, r4⟩
def m5 (a b c d e : Int) : Nat → Int
  | 0 => a
  | 1 => b
  | 2 => c
  | 3 => d
  | 4 => e
  | _ => 0
theorem mk_g {w : W_} {a b c d e : Int} (h0 : 0 ≤ w.1 13 2) {f : Nat} (hf : f < 8) : pH ((w_mk w a b c d e).2 13) (30000 + w.1 13 2) f = m5 a b c d e f := by
  have ef : ((30000 + w.1 13 2 - 30000) * 8 + (f : Int)).toNat - (w.1 13 2 * 8).toNat = f := by omega
  unfold pH w_mk m5
  dsimp only
  rw [if_neg (by omega), if_pos (by omega), ef]
  try rfl
/-- a new node's fields -/
theorem mk_f {w : W_} {a b c d e : Int} (h0 : 0 ≤ w.1 13 2) : pH ((w_mk w a b c d e).2 13) (30000 + w.1 13 2) 0 = a ∧ pH ((w_mk w a b c d e).2 13) (30000 + w.1 13 2) 1 = b ∧ pH ((w_mk w a b c d e).2 13) (30000 + w.1 13 2) 2 = c ∧ pH ((w_mk w a b c d e).2 13) (30000 + w.1 13 2) 3 = d ∧ pH ((w_mk w a b c d e).2 13) (30000 + w.1 13 2) 4 = e ∧ pH ((w_mk w a b c d e).2 13) (30000 + w.1 13 2) 5 = 0 ∧ pH ((w_mk w a b c d e).2 13) (30000 + w.1 13 2) 6 = 0 ∧ pH ((w_mk w a b c d e).2 13) (30000 + w.1 13 2) 7 = 0 := by
  exact ⟨mk_g h0 (f := 0) (by decide), mk_g h0 (f := 1) (by decide), mk_g h0 (f := 2) (by decide), mk_g h0 (f := 3) (by decide), mk_g h0 (f := 4) (by decide), mk_g h0 (f := 5) (by decide), mk_g h0 (f := 6) (by decide), mk_g h0 (f := 7) (by decide)⟩
theorem wid_f {w : W_} {x a b c : Int} (hx : 30000 ≤ x) {f : Nat} (hf : f < 8) : pH ((w_wid w x a b c).2 13) x f = if f = 5 then a else if f = 6 then b else if f = 7 then c else pH (w.2 13) x f := by
  have hn : ¬ x < 30000 := by omega
  unfold pH w_wid
  rw [if_neg hn, if_neg hn]
  show w_u (w_u (w_u w.2 13 _ a) 13 _ b) 13 _ c 13 _ = _
  rw [w_u_at]
  by_cases h7 : f = 7
  · rw [if_pos (by omega), if_neg (by omega), if_neg (by omega), if_pos h7]
  · rw [if_neg (by omega), w_u_at]
    by_cases h6 : f = 6
    · rw [if_pos (by omega), if_neg (by omega), if_pos h6]
    · rw [if_neg (by omega), w_u_at]
      by_cases h5 : f = 5
      · rw [if_pos (by omega), if_pos h5]
      · rw [if_neg (by omega), if_neg h5, if_neg h6, if_neg h7]
/-- a new node that tells its widths -/
theorem new_wid {W : W_} {k b c d e x y z : Int} (h0 : 0 ≤ W.1 13 2) (hd : am_rg d) (he : am_rg e) : let W' := w_wid (w_mk W k b c d e) (30000 + W.1 13 2) x y z
    let u := 30000 + W.1 13 2
    W'.1 13 2 = W.1 13 2 + 1 ∧ hN (W'.1 13 2) (W'.2 13) u k ∧ pH (W'.2 13) u 1 = b ∧ pH (W'.2 13) u 2 = c ∧ pH (W'.2 13) u 3 = d ∧ pH (W'.2 13) u 4 = e ∧ pH (W'.2 13) u 5 = x ∧ pH (W'.2 13) u 6 = y ∧ pH (W'.2 13) u 7 = z := by
  intro W' u
  have n1 : W'.1 13 2 = W.1 13 2 + 1 := by
    show (w_mk W k b c d e).1 13 2 = _
    rw [w_mk1, w_u_at, if_pos ⟨rfl, rfl⟩]
  have e : ∀ f, f < 8 → pH (W'.2 13) u f = if f = 5 then x else if f = 6 then y else if f = 7 then z else m5 k b c d e f := fun f hf => by
    have h1 := wid_f (w := w_mk W k b c d e) (x := 30000 + W.1 13 2) (a := x) (b := y) (c := z) (by omega) hf
    rw [mk_g h0 hf] at h1
    exact h1
  exact ⟨n1, ⟨by rw [n1]; show 30000 ≤ 30000 + W.1 13 2 ∧ 30000 + W.1 13 2 < _; omega, e 0 (by decide), by rw [e 3 (by decide)]; exact hd, by rw [e 4 (by decide)]; exact he⟩, e 1 (by decide), e 2 (by decide), e 3 (by decide), e 4 (by decide), e 5 (by decide), e 6 (by decide), e 7 (by decide)⟩
theorem new_mk {W : W_} {k b c d e : Int} (h0 : 0 ≤ W.1 13 2) (hd : am_rg d) (he : am_rg e) : (w_mk W k b c d e).1 13 2 = W.1 13 2 + 1 ∧ hN ((w_mk W k b c d e).1 13 2) ((w_mk W k b c d e).2 13) (30000 + W.1 13 2) k := by
  have n1 : (w_mk W k b c d e).1 13 2 = W.1 13 2 + 1 := by rw [w_mk1, w_u_at, if_pos ⟨rfl, rfl⟩]
  have f := mk_f (a := k) (b := b) (c := c) (d := d) (e := e) h0
  exact ⟨n1, ⟨by rw [n1]; omega, f.1, by rw [f.2.2.2.1]; exact hd, by rw [f.2.2.2.2.1]; exact he⟩⟩
/-- so many faults -/
theorem ntn_Q {n : Int} {f : Int} : ∀ (k : Nat) (w : W_), oK w → oQ n w (w_ntn k w f) ∧ (w_ntn k w f).1 33 1 = w.1 33 1 ∧ (w_ntn k w f).1 41 10 = w.1 41 10 ∧ (w_ntn k w f).1 41 11 = w.1 41 11 ∧ (w_ntn k w f).1 13 2 = w.1 13 2 := by
  intro k
  induction k with
  | zero => intro w ho; exact ⟨⟨⟨rfl, rfl⟩, fun _ _ => rfl, rfl, xP_S (wS_refl w) ho⟩, rfl, rfl, rfl, rfl⟩
  | succ k ih =>
    intro w ho
    have g := oQ_nt (n := n) (x := f) ho
    obtain ⟨a1, a2, a3, a4, a5⟩ := ih (w_nt w f) (oK_x g.2.2.2 ho)
    obtain ⟨b1, b2, b3⟩ := w_nt_n (f := f) ho
    have b4 : (w_nt w f).1 13 2 = w.1 13 2 := by
      unfold w_nt
      rw [w_f1, w_u_at, if_neg (by omega), w_f1, w_u_at, if_neg (by decide)]
      rfl
    exact ⟨oQ_tr g a1, a2.trans b1, a3.trans b2, a4.trans b3, a5.trans b4⟩
theorem RD_ntn {C : C_} {sil : Bool} {o a0 : Nat} {D : Prop} {K0 : Int} {hb : Bool} {E : N_} {f : Int} : ∀ (k : Nat) (s : S_) (w : W_), RD C sil o a0 D K0 hb s E w → s_nt s + k ≤ 1000000 → RD C sil o a0 D K0 hb (f_notes C f k s) E (w_ntn k w f) := by
  intro k
  induction k with
  | zero => intro s w H _; exact H
  | succ k ih => intro s w H hk; exact ih (f_note C f s) (w_nt w f) (RD_nt H (by omega)) (by show s_nt s + 1 + k ≤ 1000000; omega)
