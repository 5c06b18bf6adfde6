/-! ===== the class and the evaluator: what a value's number shows ===== -/
theorem hN_rg {n : Int} {a : Nat → Int} {F : T_ → Prop} {x k : Int} (h : hN n a F x k) (hk : am_rg k) : am_rg (pH a x 0) ∧ am_rg (pH a x 3) ∧ am_rg (pH a x 4) := ⟨by rw [h.2.1]; exact hk, h.2.2.1, h.2.2.2.1⟩
theorem vW_ok {w : W_} {v : T_} {x : Int} (h0 : 0 ≤ w.1 13 2) (h1 : w.1 13 2 ≤ 300000) (h : vW_ w v x) : h_ok w x := by
  have hx := cR_lt h0 h.1
  refine ⟨by omega, ?_⟩
  rw [pH_w, pH_w, pH_w]
  by_cases c : x < 30000
  · have e : ∀ f, pH (w.2 13) x f = 0 := fun f => by unfold pH; rw [if_pos c]
    rw [e, e, e]
    unfold am_rg
    omega
  · have h2 := h.1
    unfold cR at h2
    split at h2
    all_goals first | exact h2.elim | (exfalso; omega) | exact hN_rg h2.1 (by unfold am_rg; omega) | exact hN_rg h2 (by unfold am_rg; omega)
theorem hN_nf {n : Int} {a : Nat → Int} {F : T_ → Prop} {x k : Int} (h : hN n a F x k) : (if pH a x 0 = 12 then (1 : Int) else if pH a x 0 = 13 then pH a x 3 else 0) = if k = 12 then 1 else if k = 13 then pH a x 3 else 0 := by rw [h.2.1]
theorem pH_nf {a : Nat → Int} {x : Int} (h : x < 30000) : (if pH a x 0 = 12 then (1 : Int) else if pH a x 0 = 13 then pH a x 3 else 0) = 0 := by
  have e : pH a x 0 = 0 := by unfold pH; rw [if_pos h]
  rw [e, if_neg (by decide), if_neg (by decide)]
theorem vW_nf {w : W_} {v : T_} {x : Int} (h : vW_ w v x) : h_nf w x = (min 60 (v_nf v) : Nat) := by
  show (if pH (w.2 13) x 0 = 12 then (1 : Int) else if pH (w.2 13) x 0 = 13 then pH (w.2 13) x 3 else 0) = _
  have h2 := h.1
  unfold cR at h2
  split at h2
  all_goals first | exact h2.elim | exact (hN_nf h2.1).trans h2.2.1 | exact (hN_nf h2.1).trans rfl | exact (hN_nf h2).trans rfl | exact (pH_nf (by omega)).trans rfl | exact (hN_nf h2.1).trans (by first | rfl | (rename_i v _; cases v <;> rfl))
theorem cR_wd {n : Int} {a : Nat → Int} {F : T_ → Prop} : ∀ (v : T_) (x : Int), cR n a F v x → ∀ s : Nat, s ≤ 3 → (v_wq v s).1 ≤ 9999 ∧ (v_wq v s).2 ≤ 3 := by
  intro v x
  induction v, x using cR.induct (a := a) with
  | case1 m x => intro h s hs; show s ≤ 9999 ∧ s ≤ 3; omega
  | case2 x => intro h s hs; show 0 ≤ 9999 ∧ s ≤ 3; omega
  | case3 x => intro h s hs; show 0 ≤ 9999 ∧ s ≤ 3; omega
  | case4 x => intro h s hs; show 0 ≤ 9999 ∧ s ≤ 3; omega
  | case5 m t x => intro h s hs; show s ≤ 9999 ∧ s ≤ 3; omega
  | case6 t x => intro h s hs; show 0 ≤ 9999 ∧ s ≤ 3; omega
  | case7 m t x => intro h s hs; show 0 ≤ 9999 ∧ s ≤ 3; omega
  | case8 m t x => intro h s hs; obtain ⟨-, -, ⟨h1, h2⟩, -⟩ := h; show m.toNat ≤ 9999 ∧ s ≤ 3; omega
  | case9 id v x ih => intro h s hs; have := ih h.2.2.2.1 s hs; exact ⟨this.1, hs⟩
  | case10 c m t x => intro h s hs; show 0 ≤ 9999 ∧ s ≤ 3; omega
  | case11 e cl x ih => intro h s hs; show 0 ≤ 9999 ∧ s ≤ 3; omega
  | case12 l r x ih1 ih2 =>
    intro h s hs
    have h1 := ih1 h.2.1 s hs
    have h2 := ih2 h.2.2 (v_wq l s).2 h1.2
    exact ⟨Nat.min_le_left _ _, h2.2⟩
  | case13 v x ih =>
    intro h s hs
    have h : hN n a F x 9 ∧ cR n a F v (pH a x 1) := by cases v <;> exact h
    have := ih h.2 s hs
    cases v <;> exact ⟨this.1, hs⟩
  | case14 p m t x =>
    intro h s hs
    obtain ⟨-, -, h1, -, h2, h3, h4⟩ := h
    have hp : p = 0 ∨ p = 1 := by omega
    rcases hp with rfl | rfl
    · show 0 ≤ 9999 ∧ m.toNat ≤ 3
      omega
    · show 0 ≤ 9999 ∧ s ≤ 3
      omega
  | case15 m e f x ih => intro h s hs; show 0 ≤ 9999 ∧ s ≤ 3; omega
  | case16 e cl x ih => intro h s hs; show 0 ≤ 9999 ∧ s ≤ 3; omega
  | case17 l r x ih1 ih2 => intro h s hs; exact ⟨Nat.min_le_left _ _, hs⟩
  | case18 m v r x ih1 ih2 => intro h s hs; show 0 ≤ 9999 ∧ s ≤ 3; omega
  | case19 t x =>
    intro h
    unfold cR at h
    split at h <;> first | exact h.elim | (exfalso; simp_all)
theorem vW_w {w : W_} {v : T_} {x : Int} (h : vW_ w v x) : h_w w x 1 = v_wd v 1 ∧ h_w w x 2 = v_wd v 2 ∧ h_w w x 3 = v_wd v 3 := by
  obtain ⟨h1, h2, h3, -⟩ := h.2
  refine ⟨?_, ?_, ?_⟩
  · rw [← h1]; rfl
  · rw [← h2]; rfl
  · rw [← h3]; rfl
theorem vW_wk {w : W_} {v : T_} {x : Int} (h : vW_ w v x) : h_wk w x := by
  obtain ⟨h1, h2, h3⟩ := vW_w h
  have a1 := (cR_wd v x h.1 1 (by decide)).1
  have a2 := (cR_wd v x h.1 2 (by decide)).1
  have a3 := (cR_wd v x h.1 3 (by decide)).1
  unfold h_wk
  rw [h1, h2, h3]
  unfold v_wd
  omega
def m5 (a b c d e : Int) : Nat → Int
  | 0 => a
  | 1 => b
  | 2 => c
  | 3 => d
  | 4 => e
  | _ => 0
theorem mk_g {w : W_} {a b c d e : Int} (h0 : 0 ≤ w.1 13 2) {f : Nat} (hf : f < 8) : pH ((w_mk w a b c d e).2 13) (30000 + w.1 13 2) f = m5 a b c d e f := by
  have ef : ((30000 + w.1 13 2 - 30000) * 8 + (f : Int)).toNat - (w.1 13 2 * 8).toNat = f := by omega
  unfold pH w_mk m5
  dsimp only
  rw [if_neg (by omega), if_pos (by omega), ef]
  try rfl
/-- a new node's fields -/
theorem mk_f {w : W_} {a b c d e : Int} (h0 : 0 ≤ w.1 13 2) : pH ((w_mk w a b c d e).2 13) (30000 + w.1 13 2) 0 = a ∧ pH ((w_mk w a b c d e).2 13) (30000 + w.1 13 2) 1 = b ∧ pH ((w_mk w a b c d e).2 13) (30000 + w.1 13 2) 2 = c ∧ pH ((w_mk w a b c d e).2 13) (30000 + w.1 13 2) 3 = d ∧ pH ((w_mk w a b c d e).2 13) (30000 + w.1 13 2) 4 = e ∧ pH ((w_mk w a b c d e).2 13) (30000 + w.1 13 2) 5 = 0 ∧ pH ((w_mk w a b c d e).2 13) (30000 + w.1 13 2) 6 = 0 ∧ pH ((w_mk w a b c d e).2 13) (30000 + w.1 13 2) 7 = 0 := by
  exact ⟨mk_g h0 (f := 0) (by decide), mk_g h0 (f := 1) (by decide), mk_g h0 (f := 2) (by decide), mk_g h0 (f := 3) (by decide), mk_g h0 (f := 4) (by decide), mk_g h0 (f := 5) (by decide), mk_g h0 (f := 6) (by decide), mk_g h0 (f := 7) (by decide)⟩
theorem wid_f {w : W_} {x a b c : Int} (hx : 30000 ≤ x) {f : Nat} (hf : f < 8) : pH ((w_wid w x a b c).2 13) x f = if f = 5 then a else if f = 6 then b else if f = 7 then c else pH (w.2 13) x f := by
  have hn : ¬ x < 30000 := by omega
  unfold pH w_wid
  rw [if_neg hn, if_neg hn]
  show w_u (w_u (w_u w.2 13 _ a) 13 _ b) 13 _ c 13 _ = _
  rw [w_u_at]
  by_cases h7 : f = 7
  · rw [if_pos (by omega), if_neg (by omega), if_neg (by omega), if_pos h7]
  · rw [if_neg (by omega), w_u_at]
    by_cases h6 : f = 6
    · rw [if_pos (by omega), if_neg (by omega), if_pos h6]
    · rw [if_neg (by omega), w_u_at]
      by_cases h5 : f = 5
      · rw [if_pos (by omega), if_pos h5]
      · rw [if_neg (by omega), if_neg h5, if_neg h6, if_neg h7]
/-- only the heap grows -/
def hS (w w' : W_) : Prop := (∀ a j, ¬ (a = 13 ∧ j = 2) → w'.1 a j = w.1 a j) ∧ (∀ b, b ≠ 13 → w'.2 b = w.2 b) ∧ w.1 13 2 ≤ w'.1 13 2 ∧ (∀ k : Nat, (k : Int) < 8 * w.1 13 2 → w'.2 13 k = w.2 13 k) ∧ ∀ k : Nat, w.1 13 2 ≤ (k : Int) → (k : Int) < w'.1 13 2 → nd1 (w'.2 13) (w.2 7) k
theorem hS_tr {w w1 w2 : W_} (h : hS w w1) (g : hS w1 w2) : hS w w2 := ⟨fun a j q => (g.1 a j q).trans (h.1 a j q), fun b q => (g.2.1 b q).trans (h.2.1 b q), Int.le_trans h.2.2.1 g.2.2.1, fun k hk => (g.2.2.2.1 k (by have := h.2.2.1; omega)).trans (h.2.2.2.1 k hk), fun k k0 k1 => by
  by_cases c : (k : Int) < w1.1 13 2
  · exact nd1_eq (fun i hi => g.2.2.2.1 _ (by omega)) (h.2.2.2.2 k k0 c)
  · have z := g.2.2.2.2 k (by omega) k1
    rw [h.2.1 7 (by decide)] at z
    exact z⟩
/-- what may be a part of a new node -/
def cpx (w : W_) (b : Int) : Prop := (-2147483648 ≤ b ∧ b < 30000 + w.1 13 2) ∧ (30000 ≤ b → gA (w.2 7) b)
theorem cpx_k {w : W_} {b : Int} (h0 : 0 ≤ w.1 13 2) (h : -2147483648 ≤ b ∧ b < 30000) : cpx w b := ⟨⟨h.1, by omega⟩, fun q => absurd q (by omega)⟩
theorem cpx_of {w : W_} {v : T_} {b : Int} (h0 : 0 ≤ w.1 13 2) (h : cR (w.1 13 2) (w.2 13) (fW w) v b) : cpx w b := by
  have z := cR_lt h0 h
  refine ⟨⟨by omega, z.2⟩, ?_⟩
  unfold cR at h
  split at h
  all_goals first | exact h.1.2.2.2.2 | exact h.2.2.2.2 | (intro _; omega) | exact h.elim
theorem hS_mk {w : W_} {a b c d e : Int} (h0 : 0 ≤ w.1 13 2) (hb : cpx w b) (hc : cpx w c) (h12 : a = 12 → c < 30000) : hS w (w_mk w a b c d e) := by
  refine ⟨fun i j q => ?_, fun b' q => w_mk_2ne w a b c d e q, ?_, fun k hk => ?_, fun k k0 k1 => ?_⟩
  · rw [w_mk1, w_u_at, if_neg q]
  · rw [w_mk1, w_u_at, if_pos ⟨rfl, rfl⟩]; omega
  · unfold w_mk
    dsimp only
    rw [if_neg (by omega)]
  · rw [w_mk1, w_u_at, if_pos ⟨rfl, rfl⟩] at k1
    have ef : ∀ f : Nat, f < 8 → (w_mk w a b c d e).2 13 (8 * k + f) = m5 a b c d e f := fun f hf => by
      rw [← mk_g (a := a) (b := b) (c := c) (d := d) (e := e) h0 hf]
      unfold pH
      rw [if_neg (by omega)]
      exact congrArg _ (by omega)
    have e0 : (w_mk w a b c d e).2 13 (8 * k) = a := ef 0 (by decide)
    have e1 : (w_mk w a b c d e).2 13 (8 * k + 1) = b := ef 1 (by decide)
    have e2 : (w_mk w a b c d e).2 13 (8 * k + 2) = c := ef 2 (by decide)
    unfold nd1
    rw [e0, e1, e2]
    have hb1 := hb.1
    have hc1 := hc.1
    exact ⟨⟨⟨by omega, by omega⟩, by omega, by omega⟩, h12, fun _ => ⟨hb.2, hc.2⟩⟩
theorem hS_wid {w w1 : W_} {a b c : Int} (h : hS w w1) (h0 : 0 ≤ w.1 13 2) : hS w (w_wid w1 (30000 + w.1 13 2) a b c) := by
  have e : ∀ k : Nat, k ≠ (w.1 13 2 * 8 + 5).toNat → k ≠ (w.1 13 2 * 8 + 6).toNat → k ≠ (w.1 13 2 * 8 + 7).toNat → (w_wid w1 (30000 + w.1 13 2) a b c).2 13 k = w1.2 13 k := fun k k1 k2 k3 => by
    unfold w_wid
    show w_u (w_u (w_u w1.2 13 _ a) 13 _ b) 13 _ c 13 k = _
    rw [w_u_at, if_neg (by omega), w_u_at, if_neg (by omega), w_u_at, if_neg (by omega)]
  refine ⟨fun i j q => by rw [w_wid1]; exact h.1 i j q, fun b' q => (w_wid_2ne w1 _ a b c q).trans (h.2.1 b' q), by rw [w_wid1]; exact h.2.2.1, fun k hk => ?_, fun k k0 k1 => ?_⟩
  · rw [e k (by omega) (by omega) (by omega)]
    exact h.2.2.2.1 k hk
  · rw [w_wid1] at k1
    exact nd1_eq (fun i hi => e _ (by omega) (by omega) (by omega)) (h.2.2.2.2 k k0 k1)
theorem hS_mk0 {w : W_} {a d e : Int} (h0 : 0 ≤ w.1 13 2) : hS w (w_mk w a 20003 20003 d e) := hS_mk h0 (cpx_k h0 (by decide)) (cpx_k h0 (by decide)) (fun _ => by decide)
theorem hS_rf (w : W_) : hS w w := ⟨fun _ _ _ => rfl, fun _ _ => rfl, Int.le_refl _, fun _ _ => rfl, fun k k0 k1 => absurd k1 (by omega)⟩
theorem cpx_if {w : W_} {b : Int} {p : Prop} [Decidable p] (h0 : 0 ≤ w.1 13 2) (h : cpx w b) : cpx w (if p then b else 20003) := by
  split
  · exact h
  · exact cpx_k h0 (by decide)
theorem gN_h {w w' : W_} (h : hS w w') (hg : gN (w.1 13 2) (w.2 7)) : gN (w'.1 13 2) (w'.2 7) := by
  rw [h.2.1 7 (by decide)]
  exact gN_mono h.2.2.1 hg
theorem CR_gN {C : C_} {sil : Bool} {o a0 : Nat} {D : Prop} {K0 : Int} {s : S_} {w : W_} (H : CR C sil o a0 D K0 s w) : gN (w.1 13 2) (w.2 7) := H.2.2.1.1.2.2
theorem hS_x {w w' : W_} (h : hS w w') (ho : oK w) : xP w w' := by
  have g := h.2.1
  exact ⟨⟨h.2.2.1, h.2.2.2.1⟩, fun j => h.1 50 j (by omega), ⟨g 51 (by decide), g 53 (by decide), g 20 (by decide), g 3 (by decide), g 5 (by decide), g 7 (by decide), by rw [h.1 17 3 (by decide)]; exact Int.le_refl _, fun k _ => by rw [g 22 (by decide)], rQ_1 (fun a j q => h.1 a j (by omega)) (fun b q => g b (by omega))⟩, ⟨h.1 17 7 (by decide), g _ (by omega), h.1 _ 4 (by omega)⟩, fun m hb t q => by unfold eW0 at q ⊢; rw [g 3 (by decide), g 5 (by decide), g 37 (by decide), g 46 (by decide), g 7 (by decide)]; exact q⟩
theorem oQ_h {n : Int} {w w' : W_} (h : hS w w') (ho : oK w) : oQ n w w' := ⟨⟨h.1 41 12 (by decide), h.1 41 13 (by decide)⟩, fun k _ => by rw [h.2.1 34 (by decide)], h.2.1 42 (by decide), hS_x h ho⟩
theorem CR_h {C : C_} {sil : Bool} {o a0 : Nat} {D : Prop} {K0 : Int} {s : S_} {w w' : W_} {k : Nat} (H : CR C sil o a0 D K0 s w) (h : hS w w') (hk : w'.1 13 2 ≤ w.1 13 2 + k) (hn : s_nd s + k ≤ 11 * s_tb s + 300) : CR C sil o a0 D K0 (u_nd s k) w' := by
  have hx := hS_x h (RD_oK H)
  obtain ⟨Ha, Hb, Hc, Hm⟩ := H
  have ho := Ha.1.1
  have g := h.2.1
  have h0 := Hc.2.2.2.1.1
  refine ⟨?_, ?_, ?_, ?_⟩
  · unfold CRa at Ha ⊢
    rw [h.1 17 7 (by decide), h.1 17 4 (by decide), h.1 17 5 (by decide), h.1 17 6 (by decide), h.1 o 5 (by omega), g (o + 3) (by omega), g 18 (by decide)]
    exact Ha
  · unfold CRb at Hb ⊢
    rw [h.1 17 3 (by decide), g 22 (by decide), h.1 41 14 (by decide), h.1 41 15 (by decide), h.1 41 16 (by decide), h.1 41 17 (by decide)]
    exact Hb
  · obtain ⟨c0, c4, c5, c6, c7⟩ := Hc
    refine ⟨?_, ?_, fun f hf hq m hm => ?_, ?_, ?_⟩
    · rw [h.1 o 7 (by omega), h.1 o 8 (by omega), g 7 (by decide)]
      exact ⟨c0.1, hI_mono h.2.2.2.1 h.2.2.2.2 c0.2.1, gN_mono h.2.2.1 c0.2.2⟩
    · rw [g 46 (by decide)]; exact c4
    · have h1 := c5 f hf hq m hm
      rw [g 44 (by decide)]
      show match s_fe s f m with
        | none => _
        | some v => vR (w'.1 13 2) (w'.2 13) (fW0 w') v (w.2 44 (f * 10 + m))
      cases q : s_fe s f m with
      | none => rw [q] at h1; exact h1
      | some v => rw [q] at h1; exact v0_x hx h0 h1
    · refine ⟨by have := h.2.2.1; omega, ?_, c6.2.2⟩
      show w'.1 13 2 ≤ K0 + ((s_nd s + k : Nat) : Int)
      omega
    · exact ⟨hn, c7.2⟩
  · obtain ⟨m1, m2, m3, m4, m5⟩ := Hm
    unfold CRm
    rw [h.1 10 1 (by decide), h.1 13 3 (by decide), g 11 (by decide), g 3 (by decide), g 5 (by decide), g 7 (by decide)]
    refine ⟨m1, m2, fun i r hr => ?_, m4, mU_mono h.2.2.1 h.2.2.2.1 m5⟩
    obtain ⟨r1, r2, r3, r4⟩ := m3 i r hr
    exact ⟨r1, r2, vR_mono h0 h.2.2.1 h.2.2.2.1 (fun _ q => q) r3, r4⟩
/-- a new node that tells its widths -/
theorem new_wid {W : W_} {k b c d e x y z : Int} (h0 : 0 ≤ W.1 13 2) (hd : am_rg d) (he : am_rg e) (hg : gN (W.1 13 2) (W.2 7)) : let W' := w_wid (w_mk W k b c d e) (30000 + W.1 13 2) x y z
    let u := 30000 + W.1 13 2
    W'.1 13 2 = W.1 13 2 + 1 ∧ hN (W'.1 13 2) (W'.2 13) (fW W') u k ∧ pH (W'.2 13) u 1 = b ∧ pH (W'.2 13) u 2 = c ∧ pH (W'.2 13) u 3 = d ∧ pH (W'.2 13) u 4 = e ∧ pH (W'.2 13) u 5 = x ∧ pH (W'.2 13) u 6 = y ∧ pH (W'.2 13) u 7 = z := by
  intro W' u
  have n1 : W'.1 13 2 = W.1 13 2 + 1 := by
    show (w_mk W k b c d e).1 13 2 = _
    rw [w_mk1, w_u_at, if_pos ⟨rfl, rfl⟩]
  have e : ∀ f, f < 8 → pH (W'.2 13) u f = if f = 5 then x else if f = 6 then y else if f = 7 then z else m5 k b c d e f := fun f hf => by
    have h1 := wid_f (w := w_mk W k b c d e) (x := 30000 + W.1 13 2) (a := x) (b := y) (c := z) (by omega) hf
    rw [mk_g h0 hf] at h1
    exact h1
  exact ⟨n1, ⟨by rw [n1]; show 30000 ≤ 30000 + W.1 13 2 ∧ 30000 + W.1 13 2 < _; omega, e 0 (by decide), by rw [e 3 (by decide)]; exact hd, by rw [e 4 (by decide)]; exact he, by
    show 30000 ≤ u → gA (W'.2 7) u
    have e7 : W'.2 7 = W.2 7 := (w_wid_2ne _ _ x y z (by decide)).trans (w_mk_2ne W k b c d _ (by decide))
    rw [e7]
    exact fun _ => (hg.1 u (Int.le_refl _)).1⟩, e 1 (by decide), e 2 (by decide), e 3 (by decide), e 4 (by decide), e 5 (by decide), e 6 (by decide), e 7 (by decide)⟩
theorem new_mk {W : W_} {k b c d e : Int} (h0 : 0 ≤ W.1 13 2) (hd : am_rg d) (he : am_rg e) (hg : gN (W.1 13 2) (W.2 7)) : (w_mk W k b c d e).1 13 2 = W.1 13 2 + 1 ∧ hN ((w_mk W k b c d e).1 13 2) ((w_mk W k b c d e).2 13) (fW (w_mk W k b c d e)) (30000 + W.1 13 2) k := by
  have n1 : (w_mk W k b c d e).1 13 2 = W.1 13 2 + 1 := by rw [w_mk1, w_u_at, if_pos ⟨rfl, rfl⟩]
  have f := mk_f (a := k) (b := b) (c := c) (d := d) (e := e) h0
  exact ⟨n1, ⟨by rw [n1]; omega, f.1, by rw [f.2.2.2.1]; exact hd, by rw [f.2.2.2.2.1]; exact he, by
    show 30000 ≤ 30000 + W.1 13 2 → gA ((w_mk W k b c d e).2 7) (30000 + W.1 13 2)
    rw [w_mk_2ne W k b c d e (by decide)]
    exact fun _ => (hg.1 _ (Int.le_refl _)).1⟩⟩
/-- so many faults -/
theorem ntn_Q {n : Int} {f : Int} : ∀ (k : Nat) (w : W_), oK w → oQ n w (w_ntn k w f) ∧ (w_ntn k w f).1 33 1 = w.1 33 1 ∧ (w_ntn k w f).1 41 10 = w.1 41 10 ∧ (w_ntn k w f).1 41 11 = w.1 41 11 ∧ (w_ntn k w f).1 13 2 = w.1 13 2 := by
  intro k
  induction k with
  | zero => intro w ho; exact ⟨⟨⟨rfl, rfl⟩, fun _ _ => rfl, rfl, xP_S (wS_refl w) ho⟩, rfl, rfl, rfl, rfl⟩
  | succ k ih =>
    intro w ho
    have g := oQ_nt (n := n) (x := f) ho
    obtain ⟨a1, a2, a3, a4, a5⟩ := ih (w_nt w f) (oK_x g.2.2.2 ho)
    obtain ⟨b1, b2, b3⟩ := w_nt_n (f := f) ho
    have b4 : (w_nt w f).1 13 2 = w.1 13 2 := by
      unfold w_nt
      rw [w_f1, w_u_at, if_neg (by omega), w_f1, w_u_at, if_neg (by decide)]
      rfl
    exact ⟨oQ_tr g a1, a2.trans b1, a3.trans b2, a4.trans b3, a5.trans b4⟩
theorem RD_ntn {C : C_} {sil : Bool} {o a0 : Nat} {D : Prop} {K0 : Int} {hb : Bool} {E : N_} {f : Int} : ∀ (k : Nat) (s : S_) (w : W_), RD C sil o a0 D K0 hb s E w → s_nt s + k ≤ 1000000 → RD C sil o a0 D K0 hb (f_notes C f k s) E (w_ntn k w f) := by
  intro k
  induction k with
  | zero => intro s w H _; exact H
  | succ k ih => intro s w H hk; exact ih (f_note C f s) (w_nt w f) (RD_nt H (by omega)) (by show s_nt s + 1 + k ≤ 1000000; omega)
