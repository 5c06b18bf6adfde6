/-! ===== the first call on a fresh object ===== -/
/-- ahead of the call the first world; behind it at most one throw -/
def lw_1 : lw_I := fun k w => if k = 0 then w = w_0 else 0 ≤ w.1 0 0 ∧ w.1 0 0 ≤ 1
theorem lw_1_0 {w : W_} (h : lw_1 0 w) : w = w_0 := by
  unfold lw_1 at h
  rw [if_pos rfl] at h
  exact h
theorem lw_1_1 {w : W_} (h0 : 0 ≤ w.1 0 0) (h1 : w.1 0 0 ≤ 1) : lw_1 (0 + 1) w := by
  unfold lw_1
  rw [if_neg (by omega)]
  exact ⟨h0, h1⟩
theorem n0_2 {a i : Nat} (h : a ≠ 126) : (nf w_0).2 a i = 0 := by
  show (if a = 127 then (0 : Int) else if a = 126 ∧ i < 10 then (20005 : Int) else 0) = 0
  split
  · rfl
  · rw [if_neg (fun q => h q.1)]
theorem n0_126 {i : Nat} (h : i < 10) : (nf w_0).2 126 i = 20005 := by
  show (if (126 : Nat) = 127 then (0 : Int) else if (126 : Nat) = 126 ∧ i < 10 then (20005 : Int) else 0) = 20005
  rw [if_neg (by decide), if_pos ⟨rfl, h⟩]
theorem n0_rg0 : am_rg 0 := ⟨by decide, by decide⟩
theorem n0_1 : (nf w_0).1 1 4 = 0 ∧ (nf w_0).1 73 85 = 0 ∧ (nf w_0).1 55 9 = 0 ∧ (nf w_0).1 73 86 = 0 ∧ (nf w_0).1 55 7 = 0 ∧ (nf w_0).1 73 80 = 0 ∧ (nf w_0).1 55 8 = 0 ∧ (nf w_0).1 73 81 = 0 ∧ (nf w_0).1 10 1 = 0 ∧ (nf w_0).1 73 70 = 0 ∧ (nf w_0).1 55 4 = 0 ∧ (nf w_0).1 73 87 = 0 ∧ (nf w_0).1 55 5 = 0 ∧ (nf w_0).1 73 89 = 0 := by decide +kernel
theorem inv_0 : Inv (fun _ => True) 0 w_0 := by
  obtain ⟨a1, a2, a3, a4, a5, a6, a7, a8, a9, b1, b2, b3, b4, b5⟩ := n0_1
  refine ⟨⟨⟨fun f hf => ?_, fun f p hf hp => ?_, ?_, ?_, ?_, ?_, ?_, ?_, fun i hi => ?_, ?_, fun i hi => ?_, fun i hi => ?_, fun i hi => ?_⟩, trivial⟩, ⟨⟨by decide +kernel, by decide +kernel, by decide +kernel⟩, by decide +kernel, by decide +kernel, by decide +kernel⟩, by decide +kernel, by decide +kernel⟩
  · rw [n0_2 (by decide), n0_2 (by decide)]
    exact ⟨rfl, by decide, by decide⟩
  · rw [n0_2 (by decide)] at hp
    omega
  · rw [a1, a2]
    exact ⟨rfl, Or.inl rfl⟩
  · rw [a3, a4]
    exact ⟨Or.inl rfl, Or.inl rfl, fun _ => rfl⟩
  · rw [a5, a6]
    exact ⟨rfl, n0_rg0⟩
  · rw [a7, a8]
    exact ⟨rfl, n0_rg0⟩
  · rw [a9, b1]
    exact ⟨rfl, by decide, by decide⟩
  · rw [b2, b3]
    exact ⟨rfl, by decide, by decide⟩
  · rw [b2] at hi
    omega
  · rw [b4, b5]
    exact ⟨rfl, by decide, by decide⟩
  · rw [b4] at hi
    omega
  · rw [n0_2 (by decide), n0_2 (by decide)]
    exact ⟨rfl, n0_rg0⟩
  · rw [a1, if_pos rfl, n0_126 hi]
    exact ⟨rfl, by decide, by decide⟩
theorem one_of {M : W_ → Prop} {w : W_} (h : Inv M (0 + 1) w) : lw_1 (0 + 1) w := lw_1_1 h.2.2.1 (by have := h.2.2.2; omega)
theorem one_C {mc mm : Nat} (h : lw_C0 (Inv fun _ => True) mc mm) : lw_C lw_1 mc mm := fun k w hk hI => by
  have k0 : k = 0 := by omega
  subst k0
  rw [lw_1_0 hI]
  obtain ⟨r, f1, f2, hf, hr, hc⟩ := h.of 0 w_0 hk inv_0
  exact ⟨r, f1, f2, hf, hr, hc.mono fun _ _ q => ⟨q.1, q.2.mono fun _ _ q => ⟨q.1, one_of q.2⟩⟩⟩
theorem one_T {wm mm n : Nat} {hh : am_HH} (h : lw_T0 (Inv fun _ => True) wm hh mm n) : lw_T lw_1 wm hh mm n := fun k w xs hk hI hl hx => by
  have k0 : k = 0 := by omega
  subst k0
  rw [lw_1_0 hI]
  obtain ⟨kk, f1, f2, hf, hkk, hc⟩ := h.of 0 w_0 xs hk inv_0 hl hx
  exact ⟨kk, f1, f2, hf, hkk, hc.mono fun _ _ q => ⟨q.1, q.2.mono fun _ _ ⟨b, q1, q2, q3, q4, q5⟩ => ⟨b, q1, q2, q3, q4, one_of q5⟩⟩⟩
-- cut finds no token
theorem w0_2 {a i : Nat} (h : a ≠ 126) : w_0.2 a i = 0 := by
  show (if a = 126 ∧ i < 10 then (20005 : Int) else 0) = 0
  rw [if_neg (fun q => h q.1)]
theorem w0_g {a : Nat} {i : Int} (h : a ≠ 126) : w_g w_0 a i = 0 := by
  unfold w_g
  rw [w0_2 h]
  split <;> rfl
theorem one_cut : lw_T lw_1 255 wh_cut 172 2 := fun k w xs hk hI hl hx => by
  have k0 : k = 0 := by omega
  subst k0
  rw [lw_1_0 hI]
  obtain ⟨x0, x1, rfl⟩ : ∃ a b, xs = [a, b] := by
    match xs, hl with
    | [a, b], _ => exact ⟨a, b, rfl⟩
  have r0 := hx x0 (by simp)
  have r1 := hx x1 (by simp)
  have e00 : w_0.1 0 0 = 0 := rfl
  refine ⟨1, 9, 2, ⟨by decide, by decide⟩, ⟨by decide, by decide⟩, (wx_cut_0 (by rw [e00]; decide) (xt_145_23 ⟨⟨r0, r1⟩, by rw [w0_g (by decide)]; omega, by rw [w0_g (by decide)]; exact n0_rg0⟩)).mono ?_⟩
  rintro _ _ ⟨rfl, rfl⟩
  have e76 : ∀ i : Nat, (w_f w_0 0 0 (w_0.1 0 0 + 1)).2 76 i = 0 := fun i => w0_2 (a := 76) (i := i) (by decide)
  have hq : q_cut (w_f w_0 0 0 (w_0.1 0 0 + 1)) x0 x1 = 1 := by
    unfold q_cut
    rw [if_neg]
    rw [e76]
    omega
  refine ⟨rfl, (lk_172t r0 r1 (by rw [e76]; decide) (fun _ _ => by rw [e76]; decide) (by rw [hq]; decide)).mono ?_⟩
  rintro _ _ ⟨rfl, rfl⟩
  rw [hq]
  exact ⟨0, rfl, n0_rg0, rfl, fun q => absurd q (by decide), lw_1_1 (by decide) (by decide)⟩
-- put
theorem one_put : lw_T lw_1 254 wh_put 171 4 := fun k w xs hk hI hl hx => by
  have k0 : k = 0 := by omega
  subst k0
  rw [lw_1_0 hI]
  obtain ⟨x0, x1, x2, x3, rfl⟩ : ∃ a b c d, xs = [a, b, c, d] := by
    match xs, hl with
    | [a, b, c, d], _ => exact ⟨a, b, c, d, rfl⟩
  have r0 := hx x0 (by simp)
  have r1 := hx x1 (by simp)
  have r2 := hx x2 (by simp)
  have r3 := hx x3 (by simp)
  have e00 : w_0.1 0 0 = 0 := rfl
  have e10 : w_0.1 10 1 = 0 := by decide +kernel
  have e13 : w_0.1 13 2 = 0 := by decide +kernel
  have e76 : ∀ i : Nat, (w_f w_0 0 0 (w_0.1 0 0 + 1)).2 76 i = 0 := fun i => w0_2 (a := 76) (i := i) (by decide)
  have hq : q_put (w_f w_0 0 0 (w_0.1 0 0 + 1)) x0 x1 x2 x3 = if (0 ≤ x0 ∧ x0 ≤ 2) ∧ 0 ≤ x1 ∧ x1 ≤ 0 then (if (0 ≤ x2 ∧ x2 ≤ 31) ∧ 0 ≤ x3 ∧ x3 ≤ 99 then 0 else 2) else 1 := by
    unfold q_put
    rw [e76]
    rfl
  by_cases c1 : (0 ≤ x0 ∧ x0 < 3) ∧ x1 = 0
  · by_cases c2 : (0 ≤ x2 ∧ x2 ≤ 31) ∧ 0 ≤ x3 ∧ x3 ≤ 99
    · obtain ⟨⟨f0, f1⟩, rfl⟩ := c1
      have s7 : w_0.2 7 x0.toNat = 0 := w0_2 (by decide)
      have hp : h_pre w_0 0 := ⟨⟨by decide, by rw [e13]; decide, by rw [e13]; decide⟩, ⟨by rw [e10]; decide, by rw [e10]; decide⟩, fun r h0 h1 => by rw [e10] at h1; omega, fun i h0 h1 => by rw [e13] at h1; omega⟩
      have hc := lk_144 (f := x0) (p := 0) (k := x2) (n := x3) (w := w_0) f0 f1 (by decide) (by rw [s7]; decide) (by rw [s7]; decide) c2.1.1 c2.1.2 c2.2.1 c2.2.2 hp (fun r h => by rw [e10] at h; omega)
      rw [s7] at hc
      refine ⟨0, _, 2, ⟨by decide, by decide⟩, n0_rg0, (wr_put (P := h_fg (w_ins w_0 x0.toNat (0 : Int).toNat x2 x3) x0) (r := 0 + 1) ⟨by decide, by decide⟩ hc).mono ?_⟩
      rintro _ _ ⟨rfl, w1, hfg, rfl⟩
      have g2 : ∀ b i : Nat, b ≠ 11 → b ≠ 13 → b ≠ 14 → b ≠ 3 → b ≠ 5 → b ≠ 7 → b ≠ 127 → (w_a w1 127 0 (0 + 1)).2 b i = w_0.2 b i := fun b i q1 q2 q3 q4 q5 q6 q7 => by
        rw [w_a2, w_u_at, if_neg (fun q => q7 q.1), hfg.keep q1 q2 q3, w_ins_ne _ _ _ _ _ q4 q5 q6]
      have g1 : ∀ b i : Nat, b ≠ 10 → (w_a w1 127 0 (0 + 1)).1 b i = w_0.1 b i := fun b i q1 => by
        obtain ⟨wq, hI, h⟩ := hfg
        have ek : (w_ins w_0 x0.toNat (0 : Int).toNat x2 x3).1 10 1 = 0 := e10
        rw [ek, if_neg (by omega)] at h
        rw [w_a1, h, hI.1, w_f1, w_u_at, if_neg (fun q => q1 q.1)]
        rfl
      have e76' : ∀ i : Nat, (w_a w1 127 0 (0 + 1)).2 76 i = 0 := fun i => by
        rw [g2 76 i (by decide) (by decide) (by decide) (by decide) (by decide) (by decide) (by decide)]
        exact w0_2 (by decide)
      have e70 : (w_a w1 127 0 (0 + 1)).1 73 70 = 0 := by
        rw [g1 73 70 (by decide)]
        decide +kernel
      refine ⟨rfl, (lk_171 (f := x0) (p := 0) (k := x2) (n := x3) f0 f1 (by decide) (by rw [e76']; decide) (by rw [e76']; decide) c2.1.1 c2.1.2 c2.2.1 c2.2.2 ⟨by rw [e70]; decide, by rw [e70]; decide, fun r h => by rw [e70] at h; omega⟩).mono ?_⟩
      rintro _ w2 ⟨rfl, hr⟩
      rw [e76']
      have k2 : w2.2 127 0 = 0 + 1 := by
        rw [hr.keep (by decide), q_ins_ne _ _ _ _ _ (by decide) (by decide) (by decide)]
        rfl
      have k1 : ∀ b i : Nat, ¬ (b = 73 ∧ i = 70) → ¬ (b = 73 ∧ i = 93) → w2.1 b i = (w_a w1 127 0 (0 + 1)).1 b i := fun b i q1 q2 => by
        obtain ⟨wq, hJ, rfl⟩ := hr
        rw [w_f1, w_u_at, if_neg q1, hJ.1]
        show (w_f (w_a w1 127 0 (0 + 1)) 73 93 0).1 b i = _
        rw [w_f1, w_u_at, if_neg q2]
      have k93 : w2.1 73 93 = 0 := by
        obtain ⟨wq, hJ, rfl⟩ := hr
        rw [w_f1, w_u_at, if_neg (by decide), hJ.1]
        rfl
      have k00 : w2.1 0 0 = 0 := by
        rw [k1 0 0 (by decide) (by decide), g1 0 0 (by decide)]
        rfl
      exact ⟨0 + 1, rfl, ⟨by decide, by decide⟩, k93, fun _ => k2, lw_1_1 (by rw [k00]; decide) (by rw [k00]; decide)⟩
    · refine ⟨2, 9, 2, ⟨by decide, by decide⟩, ⟨by decide, by decide⟩, (wx_put_1 (by rw [e00]; decide) (xt_144_53 ⟨⟨r0, r1, r2, r3⟩, ⟨c1.1, by omega, by rw [w0_g (by decide)]; omega⟩, by omega, by rw [w0_g (by decide)]; exact n0_rg0⟩)).mono ?_⟩
      rintro _ _ ⟨rfl, rfl⟩
      rw [if_pos (by omega), if_neg c2] at hq
      refine ⟨rfl, (lk_171t r0 r1 r2 r3 (by rw [e76]; exact n0_rg0) (fun _ _ => by rw [e76]; exact n0_rg0) (by rw [hq]; decide)).mono ?_⟩
      rintro _ _ ⟨rfl, rfl⟩
      rw [hq]
      exact ⟨0, rfl, n0_rg0, rfl, fun q => absurd q (by decide), lw_1_1 (by decide) (by decide)⟩
  · refine ⟨1, 9, 2, ⟨by decide, by decide⟩, ⟨by decide, by decide⟩, (wx_put_0 (by rw [e00]; decide) (xt_144_23 ⟨⟨r0, r1⟩, by rw [w0_g (by decide)]; omega, by rw [w0_g (by decide)]; exact n0_rg0⟩)).mono ?_⟩
    rintro _ _ ⟨rfl, rfl⟩
    rw [if_neg (by omega)] at hq
    refine ⟨rfl, (lk_171t r0 r1 r2 r3 (by rw [e76]; exact n0_rg0) (fun _ _ => by rw [e76]; exact n0_rg0) (by rw [hq]; decide)).mono ?_⟩
    rintro _ _ ⟨rfl, rfl⟩
    rw [hq]
    exact ⟨0, rfl, n0_rg0, rfl, fun q => absurd q (by decide), lw_1_1 (by decide) (by decide)⟩
