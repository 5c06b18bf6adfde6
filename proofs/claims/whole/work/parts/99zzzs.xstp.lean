/-! ===== the class realizes as the evaluator: frames, a step each ===== -/
section
variable {G : G_} {sil : Bool} {o : Nat} {K0 : Int} {s : S_} {q q1 : Q_} {w w' : W_} {fr : Nat} {Q : Option am_V → W_ → Prop} {i : Int} {S : List F_} {x : Int × Int × Nat}
theorem XR_h (H : XR G sil o K0 s q w) : 0 ≤ w.1 13 2 ∧ w.1 13 2 < 262144 := by
  have h := H.1.2.2.1.2.2.2
  omega
theorem xs_7 {v : T_} (H : XR G sil o K0 s q w) (hf : q_fr q = (0, v, x) :: S) (hl : S.length < 20000) : (1 ≤ w.1 33 1 ∧ w.1 33 1 < 23999) ∧ f_t w 0 = 7 ∧ f_t w 1 = w.2 34 (13 * S.length + 1) ∧ cV w v (w.2 34 (13 * S.length + 1)) := by
  obtain ⟨h1, h2, -⟩ := XR_top H hf
  exact ⟨by omega, by rw [f_t_at h1 (by decide)]; exact h2.1, by rw [f_t_at h1 (by decide)]; rfl, h2.2⟩
theorem xs_join {a b : T_} (H : XR G sil o K0 s q w) (hf : q_fr q = (0, .tag 8 (.append a b), x) :: S) (hl : S.length < 20000) (hi : 0 ≤ i ∧ i < 1000000) (hr : 20 ≤ fr) (K : ∀ w', XR G sil o K0 s (p_fr q ((0, a, 0, 0, 0) :: (0, b, 0, 0, 0) :: S)) w' → dr fr Q (i + 1) w') : dr fr Q i w := by
  obtain ⟨c1, c2, c3, hN8, ca, cb⟩ := xs_7 H hf hl
  have hh := XR_h H
  have ho := XR_ho H
  obtain ⟨⟨n1, n2⟩, n3, -⟩ := hN8
  refine dr_7 hi H.2.2.2.2.2.2.1 ⟨c1.1, by omega⟩ c2 (lk_113j c3 ⟨n1, by omega⟩ n3 c1) (by omega) (by omega) ?_
  rintro w1 rfl
  have A := XR_po H hf
  have cb1 := cV_X (hX_L ho (wL_po w)) cb
  have ca1 := cV_X (hX_L ho (wL_pu (w_po w) 7 (w_h w (w.2 34 (13 * S.length + 1)) 2))) (cV_X (hX_L ho (wL_po w)) ca)
  exact K _ (XR_pu0 (XR_pu0 A cb1) ca1)
theorem xs_pair {a b : T_} (H : XR G sil o K0 s q w) (hf : q_fr q = (0, .tag 13 (.append a b), x) :: S) (hl : S.length < 20000) (hi : 0 ≤ i ∧ i < 1000000) (hr : 20 ≤ fr) (K : ∀ w', XR G sil o K0 s (if v_fl a = true ∨ v_fl b = true then p_fr (p_fr q S) ((0, a, 0, 0, 0) :: (0, b, 0, 0, 0) :: S) else p_fr q S) w' → dr fr Q (i + 1) w') : dr fr Q i w := by
  obtain ⟨c1, c2, c3, hN8, p3, p4, ca, -, cb, -⟩ := xs_7 H hf hl
  have hh := XR_h H
  have ho := XR_ho H
  obtain ⟨⟨n1, n2⟩, n3, n4, n5, -⟩ := hN8
  have hok : h_ok w (w.2 34 (13 * S.length + 1)) := ⟨⟨by omega, by omega⟩, by rw [pH_w, n3]; unfold am_rg; omega, n4, n5⟩
  by_cases c : v_fl a = true ∨ v_fl b = true
  · rw [if_pos c] at K
    have c4 : pH (w.2 13) (w.2 34 (13 * S.length + 1)) 4 ≠ 0 := p4.2 (by rw [Bool.or_eq_true]; exact c)
    refine dr_7 hi H.2.2.2.2.2.2.1 ⟨c1.1, by omega⟩ c2 (lk_113p c3 ⟨n1, by omega⟩ n3 c4 hok c1) (by omega) (by omega) ?_
    rintro w1 rfl
    have A := XR_po H hf
    have cb1 := cV_X (hX_L ho (wL_po w)) cb
    have ca1 := cV_X (hX_L ho (wL_pu (w_po w) 7 (w_h w (w.2 34 (13 * S.length + 1)) 2))) (cV_X (hX_L ho (wL_po w)) ca)
    exact K _ (XR_pu0 (XR_pu0 A cb1) ca1)
  · rw [if_neg c] at K
    have c4 : pH (w.2 13) (w.2 34 (13 * S.length + 1)) 4 = 0 := by
      by_cases z : pH (w.2 13) (w.2 34 (13 * S.length + 1)) 4 = 0
      · exact z
      · have z := p4.1 z
        rw [Bool.or_eq_true] at z
        exact absurd z c
    refine dr_7 hi H.2.2.2.2.2.2.1 ⟨c1.1, by omega⟩ c2 (lk_113u c3 ⟨n1, by omega⟩ n3 c4 hok c1) (by omega) (by omega) ?_
    rintro w1 rfl
    exact K _ (XR_po H hf)
theorem xs_scope {v : T_} (H : XR G sil o K0 s q w) (hf : q_fr q = (0, .tag 9 v, x) :: S) (hl : S.length < 20000) (hi : 0 ≤ i ∧ i < 1000000) (hr : 20 ≤ fr) (K : ∀ w', XR G sil o K0 s (p_fr q ((5, v, 0, 0, 0) :: S)) w' → dr fr Q (i + 1) w') : dr fr Q i w := by
  obtain ⟨c1, c2, c3, c4⟩ := xs_7 H hf hl
  have hh := XR_h H
  have ho := XR_ho H
  have c4 : hN (w.1 13 2) (w.2 13) (fW w) (w.2 34 (13 * S.length + 1)) 9 ∧ cV w v (pH (w.2 13) (w.2 34 (13 * S.length + 1)) 1) := by cases v <;> exact c4
  obtain ⟨hN9, ca⟩ := c4
  have n1 := hN9.1
  refine dr_7 hi H.2.2.2.2.2.2.1 ⟨c1.1, by omega⟩ c2 (lk_113s c3 ⟨n1.1, by omega⟩ hN9.2.1 c1) (by omega) (by omega) ?_
  rintro w1 rfl
  have A := XR_po H hf
  have X := hX_L ho (wL_po w)
  exact K _ (XR_pu5 A (hN_X X hN9) (cV_X X ca))
theorem xs_set {p : Nat} {m : Int} {t : T_} (H : XR G sil o K0 s q w) (hf : q_fr q = (0, .tag 10 (.tag p (.nest m t)), x) :: S) (hl : S.length < 20000) (hi : 0 ≤ i ∧ i < 1000000) (hr : 20 ≤ fr) (K : ∀ w', XR G sil o K0 s (if p = 0 then p_mk (p_fr q S) m (q_in q) (q_rl q) else p_mk (p_fr q S) (q_sz q) m (q_rl q)) w' → dr fr Q (i + 1) w') : dr fr Q i w := by
  obtain ⟨c1, c2, c3, hN9, p3, p2, p4, m0, m3, m1⟩ := xs_7 H hf hl
  have hh := XR_h H
  have n1 := hN9.1
  have A := XR_po H hf
  by_cases c : p = 0
  · rw [if_pos c] at K
    refine dr_7 hi H.2.2.2.2.2.2.1 ⟨c1.1, by omega⟩ c2 (lk_113q c3 ⟨n1.1, by omega⟩ hN9.2.1 (by rw [pH_w, p3, c]; rfl) c1) (by omega) (by omega) ?_
    rintro w1 rfl
    rw [pH_w, p4]
    exact K _ (XR_sz A ⟨m1 c, m3⟩)
  · rw [if_neg c] at K
    refine dr_7 hi H.2.2.2.2.2.2.1 ⟨c1.1, by omega⟩ c2 (lk_113i c3 ⟨n1.1, by omega⟩ hN9.2.1 (by rw [pH_w, p3]; omega) c1) (by omega) (by omega) ?_
    rintro w1 rfl
    rw [pH_w, p4]
    exact K _ (XR_in A ⟨m0, m3⟩)
theorem xs_rule {r : T_} (H : XR G sil o K0 s q w) (hf : q_fr q = (0, .tag 11 r, x) :: S) (hl : S.length < 20000) (hrl : (q_rl q).length < 30000) (hi : 0 ≤ i ∧ i < 1000000) (hr : 20 ≤ fr) (K : ∀ w', XR G sil o K0 s (p_mk (p_fr q S) (q_sz q) (q_in q) (q_rl q ++ [.tag 11 r])) w' → dr fr Q (i + 1) w') : dr fr Q i w := by
  obtain ⟨c1, c2, c3, c4⟩ := xs_7 H hf hl
  have hh := XR_h H
  have ho := XR_ho H
  have a1 := H.2.2.1.1.1
  have hN11 : hN (w.1 13 2) (w.2 13) (fW w) (w.2 34 (13 * S.length + 1)) 11 := by
    unfold cV cR at c4
    split at c4 <;> first | (rename_i z; cases z; done) | skip
    all_goals first | exact c4.1 | exact c4.elim | (exfalso; simp_all; done)
  have n1 := hN11.1
  have A := XR_po H hf
  refine dr_7 hi H.2.2.2.2.2.2.1 ⟨c1.1, by omega⟩ c2 (lk_113r c3 ⟨n1.1, by omega⟩ hN11.2.1 (by omega) c1) (by omega) (by omega) ?_
  rintro w1 rfl
  exact K _ (XR_rl A (cV_X (hX_L ho (wL_po w)) c4))
theorem xs_pop {v : T_} (H : XR G sil o K0 s q w) (hf : q_fr q = (0, v, x) :: S) (hv : v = .nil ∨ v = .line ∨ (∃ y, v = .align y) ∨ (∃ y, v = .tag 12 y) ∨ ∃ a b, v = .append a b) (hl : S.length < 20000) (hi : 0 ≤ i ∧ i < 1000000) (hr : 20 ≤ fr) (K : ∀ w', XR G sil o K0 s (p_fr q S) w' → dr fr Q (i + 1) w') : dr fr Q i w := by
  obtain ⟨c1, c2, c3, c4⟩ := xs_7 H hf hl
  have hh := XR_h H
  have F : ∃ k : Int, (k = 0 ∨ k = 12 ∨ k = 14) ∧ w_h w (w.2 34 (13 * S.length + 1)) 0 = k ∧ ¬ (-9999 ≤ w.2 34 (13 * S.length + 1) ∧ w.2 34 (13 * S.length + 1) ≤ 9999) ∧ h_ok w (w.2 34 (13 * S.length + 1)) := by
    have low : ∀ y : Int, 20000 ≤ y → y < 30000 → ∃ k : Int, (k = 0 ∨ k = 12 ∨ k = 14) ∧ w_h w y 0 = k ∧ ¬ (-9999 ≤ y ∧ y ≤ 9999) ∧ h_ok w y := fun y y0 y1 => by
      have e : ∀ f, w_h w y f = 0 := fun f => by rw [pH_w]; unfold pH; rw [if_pos y1]
      refine ⟨0, Or.inl rfl, e 0, by omega, ⟨by omega, by omega⟩, ?_, ?_, ?_⟩ <;> (rw [e]; unfold am_rg; omega)
    have high : ∀ k : Int, (k = 0 ∨ k = 12 ∨ k = 14) → hN (w.1 13 2) (w.2 13) (fW w) (w.2 34 (13 * S.length + 1)) k → ∃ k : Int, (k = 0 ∨ k = 12 ∨ k = 14) ∧ w_h w (w.2 34 (13 * S.length + 1)) 0 = k ∧ ¬ (-9999 ≤ w.2 34 (13 * S.length + 1) ∧ w.2 34 (13 * S.length + 1) ≤ 9999) ∧ h_ok w (w.2 34 (13 * S.length + 1)) := fun k hk ⟨⟨n1, n2⟩, n3, n4, n5, _⟩ => ⟨k, hk, n3, by omega, ⟨by omega, by omega⟩, by rw [pH_w, n3]; unfold am_rg; omega, n4, n5⟩
    generalize w.2 34 (13 * S.length + 1) = y at *
    rcases hv with rfl | rfl | ⟨z, rfl⟩ | ⟨z, rfl⟩ | ⟨a, b, rfl⟩
    · have c4 : y = 20003 := c4
      exact low y (by omega) (by omega)
    · have c4 : y = 20004 := c4
      exact low y (by omega) (by omega)
    · have c4 : y = 20000 := c4
      exact low y (by omega) (by omega)
    · cases z with
      | append e cl => exact high 12 (Or.inr (Or.inl rfl)) c4.1
      | nil => exact False.elim c4
      | line => exact False.elim c4
      | align _ => exact False.elim c4
      | text _ => exact False.elim c4
      | nest _ _ => exact False.elim c4
      | group _ _ => exact False.elim c4
      | tag _ _ => exact False.elim c4
    · cases a with
      | tag m u => exact high 14 (Or.inr (Or.inr rfl)) c4.1
      | append _ _ => exact False.elim c4
      | nil => exact False.elim c4
      | line => exact False.elim c4
      | align _ => exact False.elim c4
      | text _ => exact False.elim c4
      | nest _ _ => exact False.elim c4
      | group _ _ => exact False.elim c4
  obtain ⟨k, k0, hk, hn, ok⟩ := F
  refine dr_7 hi H.2.2.2.2.2.2.1 ⟨c1.1, by omega⟩ c2 (lk_113e c3 ok.1 hn hk k0 ok c1) (by omega) (by omega) ?_
  rintro w1 rfl
  exact K _ (XR_po H hf)
/-- ahead of a scope -/
theorem xs_5 {v : T_} (H : XR G sil o K0 s q w) (hf : q_fr q = (5, v, x) :: S) (hl : S.length < 20000) (hi : 0 ≤ i ∧ i < 1000000) (hr : 20 ≤ fr) (K : ∀ w', XR G sil o K0 s (p_fr q ((0, v, 0, 0, 0) :: (1, .nil, q_sz q, q_in q, (q_rl q).length) :: S)) w' → dr fr Q (i + 1) w') : dr fr Q i w := by
  obtain ⟨h1, ⟨t0, t2, hN9, ca⟩, hS⟩ := XR_top H hf
  have hh := XR_h H
  have ho := XR_ho H
  have n1 := hN9.1
  have e1 : f_t w 1 = w.2 34 (13 * S.length + 1) := by rw [f_t_at h1 (by decide)]; rfl
  obtain ⟨a1, a2, a3, a4, a5, a6, a7, a8, a9, a10⟩ := H.2.2.1.1
  have b2 := H.2.2.2.1.2.1
  refine dr_8 hi H.2.2.2.2.2.2.1 (by omega) (by rw [f_t_at h1 (by decide)]; exact t0) (lk_122a (by rw [f_t_at h1 (by decide)]; exact t2) (by omega) (by rw [e1]; omega)) (by omega) (by omega) ?_
  rintro w1 rfl
  rw [e1]
  have L : wL o w (w_fs (w_fs (w_fs (w_fs w 2 1) 3 (w.1 50 9)) 4 (w.1 50 10)) 5 (w.1 50 7)) := wL_tr (wL_tr (wL_tr (wL_fs w 2 1) (wL_fs _ 3 _)) (wL_fs _ 4 _)) (wL_fs _ 5 _)
  have X := hX_L ho L
  have g : ∀ k, (w_fs (w_fs (w_fs (w_fs w 2 1) 3 (w.1 50 9)) 4 (w.1 50 10)) 5 (w.1 50 7)).2 34 k = if k = 13 * S.length + 5 then w.1 50 7 else if k = 13 * S.length + 4 then w.1 50 10 else if k = 13 * S.length + 3 then w.1 50 9 else if k = 13 * S.length + 2 then 1 else w.2 34 k := fun k => by
    rw [fs_34 (w := w_fs (w_fs (w_fs w 2 1) 3 (w.1 50 9)) 4 (w.1 50 10)) (j := S.length) h1 (by decide), fs_34 (w := w_fs (w_fs w 2 1) 3 (w.1 50 9)) (j := S.length) h1 (by decide), fs_34 (w := w_fs w 2 1) (j := S.length) h1 (by decide), fs_34 (w := w) (j := S.length) h1 (by decide)]
    rfl
  have g2 : ∀ b, b ≠ 34 → (w_fs (w_fs (w_fs (w_fs w 2 1) 3 (w.1 50 9)) 4 (w.1 50 10)) 5 (w.1 50 7)).2 b = w.2 b := fun b hb => by rw [w_fs2 _ _ _ hb, w_fs2 _ _ _ hb, w_fs2 _ _ _ hb, w_fs2 _ _ _ hb]
  have B : XR G sil o K0 s (p_fr q ((1, .nil, q_sz q, q_in q, (q_rl q).length) :: S)) (w_fs (w_fs (w_fs (w_fs w 2 1) 3 (w.1 50 9)) 4 (w.1 50 10)) 5 (w.1 50 7)) := by
    refine XR_S H L ((1, .nil, q_sz q, q_in q, (q_rl q).length) :: S) (fun _ => rfl) ⟨g2 51 (by decide), g2 53 (by decide), g2 20 (by decide), g2 18 (by decide), rfl, g2 (o + 1) (by omega), rfl⟩ ⟨⟨?_, ?_, ?_, ?_, ?_, ⟨b2.1, b2.2.1⟩, b2.2.2⟩, FRm_X X S (fun k hk => ?_) hS⟩ ?_
    · rw [g, if_neg (by omega), if_neg (by omega), if_neg (by omega), if_neg (by omega)]; exact t0
    · rw [g, if_neg (by omega), if_neg (by omega), if_neg (by omega), if_pos rfl]
    · rw [g, if_neg (by omega), if_neg (by omega), if_pos rfl]; exact a3
    · rw [g, if_neg (by omega), if_pos rfl]; exact a4
    · rw [g, if_pos rfl]; exact a1
    · rw [g, if_neg (by omega), if_neg (by omega), if_neg (by omega), if_neg (by omega)]
    · show w.1 33 1 = ((S.length + 1 : Nat) : Int)
      rw [h1]; rfl
  exact K _ (XR_pu0 B (cV_X X ca))
/-- behind a scope -/
theorem xs_1 {v : T_} {a b : Int} {n : Nat} (H : XR G sil o K0 s q w) (hf : q_fr q = (1, v, a, b, n) :: S) (hl : S.length < 20000) (hn : n ≤ (q_rl q).length) (hi : 0 ≤ i ∧ i < 1000000) (hr : 20 ≤ fr) (K : ∀ w', XR G sil o K0 s (p_mk (p_fr q S) a b ((q_rl q).take n)) w' → dr fr Q (i + 1) w') : dr fr Q i w := by
  obtain ⟨h1, ⟨t0, t2, t3, t4, t5, ra, rb⟩, hS⟩ := XR_top H hf
  refine dr_8 hi H.2.2.2.2.2.2.1 (by omega) (by rw [f_t_at h1 (by decide)]; exact t0) (lk_122b (by rw [f_t_at h1 (by decide)]; exact t2) (by omega)) (by omega) (by omega) ?_
  rintro w1 rfl
  have e3 : f_t w 3 = a := by rw [f_t_at h1 (by decide)]; exact t3
  have e4 : f_t w 4 = b := by rw [f_t_at h1 (by decide)]; exact t4
  have e5 : f_t w 5 = (n : Int) := by rw [f_t_at h1 (by decide)]; exact t5
  rw [e3, e4, e5]
  have A := XR_tk (XR_in (XR_sz H ra) rb) hn
  exact K _ (XR_po (S := S) A hf)
end
