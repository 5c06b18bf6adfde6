/-! ===== the class realizes as the evaluator: elements that no rule shows ===== -/
section
variable {G : G_} {sil : Bool} {o : Nat} {K0 : Int} {s s1 : S_} {q q1 : Q_} {w w' : W_} {fr : Nat} {Q : Option am_V → W_ → Prop} {i : Int} {S : List F_} {x : Int × Int × Nat}
theorem xs_lay {n d : Int} (H : XR G sil o K0 s q w) (hd : 0 ≤ d ∧ d ≤ 9999) (hth : (q_th q).length + 1 ≤ q_el q ∧ q_el q ≤ 200) (hp : q_pg q + (q_wi q : Nat) + 1 ≤ 2 * (q_el q : Nat)) : ww_Ct 120 4 [.inr (.inr (.inl 50)), .inl n, .inl d] w fun r w' => r = none ∧ XR G sil o K0 s (q_lay G n d q) w' := by
  obtain ⟨⟨a1, a2, a3, a4, a5, a6, a7, a8, a9, a10⟩, r2, r3, r4, r5, r6⟩ := H.2.2.1
  obtain ⟨b1, b2, b3, b4, b5⟩ := H.2.2.2.1
  refine (lk_120 H.1.1.1.2 (XR_ho H) (by omega) ⟨by unfold am_rg; omega, by unfold am_rg; omega, by unfold am_rg; omega, by unfold am_rg; omega, by unfold am_rg; omega, by unfold am_rg; omega⟩).mono ?_
  rintro r w' ⟨h1, rfl⟩
  refine ⟨h1, ?_⟩
  unfold q_lay
  by_cases c : G.2.2.2.1 < q_pn q + d ∧ q_in q < q_pn q
  · rw [if_pos c, if_pos (by omega)]
    have X := XR_sl H hp
    obtain ⟨n1, n2, n3, n4, n5, n6, n7, n8, n9, -⟩ := q_nl_s G q
    refine XR_ly X ⟨hd.1, ?_⟩ (by rw [n9, n6]; exact hth.1)
    have : q_pn (q_nl G q) = q_in q := by
      unfold q_nl
      split <;> rfl
    rw [this]
    omega
  · rw [if_neg c, if_neg (by omega)]
    exact XR_ly H ⟨hd.1, by omega⟩ hth.1
/-- an element is shown -/
theorem el_x {z k m : Int} {R : W_ → Prop} (H : XR G sil o K0 s q w) (hel : q_el q < 200) (hk : k = 1 ∨ k = 4 ∨ k = 5) (hz : (-9999 ≤ z ∧ z ≤ 9999 ∧ 1000 + z = m) ∨ (30000 ≤ z ∧ z < 10000000 ∧ pH (w.2 13) z 3 = m)) (hc : XR G sil o K0 s (p_el q (q_el q + 1)) (w_f w 50 14 (((q_el q : Nat) : Int) + 1)) → ww_Ct 117 6 [.inr (.inr (.inl 50)), .inl z, .inl k, .inl m] (w_f w 50 14 (((q_el q : Nat) : Int) + 1)) fun r w' => r = none ∧ R w') : ww_Ct 115 8 [.inr (.inr (.inl 50)), .inl z, .inl k] w fun r w' => r = none ∧ R w' := by
  have a8 := H.2.2.1.1.2.2.2.2.2.2.2.1
  have X := XR_el H (by omega)
  rw [a8] at X
  refine lk_115o (c := pH (w.2 13) z 3) (m := (q_el q : Nat)) a8 (by omega) (by omega) rfl (lk_115x hk (by unfold am_rg; omega) ?_ (hc X) fun w' h => ⟨rfl, h⟩)
  rcases hz with h | h
  · rw [if_pos ⟨h.1, h.2.1⟩]; exact h.2.2
  · rw [if_neg (by omega)]; exact h.2.2
theorem el_1 {z m : Int} {t : T_} (H : XR G sil o K0 s q w) (hel : q_el q < 200) (hG : rls q) (hl : (q_rl q).length < 30000) (hz : (-9999 ≤ z ∧ z ≤ 9999 ∧ 1000 + z = m) ∨ (30000 ≤ z ∧ z < 10000000 ∧ pH (w.2 13) z 3 = m)) (hm : -10000 ≤ m ∧ m ≤ 11000) (hno : q_rule (.tag 1 (.nest m t)) (p_el q (q_el q + 1)) = none) : ww_Ct 115 8 [.inr (.inr (.inl 50)), .inl z, .inl 1] w fun r w' => r = none ∧ XR G sil o K0 s (q_lay G m (q_sz q) (p_el q (q_el q + 1))) w' := by
  obtain ⟨b1, b2, b3, b4, b5⟩ := H.2.2.2.1
  refine el_x H hel (Or.inl rfl) hz fun X => ?_
  have a3 := X.2.2.1.1.2.2.1
  have L := xs_lay (n := m) (d := q_sz q) X (by omega) ⟨by show (q_th q).length + 1 ≤ q_el q + 1; omega, by show q_el q + 1 ≤ 200; omega⟩ (by show q_pg q + (q_wi q : Nat) + 1 ≤ 2 * ((q_el q + 1 : Nat) : Int); omega)
  refine lk_117w ⟨by decide, by decide⟩ (by unfold am_rg; omega) (fr_no (el := .tag 1 (.nest m t)) X hG hl (by unfold am_rg; omega) (by omega) ?_ hno) ?_
  · unfold v_shn
    rw [if_neg (by decide), if_neg (by decide)]
    rfl
  · rw [a3]
    exact L
theorem el_4 {z m : Int} {t : T_} (H : XR G sil o K0 s q w) (hel : q_el q < 200) (hG : rls q) (hl : (q_rl q).length < 30000) (hz : 30000 ≤ z ∧ z < 10000000 ∧ pH (w.2 13) z 3 = m) (hm : 0 ≤ m ∧ m ≤ 9999) (hno : q_rule (.tag 4 (.nest m t)) (p_el q (q_el q + 1)) = none) : ww_Ct 115 8 [.inr (.inr (.inl 50)), .inl z, .inl 4] w fun r w' => r = none ∧ XR G sil o K0 s (q_lay G (2000 + m) m (p_el q (q_el q + 1))) w' := by
  obtain ⟨b1, b2, b3, b4, b5⟩ := H.2.2.2.1
  refine el_x H hel (Or.inr (Or.inl rfl)) (Or.inr hz) fun X => ?_
  have L := xs_lay (n := 2000 + m) (d := m) X (by omega) ⟨by show (q_th q).length + 1 ≤ q_el q + 1; omega, by show q_el q + 1 ≤ 200; omega⟩ (by show q_pg q + (q_wi q : Nat) + 1 ≤ 2 * ((q_el q + 1 : Nat) : Int); omega)
  refine lk_117f rfl (fr_no (el := .tag 4 (.nest m t)) X hG hl (by unfold am_rg; omega) (by omega) ?_ hno) L
  rfl
theorem el_5 {z : Int} {id : Nat} {v : T_} (H : XR G sil o K0 s q w) (hel : q_el q < 200) (hG : rls q) (hl : (q_rl q).length < 30000) (hz : 30000 ≤ z ∧ z < 10000000) (hv : cV w (.tag 5 (.tag id v)) z) (h1 : 0 ≤ w.1 33 1 ∧ w.1 33 1 < 23999) (hno : q_rule (.tag 5 (.tag id v)) (p_el q (q_el q + 1)) = none) : ww_Ct 115 8 [.inr (.inr (.inl 50)), .inl z, .inl 5] w fun r w' => r = none ∧ ∃ z U, XR G sil o K0 s (p_el q (q_el q + 1)) U ∧ cV U (.tag 5 (.tag id v)) z ∧ w' = w_pu U 9 z := by
  have hv2 := hv
  obtain ⟨-, c1, c2, -⟩ := hv2
  refine el_x (m := (id : Int)) H hel (Or.inr (Or.inr rfl)) (Or.inr ⟨hz.1, hz.2, c1⟩) fun X => ?_
  refine (lk_117h rfl (fr_no (el := .tag 5 (.tag id v)) X hG hl (by unfold am_rg; omega) (by omega) rfl hno) h1).mono ?_
  rintro r w' ⟨h, rfl⟩
  exact ⟨h, z, _, X, cV_X (hX_L (XR_ho H) (wL_f (Or.inr (Or.inl rfl)))) hv, rfl⟩
theorem p_fr_eta {q : Q_} (h : q_fr q = S) : p_fr q S = q := by rw [← h]
theorem xs_head {id : Nat} {v : T_} (H : XR G sil o K0 s q w) (hf : q_fr q = (0, .tag 5 (.tag id v), x) :: S) (hls : S.length < 20000) (hel : q_el q < 200) (hG : rls q) (hl : (q_rl q).length < 30000) (hno : q_rule (.tag 5 (.tag id v)) (p_el (p_fr q S) (q_el q + 1)) = none) (hn : s_nt s < 1000000) (hi : 0 ≤ i ∧ i + 2 < 1000000) (hr : 20 ≤ fr) (K : ∀ i' w', i < i' → i' ≤ i + 3 → XR G sil o K0 (x_head G id v s (p_el (p_fr q S) (q_el q + 1))).1 (x_head G id v s (p_el (p_fr q S) (q_el q + 1))).2 w' → dr fr Q i' w') : dr fr Q i w := by
  have hh := XR_h H
  have A := XR_po H hf
  have hA := A.2.2.2.2.2.1
  have ho := XR_ho H
  obtain ⟨B1, B2, B3, B4, B5⟩ := H.2.2.2.1
  refine xs_g H hf (by decide) hls (by omega) hr (fun z hz z0 => el_5 A hel hG hl z0 hz (by rw [hA]; show 0 ≤ (S.length : Int) ∧ (S.length : Int) < 23999; omega) hno) ?_
  rintro w1 ⟨z, U, X, hz, rfl⟩
  obtain ⟨hN5, p3, id0, pv, -⟩ := hz
  have hU := XR_h X
  have z0 := hN5.1
  have hc : U.1 33 1 = (S.length : Int) := X.2.2.2.2.2.1
  obtain ⟨a1, a2, a3, a4, a5, a6, a7, a8, a9, a10⟩ := X.2.2.1.1
  obtain ⟨b1, b2, b3, b4, b5⟩ := X.2.2.2.1
  generalize hq0 : p_el (p_fr q S) (q_el q + 1) = q0 at *
  have hfr : q_fr q0 = S := by rw [← hq0]
  have hpg : q_pg q0 + (q_wi q0 : Nat) + 2 ≤ 2 * (q_el q0 : Nat) := by
    rw [← hq0]
    show q_pg q + (q_wi q : Nat) + 2 ≤ 2 * ((q_el q + 1 : Nat) : Int)
    omega
  have hnx : q_nx q0 41 + (q_wi q0 : Nat) + 1 ≤ (q_el q0 : Nat) := by
    rw [← hq0]
    show q_nx q 41 + (q_wi q : Nat) + 1 ≤ ((q_el q + 1 : Nat) : Int)
    omega
  have hcV : (w_pu U 9 z).1 33 1 = (S.length : Int) + 1 := by rw [w_pu1, if_pos ⟨rfl, rfl⟩, hc]
  have F0 : f_t (w_pu U 9 z) 0 = 9 := by rw [f_t_at hcV (by decide)]; show (w_pu U 9 z).2 34 (13 * S.length + 0) = 9; rw [pu_34 hc, if_pos (Nat.add_zero _)]
  have F1 : f_t (w_pu U 9 z) 1 = z := by rw [f_t_at hcV (by decide)]; show (w_pu U 9 z).2 34 (13 * S.length + 1) = z; rw [pu_34 hc, if_neg (by omega), if_pos rfl]
  have F2 : f_t (w_pu U 9 z) 2 = 0 := by rw [f_t_at hcV (by decide)]; show (w_pu U 9 z).2 34 (13 * S.length + 2) = 0; rw [pu_34 hc, if_neg (by omega), if_neg (by omega), if_pos (by omega)]
  have L : wL o U (w_fs (w_pu U 9 z) 2 1) := wL_tr (wL_pu U 9 z) (wL_fs _ 2 1)
  have g2 : ∀ b, b ≠ 34 → (w_fs (w_pu U 9 z) 2 1).2 b = U.2 b := fun b hb => by rw [w_fs2 _ _ _ hb, w_pu2 _ _ _ hb]
  have e1 : ∀ a j, a ≠ 33 → (w_fs (w_pu U 9 z) 2 1).1 a j = U.1 a j := fun a j h => by
    show (w_pu U 9 z).1 a j = _
    rw [w_pu1, if_neg (fun y => h y.1)]
  have g34 : ∀ k, (w_fs (w_pu U 9 z) 2 1).2 34 k = if k = 13 * S.length + 2 then 1 else if k = 13 * S.length then 9 else if k = 13 * S.length + 1 then z else if 13 * S.length ≤ k ∧ k < 13 * S.length + 13 then 0 else U.2 34 k := fun k => by
    rw [fs_34 hcV (by decide), pu_34 hc]
    rfl
  have T2 : XR G sil o K0 s (p_fr q0 ((2, .nil, 0, 0, 0) :: S)) (w_fs (w_pu U 9 z) 2 1) := by
    refine XR_S X L ((2, .nil, 0, 0, 0) :: S) (fun j => e1 50 j (by decide)) ⟨g2 _ (by decide), g2 _ (by decide), g2 _ (by decide), g2 _ (by decide), e1 o 4 (by omega), g2 _ (by omega), e1 17 6 (by decide)⟩ ⟨⟨?_, ?_⟩, FRm_X (hX_L ho L) S (fun k hk => ?_) ?_⟩ hcV
    · rw [g34, if_neg (by omega), if_pos rfl]
    · rw [g34, if_pos rfl]
    · rw [g34, if_neg (by omega), if_neg (by omega), if_neg (by omega), if_neg (by omega)]
    · have := X.2.2.2.2.1
      rw [hfr] at this
      exact this
  -- a new line
  generalize hq2 : (if q_in q0 < q_pn q0 then q_nl G q0 else q0) = q2 at *
  have T3 : XR G sil o K0 s (p_fr q2 ((2, .nil, 0, 0, 0) :: S)) (w_hd (w_pu U 9 z)) := by
    unfold w_hd
    have d1 : (w_pu U 9 z).1 50 10 = q_in q0 := by rw [w_pu1, if_neg (by decide)]; exact a4
    have d2 : (w_pu U 9 z).1 50 13 = q_pn q0 := by rw [w_pu1, if_neg (by decide)]; exact a7
    rw [d1, d2, ← hq2]
    by_cases c : q_in q0 < q_pn q0
    · rw [if_pos c, if_pos c, ← q_nl_fr]
      exact XR_sl T2 (by show q_pg q0 + (q_wi q0 : Nat) + 1 ≤ 2 * (q_el q0 : Nat); omega)
    · rw [if_neg c, if_neg c]
      exact T2
  obtain ⟨n1, n2, n3, n4, n5, n6, n7⟩ : q_us q2 = q_us q0 ∧ q_nx q2 = q_nx q0 ∧ q_fr q2 = q_fr q0 ∧ q_wi q2 = q_wi q0 ∧ q_el q2 = q_el q0 ∧ q_pg q2 ≤ q_pg q0 + 1 ∧ (q_rl q2).length = (q_rl q0).length := by
    rw [← hq2]
    split
    · obtain ⟨m1, m2, m3, m4, m5, m6, m7, m8, m9, m10, m11⟩ := q_nl_s G q0
      exact ⟨m2, m3, m4, m5, m6, m11, by rw [m1]⟩
    · exact ⟨rfl, rfl, rfl, rfl, rfl, by omega, rfl⟩
  have T4 := XR_wi (n := q_wi q0 + 1) T3 (by show q_pg q2 + ((q_wi q0 + 1 : Nat) : Int) ≤ 2 * (q_el q2 : Nat); rw [n5]; omega) (by show q_nx q2 41 + ((q_wi q0 + 1 : Nat) : Int) ≤ (q_el q2 : Nat); rw [n2, n5]; omega)
  have e8 : (w_pu U 9 z).1 50 8 + 1 = ((q_wi q0 + 1 : Nat) : Int) := by
    rw [w_pu1, if_neg (by decide), a2]
    rfl
  have hXU : hX U (w_pu U 9 z) := hX_L ho (wL_pu (o := o) U 9 z)
  have R1 : am_rg ((w_pu U 9 z).1 50 13) ∧ am_rg ((w_pu U 9 z).1 50 10) ∧ am_rg ((w_pu U 9 z).1 50 12 + 1) ∧ am_rg ((w_pu U 9 z).1 50 16) := by
    rw [w_pu1, if_neg (by decide), w_pu1, if_neg (by decide), w_pu1, if_neg (by decide), w_pu1, if_neg (by decide)]
    exact ⟨by unfold am_rg; omega, by unfold am_rg; omega, by unfold am_rg; omega, by unfold am_rg; omega⟩
  have hd : (w_pu U 9 z).1 41 10 = -1 := by rw [w_pu1, if_neg (by decide)]; exact X.2.2.2.2.2.2.1
  have el0 : q_el q0 ≤ 200 := by
    rw [← hq0]
    show q_el q + 1 ≤ 200
    omega
  by_cases c : 12 ≤ q_wi q0
  · have hx : x_head G id v s q0 = (f_note (g_C G q2) (f_code 5 id) s, p_nx (q_nl G q2) (g_up (q_nx q2) 41 (q_nx q2 41 + 1))) := by
      unfold x_head
      dsimp only
      rw [hq2, if_pos (by rw [n4]; exact c)]
    rw [hx] at K
    refine dr_9 ⟨by omega, by omega⟩ hd (by omega) F0 (lk_123b F2 (by omega) ?_ ⟨by rw [e8]; unfold am_rg; omega, by rw [w_pu1, if_neg (by decide), a2]; omega⟩ (by rw [F1]; omega) (by rw [F1, w_h_pu, pH_w, p3]; omega) R1) (by omega) (by omega) ?_
    · have := (CR_o (CR_L X.1 (wL_pu U 9 z) (C' := g_C G q0) (by rw [w_pu1, if_neg (by decide)]; exact X.1.1.2.1.2.2) (by rw [w_pu2 _ _ _ (by decide)]; exact X.1.1.2.2.2))).2
      exact this
    · rintro w2 rfl
      rw [F1, w_h_pu, pH_w, p3, f_spot_w, e8]
      have T5 := XR_nt T4 hn (100000 * 5 + f_spot id)
      refine xs_2 (v := .nil) (x := (0, 0, 0)) T5 rfl hls (by show 1 ≤ q_wi q0 + 1; omega) (by omega) hr ?_
      intro w3 h3
      refine K _ _ (by omega) (by omega) ?_
      have eq : p_fr (p_wi (p_wi (p_fr q2 ((2, .nil, 0, 0, 0) :: S)) (q_wi q0 + 1) (q_us q2)) (q_wi q0 + 1 - 1) (q_us q2)) S = q2 := by
        have e : q_wi q0 + 1 - 1 = q_wi q2 := by rw [n4]; rfl
        rw [e]
        exact p_fr_eta (n3.trans hfr)
      have h3 : XR G sil o K0 (f_note (g_C G q2) (f_code 5 id) s) (p_nx (q_nl G (p_fr (p_wi (p_wi (p_fr q2 ((2, .nil, 0, 0, 0) :: S)) (q_wi q0 + 1) (q_us q2)) (q_wi q0 + 1 - 1) (q_us q2)) S)) (g_up (q_nx (q_nl G (p_fr (p_wi (p_wi (p_fr q2 ((2, .nil, 0, 0, 0) :: S)) (q_wi q0 + 1) (q_us q2)) (q_wi q0 + 1 - 1) (q_us q2)) S))) 41 (q_nx (q_nl G (p_fr (p_wi (p_wi (p_fr q2 ((2, .nil, 0, 0, 0) :: S)) (q_wi q0 + 1) (q_us q2)) (q_wi q0 + 1 - 1) (q_us q2)) S)) 41 + 1))) w3 := h3
      rw [eq, (q_nl_s G q2).2.2.1] at h3
      exact h3
  · have hx : x_head G id v s q0 = (s, p_fr (p_wi q2 (q_wi q2 + 1) (q_us q2)) ((0, v, 0, 0, 0) :: (2, .nil, 0, 0, 0) :: q_fr q2)) := by
      unfold x_head
      dsimp only
      rw [hq2, if_neg (by rw [n4]; exact c)]
    rw [hx] at K
    refine dr_9 ⟨by omega, by omega⟩ hd (by omega) F0 (lk_123a F2 (by omega) ⟨by rw [e8]; unfold am_rg; omega, by rw [w_pu1, if_neg (by decide), a2]; omega⟩ (by rw [F1]; omega) R1) (by omega) (by omega) ?_
    rintro w2 rfl
    rw [F1, w_h_pu, pH_w, e8]
    have X4 : hX U (w_f (w_hd (w_pu U 9 z)) 50 8 ((q_wi q0 + 1 : Nat) : Int)) := by
      have e : ∀ V : W_, wL o V (w_sl V) := fun V => by
        unfold w_sl
        split
        · exact wL_tr (wL_tr (wL_tr (wL_f (Or.inr (Or.inl rfl))) (wL_f (Or.inr (Or.inl rfl)))) (wL_f (Or.inr (Or.inl rfl)))) (wL_f (Or.inr (Or.inl rfl)))
        · exact wL_tr (wL_f (Or.inr (Or.inl rfl))) (wL_f (Or.inr (Or.inl rfl)))
      refine hX_L ho (wL_tr ?_ (wL_f (Or.inr (Or.inl rfl))))
      unfold w_hd
      split
      · exact wL_tr L (e _)
      · exact L
    have T5 := XR_pu0 T4 (cV_X X4 pv)
    refine K _ _ (by omega) (by omega) ?_
    rw [n4, n3, hfr]
    exact T5
end
