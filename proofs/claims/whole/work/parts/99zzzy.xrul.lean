/-! ===== the class realizes as the evaluator: one more frame, a rule is found ===== -/
def XB (G : G_) (o : Nat) (K0 : Int) (q : Q_) (w : W_) : Prop := ((flO (g_C0 G) (w.2 3) (w.2 5) (w.2 7) ∧ (False ∨ g0 (w.2 7))) ∧ w.2 3 183 = 0 ∧ yG G o K0 w) ∧ QR G o q w ∧ QB G q ∧ FRm w (q_fr q)
def XT (G : G_) (sil : Bool) (o : Nat) (K0 : Int) (s : S_) (q : Q_) (w : W_) : Prop := CR (g_C G q) sil o 0 False K0 s w ∧ XB G o K0 q w ∧ w.1 33 1 = ((q_fr q).length : Nat) + 1 ∧ w.1 41 10 = -1 ∧ w.1 41 12 = -1
section
variable {G : G_} {sil : Bool} {o : Nat} {K0 : Int} {s s1 : S_} {q q1 : Q_} {w w' : W_} {fr : Nat} {Q : Option am_V → W_ → Prop} {i : Int} {S : List F_} {x : Int × Int × Nat}
theorem XB_X (ho : o = 24 ∨ o = 55 ∨ o = 64) (H : XB G o K0 q w) (eo : w_o w = o) (h : xP w w') (h34 : ∀ k, k < 13 * (q_fr q).length → w'.2 34 k = w.2 34 k) : XB G o K0 q w' := by
  obtain ⟨⟨h2, h2', hr⟩, h3, h4, h5⟩ := H
  have X := hX_x h
  have hr' := rG_x ho eo hr h
  obtain ⟨x1, x2, ⟨x3, x4, x5, x6, x7, x8, x9⟩, ⟨x10, x11, x12⟩, x13⟩ := h
  rw [eo] at x11 x12
  refine ⟨⟨?_, ?_⟩, QR_X h3 X x2 x3 x4 x5 x12 x11, h4, FRm_X X _ h34 h5⟩
  · rw [x6, x7, x8]; exact h2
  · rw [x6]; exact ⟨h2', hr'⟩
theorem XR_XB (H : XR G sil o K0 s q w) : XB G o K0 q w := ⟨H.2.1, H.2.2.1, H.2.2.2.1, H.2.2.2.2.1⟩
theorem XT_pu {y z : Int} (H : XR G sil o K0 s q w) : XT G sil o K0 s q (w_pu w y z) := by
  have hc := H.2.2.2.2.2.1
  refine ⟨CR_S H.1 (wS_pu w y z), XB_X H.1.1.1.1 (XR_XB H) (CR_o H.1).1 (xP_S (wS_pu w y z) (RD_oK H.1)) (fun k hk => ?_), ?_, ?_, ?_⟩
  · rw [pu_34 hc, if_neg (by omega), if_neg (by omega), if_neg (by omega)]
  · rw [w_pu1, if_pos ⟨rfl, rfl⟩, hc]
  · rw [w_pu1, if_neg (by decide)]; exact H.2.2.2.2.2.2.1
  · rw [w_pu1, if_neg (by decide)]; exact H.2.2.2.2.2.2.2
theorem XT_fs {f y : Int} (H : XT G sil o K0 s q w) (hf : 0 ≤ f) : XT G sil o K0 s q (w_fs w f y) := by
  obtain ⟨h1, h2, h3, h4, h5⟩ := H
  refine ⟨CR_S h1 (wS_fs w f y), XB_X h1.1.1.1 h2 (CR_o h1).1 (xP_S (wS_fs w f y) (RD_oK h1)) (fun k hk => ?_), h3, h4, h5⟩
  rw [fs_34 h3 hf, if_neg (by omega)]
theorem XT_po (H : XT G sil o K0 s q w) : XR G sil o K0 s q (w_po w) := by
  obtain ⟨h1, h2, h3, h4, h5⟩ := H
  obtain ⟨b1, b2, b3, b4⟩ := XB_X h1.1.1.1 h2 (CR_o h1).1 (xP_S (wS_po w) (RD_oK h1)) (fun k _ => rfl)
  refine ⟨CR_S h1 (wS_po w), b1, b2, b3, b4, ?_, ?_, ?_⟩
  · rw [w_po1, if_pos ⟨rfl, rfl⟩, h3]
    split <;> omega
  · rw [w_po1, if_neg (by decide)]; exact h4
  · rw [w_po1, if_neg (by decide)]; exact h5
theorem XT_nt (H : XT G sil o K0 s q w) (hn : s_nt s < 1000000) (f : Int) : XT G sil o K0 (f_note (g_C G q) f s) q (w_nt w f) := by
  obtain ⟨h1, h2, h3, h4, h5⟩ := H
  have ho := RD_oK h1
  have O := oQ_nt (n := w.1 33 1) (x := f) ho
  have e : ∀ a j, ¬ (a = 17 ∧ j = 5) → ¬ (a = w_o w ∧ j = 5) → (w_nt w f).1 a j = w.1 a j := fun a j h1 h2 => by
    unfold w_nt
    rw [w_f1, w_u_at, if_neg h2, w_f1, w_u_at, if_neg h1]
    rfl
  refine ⟨CR_nt h1 hn f, XB_X h1.1.1.1 h2 (CR_o h1).1 O.2.2.2 (fun k hk => O.2.1 k (by omega)), ?_, ?_, ?_⟩
  · rw [e 33 1 (by decide) (by omega)]; exact h3
  · rw [e 41 10 (by decide) (by omega)]; exact h4
  · rw [e 41 12 (by decide) (by omega)]; exact h5
theorem XT_h {k : Nat} (H : XT G sil o K0 s q w) (h : hS w w') (hk : w'.1 13 2 ≤ w.1 13 2 + k) (hn : s_nd s + k ≤ 11 * s_tb s + 300) : XT G sil o K0 (u_nd s k) q w' := by
  obtain ⟨h1, h2, h3, h4, h5⟩ := H
  refine ⟨CR_h h1 h hk hn, XB_X h1.1.1.1 h2 (CR_o h1).1 (hS_x h (RD_oK h1)) (fun k _ => by rw [h.2.1 34 (by decide)]), ?_, ?_, ?_⟩
  · rw [h.1 33 1 (by decide)]; exact h3
  · rw [h.1 41 10 (by decide)]; exact h4
  · rw [h.1 41 12 (by decide)]; exact h5
theorem f_t_h (h : hS w w') (g : Int) : f_t w' g = f_t w g := by
  unfold f_t w_g
  rw [h.1 33 1 (by decide), h.2.1 34 (by decide)]
/-- a rule's frame, ahead of its body -/
def PR (G : G_) (sil : Bool) (o : Nat) (K0 : Int) (s : S_) (q : Q_) (el r : T_) (V : W_) : Prop := ∃ u y : Int, XT G sil o K0 s q V ∧ (f_t V 0 = 10 ∧ f_t V 1 = u ∧ f_t V 2 = 0 ∧ f_t V 11 = y) ∧ cV V r u ∧ vW_ V el y
theorem PR_b {U : W_} {u y : Int} {el r : T_} (X : XR G sil o K0 s q U) (hr : cV U r u) (hv : vW_ U el y) : PR G sil o K0 s q el r (w_fs (w_pu U 10 u) 11 y) := by
  have hc := X.2.2.2.2.2.1
  have h0 : 0 ≤ U.1 33 1 := by omega
  have A : XT G sil o K0 s q (w_pu U 10 u) := XT_pu X
  have hp : 1 ≤ (w_pu U 10 u).1 33 1 := by rw [w_pu1, if_pos ⟨rfl, rfl⟩]; omega
  have xx : xP U (w_fs (w_pu U 10 u) 11 y) := xP_S (wS_tr (wS_pu U 10 u) (wS_fs _ 11 y)) (RD_oK X.1)
  refine ⟨u, y, XT_fs A (by decide), ⟨?_, ?_, ?_, ?_⟩, cV_X (hX_x xx) hr, vW_x xx (XR_h X).1 hv⟩
  · rw [f_t_fs0 hp (by decide) (by decide), if_neg (by decide), f_t_pu h0 (by decide), if_pos rfl]
  · rw [f_t_fs0 hp (by decide) (by decide), if_neg (by decide), f_t_pu h0 (by decide), if_neg (by decide), if_pos rfl]
  · rw [f_t_fs0 hp (by decide) (by decide), if_neg (by decide), f_t_pu h0 (by decide), if_neg (by decide), if_neg (by decide)]
  · rw [f_t_fs0 hp (by decide) (by decide), if_pos rfl]
theorem PR_a {U : W_} {u m : Int} {r : T_} (X : XR G sil o K0 s q U) (hr : cV U r u) (hm : -9000 ≤ m ∧ m ≤ 11000) (hn : s_nd s + 1 ≤ 11 * s_tb s + 300) : PR G sil o K0 (u_nd s 1) q (.tag 1 (.nest m .nil)) r (w_fs (w_wid (w_mk (w_pu U 10 u) 1 20003 20003 m 0) (30000 + U.1 13 2) 1 2 3) 11 (30000 + U.1 13 2)) := by
  have hc := X.2.2.2.2.2.1
  have h0 : 0 ≤ U.1 33 1 := by omega
  have hh := XR_h X
  have A : XT G sil o K0 s q (w_pu U 10 u) := XT_pu X
  have hp : 1 ≤ (w_pu U 10 u).1 33 1 := by rw [w_pu1, if_pos ⟨rfl, rfl⟩]; omega
  have F : ∀ g : Int, 0 ≤ g ∧ g < 13 → f_t (w_pu U 10 u) g = if g = 0 then 10 else if g = 1 then u else 0 := fun g hg => f_t_pu h0 hg
  have x1 : xP U (w_pu U 10 u) := xP_S (wS_pu U 10 u) (RD_oK X.1)
  have e13 : (w_pu U 10 u).1 13 2 = U.1 13 2 := by rw [w_pu1, if_neg (by decide)]
  rw [← e13] at hh ⊢
  have hr1 := cV_X (hX_x x1) hr
  generalize w_pu U 10 u = W at *
  have hs : hS W (w_wid (w_mk W 1 20003 20003 m 0) (30000 + W.1 13 2) 1 2 3) := hS_wid (hS_mk0 hh.1) hh.1
  obtain ⟨n1, n2, n3, n4, n5, n6, n7, n8, n9⟩ := new_wid (W := W) (k := 1) (b := 20003) (c := 20003) (d := m) (e := 0) (x := 1) (y := 2) (z := 3) hh.1 (by unfold am_rg; omega) (by unfold am_rg; omega) (CR_gN A.1)
  have B := XT_h (k := 1) A hs (by rw [n1]; omega) hn
  have hW1 : hW ((w_wid (w_mk W 1 20003 20003 m 0) (30000 + W.1 13 2) 1 2 3).2 13) (.tag 1 (.nest m .nil)) (30000 + W.1 13 2) := by
    unfold hW
    rw [if_neg (by omega), if_neg (by omega), if_neg (by omega), n7, n8, n9]
    exact ⟨rfl, rfl, rfl, fun _ => rfl⟩
  have hp2 : 1 ≤ (w_wid (w_mk W 1 20003 20003 m 0) (30000 + W.1 13 2) 1 2 3).1 33 1 := by rw [hs.1 33 1 (by decide)]; exact hp
  have xw : xP W (w_wid (w_mk W 1 20003 20003 m 0) (30000 + W.1 13 2) 1 2 3) := hS_x hs (RD_oK A.1)
  have hr2 := cV_X (hX_x xw) hr1
  have F2 : ∀ g : Int, f_t (w_wid (w_mk W 1 20003 20003 m 0) (30000 + W.1 13 2) 1 2 3) g = f_t W g := f_t_h hs
  have vv : vW_ (w_wid (w_mk W 1 20003 20003 m 0) (30000 + W.1 13 2) 1 2 3) (.tag 1 (.nest m .nil)) (30000 + W.1 13 2) := ⟨⟨n2, n5, hm, hW1⟩, hW1⟩
  have hz := (XR_h X).1
  generalize w_wid (w_mk W 1 20003 20003 m 0) (30000 + W.1 13 2) 1 2 3 = Z at *
  have xx : xP Z (w_fs Z 11 (30000 + W.1 13 2)) := xP_S (wS_fs _ 11 _) (RD_oK B.1)
  refine ⟨u, _, XT_fs B (by decide), ⟨?_, ?_, ?_, ?_⟩, cV_X (hX_x xx) hr2, vW_x xx (by omega) vv⟩
  · rw [f_t_fs0 hp2 (by decide) (by decide), if_neg (by decide), F2, F 0 (by decide), if_pos rfl]
  · rw [f_t_fs0 hp2 (by decide) (by decide), if_neg (by decide), F2, F 1 (by decide), if_neg (by decide), if_pos rfl]
  · rw [f_t_fs0 hp2 (by decide) (by decide), if_neg (by decide), F2, F 2 (by decide), if_neg (by decide), if_neg (by decide)]
  · rw [f_t_fs0 hp2 (by decide) (by decide), if_pos rfl]
/-- an element that a rule shows: a node, a number -/
theorem el_rb {z k m : Int} {el r : T_} (H : XR G sil o K0 s q w) (hel : q_el q < 200) (hG : rls q) (hl : (q_rl q).length < 30000) (hk : k = 1 ∨ k = 4 ∨ k = 5) (hz : 30000 ≤ z ∧ z < 10000000 ∧ pH (w.2 13) z 3 = m) (hm : -100000 ≤ m ∧ m < 100000) (hv : vW_ w el z) (hs : v_shn k m = q_shown el) (h1 : (q_fr q).length < 20000) (hu : ∀ u : Int, cV w r u → 30000 ≤ u) (hy : q_rule el (p_el q (q_el q + 1)) = some r) : ww_Ct 115 8 [.inr (.inr (.inl 50)), .inl z, .inl k] w fun r' w' => r' = none ∧ PR G sil o K0 s (p_el q (q_el q + 1)) el r w' := by
  refine el_x H hel hk (Or.inr hz) fun X => ?_
  have xx : hX w (w_f w 50 14 (((q_el q : Nat) : Int) + 1)) := hX_L (XR_ho H) (wL_f (Or.inr (Or.inl rfl)))
  obtain ⟨u, hr, hc⟩ := fr_yes X hG hl (by unfold am_rg; omega) (by omega) hs hy
  have hh := XR_h X
  have hr' : cV w r u := hr
  have u0 := hu u hr'
  have u1 := (cR_lt hh.1 hr).2
  have hc33 : (w_f w 50 14 (((q_el q : Nat) : Int) + 1)).1 33 1 = ((q_fr q).length : Nat) := X.2.2.2.2.2.1
  refine (lk_117b hc ⟨u0, by omega⟩ ⟨hz.1, hz.2.1⟩ (by omega)).mono ?_
  rintro r' w' ⟨h, rfl⟩
  exact ⟨h, PR_b X hr ⟨cV_X xx hv.1, hv.2⟩⟩
theorem el_ra {z : Int} {r : T_} (H : XR G sil o K0 s q w) (hel : q_el q < 200) (hG : rls q) (hl : (q_rl q).length < 30000) (hz : -9999 ≤ z ∧ z ≤ 9999) (hn : s_nd s + 1 ≤ 11 * s_tb s + 300) (h1 : (q_fr q).length < 20000) (hu : ∀ u : Int, cV w r u → 30000 ≤ u) (hy : q_rule (.tag 1 (.nest (1000 + z) .nil)) (p_el q (q_el q + 1)) = some r) : ww_Ct 115 8 [.inr (.inr (.inl 50)), .inl z, .inl 1] w fun r' w' => r' = none ∧ PR G sil o K0 (u_nd s 1) (p_el q (q_el q + 1)) (.tag 1 (.nest (1000 + z) .nil)) r w' := by
  refine el_x (m := 1000 + z) H hel (Or.inl rfl) (Or.inl ⟨hz.1, hz.2, rfl⟩) fun X => ?_
  obtain ⟨u, hr, hc⟩ := fr_yes (x0 := 1) (x1 := 1000 + z) X hG hl (by unfold am_rg; omega) (by omega) (by unfold v_shn; rw [if_neg (by decide), if_neg (by decide)]; rfl) hy
  have hh := XR_h X
  have hr' : cV w r u := hr
  have u0 := hu u hr'
  have u1 := (cR_lt hh.1 hr).2
  have hc33 : (w_f w 50 14 (((q_el q : Nat) : Int) + 1)).1 33 1 = ((q_fr q).length : Nat) := X.2.2.2.2.2.1
  refine (lk_117a hc ⟨u0, by omega⟩ hz (by omega) hh).mono ?_
  rintro r' w' ⟨h, rfl⟩
  exact ⟨h, PR_a X hr (by omega) hn⟩
end
