/-! ===== the evaluator: one element is realized ===== -/
theorem XS_le {el k k' : Nat} {s : S_} (h : XS el k s) (hk : k ≤ k') : XS el k' s := by
  obtain ⟨h1, h2, h6, h7, h8, h9⟩ := h
  exact ⟨h1, h2, h6, h7, h8, by omega⟩
/-- what laying changes -/
def qS (q q1 : Q_) : Prop := q_rl q1 = q_rl q ∧ q_wi q1 = q_wi q ∧ q_us q1 = q_us q ∧ q_el q1 = q_el q ∧ q_fr q1 = q_fr q
theorem qS_refl (q : Q_) : qS q q := ⟨rfl, rfl, rfl, rfl, rfl⟩
theorem qS_tr {q q1 q2 : Q_} (h : qS q q1) (g : qS q1 q2) : qS q q2 := ⟨g.1.trans h.1, g.2.1.trans h.2.1, g.2.2.1.trans h.2.2.1, g.2.2.2.1.trans h.2.2.2.1, g.2.2.2.2.trans h.2.2.2.2⟩
theorem qS_nl (G : G_) (q : Q_) : qS q (q_nl G q) := by
  unfold q_nl
  split <;> exact ⟨rfl, rfl, rfl, rfl, rfl⟩
theorem qS_lab (l : Nat) (q : Q_) : qS q (q_label l q) := by
  unfold q_label
  split <;> exact ⟨rfl, rfl, rfl, rfl, rfl⟩
theorem qS_lay (G : G_) (n w : Int) (q : Q_) : qS q (q_lay G n w q) := by
  unfold q_lay
  dsimp only
  split
  · exact qS_tr (qS_nl G q) ⟨rfl, rfl, rfl, rfl, rfl⟩
  · exact ⟨rfl, rfl, rfl, rfl, rfl⟩
/-- an element -/
def x_el (el : T_) : Prop := (∃ n y, el = .tag 1 (.nest n y)) ∨ (∃ y, el = .tag 2 y) ∨ (∃ l y, el = .tag 3 (.nest l y)) ∨ (∃ n y, el = .tag 4 (.nest n y)) ∨ (∃ id v, el = .tag 5 (.tag id v)) ∨ (∃ c x y, el = .tag 6 (.tag c (.nest x y))) ∨ ∃ e cl, el = .tag 7 (.append e cl)
theorem x_rule_eq {rec : C_ → K_} {G : G_} {sil : Bool} {n : Nat} {e f el : T_} {s : S_} {q : Q_} : x_rule rec G sil (.tag 11 (.tag n (.append e f))) el s q = if 12 ≤ q_wi q then some (f_note (g_C G q) (f_code 5 (e_id e)) s, q) else if 300 ≤ s_b s then some (f_note (g_C G q) (f_code 6 (e_id e)) s, q) else
    if s_rw s < 2040 then (match rec (g_C G q) sil (e_part (v_code f)) (n_body (v_code f) (v_clos f) el f) false (u_rw (u_rn (u_dp s 1) (s_rn s + 1) (s_tk s)) (s_rw s + 1)) with
      | some (v, _, s1) => (match f_fu x_L (g_C G q) v (e_id e) (u_dp s1 0) with
        | some s2 => some (s2, p_fr (p_wi q (q_wi q + 1) (q_us q ++ [e_id e])) ((0, v, 0, 0, 0) :: (3, .nil, 0, 0, 0) :: q_fr q))
        | none => none)
      | none => none) else none := rfl
section
variable {G : G_} {sil : Bool} {el w : T_} {x : Int × Int × Nat} {S : List F_} {q : Q_} {s : S_} {k : Nat}
/-- the element is laid, or what it comes to is empty -/
theorem fin_S {s1 : S_} {q1 : Q_} (HQ : XQ (s_tb s) (x_Y s) q) (hf : q_fr q = (0, w, x) :: S) (hw : v_rn w = 0) (hel : q_el q + 1 ≤ 200) (Ht : s_tb s ≤ s_tb s1 ∧ s_b s ≤ s_b s1 ∧ s_tb s1 ≤ 1800) (hq : qS (p_el (p_fr q S) (q_el q + 1)) q1) : XQ (s_tb s1) (x_Y s1) q1 ∧ x_P q1 < x_P q := by
  obtain ⟨e1, e2, e3, e4, e5⟩ := hq
  have e1 : q_rl q1 = q_rl q := e1
  have e2 : q_wi q1 = q_wi q := e2
  have e3 : q_us q1 = q_us q := e3
  have e4 : q_el q1 = q_el q + 1 := e4
  have e5 : q_fr q1 = S := e5
  obtain ⟨⟨-, h2⟩, h3, h4, h5⟩ := HQ
  obtain ⟨-, h21, h22, h23⟩ := h2 (by rw [hf]; exact List.cons_ne_nil _ _)
  rw [hf] at h21 h23 h3
  have hY := x_Y_le Ht.2.1
  have X := XF_mono Ht.1 hY _ _ h3
  rw [XF_0, hw] at X
  have XS1 : XF (s_tb s1) (x_Y s1) (q_rl q1).length (q_fr q1) := by rw [e1, e5]; exact X.2
  have l1 : q_wi q = 0 + l_cl S := h21
  have l2 : (q_us q).length = 0 + l_3 S := h23
  refine ⟨XQ_of (by omega) (by rw [e2, e5]; omega) (by rw [e2]; exact h22) (by rw [e3, e5]; omega) XS1 (fun r hr => ?_) (by rw [e1]; omega), x_P_el hf (by omega) e4 Ht.2.2 XS1 (by rw [e5]; omega)⟩
  rw [e1] at hr
  exact rG_mono (h4 r hr) Ht.1
/-- what it comes to is to be realized -/
theorem fin_new {s1 : S_} {q1 : Q_} {v : T_} {kk : Nat} {y z : Int × Int × Nat} (HQ : XQ (s_tb s) (x_Y s) q) (hf : q_fr q = (0, w, x) :: S) (hel : q_el q + 1 ≤ 200) (Ht : s_tb s ≤ s_tb s1 ∧ s_b s ≤ s_b s1 ∧ s_tb s1 ≤ 1800) (hwi : q_wi q < 12) (hk : kk = 2 ∨ kk = 3 ∨ kk = 4) (e1 : q_rl q1 = q_rl q) (e2 : q_wi q1 = q_wi q + 1) (e3 : (q_us q1).length = (q_us q).length + if kk = 3 then 1 else 0) (e4 : q_el q1 = q_el q + 1) (e5 : q_fr q1 = (0, v, y) :: (kk, .nil, z) :: S) (hg : gv v) (X : XF (s_tb s1) (x_Y s1) (q_rl q).length ((0, v, y) :: (kk, .nil, z) :: S)) : XQ (s_tb s1) (x_Y s1) q1 ∧ x_P q1 < x_P q := by
  obtain ⟨⟨-, h2⟩, h3, h4, h5⟩ := HQ
  obtain ⟨-, h21, h22, h23⟩ := h2 (by rw [hf]; exact List.cons_ne_nil _ _)
  rw [hf] at h21 h23 h3
  have hY := x_Y_le Ht.2.1
  have l1 : q_wi q = 0 + l_cl S := h21
  have l2 : (q_us q).length = 0 + l_3 S := h23
  have c1 : l_cl (q_fr q1) = 1 + l_cl S := by
    rw [e5]
    show 0 + ((if kk = 2 ∨ kk = 3 ∨ kk = 4 then 1 else 0) + l_cl S) = _
    rw [if_pos hk]
    omega
  have c2 : l_3 (q_fr q1) = (if kk = 3 then 1 else 0) + l_3 S := by
    rw [e5]
    show 0 + ((if kk = 3 then 1 else 0) + l_3 S) = _
    omega
  have XS1 : XF (s_tb s1) (x_Y s1) (q_rl q1).length (q_fr q1) := by rw [e1, e5]; exact X
  have cc : l_c (q_fr q1) ≤ l_c S + 2 := by
    rw [e5, l_c0, (l_mk (by omega)).2]
    cases qf : v_ff v with
    | true => rw [if_pos rfl]; omega
    | false => rw [if_neg Bool.false_ne_true, gv_mk hg qf]; omega
  refine ⟨XQ_of (by omega) (by rw [e2, c1]; omega) (by rw [e2]; omega) (by rw [e3, c2]; omega) XS1 (fun r hr => ?_) (by rw [e1]; omega), x_P_el hf (by omega) e4 Ht.2.2 XS1 cc⟩
  rw [e1] at hr
  exact rG_mono (h4 r hr) Ht.1
theorem x_late_ok {e cl : T_} (hG : GG G) (H : XS (q_el q) k s) (hk : k ≤ q_el q + 1) (HQ : XQ (s_tb s) (x_Y s) q) (hf : q_fr q = (0, .tag 7 (.append e cl), x) :: S) (hel : q_el q + 1 ≤ 200) : ∃ s1 q1, x_late (fun C => ev C x_F) G sil e cl s (p_el (p_fr q S) (q_el q + 1)) = some (s1, q1) ∧ XS (q_el q1) (q_el q1) s1 ∧ XQ (s_tb s1) (x_Y s1) q1 ∧ x_P q1 < x_P q := by
  have tb18 : s_tb s ≤ 1800 := by have := H.2.1.1; omega
  have note : ∀ f, ∃ s1 q1, some (f_note (g_C G (p_el (p_fr q S) (q_el q + 1))) f s, p_el (p_fr q S) (q_el q + 1)) = some (s1, q1) ∧ XS (q_el q1) (q_el q1) s1 ∧ XQ (s_tb s1) (x_Y s1) q1 ∧ x_P q1 < x_P q := fun f => by
    obtain ⟨F1, F2⟩ := fin_S (s := s) (s1 := f_note (g_C G (p_el (p_fr q S) (q_el q + 1))) f s) HQ hf rfl hel ⟨Nat.le_refl _, Nat.le_refl _, tb18⟩ (qS_refl _)
    exact ⟨_, _, rfl, XS_le (XS_note H) hk, F1, F2⟩
  unfold x_late
  by_cases c1 : 12 ≤ q_wi q
  · rw [if_pos (by exact c1)]
    exact note _
  rw [if_neg (by exact c1)]
  by_cases c2 : 300 ≤ s_b s
  · rw [if_pos c2]
    exact note _
  have HX := HQ.2.1
  rw [hf, XF_0] at HX
  obtain ⟨⟨⟨⟨g1, g2⟩, g3, g4, g5⟩, -⟩, -⟩ := HX
  have g4 : v_m cl + 1 ≤ s_tb s := g4
  have g5 : v_R cl ≤ s_tb s := g5
  have hrw : s_rw s < 2040 := by
    have h1 := H.2.1
    omega
  rw [if_neg c2, if_pos hrw]
  obtain ⟨v, E1, s1, hr, hS, hd1, hdp, gvv, rvv, mv, t1, b1, T1⟩ := x_body (q := p_el (p_fr q S) (q_el q + 1)) (sil := sil) (d := 0) (x := s_rn s) (y := s_tk s) hG (by decide) H (by omega) (by omega) g1 (n_get_G cl (s_tb s) g2 (by omega)) (n_get_V cl (s_tb s) g3 g5)
  have es : u_rw (u_rn (u_dp s 0) (s_rn s) (s_tk s)) (s_rw s + 1) = u_rw s (s_rw s + 1) := by
    have : u_dp s (s_dp s) = s := rfl
    rw [H.1.1] at this
    show u_rw (u_dp s 0) (s_rw s + 1) = _
    rw [this]
  rw [es] at hr
  have e1 : u_dp s1 0 = s1 := by
    have : u_dp s1 (s_dp s1) = s1 := rfl
    rw [hd1] at this
    exact this
  rw [e1] at hS
  dsimp only
  rw [hr]
  dsimp only
  rw [fu_some hdp]
  dsimp only
  have hS1 := hS (g_C G (p_el (p_fr q S) (q_el q + 1))) (e_id (e_part e))
  obtain ⟨q1', q2', q3', q4'⟩ := funs_same (g_C G (p_el (p_fr q S) (q_el q + 1))) v (e_id (e_part e)) s1
  have eb : s_b (f_funs (g_C G (p_el (p_fr q S) (q_el q + 1))) v (e_id (e_part e)) s1) = s_b s1 := by
    unfold f_funs
    obtain ⟨l, el', -⟩ := f_notes_eq (g_C G (p_el (p_fr q S) (q_el q + 1))) (f_code 3 (e_id (e_part e))) (min 60 (v_nf v)) s1
    rw [el']
  have HX := HQ.2.1
  rw [hf] at HX
  have hYs : x_Y s = 0 := if_pos (by omega)
  rw [hYs] at HX
  have X : XF (s_tb s1) (x_Y s1) (q_rl q).length ((0, v, 0, 0, 0) :: (4, .nil, 0, 0, 0) :: S) := by
    refine XF_new (Y := 0) (XF_mono t1 (Nat.le_refl 0) _ _ HX) rfl (Or.inr rfl) gvv rvv mv (Nat.zero_le _) ?_
    by_cases c : s_b s1 < 300
    · have : s_tb s1 ≤ s_b s1 := by
        have := hS1.2.1.2.2.2
        rw [q1', eb] at this
        exact this
      exact Or.inr (by omega)
    · exact Or.inl ⟨rfl, if_neg c, T1⟩
  have F := fin_new (s := s) (s1 := f_funs (g_C G (p_el (p_fr q S) (q_el q + 1))) v (e_id (e_part e)) s1) (q1 := p_fr (p_wi (p_el (p_fr q S) (q_el q + 1)) (q_wi q + 1) (q_us q)) ((0, v, 0, 0, 0) :: (4, .nil, 0, 0, 0) :: S)) (v := v) (kk := 4) HQ hf hel ⟨by rw [q1']; exact t1, by rw [eb]; exact b1, by rw [q1']; exact T1⟩ (by omega) (by decide) rfl rfl rfl rfl rfl gvv (by
    have ex : x_Y (f_funs (g_C G (p_el (p_fr q S) (q_el q + 1))) v (e_id (e_part e)) s1) = x_Y s1 := by
      show (if s_b _ < 300 then 0 else 1800) = _
      rw [eb]
    rw [ex, q1']
    exact X)
  exact ⟨_, _, rfl, XS_le hS1 hk, F.1, F.2⟩
theorem x_rule_ok {r : T_} {q' : Q_} (hG : GG G) (H : XS (q_el q) k s) (hk : k ≤ q_el q + 1) (HQ : XQ (s_tb s) (x_Y s) q) (hf : q_fr q = (0, w, x) :: S) (hw : v_rn w = 0) (hel : q_el q + 1 ≤ 200) (hq' : q' = p_el (p_fr q S) (q_el q + 1)) (hr : r ∈ q_rl q) (hc : cG (s_tb s) el) (hgv : gv el) (hrn : v_rn el = 0) : ∃ s1 q1, x_rule (fun C => ev C x_F) G sil r el s q' = some (s1, q1) ∧ XS (q_el q1) (q_el q1) s1 ∧ XQ (s_tb s1) (x_Y s1) q1 ∧ x_P q1 < x_P q := by
  have tb18 : s_tb s ≤ 1800 := by have := H.2.1.1; omega
  have note : ∀ f, ∃ s1 q1, some (f_note (g_C G q') f s, q') = some (s1, q1) ∧ XS (q_el q1) (q_el q1) s1 ∧ XQ (s_tb s1) (x_Y s1) q1 ∧ x_P q1 < x_P q := fun f => by
    subst hq'
    obtain ⟨F1, F2⟩ := fin_S (s := s) (s1 := f_note (g_C G (p_el (p_fr q S) (q_el q + 1))) f s) HQ hf hw hel ⟨Nat.le_refl _, Nat.le_refl _, tb18⟩ (qS_refl _)
    exact ⟨_, _, rfl, XS_le (XS_note H) hk, F1, F2⟩
  obtain ⟨n, e, f, rfl, ⟨f1, f2, f3, f4⟩, fF⟩ := HQ.2.2.1 r hr
  have ew : q_wi q' = q_wi q := by rw [hq']
  rw [x_rule_eq]
  by_cases c1 : 12 ≤ q_wi q
  · rw [if_pos (by rw [ew]; exact c1)]
    exact note _
  rw [if_neg (by rw [ew]; exact c1)]
  by_cases c2 : 300 ≤ s_b s
  · rw [if_pos c2]
    exact note _
  have hrw : s_rw s < 2040 := by
    have h1 := H.2.1
    omega
  rw [if_neg c2, if_pos hrw]
  have gf : gv f := ⟨f1, fun q => by
    obtain ⟨y, rfl⟩ := v_isF_of fF
    cases q⟩
  have rf : rv (s_tb s) f := ⟨by
    obtain ⟨y, rfl⟩ := v_isF_of fF
    rfl, f2, f4⟩
  obtain ⟨v, E1, s1, hr2, hS, hd1, hdp, gvv, rvv, mv, t1, b1, T1⟩ := x_body (q := q') (sil := sil) (d := 1) (x := s_rn s + 1) (y := s_tk s) hG (by decide) H (by omega) (by omega) (fn_G fF f1).1 (n_body_G fF gf f3 hgv hc.2.2.1) (n_body_V fF rf ⟨hrn, hc.2.1, hc.2.2.2⟩)
  rw [hr2]
  dsimp only
  rw [fu_some hdp]
  dsimp only
  have hS1 := hS (g_C G q') (e_id e)
  obtain ⟨q1', q2', q3', q4'⟩ := funs_same (g_C G q') v (e_id e) (u_dp s1 0)
  have eb : s_b (f_funs (g_C G q') v (e_id e) (u_dp s1 0)) = s_b s1 := by
    unfold f_funs
    obtain ⟨l, el', -⟩ := f_notes_eq (g_C G q') (f_code 3 (e_id e)) (min 60 (v_nf v)) (u_dp s1 0)
    rw [el']
  have et : s_tb (f_funs (g_C G q') v (e_id e) (u_dp s1 0)) = s_tb s1 := q1'
  have HX := HQ.2.1
  rw [hf] at HX
  have hYs : x_Y s = 0 := if_pos (by omega)
  rw [hYs] at HX
  have X : XF (s_tb s1) (x_Y s1) (q_rl q).length ((0, v, 0, 0, 0) :: (3, .nil, 0, 0, 0) :: S) := by
    refine XF_new (Y := 0) (XF_mono t1 (Nat.le_refl 0) _ _ HX) hw (Or.inl rfl) gvv rvv mv (Nat.zero_le _) ?_
    by_cases c : s_b s1 < 300
    · have : s_tb s1 ≤ s_b s1 := by
        have := hS1.2.1.2.2.2
        rw [et, eb] at this
        exact this
      exact Or.inr (by omega)
    · exact Or.inl ⟨rfl, if_neg c, T1⟩
  have F := fin_new (s := s) (s1 := f_funs (g_C G q') v (e_id e) (u_dp s1 0)) (q1 := p_fr (p_wi q' (q_wi q' + 1) (q_us q' ++ [e_id e])) ((0, v, 0, 0, 0) :: (3, .nil, 0, 0, 0) :: q_fr q')) (v := v) (kk := 3) (y := (0, 0, 0)) (z := (0, 0, 0)) HQ hf hel ⟨by rw [et]; exact t1, by rw [eb]; exact b1, by rw [et]; exact T1⟩ (by omega) (by decide) (by rw [hq']) (by rw [hq']) (by rw [hq']; show (q_us q ++ [e_id e]).length = _; rw [List.length_append]; rfl) (by rw [hq']) (by rw [hq']) gvv (by
    have ex : x_Y (f_funs (g_C G q') v (e_id e) (u_dp s1 0)) = x_Y s1 := by
      show (if s_b _ < 300 then 0 else 1800) = _
      rw [eb]
    rw [ex, et]
    exact X)
  have eel : q_el (p_fr (p_wi q' (q_wi q' + 1) (q_us q' ++ [e_id e])) ((0, v, 0, 0, 0) :: (3, .nil, 0, 0, 0) :: q_fr q')) = q_el q + 1 := by rw [hq']
  refine ⟨_, _, rfl, ?_, F.1, F.2⟩
  rw [eel]
  exact XS_le hS1 hk
end
