/-! ===== the class realizes as the evaluator: headings, rules and LATEs close, labels, things ===== -/
section
variable {G : G_} {sil : Bool} {o : Nat} {K0 : Int} {s : S_} {q q1 : Q_} {w w' : W_} {fr : Nat} {Q : Option am_V → W_ → Prop} {i : Int} {S : List F_} {x : Int × Int × Nat}
/-- how many are within one another, SHOWs used up, frames -/
theorem XR_W {m : Nat} {us1 : List Nat} {l : List F_} (H : XR G sil o K0 s q w) (L : wL o w w') (e50 : ∀ j, j ≠ 8 → w'.1 50 j = w.1 50 j) (e8 : w'.1 50 8 = (m : Nat)) (e2 : w'.2 51 = w.2 51 ∧ w'.2 20 = w.2 20 ∧ w'.2 18 = w.2 18 ∧ w'.1 o 4 = w.1 o 4 ∧ w'.2 (o + 1) = w.2 (o + 1)) (r53 : ∀ (i n : Nat), us1[i]? = some n → w'.2 53 i = (n : Int) ∧ n < 180) (e6 : w'.1 17 6 = (us1.length : Nat)) (h12 : us1.length ≤ 12) (hm1 : q_pg q + (m : Nat) ≤ 2 * (q_el q : Nat)) (hm2 : q_nx q 41 + (m : Nat) ≤ (q_el q : Nat)) (hF : FRm w' l) (hc : w'.1 33 1 = (l.length : Nat)) : XR G sil o K0 s (p_fr (p_wi q m us1) l) w' := by
  obtain ⟨c1, c2, c3, c4, c5⟩ := e2
  obtain ⟨⟨a1, a2, a3, a4, a5, a6, a7, a8, a9, a10⟩, r2, r3, r4, r5, r6⟩ := H.2.2.1
  obtain ⟨b1, b2, b3, b4, b5⟩ := H.2.2.2.1
  have X := hX_L (XR_ho H) L
  have A18 := XR_18 H
  refine XR_L (q1 := p_fr (p_wi q m us1) l) H L ⟨e6, h12⟩ ?_ ⟨?_, fun i r hr => ?_, r53, ?_, ?_, ?_⟩ ⟨b1, b2, ⟨b3.1, hm1, b3.2.2⟩, ⟨b4.1, b4.2.1, hm2⟩, b5⟩ hF hc
  · rw [c3]; exact A18
  · unfold Q50
    rw [e8, e50 7 (by decide), e50 9 (by decide), e50 10 (by decide), e50 11 (by decide), e50 12 (by decide), e50 13 (by decide), e50 14 (by decide), e50 15 (by decide), e50 16 (by decide)]
    exact ⟨a1, rfl, a3, a4, a5, a6, a7, a8, a9, a10⟩
  · rw [c1]; exact cV_X X (r2 i r hr)
  · rw [c2]; exact r4
  · rw [c4]; exact r5
  · rw [c5]; exact r6
theorem q_nl_fr (G : G_) (q : Q_) (l : List F_) : q_nl G (p_fr q l) = p_fr (q_nl G q) l := by
  show (if q_ln q + 1 = G.2.2.2.2 then _ else _) = _
  unfold q_nl
  by_cases c : q_ln q + 1 = G.2.2.2.2
  · rw [if_pos c, if_pos c]
  · rw [if_neg c, if_neg c]
theorem q_nl_s (G : G_) (q : Q_) : q_rl (q_nl G q) = q_rl q ∧ q_us (q_nl G q) = q_us q ∧ q_nx (q_nl G q) = q_nx q ∧ q_fr (q_nl G q) = q_fr q ∧ q_wi (q_nl G q) = q_wi q ∧ q_el (q_nl G q) = q_el q ∧ q_sz (q_nl G q) = q_sz q ∧ q_in (q_nl G q) = q_in q ∧ q_th (q_nl G q) = q_th q ∧ q_ct (q_nl G q) = q_ct q ∧ q_pg (q_nl G q) ≤ q_pg q + 1 := by
  unfold q_nl
  split
  · exact ⟨rfl, rfl, rfl, rfl, rfl, rfl, rfl, rfl, rfl, rfl, Int.le_refl _⟩
  · exact ⟨rfl, rfl, rfl, rfl, rfl, rfl, rfl, rfl, rfl, rfl, by show q_pg q ≤ q_pg q + 1; omega⟩
/-- one heading more is done -/
theorem XR_41 (H : XR G sil o K0 s q w) {y : Int} (hy : y = q_nx q 41 + 1) (h : q_nx q 41 + 1 + (q_wi q : Nat) ≤ (q_el q : Nat)) : XR G sil o K0 s (p_nx q (g_up (q_nx q) 41 (q_nx q 41 + 1))) (w_a w 20 41 y) := by
  obtain ⟨b1, b2, b3, ⟨b4, b5, b6⟩, b7, b8⟩ := H.2.2.2.1
  have r4 := H.2.2.1.2.2.2.1
  have u : ∀ k, g_up (q_nx q) 41 (q_nx q 41 + 1) k = if k = 41 then q_nx q 41 + 1 else q_nx q k := fun k => rfl
  refine XR_nx H rfl (fun b hb => w_a_2ne w _ _ hb) (fun k hk => ?_) (fun k hk => ?_) ?_ ?_
  · rw [u]
    show w_u w.2 20 41 y 20 k = _
    rw [w_u_at]
    by_cases c : k = 41
    · rw [if_pos ⟨rfl, c⟩, if_pos c]; exact hy
    · rw [if_neg (fun z => c z.2), if_neg c]; exact r4 k hk
  · rw [u]
    have := b4 k hk
    split <;> omega
  · rw [u, if_pos rfl]; omega
  · rw [u, if_pos rfl]; exact h
theorem xs_2 {v : T_} (H : XR G sil o K0 s q w) (hf : q_fr q = (2, v, x) :: S) (hl : S.length < 20000) (hw : 1 ≤ q_wi q) (hi : 0 ≤ i ∧ i < 1000000) (hr : 20 ≤ fr) (K : ∀ w', XR G sil o K0 s (p_nx (q_nl G (p_fr (p_wi q (q_wi q - 1) (q_us q)) S)) (g_up (q_nx (q_nl G (p_fr (p_wi q (q_wi q - 1) (q_us q)) S))) 41 (q_nx (q_nl G (p_fr (p_wi q (q_wi q - 1) (q_us q)) S)) 41 + 1))) w' → dr fr Q (i + 1) w') : dr fr Q i w := by
  obtain ⟨h1, ⟨t0, t2⟩, hS⟩ := XR_top H hf
  obtain ⟨a1, a2, a3, a4, a5, a6, a7, a8, a9, a10⟩ := H.2.2.1.1
  obtain ⟨b1, b2, b3, b4, b5⟩ := H.2.2.2.1
  refine dr_9 hi H.2.2.2.2.2.2.1 (by omega) (by rw [f_t_at h1 (by decide)]; exact t0) (lk_123c (by rw [f_t_at h1 (by decide)]; exact t2) (by omega) ⟨by unfold am_rg; omega, by unfold am_rg; omega⟩) (by omega) (by omega) ?_
  rintro w1 rfl
  have e8 : w.1 50 8 - 1 = ((q_wi q - 1 : Nat) : Int) := by omega
  rw [e8]
  have A := XR_wi (n := q_wi q - 1) H (by omega) (by omega)
  have B := XR_sl A (by show q_pg q + ((q_wi q - 1 : Nat) : Int) + 1 ≤ 2 * (q_el q : Nat); omega)
  obtain ⟨n1, n2, n3, n4, n5, n6, -⟩ := q_nl_s G (p_wi q (q_wi q - 1) (q_us q))
  have e41 : w_g w 20 41 = q_nx q 41 := H.2.2.1.2.2.2.1 41 (by decide)
  have C := XR_41 (y := w_g w 20 41 + 1) B (by rw [n3, e41]) (by rw [n3, n5, n6]; show q_nx q 41 + 1 + ((q_wi q - 1 : Nat) : Int) ≤ (q_el q : Nat); omega)
  have D := XR_po (f := (2, v, x)) (S := S) C (by show q_fr (q_nl G (p_wi q (q_wi q - 1) (q_us q))) = _; rw [n4]; exact hf)
  rw [q_nl_fr] at K
  exact K _ D
theorem xs_3 {v : T_} (H : XR G sil o K0 s q w) (hf : q_fr q = (3, v, x) :: S) (hl : S.length < 20000) (hw : 1 ≤ q_wi q) (hu : 1 ≤ (q_us q).length) (hi : 0 ≤ i ∧ i < 1000000) (hr : 20 ≤ fr) (K : ∀ w', XR G sil o K0 s (p_fr (p_wi q (q_wi q - 1) ((q_us q).take ((q_us q).length - 1))) S) w' → dr fr Q (i + 1) w') : dr fr Q i w := by
  obtain ⟨h1, ⟨t0, t2, t1, t1'⟩, hS⟩ := XR_top H hf
  obtain ⟨⟨a1, a2, a3, a4, a5, a6, a7, a8, a9, a10⟩, r2, r3, r4, r5, r6⟩ := H.2.2.1
  obtain ⟨b1, b2, b3, b4, b5⟩ := H.2.2.2.1
  obtain ⟨u1, u2⟩ := XR_us H
  have ho := XR_ho H
  have e1 : f_t w 1 = w.2 34 (13 * S.length + 1) := by rw [f_t_at h1 (by decide)]; rfl
  refine dr_10 hi H.2.2.2.2.2.2.1 (by omega) (by rw [f_t_at h1 (by decide)]; exact t0) (lk_124c (st := 2) e1 ⟨t1, t1'⟩ (by rw [f_t_at h1 (by decide)]; exact t2) (by decide) (by omega)) (by omega) (by omega) ?_
  rintro w1 rfl
  have L : wL o w (w_po (w_f (w_f (w_fs w 2 (2 + 1)) 17 6 (w.1 17 6 - 1)) 50 8 (w.1 50 8 - 1))) := wL_tr (wL_tr (wL_tr (wL_fs w 2 _) (wL_f (Or.inr (Or.inr (Or.inr ⟨rfl, rfl⟩))))) (wL_f (Or.inr (Or.inl rfl)))) (wL_po _)
  have el : ((q_us q).take ((q_us q).length - 1)).length = (q_us q).length - 1 := by rw [List.length_take]; omega
  have g2 : ∀ b, b ≠ 34 → (w_po (w_f (w_f (w_fs w 2 (2 + 1)) 17 6 (w.1 17 6 - 1)) 50 8 (w.1 50 8 - 1))).2 b = w.2 b := fun b hb => w_fs2 w 2 _ hb
  have g34 : ∀ k, k < 13 * S.length → (w_po (w_f (w_f (w_fs w 2 (2 + 1)) 17 6 (w.1 17 6 - 1)) 50 8 (w.1 50 8 - 1))).2 34 k = w.2 34 k := fun k hk => by
    show (w_fs w 2 (2 + 1)).2 34 k = _
    rw [fs_34 h1 (by decide), if_neg (by omega)]
  refine K _ (XR_W H L (fun j hj => ?_) ?_ ⟨g2 _ (by decide), g2 _ (by decide), g2 _ (by decide), ?_, g2 _ (by omega)⟩ (fun i n hn => ?_) ?_ (by omega) (by omega) (by omega) (FRm_X (hX_L ho L) S g34 hS) ?_)
  · rw [w_po1, if_neg (by omega), w_f1, w_u_at, if_neg (by omega), w_f1, w_u_at, if_neg (by omega)]
    rfl
  · show w.1 50 8 - 1 = ((q_wi q - 1 : Nat) : Int)
    omega
  · rw [w_po1, if_neg (by omega), w_f1, w_u_at, if_neg (by omega), w_f1, w_u_at, if_neg (by omega)]
    rfl
  · rw [g2 53 (by decide)]
    rw [List.getElem?_take] at hn
    split at hn
    · exact r3 i n hn
    · cases hn
  · rw [el]
    show w.1 17 6 - 1 = (((q_us q).length - 1 : Nat) : Int)
    omega
  · show (if 0 < w.1 33 1 - 1 then w.1 33 1 - 1 else 0) = (S.length : Int)
    rw [h1]
    split <;> omega
theorem xs_4 {k : Nat} {v : T_} (H : XR G sil o K0 s q w) (hf : q_fr q = (k, v, x) :: S) (hk : k = 4) (hl : S.length < 20000) (hw : 1 ≤ q_wi q) (hi : 0 ≤ i ∧ i < 1000000) (hr : 20 ≤ fr) (K : ∀ w', XR G sil o K0 s (p_fr (p_wi q (q_wi q - 1) (q_us q)) S) w' → dr fr Q (i + 1) w') : dr fr Q i w := by
  subst hk
  obtain ⟨h1, ⟨t0, t2, t1, t1'⟩, hS⟩ := XR_top H hf
  obtain ⟨⟨a1, a2, a3, a4, a5, a6, a7, a8, a9, a10⟩, r2, r3, r4, r5, r6⟩ := H.2.2.1
  obtain ⟨b1, b2, b3, b4, b5⟩ := H.2.2.2.1
  obtain ⟨u1, u2⟩ := XR_us H
  have ho := XR_ho H
  have e1 : f_t w 1 = w.2 34 (13 * S.length + 1) := by rw [f_t_at h1 (by decide)]; rfl
  refine dr_11 hi H.2.2.2.2.2.2.1 (by omega) (by rw [f_t_at h1 (by decide)]; exact t0) (lk_125c (st := 2) e1 ⟨t1, t1'⟩ (by rw [f_t_at h1 (by decide)]; exact t2) (by decide) (by omega)) (by omega) (by omega) ?_
  rintro w1 rfl
  have L : wL o w (w_po (w_f (w_fs w 2 (2 + 1)) 50 8 (w.1 50 8 - 1))) := wL_tr (wL_tr (wL_fs w 2 _) (wL_f (Or.inr (Or.inl rfl)))) (wL_po _)
  have g2 : ∀ b, b ≠ 34 → (w_po (w_f (w_fs w 2 (2 + 1)) 50 8 (w.1 50 8 - 1))).2 b = w.2 b := fun b hb => w_fs2 w 2 _ hb
  have g34 : ∀ k, k < 13 * S.length → (w_po (w_f (w_fs w 2 (2 + 1)) 50 8 (w.1 50 8 - 1))).2 34 k = w.2 34 k := fun k hk => by
    show (w_fs w 2 (2 + 1)).2 34 k = _
    rw [fs_34 h1 (by decide), if_neg (by omega)]
  refine K _ (XR_W H L (fun j hj => ?_) ?_ ⟨g2 _ (by decide), g2 _ (by decide), g2 _ (by decide), ?_, g2 _ (by omega)⟩ (fun i n hn => ?_) ?_ u2 (by omega) (by omega) (FRm_X (hX_L ho L) S g34 hS) ?_)
  · rw [w_po1, if_neg (by omega), w_f1, w_u_at, if_neg (by omega)]
    rfl
  · show w.1 50 8 - 1 = ((q_wi q - 1 : Nat) : Int)
    omega
  · rw [w_po1, if_neg (by omega), w_f1, w_u_at, if_neg (by omega)]
    rfl
  · rw [g2 53 (by decide)]
    exact r3 i n hn
  · exact u1
  · show (if 0 < w.1 33 1 - 1 then w.1 33 1 - 1 else 0) = (S.length : Int)
    rw [h1]
    split <;> omega
end
