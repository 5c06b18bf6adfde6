/-! ===== the class realizes as the evaluator: elements, which rule is used ===== -/
theorem fnd_last {p : T_ → Bool} : ∀ (l : List T_) (r : T_), l.reverse.find? p = some r → ∃ i : Nat, l[i]? = some r ∧ p r = true ∧ ∀ (j : Nat) y, i < j → l[j]? = some y → p y = false := by
  intro l
  induction l with
  | nil => intro r h; cases h
  | cons a l ih =>
    intro r h
    rw [List.reverse_cons, List.find?_append] at h
    cases c : l.reverse.find? p with
    | some r' =>
      rw [c] at h
      have h : some r' = some r := h
      injection h with h
      subst h
      obtain ⟨i, h1, h2, h3⟩ := ih r' c
      refine ⟨i + 1, h1, h2, fun j y hj hy => ?_⟩
      cases j with
      | zero => omega
      | succ j => exact h3 j y (by omega) hy
    | none =>
      rw [c] at h
      have h : [a].find? p = some r := h
      have hp := List.find?_some h
      have ha : r = a := by
        have := List.mem_of_find?_eq_some h
        rw [List.mem_singleton] at this
        exact this
      subst ha
      refine ⟨0, rfl, hp, fun j y hj hy => ?_⟩
      cases j with
      | zero => omega
      | succ j =>
        have hm : y ∈ l := List.mem_of_getElem? (i := j) hy
        have q := List.find?_eq_none.1 c y (List.mem_reverse.2 hm)
        cases z : p y with
        | true => exact absurd z q
        | false => rfl
section
variable {G : G_} {sil : Bool} {o : Nat} {K0 : Int} {s s1 : S_} {q q1 : Q_} {w w' : W_} {fr : Nat} {Q : Option am_V → W_ → Prop} {i : Int} {S : List F_} {x : Int × Int × Nat}
theorem ru_iff (H : XR G sil o K0 s q w) {j n : Nat} {e f : T_} (hj : (q_rl q)[j]? = some (.tag 11 (.tag n (.append e f)))) (X : Int) : h_ru w X j ↔ q_ruleIs X (q_us q) (.tag 11 (.tag n (.append e f))) = true := by
  obtain ⟨c1, c2, c3, c4, -⟩ := H.2.2.1.2.1 j _ hj
  have r3 := H.2.2.1.2.2.1
  obtain ⟨u1, u2⟩ := XR_us H
  have e51 : w_g w 51 (j : Int) = w.2 51 j := by
    show wg (w.2 51) _ = _
    unfold wg
    rw [if_neg (by omega), Int.toNat_natCast]
  unfold h_ru
  rw [e51, pH_w, pH_w, c2, c4]
  show _ ↔ ((n : Int) == X && !(q_us q).elem (e_id e)) = true
  rw [Bool.and_eq_true, beq_iff_eq, Bool.not_eq_true']
  have key : (∃ k : Int, 0 ≤ k ∧ k < w.1 17 6 ∧ w_g w 53 k = (e_id e : Int)) ↔ (q_us q).elem (e_id e) = true := by
    rw [List.elem_iff]
    constructor
    · rintro ⟨k, k0, k1, k2⟩
      have hk : k.toNat < (q_us q).length := by omega
      have hg := r3 k.toNat _ (List.getElem?_eq_getElem hk)
      have e53 : w_g w 53 k = w.2 53 k.toNat := by
        show wg (w.2 53) _ = _
        unfold wg
        rw [if_neg (by omega)]
      have : e_id e = (q_us q)[k.toNat] := by omega
      rw [this]
      exact List.getElem_mem hk
    · intro h
      obtain ⟨k, hk⟩ := List.mem_iff_getElem?.1 h
      have hg := r3 k _ hk
      have hlt : k < (q_us q).length := (List.getElem?_eq_some_iff.1 hk).1
      refine ⟨(k : Int), by omega, by omega, ?_⟩
      show wg (w.2 53) _ = _
      unfold wg
      rw [if_neg (by omega), Int.toNat_natCast]
      exact hg.1
  rw [key]
  cases (q_us q).elem (e_id e) with
  | true => exact ⟨fun h => absurd rfl h.2, fun h => Bool.noConfusion h.2⟩
  | false => exact ⟨fun h => ⟨h.1, rfl⟩, fun h => ⟨h.1, Bool.false_ne_true⟩⟩
abbrev rls (q : Q_) : Prop := ∀ r, r ∈ q_rl q → ∃ n e f, r = .tag 11 (.tag n (.append e f))
theorem ru_R (H : XR G sil o K0 s q w) (hG : rls q) : (∀ k : Int, 0 ≤ k → k < w.1 17 6 → am_rg (w_g w 53 k)) ∧ ∀ i : Int, 0 ≤ i → i < w.1 50 7 → (-100000 ≤ w_g w 51 i ∧ w_g w 51 i < 10000000) ∧ am_rg (w_h w (w_g w 51 i) 3) ∧ am_rg (w_h w (w_g w 51 i) 4) := by
  obtain ⟨u1, u2⟩ := XR_us H
  have hh := XR_h H
  refine ⟨fun k k0 k1 => ?_, fun i i0 i1 => ?_⟩
  · have hk : k.toNat < (q_us q).length := by omega
    have hg := H.2.2.1.2.2.1 k.toNat _ (List.getElem?_eq_getElem hk)
    have e53 : w_g w 53 k = w.2 53 k.toNat := by
      show wg (w.2 53) _ = _
      unfold wg
      rw [if_neg (by omega)]
    rw [e53]
    unfold am_rg
    omega
  · have a1 := H.2.2.1.1.1
    have hi : i.toNat < (q_rl q).length := by omega
    have hg := List.getElem?_eq_getElem hi
    obtain ⟨n, e, f, hr⟩ := hG _ (List.getElem_mem hi)
    rw [hr] at hg
    obtain ⟨⟨⟨n1, n2⟩, n3, n4, n5, -⟩, -⟩ := H.2.2.1.2.1 i.toNat _ hg
    have e51 : w_g w 51 i = w.2 51 i.toNat := by
      show wg (w.2 51) _ = _
      unfold wg
      rw [if_neg (by omega)]
    rw [e51]
    exact ⟨⟨by omega, by omega⟩, n4, n5⟩
theorem fr_no {el : T_} {x0 x1 : Int} (H : XR G sil o K0 s q w) (hG : rls q) (hl : (q_rl q).length < 30000) (h0 : am_rg x0) (h1 : -1000000 ≤ x1 ∧ x1 < 1000000) (hx : v_shn x0 x1 = q_shown el) (h : q_rule el q = none) : ww_Ct 118 2 [.inr (.inr (.inl 50)), .inl x0, .inl x1] w fun r w' => r = some (.inl (-1)) ∧ w' = w := by
  obtain ⟨u1, u2⟩ := XR_us H
  have a1 := H.2.2.1.1.1
  obtain ⟨R1, R2⟩ := ru_R H hG
  refine lk_118n h0 h1 (by omega) (by omega) R1 R2 fun j j0 j1 hm => ?_
  have hi : j.toNat < (q_rl q).length := by omega
  have hg := List.getElem?_eq_getElem hi
  have hme := List.getElem_mem hi
  obtain ⟨n, e, f, hr⟩ := hG _ hme
  rw [hr] at hg hme
  have ej : ((j.toNat : Nat) : Int) = j := by omega
  rw [hx, ← ej, ru_iff H hg] at hm
  exact List.find?_eq_none.1 h _ (List.mem_reverse.2 hme) hm
theorem fr_yes {el r : T_} {x0 x1 : Int} (H : XR G sil o K0 s q w) (hG : rls q) (hl : (q_rl q).length < 30000) (h0 : am_rg x0) (h1 : -1000000 ≤ x1 ∧ x1 < 1000000) (hx : v_shn x0 x1 = q_shown el) (h : q_rule el q = some r) : ∃ u : Int, cV w r u ∧ ww_Ct 118 2 [.inr (.inr (.inl 50)), .inl x0, .inl x1] w fun r w' => r = some (.inl u) ∧ w' = w := by
  obtain ⟨u1, u2⟩ := XR_us H
  have a1 := H.2.2.1.1.1
  obtain ⟨R1, R2⟩ := ru_R H hG
  obtain ⟨j, hj, hp, hlast⟩ := fnd_last _ _ h
  have hlt : j < (q_rl q).length := (List.getElem?_eq_some_iff.1 hj).1
  have e51 : w_g w 51 (j : Int) = w.2 51 j := by
    show wg (w.2 51) _ = _
    unfold wg
    rw [if_neg (by omega), Int.toNat_natCast]
  refine ⟨w.2 51 j, H.2.2.1.2.1 j _ hj, ?_⟩
  rw [← e51]
  refine lk_118r h0 h1 (by omega) (by omega) R1 R2 (by omega) ?_ fun k k0 k1 hm => ?_
  · obtain ⟨n, e, f, hr⟩ := hG r (List.mem_of_getElem? hj)
    subst hr
    rw [hx, ru_iff H hj]
    exact hp
  · have hi : k.toNat < (q_rl q).length := by omega
    have hg := List.getElem?_eq_getElem hi
    obtain ⟨n, e, f, hr⟩ := hG _ (List.getElem_mem hi)
    rw [hr] at hg
    have ej : ((k.toNat : Nat) : Int) = k := by omega
    rw [hx, ← ej, ru_iff H hg] at hm
    have := hlast k.toNat _ (by omega) hg
    rw [this] at hm
    cases hm
/-- a piece that is a node and an element -/
theorem xs_g {k : Nat} {y : T_} {P : W_ → Prop} (H : XR G sil o K0 s q w) (hf : q_fr q = (0, .tag k y, x) :: S) (hk : 1 ≤ k ∧ k ≤ 7) (hl : S.length < 20000) (hi : 0 ≤ i ∧ i < 1000000) (hr : 20 ≤ fr) (hc : ∀ z : Int, cV (w_po w) (.tag k y) z → (30000 ≤ z ∧ z < 10000000) → ww_Ct 115 8 [.inr (.inr (.inl 50)), .inl z, .inl (k : Int)] (w_po w) fun r w' => r = none ∧ P w') (K : ∀ w', P w' → dr fr Q (i + 1) w') : dr fr Q i w := by
  obtain ⟨c1, c2, c3, c4⟩ := xs_7 H hf hl
  obtain ⟨⟨n1, n2⟩, n3, n4, n5, -⟩ := cV_N c4 hk
  have hh := XR_h H
  have hok : h_ok w (w.2 34 (13 * S.length + 1)) := ⟨⟨by omega, by omega⟩, by rw [pH_w, n3]; unfold am_rg; omega, n4, n5⟩
  exact dr_7 hi H.2.2.2.2.2.2.1 ⟨c1.1, by omega⟩ c2 (lk_113g c3 ⟨n1, by omega⟩ n3 ⟨by omega, by omega⟩ hok c1 (hc _ (cV_X (hX_L (XR_ho H) (wL_po w)) c4) ⟨n1, by omega⟩)) (by omega) (by omega) K
theorem xs_n {m : Int} {P : W_ → Prop} (H : XR G sil o K0 s q w) (hf : q_fr q = (0, .nest m .nil, x) :: S) (hl : S.length < 20000) (hi : 0 ≤ i ∧ i < 1000000) (hr : 20 ≤ fr) (hc : (-9999 ≤ m ∧ m ≤ 9999) → ww_Ct 115 8 [.inr (.inr (.inl 50)), .inl m, .inl 1] (w_po w) fun r w' => r = none ∧ P w') (K : ∀ w', P w' → dr fr Q (i + 1) w') : dr fr Q i w := by
  obtain ⟨c1, c2, c3, c4, c5⟩ := xs_7 H hf hl
  exact dr_7 hi H.2.2.2.2.2.2.1 ⟨c1.1, by omega⟩ c2 (lk_113n (c3.trans c4) c5 c1 (hc c5)) (by omega) (by omega) K
theorem el_2 {z : Int} (H : XR G sil o K0 s q w) (hel : q_el q < 200) (hz : 30000 ≤ z ∧ z < 10000000) : ww_Ct 115 8 [.inr (.inr (.inl 50)), .inl z, .inl 2] w fun r w' => r = none ∧ XR G sil o K0 s (q_nl G (p_el q (q_el q + 1))) w' := by
  obtain ⟨a1, a2, a3, a4, a5, a6, a7, a8, a9, a10⟩ := H.2.2.1.1
  obtain ⟨b1, b2, b3, b4, b5⟩ := H.2.2.2.1
  refine (lk_115b (by omega) (by omega) ⟨by unfold am_rg; omega, by unfold am_rg; omega⟩).mono ?_
  rintro r w' ⟨h1, rfl⟩
  refine ⟨h1, XR_sl (XR_el H (by omega)) ?_⟩
  show q_pg q + (q_wi q : Nat) + 1 ≤ 2 * ((q_el q + 1 : Nat) : Int)
  omega
theorem el_3 {z l : Int} {t : T_} (H : XR G sil o K0 s q w) (hel : q_el q < 200) (hz : 30000 ≤ z ∧ z < 10000000) (hv : cV w (.tag 3 (.nest l t)) z) : ww_Ct 115 8 [.inr (.inr (.inl 50)), .inl z, .inl 3] w fun r w' => r = none ∧ XR G sil o K0 s (q_label l.toNat (p_el q (q_el q + 1))) w' := by
  obtain ⟨-, c1, c2, c3⟩ := hv
  have a8 := H.2.2.1.1.2.2.2.2.2.2.2.1
  have X := XR_el H (by omega)
  rw [a8] at X
  have el : ((l.toNat : Nat) : Int) = l := by omega
  have R := xs_label (l := l.toNat) X (by omega)
  rw [el] at R
  exact lk_115o (c := l) (m := (q_el q : Nat)) a8 (by omega) (by omega) c1 (lk_115l R fun w' h => ⟨rfl, h⟩)
theorem b9_rg (y : Int) : -9999 ≤ b9 y ∧ b9 y ≤ 9999 := by
  unfold b9
  split
  · omega
  · split <;> omega
theorem el_6 {z m : Int} {c : Nat} {t : T_} (H : XR G sil o K0 s q w) (hel : q_el q < 200) (hz : 30000 ≤ z ∧ z < 10000000) (hv : cV w (.tag 6 (.tag c (.nest m t))) z) : ww_Ct 115 8 [.inr (.inr (.inl 50)), .inl z, .inl 6] w fun r w' => r = none ∧ XR G sil o K0 s (p_ct (p_el q (q_el q + 1)) (g_up (q_ct q) c (b9 (q_ct q c + m)))) w' := by
  obtain ⟨-, c1, c2, c3, c4⟩ := hv
  have a8 := H.2.2.1.1.2.2.2.2.2.2.2.1
  have n := XR_18 H (42 + c) (by omega)
  have e18 : w_g w 18 (42 + (c : Int)) = w.2 18 (42 + c) := by
    show wg (w.2 18) _ = _
    unfold wg
    rw [if_neg (by omega)]
    exact congrArg (w.2 18) (by omega)
  have ec : w.2 18 (42 + c) = q_ct q c := by
    rw [n.1, if_neg (by omega)]
    exact congrArg (q_ct q) (by omega)
  refine (lk_115s (c := (c : Int)) (y := m) (by omega) (by omega) c1 (by omega) c3 c4 (by rw [e18]; exact n.2)).mono ?_
  rintro r w' ⟨h1, rfl⟩
  refine ⟨h1, ?_⟩
  have e : (42 + (c : Int)).toNat = 42 + c := by omega
  rw [e, e18, ec]
  exact XR_ct (XR_el H (by omega)) c2 (b9_rg _)
/-- the 201st -/
theorem el_201 {z k : Int} (H : XR G sil o K0 s q w) (hel : q_el q = 200) (hn : s_nt s < 1000000) : ww_Ct 115 8 [.inr (.inr (.inl 50)), .inl z, .inl k] w fun r w' => r = none ∧ XR G sil o K0 (f_note (g_C G (p_el q (q_el q + 1))) 600000 s) (p_fr (p_el q (q_el q + 1)) []) w' := by
  have a8 := H.2.2.1.1.2.2.2.2.2.2.2.1
  have ho := XR_ho H
  have X := XR_el H (by omega)
  rw [a8] at X
  have Y := XR_nt X hn (100000 * 6 + 0)
  refine lk_115z (m := (q_el q : Nat)) a8 (by omega) (CR_o H.1).2 ⟨rfl, ?_⟩
  have e : ∀ a k, a ≠ 33 → (w_f (w_nt (w_f w 50 14 (((q_el q : Nat) : Int) + 1)) (100000 * 6 + 0)) 33 1 0).1 a k = (w_nt (w_f w 50 14 (((q_el q : Nat) : Int) + 1)) (100000 * 6 + 0)).1 a k := fun a k h => by rw [w_f1, w_u_at, if_neg (fun z => h z.1)]
  exact XR_S Y (wL_f (Or.inl rfl)) [] (fun j => e _ _ (by decide)) ⟨rfl, rfl, rfl, rfl, e _ _ (by omega), rfl, e _ _ (by decide)⟩ trivial rfl
end
