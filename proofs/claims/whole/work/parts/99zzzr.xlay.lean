/-! ===== the class realizes as the evaluator: what is laid ===== -/
section
variable {G : G_} {sil : Bool} {o : Nat} {K0 : Int} {s : S_} {q q1 : Q_} {w w' : W_}
/-- a number of the setter changes -/
theorem XR_f50 {j : Nat} {y : Int} (H : XR G sil o K0 s q w) (hQ : Q50 G q1 (w_f w 50 j y)) (hrl : ∀ (i : Nat) r, (q_rl q1)[i]? = some r → (q_rl q)[i]? = some r) (hus : q_us q1 = q_us q) (hct : q_ct q1 = q_ct q) (hnx : q_nx q1 = q_nx q) (hth : q_th q1 = q_th q) (hfr : q_fr q1 = q_fr q) (hB : QB G q1) : XR G sil o K0 s q1 (w_f w 50 j y) := by
  have ho := XR_ho H
  have L : wL o w (w_f w 50 j y) := wL_f (Or.inr (Or.inl rfl))
  have X := hX_L ho L
  have e : ∀ a k, a ≠ 50 → (w_f w 50 j y).1 a k = w.1 a k := fun a k ha => by rw [w_f1, w_u_at, if_neg (fun z => ha z.1)]
  obtain ⟨-, r2, r3, r4, r5, r6⟩ := H.2.2.1
  refine XR_L H L ?_ ?_ ⟨hQ, fun i r hr => cV_X X (r2 i r (hrl i r hr)), ?_, ?_, ?_, ?_⟩ hB ?_ ?_
  · rw [e 17 6 (by decide), hus]; exact XR_us (q := q) (w := w) H
  · rw [hct]; exact XR_18 (q := q) (w := w) H
  · rw [hus]; exact r3
  · rw [hnx]; exact r4
  · rw [hth, e o 4 (by omega)]; exact r5
  · rw [hth]; exact r6
  · rw [hfr]; exact FRm_X X (q_fr q) (fun _ _ => rfl) H.2.2.2.2.1
  · rw [hfr, e 33 1 (by decide)]; exact H.2.2.2.2.2.1
theorem XR_sz {m : Int} (H : XR G sil o K0 s q w) (hm : 1 ≤ m ∧ m ≤ 3) : XR G sil o K0 s (p_mk q m (q_in q) (q_rl q)) (w_f w 50 9 m) := by
  obtain ⟨a1, a2, a3, a4, a5, a6, a7, a8, a9, a10⟩ := H.2.2.1.1
  obtain ⟨b1, b2, b3⟩ := H.2.2.2.1
  exact XR_f50 H ⟨a1, a2, rfl, a4, a5, a6, a7, a8, a9, a10⟩ (fun _ _ h => h) rfl rfl rfl rfl rfl ⟨b1, ⟨hm.1, hm.2, b2.2.2⟩, b3⟩
theorem XR_in {m : Int} (H : XR G sil o K0 s q w) (hm : 0 ≤ m ∧ m ≤ 3) : XR G sil o K0 s (p_mk q (q_sz q) m (q_rl q)) (w_f w 50 10 m) := by
  obtain ⟨a1, a2, a3, a4, a5, a6, a7, a8, a9, a10⟩ := H.2.2.1.1
  obtain ⟨b1, b2, b3⟩ := H.2.2.2.1
  exact XR_f50 H ⟨a1, a2, a3, rfl, a5, a6, a7, a8, a9, a10⟩ (fun _ _ h => h) rfl rfl rfl rfl rfl ⟨b1, ⟨b2.1, b2.2.1, hm.1, hm.2⟩, b3⟩
theorem XR_tk {n : Nat} (H : XR G sil o K0 s q w) (hn : n ≤ (q_rl q).length) : XR G sil o K0 s (p_mk q (q_sz q) (q_in q) ((q_rl q).take n)) (w_f w 50 7 (n : Int)) := by
  obtain ⟨a1, a2, a3, a4, a5, a6, a7, a8, a9, a10⟩ := H.2.2.1.1
  have hB : QB G q := H.2.2.2.1
  have e : ((q_rl q).take n).length = n := by rw [List.length_take]; omega
  refine XR_f50 (q1 := p_mk q (q_sz q) (q_in q) ((q_rl q).take n)) H ⟨?_, a2, a3, a4, a5, a6, a7, a8, a9, a10⟩ (fun i r h => ?_) rfl rfl rfl rfl rfl hB
  · show (n : Int) = (((q_rl q).take n).length : Nat)
    rw [e]
  · have h : ((q_rl q).take n)[i]? = some r := h
    rw [List.getElem?_take] at h
    split at h
    · exact h
    · cases h
theorem XR_wi {n : Nat} (H : XR G sil o K0 s q w) (h1 : q_pg q + (n : Nat) ≤ 2 * (q_el q : Nat)) (h2 : q_nx q 41 + (n : Nat) ≤ (q_el q : Nat)) : XR G sil o K0 s (p_wi q n (q_us q)) (w_f w 50 8 (n : Int)) := by
  obtain ⟨a1, a2, a3, a4, a5, a6, a7, a8, a9, a10⟩ := H.2.2.1.1
  obtain ⟨b1, b2, b3, b4, b5⟩ := H.2.2.2.1
  exact XR_f50 (q1 := p_wi q n (q_us q)) H ⟨a1, rfl, a3, a4, a5, a6, a7, a8, a9, a10⟩ (fun _ _ h => h) rfl rfl rfl rfl rfl ⟨b1, b2, ⟨b3.1, h1, b3.2.2⟩, ⟨b4.1, b4.2.1, h2⟩, b5⟩
theorem XR_el (H : XR G sil o K0 s q w) (h : q_el q < 201) : XR G sil o K0 s (p_el q (q_el q + 1)) (w_f w 50 14 (w.1 50 14 + 1)) := by
  obtain ⟨a1, a2, a3, a4, a5, a6, a7, a8, a9, a10⟩ := H.2.2.1.1
  obtain ⟨b1, b2, ⟨b3, b4, b5⟩, ⟨b6, b7, b8⟩, b9, b10⟩ := H.2.2.2.1
  refine XR_f50 (q1 := p_el q (q_el q + 1)) H ⟨a1, a2, a3, a4, a5, a6, a7, ?_, a9, a10⟩ (fun _ _ h => h) rfl rfl rfl rfl rfl ⟨b1, b2, ⟨b3, ?_, b5⟩, ⟨b6, b7, ?_⟩, ?_, ?_⟩
  · show w.1 50 14 + 1 = ((q_el q + 1 : Nat) : Int)
    rw [a8]; rfl
  · show q_pg q + (q_wi q : Nat) ≤ 2 * ((q_el q + 1 : Nat) : Int)
    omega
  · show q_nx q 41 + (q_wi q : Nat) ≤ ((q_el q + 1 : Nat) : Int)
    omega
  · show (q_th q).length ≤ q_el q + 1
    omega
  · show q_el q + 1 ≤ 201
    omega
/-- a rule begins to hold -/
theorem XR_rl {r : T_} {v : Int} (H : XR G sil o K0 s q w) (hr : cV w r v) : XR G sil o K0 s (p_mk q (q_sz q) (q_in q) (q_rl q ++ [r])) (w_f (w_a w 51 (w.1 50 7).toNat v) 50 7 (w.1 50 7 + 1)) := by
  obtain ⟨⟨a1, a2, a3, a4, a5, a6, a7, a8, a9, a10⟩, r2, r3, r4, r5, r6⟩ := H.2.2.1
  have hB : QB G q := H.2.2.2.1
  have ho := XR_ho H
  have L : wL o w (w_f (w_a w 51 (w.1 50 7).toNat v) 50 7 (w.1 50 7 + 1)) := wL_tr (wL_a (Or.inr (Or.inl rfl))) (wL_f (Or.inr (Or.inl rfl)))
  have X := hX_L ho L
  have e : ∀ a k, a ≠ 50 → (w_f (w_a w 51 (w.1 50 7).toNat v) 50 7 (w.1 50 7 + 1)).1 a k = w.1 a k := fun a k ha => by
    rw [w_f1, w_u_at, if_neg (fun z => ha z.1)]
    rfl
  have e2 : ∀ b, b ≠ 51 → (w_f (w_a w 51 (w.1 50 7).toNat v) 50 7 (w.1 50 7 + 1)).2 b = w.2 b := fun b hb => w_a_2ne w _ _ hb
  refine XR_L (q1 := p_mk q (q_sz q) (q_in q) (q_rl q ++ [r])) H L ?_ ?_ ⟨⟨?_, a2, a3, a4, a5, a6, a7, a8, a9, a10⟩, fun i r' h => ?_, ?_, ?_, ?_, ?_⟩ hB ?_ ?_
  · rw [e 17 6 (by decide)]; exact XR_us (q := q) (w := w) H
  · rw [e2 18 (by decide)]; exact XR_18 (q := q) (w := w) H
  · show w.1 50 7 + 1 = ((q_rl q ++ [r]).length : Nat)
    rw [List.length_append, a1]
    rfl
  · have h : (q_rl q ++ [r])[i]? = some r' := h
    refine cV_X X ?_
    show cV w r' (w_u w.2 51 (w.1 50 7).toNat v 51 i)
    rw [w_u_at]
    by_cases c : i = (w.1 50 7).toNat
    · have c' : i = (q_rl q).length := by omega
      rw [if_pos ⟨rfl, c⟩]
      rw [c', List.getElem?_append_right (Nat.le_refl _), Nat.sub_self] at h
      have h : some r = some r' := h
      injection h with h
      rw [← h]
      exact hr
    · rw [if_neg (fun z => c z.2)]
      refine r2 i r' ?_
      by_cases d : i < (q_rl q).length
      · rw [List.getElem?_append_left d] at h; exact h
      · rw [List.getElem?_eq_none] at h
        · cases h
        · rw [List.length_append]
          show (q_rl q).length + 1 ≤ i
          omega
  · rw [e2 53 (by decide)]; exact r3
  · rw [e2 20 (by decide)]; exact r4
  · rw [e o 4 (by omega)]; exact r5
  · rw [e2 (o + 1) (by omega)]; exact r6
  · exact FRm_X X (q_fr q) (fun k _ => by rw [e2 34 (by decide)]) H.2.2.2.2.1
  · rw [e 33 1 (by decide)]; exact H.2.2.2.2.2.1
/-- answers to come -/
theorem XR_nx {f : Nat → Int} {w' : W_} (H : XR G sil o K0 s q w) (e1 : w'.1 = w.1) (e2 : ∀ b, b ≠ 20 → w'.2 b = w.2 b) (e3 : ∀ k, k < 42 → w'.2 20 k = f k) (hb : ∀ k, k < 42 → -9999 ≤ f k ∧ f k ≤ 9999) (h0 : 0 ≤ f 41) (h1 : f 41 + (q_wi q : Nat) ≤ (q_el q : Nat)) : XR G sil o K0 s (p_nx q f) w' := by
  obtain ⟨a, r2, r3, r4, r5, r6⟩ := H.2.2.1
  obtain ⟨b1, b2, b3, b4, b5⟩ := H.2.2.2.1
  have ho := XR_ho H
  have L : wL o w w' := ⟨fun a j _ _ _ _ => by rw [e1], fun b _ _ _ h4 _ _ => e2 b h4⟩
  have X := hX_L ho L
  refine XR_L (q1 := p_nx q f) H L ?_ ?_ ⟨?_, fun i r h => ?_, ?_, e3, ?_, ?_⟩ ⟨b1, b2, b3, ⟨hb, h0, h1⟩, b5⟩ ?_ ?_
  · rw [e1]; exact XR_us (q := q) (w := w) H
  · rw [e2 18 (by decide)]; exact XR_18 (q := q) (w := w) H
  · unfold Q50 at a ⊢; rw [e1]; exact a
  · rw [e2 51 (by decide)]; exact cV_X X (r2 i r h)
  · rw [e2 53 (by decide)]; exact r3
  · rw [e1]; exact r5
  · rw [e2 (o + 1) (by omega)]; exact r6
  · exact FRm_X X (q_fr q) (fun k _ => by rw [e2 34 (by decide)]) H.2.2.2.2.1
  · rw [e1]; exact H.2.2.2.2.2.1
/-- a new line -/
theorem XR_sl (H : XR G sil o K0 s q w) (h : q_pg q + (q_wi q : Nat) + 1 ≤ 2 * (q_el q : Nat)) : XR G sil o K0 s (q_nl G q) (w_sl w) := by
  obtain ⟨a1, a2, a3, a4, a5, a6, a7, a8, a9, a10⟩ := H.2.2.1.1
  obtain ⟨b1, b2, ⟨b3, b4, b5, b6, b7, b8⟩, b9⟩ := H.2.2.2.1
  have ho := XR_ho H
  have hc := H.2.2.2.2.2.1
  have e : ∀ a k, a ≠ 50 → (w_sl w).1 a k = w.1 a k := fun a k ha => by
    have t : ∀ (j : Nat) (y : Int) (V : W_), (w_f V 50 j y).1 a k = V.1 a k := fun j y V => by rw [w_f1, w_u_at, if_neg (fun z => ha z.1)]
    unfold w_sl
    split
    · rw [t, t, t, t]
    · rw [t, t]
  have e2 : (w_sl w).2 = w.2 := by unfold w_sl; split <;> rfl
  have L : wL o w (w_sl w) := ⟨fun a j _ h2 _ _ => e a j h2, fun b _ _ _ _ _ _ => by rw [e2]⟩
  have X := hX_L ho L
  have s1 : q_rl (q_nl G q) = q_rl q ∧ q_us (q_nl G q) = q_us q ∧ q_ct (q_nl G q) = q_ct q ∧ q_nx (q_nl G q) = q_nx q ∧ q_th (q_nl G q) = q_th q ∧ q_fr (q_nl G q) = q_fr q := by
    unfold q_nl
    split <;> exact ⟨rfl, rfl, rfl, rfl, rfl, rfl⟩
  obtain ⟨s1, s2, s3, s4, s5, s6⟩ := s1
  have hQ : Q50 G (q_nl G q) (w_sl w) := by
    unfold q_nl w_sl
    by_cases c : q_ln q + 1 = G.2.2.2.2
    · rw [if_pos c, if_pos (by omega)]
      exact ⟨a1, a2, a3, a4, by show w.1 50 11 + 1 = q_pg q + 1; omega, rfl, a4, a8, a9, a10⟩
    · rw [if_neg c, if_neg (by omega)]
      exact ⟨a1, a2, a3, a4, a5, by show w.1 50 12 + 1 = q_ln q + 1; omega, a4, a8, a9, a10⟩
  have hB : QB G (q_nl G q) := by
    unfold q_nl
    split
    · exact ⟨b1, b2, ⟨by show 0 ≤ q_pg q + 1; omega, by show q_pg q + 1 + (q_wi q : Nat) ≤ 2 * (q_el q : Nat); omega, Int.le_refl _, by show 0 < G.2.2.2.2; omega, b2.2.2.1, by show q_in q ≤ 10002; omega⟩, b9⟩
    · exact ⟨b1, b2, ⟨b3, b4, by show 0 ≤ q_ln q + 1; omega, by show q_ln q + 1 < G.2.2.2.2; omega, b2.2.2.1, by show q_in q ≤ 10002; omega⟩, b9⟩
  obtain ⟨-, r2, r3, r4, r5, r6⟩ := H.2.2.1
  refine XR_L (q1 := q_nl G q) H L ?_ ?_ ⟨hQ, fun i r hr => ?_, ?_, ?_, ?_, ?_⟩ hB ?_ ?_
  · rw [e 17 6 (by decide), s2]; exact XR_us (q := q) (w := w) H
  · rw [e2, s3]; exact XR_18 (q := q) (w := w) H
  · rw [s1] at hr; rw [e2]; exact cV_X X (r2 i r hr)
  · rw [s2, e2]; exact r3
  · rw [s4, e2]; exact r4
  · rw [s5, e o 4 (by omega)]; exact r5
  · rw [s5, e2]; exact r6
  · rw [s6]; exact FRm_X X (q_fr q) (fun k _ => by rw [e2]) H.2.2.2.2.1
  · rw [s6, e 33 1 (by decide)]; exact hc
end
