/-! ===== the class runs as the evaluator: marks ===== -/
section
variable {C : C_} {sil : Bool} {o a0 : Nat} {D : Prop} {K0 : Int} {hb : Bool} {s s1 : S_} {E E1 : N_} {w : W_} {fr : Nat} {Q : Option am_V → W_ → Prop} {i : Int} {k : Nat} {n : Int} {id : Nat} {a b c v : T_}
theorem CR_tl {x : T_} (H : CR C sil o a0 D K0 s w) : CR C sil o a0 D K0 (u_tl s x) w := by
  obtain ⟨Ha, Hb, Hc, Hm⟩ := H
  refine ⟨?_, ?_, ?_, ?_⟩
  · unfold CRa at Ha ⊢
    exact Ha
  · unfold CRb at Hb ⊢
    exact Hb
  · unfold CRc at Hc ⊢
    exact Hc
  · unfold CRm at Hm ⊢
    exact Hm
theorem nW_S {w w' : W_} (h : nW w E) (hS : wS w w') (ho : oK w) (h0 : 0 ≤ w.1 13 2) (e42 : w'.2 42 = w.2 42) (e12 : w'.1 41 12 = w.1 41 12) : nW w' E := fun m hm => by
  have h1 := h m hm
  rw [e42, e12]
  cases q : E m with
  | none => rw [q] at h1; exact h1
  | some v => rw [q] at h1; exact vW_x (xP_S hS ho) h0 h1
theorem wg_34 {j : Nat} {f : Int} {y : Int} (ht : 0 ≤ w.1 41 13) (hf : 0 ≤ f ∧ f < 13) (g : Int) (hg : 0 ≤ g ∧ g < 13) (hj : (j : Int) = w.1 41 13 * 13 + f) : wg ((w_a w 34 j y).2 34) (w.1 41 13 * 13 + g) = if g = f then y else wg (w.2 34) (w.1 41 13 * 13 + g) := by
  have hn : ¬ w.1 41 13 * 13 + g < 0 := by omega
  unfold wg
  rw [if_neg hn, if_neg hn]
  show w_u w.2 34 j y 34 _ = _
  rw [w_u_at]
  by_cases c : g = f
  · rw [if_pos (by omega), if_pos c]
  · rw [if_neg (by omega), if_neg c]
/-- marks and perhaps a SIZE to come are told -/
theorem RD_tl {W : W_} {y z : Int} {tl : T_} {p : Bool} (H : RD C sil o a0 D K0 true s E W) (hy : cR (W.1 13 2) (W.2 13) (fW W) tl y) (hz : p = true → 1 ≤ z ∧ z ≤ 3)
    (hsz : ∀ k : Nat, 1 ≤ k → k ≤ 3 → ((v_wq tl (if wg (W.2 34) (W.1 41 13 * 13 + 7) = 0 then k else (wg (W.2 34) (W.1 41 13 * 13 + 7)).toNat)).2 : Int) = if p = true then z else if wg (W.2 34) (W.1 41 13 * 13 + 8) = 0 then (k : Int) else wg (W.2 34) (W.1 41 13 * 13 + 8)) :
    RD C sil o a0 D K0 true (u_tl s tl) E (if p = true then w_a (w_a W 34 (W.1 41 13 * 13 + 5).toNat y) 34 (W.1 41 13 * 13 + 8).toNat z else w_a W 34 (W.1 41 13 * 13 + 5).toNat y) ∧ fQ (W.1 33 1) true W (if p = true then w_a (w_a W 34 (W.1 41 13 * 13 + 5).toNat y) 34 (W.1 41 13 * 13 + 8).toNat z else w_a W 34 (W.1 41 13 * 13 + 5).toNat y) := by
  obtain ⟨h1, h2, h3, h4, h5, h6, h7, h8⟩ := H
  obtain ⟨b1, b2, b3, b4, b5⟩ := h3 rfl
  have ho := RD_oK h1
  have h0 := h1.2.2.1.2.2.2.1.1
  have S1 : wS W (w_a W 34 (W.1 41 13 * 13 + 5).toNat y) := wS_a (Or.inl rfl)
  have S2 : wS W (w_a (w_a W 34 (W.1 41 13 * 13 + 5).toNat y) 34 (W.1 41 13 * 13 + 8).toNat z) := wS_tr S1 (wS_a (Or.inl rfl))
  have g1 : ∀ g : Int, 0 ≤ g ∧ g < 13 → wg ((w_a W 34 (W.1 41 13 * 13 + 5).toNat y).2 34) (W.1 41 13 * 13 + g) = if g = 5 then y else wg (W.2 34) (W.1 41 13 * 13 + g) := fun g hg => wg_34 (by omega) (by decide) g hg (by omega)
  have g2 : ∀ g : Int, 0 ≤ g ∧ g < 13 → wg ((w_a (w_a W 34 (W.1 41 13 * 13 + 5).toNat y) 34 (W.1 41 13 * 13 + 8).toNat z).2 34) (W.1 41 13 * 13 + g) = if g = 8 then z else if g = 5 then y else wg (W.2 34) (W.1 41 13 * 13 + g) := fun g hg => by
    have := wg_34 (w := w_a W 34 (W.1 41 13 * 13 + 5).toNat y) (j := (W.1 41 13 * 13 + 8).toNat) (f := 8) (y := z) (by show 0 ≤ W.1 41 13; omega) (by decide) g hg (by show _ = W.1 41 13 * 13 + 8; omega)
    have e13 : (w_a W 34 (W.1 41 13 * 13 + 5).toNat y).1 41 13 = W.1 41 13 := rfl
    rw [e13, g1 g hg] at this
    exact this
  have k1 : ∀ k : Nat, ¬ ((k : Int) = W.1 41 13 * 13 + 5) → (w_a W 34 (W.1 41 13 * 13 + 5).toNat y).2 34 k = W.2 34 k := fun k hk => by
    show w_u W.2 34 _ y 34 k = _
    rw [w_u_at, if_neg (by omega)]
  have k2 : ∀ k : Nat, ¬ ((k : Int) = W.1 41 13 * 13 + 5) → ¬ ((k : Int) = W.1 41 13 * 13 + 8) → (w_a (w_a W 34 (W.1 41 13 * 13 + 5).toNat y) 34 (W.1 41 13 * 13 + 8).toNat z).2 34 k = W.2 34 k := fun k hk hk2 => by
    show w_u (w_a W 34 (W.1 41 13 * 13 + 5).toNat y).2 34 _ z 34 k = _
    rw [w_u_at, if_neg (by omega)]
    exact k1 k hk
  cases p with
  | true =>
    rw [if_pos rfl]
    have x := xP_S S2 ho
    refine ⟨⟨CR_tl (CR_S h1 S2), ?_, fun _ => ⟨b1, ?_, ?_, ?_, ?_⟩, h4, h5, h6, ?_, ?_⟩, ⟨rfl, rfl⟩, fun k _ => ?_, fun k _ => ?_, x⟩
    · exact nW_S h2 S2 ho h0 (w_a_2ne _ _ _ (by decide) |>.trans (w_a_2ne _ _ _ (by decide))) rfl
    · show cR _ _ _ tl (wg ((w_a (w_a W 34 (W.1 41 13 * 13 + 5).toNat y) 34 (W.1 41 13 * 13 + 8).toNat z).2 34) (W.1 41 13 * 13 + 5))
      rw [g2 5 (by decide)]
      exact cW_x x hy
    · show 0 ≤ wg ((w_a (w_a W 34 (W.1 41 13 * 13 + 5).toNat y) 34 (W.1 41 13 * 13 + 8).toNat z).2 34) (W.1 41 13 * 13 + 7) ∧ wg ((w_a (w_a W 34 (W.1 41 13 * 13 + 5).toNat y) 34 (W.1 41 13 * 13 + 8).toNat z).2 34) (W.1 41 13 * 13 + 7) ≤ 3
      rw [g2 7 (by decide)]
      exact b3
    · show 0 ≤ wg ((w_a (w_a W 34 (W.1 41 13 * 13 + 5).toNat y) 34 (W.1 41 13 * 13 + 8).toNat z).2 34) (W.1 41 13 * 13 + 8) ∧ wg ((w_a (w_a W 34 (W.1 41 13 * 13 + 5).toNat y) 34 (W.1 41 13 * 13 + 8).toNat z).2 34) (W.1 41 13 * 13 + 8) ≤ 3
      rw [g2 8 (by decide), if_pos rfl]
      have := hz rfl
      omega
    · intro k k1' k3
      show ((v_wq tl (if wg ((w_a (w_a W 34 (W.1 41 13 * 13 + 5).toNat y) 34 (W.1 41 13 * 13 + 8).toNat z).2 34) (W.1 41 13 * 13 + 7) = 0 then k else (wg ((w_a (w_a W 34 (W.1 41 13 * 13 + 5).toNat y) 34 (W.1 41 13 * 13 + 8).toNat z).2 34) (W.1 41 13 * 13 + 7)).toNat)).2 : Int) = if wg ((w_a (w_a W 34 (W.1 41 13 * 13 + 5).toNat y) 34 (W.1 41 13 * 13 + 8).toNat z).2 34) (W.1 41 13 * 13 + 8) = 0 then (k : Int) else wg ((w_a (w_a W 34 (W.1 41 13 * 13 + 5).toNat y) 34 (W.1 41 13 * 13 + 8).toNat z).2 34) (W.1 41 13 * 13 + 8)
      rw [g2 7 (by decide), g2 8 (by decide), if_pos rfl, if_neg (by have := hz rfl; omega : ¬ z = 0)]
      have := hsz k k1' k3
      rw [if_pos rfl] at this
      exact this
    · rw [S2.2.2 3 (by decide) (by decide)]; exact h7
    · rw [S2.2.2 3 (by decide) (by decide), S2.2.2 5 (by decide) (by decide), S2.2.2 7 (by decide) (by decide)]; exact h8
    · by_cases c5 : (k : Int) = W.1 41 13 * 13 + 5
      · exact Or.inl ⟨rfl, Or.inl c5⟩
      · by_cases c8 : (k : Int) = W.1 41 13 * 13 + 8
        · exact Or.inl ⟨rfl, Or.inr c8⟩
        · exact Or.inr (k2 k c5 c8)
    · rw [w_a_2ne _ _ _ (by decide), w_a_2ne _ _ _ (by decide)]
  | false =>
    rw [if_neg (by decide)]
    have x := xP_S S1 ho
    refine ⟨⟨CR_tl (CR_S h1 S1), ?_, fun _ => ⟨b1, ?_, ?_, ?_, ?_⟩, h4, h5, h6, ?_, ?_⟩, ⟨rfl, rfl⟩, fun k _ => ?_, fun k _ => ?_, x⟩
    · exact nW_S h2 S1 ho h0 (w_a_2ne _ _ _ (by decide)) rfl
    · show cR _ _ _ tl (wg ((w_a W 34 (W.1 41 13 * 13 + 5).toNat y).2 34) (W.1 41 13 * 13 + 5))
      rw [g1 5 (by decide)]
      exact cW_x x hy
    · show 0 ≤ wg ((w_a W 34 (W.1 41 13 * 13 + 5).toNat y).2 34) (W.1 41 13 * 13 + 7) ∧ wg ((w_a W 34 (W.1 41 13 * 13 + 5).toNat y).2 34) (W.1 41 13 * 13 + 7) ≤ 3
      rw [g1 7 (by decide)]
      exact b3
    · show 0 ≤ wg ((w_a W 34 (W.1 41 13 * 13 + 5).toNat y).2 34) (W.1 41 13 * 13 + 8) ∧ wg ((w_a W 34 (W.1 41 13 * 13 + 5).toNat y).2 34) (W.1 41 13 * 13 + 8) ≤ 3
      rw [g1 8 (by decide)]
      exact b4
    · intro k k1' k3
      show ((v_wq tl (if wg ((w_a W 34 (W.1 41 13 * 13 + 5).toNat y).2 34) (W.1 41 13 * 13 + 7) = 0 then k else (wg ((w_a W 34 (W.1 41 13 * 13 + 5).toNat y).2 34) (W.1 41 13 * 13 + 7)).toNat)).2 : Int) = if wg ((w_a W 34 (W.1 41 13 * 13 + 5).toNat y).2 34) (W.1 41 13 * 13 + 8) = 0 then (k : Int) else wg ((w_a W 34 (W.1 41 13 * 13 + 5).toNat y).2 34) (W.1 41 13 * 13 + 8)
      rw [g1 7 (by decide), g1 8 (by decide)]
      have := hsz k k1' k3
      rw [if_neg Bool.false_ne_true] at this
      exact this
    · rw [S1.2.2 3 (by decide) (by decide)]; exact h7
    · rw [S1.2.2 3 (by decide) (by decide), S1.2.2 5 (by decide) (by decide), S1.2.2 7 (by decide) (by decide)]; exact h8
    · by_cases c5 : (k : Int) = W.1 41 13 * 13 + 5
      · exact Or.inl ⟨rfl, Or.inl c5⟩
      · exact Or.inr (k1 k c5)
    · rw [w_a_2ne _ _ _ (by decide)]
end
