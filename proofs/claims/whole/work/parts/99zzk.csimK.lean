/-! ===== the class runs as the evaluator: ahead of a body ===== -/
section
variable {C : C_} {sil : Bool} {o a0 : Nat} {D : Prop} {K0 : Int} {hb : Bool} {s s1 : S_} {E E1 : N_} {w : W_} {fr : Nat} {Q : Option am_V → W_ → Prop} {i : Int} {k : Nat} {n : Int} {id : Nat} {a b c v : T_}

theorem RD_en {V : W_} {x y : Int} {fn v e cl : T_} {id rn : Nat} {D' : Prop} (H : RD C sil o a0 D K0 hb s E V) (hfn : fn = .tag 12 (.append e cl)) (hid : e_id e = id) (hf : vW_ V fn x) (hv : vW_ V v y) (hd : s_dp s < 8) (hr : s_rw s < 2040) (hrn : sil = false → rn = s_rn s + 1) (hDD : D → D') : RD C sil o (V.1 17 3).toNat D' K0 false (s_in (u_rn s rn (s_tk s))) (n_body e cl v fn) (w_en V x y id o) ∧ xP V (w_en V x y id o) := by
  obtain ⟨⟨Ha, Hb, Hc, Hm⟩, h2, h3, h4, h5, h6, h7, h8⟩ := H
  have ho := Ha.1.1
  have hoK : oK V := by
    have e : w_o V = o := by unfold w_o; rw [Ha.1.2]; rfl
    unfold oK
    rw [e]
    exact ho
  have h0 := Hc.2.2.2.1.1
  have E1 : ∀ a j, ¬ (a = 41 ∧ (j = 10 ∨ j = 12 ∨ j = 14 ∨ j = 15 ∨ j = 16)) → ¬ (a = o ∧ j = 7) → (w_en V x y id o).1 a j = V.1 a j := fun a j q1 q2 => by
    rw [en_1 ho, if_neg (by omega), if_neg (by omega), if_neg q2, if_neg (by omega), if_neg (by omega)]
  have E14 : (w_en V x y id o).1 41 14 = V.1 41 14 + 1 := by rw [en_1 ho, if_neg (by decide), if_neg (by decide), if_neg (by omega), if_neg (by decide), if_pos (by decide)]
  have E15 : (w_en V x y id o).1 41 15 = V.1 41 14 + 1 := by rw [en_1 ho, if_neg (by decide), if_neg (by decide), if_neg (by omega), if_neg (by decide), if_pos (by decide)]
  have E16 : (w_en V x y id o).1 41 16 = V.1 17 4 := by rw [en_1 ho, if_neg (by decide), if_neg (by decide), if_neg (by omega), if_pos ⟨rfl, rfl⟩]
  have E12 : (w_en V x y id o).1 41 12 = V.1 41 12 + 1 := by rw [en_1 ho, if_neg (by decide), if_pos ⟨rfl, rfl⟩]
  have E7 : (w_en V x y id o).1 o 7 = V.1 o 7 + 1 := by rw [en_1 ho, if_neg (by omega), if_neg (by omega), if_pos ⟨rfl, rfl⟩]
  have E2 : ∀ b, b ≠ 34 → b ≠ 42 → (w_en V x y id o).2 b = V.2 b := fun b q1 q2 => en_2 q1 q2
  obtain ⟨N1, N2⟩ := en_42 (o := o) ho hfn hid h5.1 h0 hf hv
  have eo : w_o V = o := by unfold w_o; rw [Ha.1.2]; rfl
  have X : xP V (w_en V x y id o) := by
    refine ⟨⟨by rw [E1 13 2 (by omega) (by omega)]; exact Int.le_refl _, fun k _ => by rw [E2 13 (by decide) (by decide)]⟩, fun j => E1 50 j (by omega) (by omega), ⟨E2 _ (by decide) (by decide), E2 _ (by decide) (by decide), E2 _ (by decide) (by decide), E2 _ (by decide) (by decide), E2 _ (by decide) (by decide), E2 _ (by decide) (by decide), by rw [E1 17 3 (by omega) (by omega)]; exact Int.le_refl _, fun k _ => by rw [E2 22 (by decide) (by decide)], rQ_1 (fun a j q => E1 a j (by omega) (by omega)) (fun b q => E2 b (by omega) (by omega))⟩, ⟨E1 _ _ (by omega) (by omega), E2 _ (by omega) (by omega), E1 _ 4 (by omega) (by omega)⟩, fun m hb t q => ?_⟩
    unfold eW0 at q ⊢
    rw [E2 3 (by decide) (by decide), E2 5 (by decide) (by decide), E2 37 (by decide) (by decide), E2 46 (by decide) (by decide), E2 7 (by decide) (by decide)]
    exact q
  generalize w_en V x y id o = W at *
  refine ⟨⟨⟨?_, ?_, ?_, ?_⟩, fun m hm => ?_, fun q => Bool.noConfusion q, ?_, ?_, Nat.le_refl _, ?_, ?_⟩, X⟩
  · unfold CRa at Ha ⊢
    rw [E1 17 7 (by omega) (by omega), E1 17 4 (by omega) (by omega), E1 17 5 (by omega) (by omega), E1 17 6 (by omega) (by omega), E1 o 5 (by omega) (by omega), E2 (o + 3) (by omega) (by omega), E2 18 (by decide) (by decide)]
    exact Ha
  · unfold CRb at Hb ⊢
    obtain ⟨⟨n, n1, n2, n3, n4, n5⟩, ⟨b1, b2⟩, b3, b4, b5, b6⟩ := Hb
    rw [E1 17 3 (by omega) (by omega), E2 22 (by decide) (by decide), E14, E15, E16, E1 41 17 (by omega) (by omega)]
    refine ⟨⟨n, n1, by omega, n3, n4, fun q hq => ⟨fun z => absurd z Bool.false_ne_true, fun ⟨i, i1, i2, _⟩ => by omega⟩⟩, ⟨?_, ?_⟩, by omega, fun _ => ⟨?_, ?_⟩, ?_, b6⟩
    · show V.1 41 14 + 1 = ((s_dp s + 1 : Nat) : Int)
      omega
    · show s_dp s + 1 ≤ 8
      omega
    · show V.1 41 14 + 1 = ((s_dp s + 1 : Nat) : Int) + ((0 : Nat) : Int)
      omega
    · show V.1 17 4 = (s_b s : Int)
      exact Ha.2.1.1
    · have z := Ha.2.1.1
      have y := Hc.2.2.2.2
      unfold am_rg
      omega
  · unfold CRc fW0 at Hc ⊢
    obtain ⟨⟨c1, c2, c3⟩, c4, c5, c6, c7, c8, c9, c10, c11, c12⟩ := Hc
    rw [E7, E1 o 8 (by omega) (by omega), E1 13 2 (by omega) (by omega), E2 46 (by decide) (by decide), E2 13 (by decide) (by decide), E2 3 (by decide) (by decide), E2 5 (by decide) (by decide), E2 37 (by decide) (by decide), E2 44 (by decide) (by decide), E2 7 (by decide) (by decide)]
    refine ⟨⟨fun q => ⟨?_, (c1 q).2⟩, c2, c3⟩, c4, c5, c6, c7, c8, hr, c10, c11, c12⟩
    show V.1 o 7 + 1 = (rn : Int)
    rw [hrn q, (c1 q).1]
    rfl
  · unfold CRm at Hm ⊢
    rw [E1 10 1 (by omega) (by omega), E1 13 2 (by omega) (by omega), E1 13 3 (by omega) (by omega), E2 11 (by decide) (by decide), E2 13 (by decide) (by decide), E2 3 (by decide) (by decide), E2 5 (by decide) (by decide), E2 7 (by decide) (by decide)]
    exact Hm
  · have h9 := N1 m hm
    rw [E12]
    cases q : n_body e cl v fn m with
    | none => rw [q] at h9; exact h9
    | some u => rw [q] at h9; exact vW_x X h0 h9
  · rw [E1 33 1 (by omega) (by omega)]
    exact h4
  · rw [E12]
    refine ⟨by omega, ?_⟩
    show V.1 41 12 + 1 ≤ ((s_rw s + 1 : Nat) : Int)
    omega
  · rw [E2 3 (by decide) (by decide)]; exact h7
  · rw [E2 3 (by decide) (by decide), E2 5 (by decide) (by decide), E2 7 (by decide) (by decide)]; exact ⟨h8.1, h8.2.imp hDD fun z => z⟩
/-- behind a body: the numbers of the runner, a0 and D as they were ahead of it -/
theorem CR_lv {V W : W_} {s1 : S_} {n0 : Nat} {D' : Prop} (HV : CRb sil a0 D s V) (h17 : V.1 17 3 = n0) (H : CR C sil o n0 D' K0 s1 W) (hD : D → D') (e9 : f_t W 9 = V.1 41 15) (hdp : s_dp s1 = s_dp s + 1) (hkeep : ∀ i : Nat, i < n0 → W.2 22 i = V.2 22 i) (hal : n0 ≤ (W.1 17 3).toNat) : CR C sil o a0 D K0 (s_out s s1 (s_me s1)) (w_lv W) := by
  obtain ⟨Ha, Hb, Hc, Hm⟩ := H
  have ho := Ha.1.1
  have E1 : ∀ a j, ¬ (a = 41 ∧ (j = 12 ∨ j = 14 ∨ j = 15)) → (w_lv W).1 a j = W.1 a j := fun a j q => by
    unfold w_lv
    rw [w_f1, w_u_at, if_neg (by omega), w_f1, w_u_at, if_neg (by omega), w_f1, w_u_at, if_neg (by omega)]
  have E14 : (w_lv W).1 41 14 = W.1 41 14 - 1 := rfl
  have E15 : (w_lv W).1 41 15 = if W.1 41 15 < V.1 41 15 then V.1 41 15 else W.1 41 15 := by
    unfold w_lv
    rw [e9]
    rfl
  have E2 : (w_lv W).2 = W.2 := rfl
  obtain ⟨⟨n, n1, n2, n3, n4, n5⟩, ⟨b1, b2⟩, b3, b4, b5, b6⟩ := HV
  obtain ⟨⟨p, p1, p2, p3, p4, p5⟩, ⟨d1, d2⟩, d3, d4, d5, d6⟩ := Hb
  refine ⟨?_, ⟨⟨p, ?_, ?_, p3, ?_, fun q hq => ?_⟩, ⟨?_, ?_⟩, ?_, fun hd => ⟨?_, ?_⟩, ?_, ?_⟩, ?_, ?_⟩
  · unfold CRa at Ha ⊢
    rw [E1 17 7 (by omega), E1 17 4 (by omega), E1 17 5 (by omega), E1 17 6 (by omega), E1 o 5 (by omega), E2]
    exact Ha
  · rw [E1 17 3 (by omega)]; exact p1
  · omega
  · rw [E2]; exact p4
  · rw [E2]
    show (s_as s q || s_as s1 q) = true ↔ _
    rw [Bool.or_eq_true, n5 q hq, p5 q hq]
    constructor
    · rintro (⟨i, i1, i2, i3⟩ | ⟨i, i1, i2, i3⟩)
      · exact ⟨i, i1, by omega, by rw [hkeep i (by omega)]; exact i3⟩
      · exact ⟨i, by omega, i2, i3⟩
    · rintro ⟨i, i1, i2, i3⟩
      by_cases c : i < n0
      · exact Or.inl ⟨i, i1, by omega, by rw [← hkeep i c]; exact i3⟩
      · exact Or.inr ⟨i, by omega, i2, i3⟩
  · rw [E14]
    show W.1 41 14 - 1 = (s_dp s : Int)
    omega
  · exact b2
  · rw [E15]
    split <;> omega
  · obtain ⟨y1, y2⟩ := d4 (hD hd)
    obtain ⟨z1, z2⟩ := b4 hd
    rw [E15]
    show _ = (s_dp s : Int) + ((max (s_sn s) (s_sn s1 + 1) : Nat) : Int)
    split <;> omega
  · rw [E1 41 16 (by omega)]
    exact (d4 (hD hd)).2
  · rw [E1 41 16 (by omega)]; exact d5
  · rw [E1 41 17 (by omega)]; exact d6
  · unfold CRc fW0 at Hc ⊢
    rw [E1 o 7 (by omega), E1 o 8 (by omega), E1 13 2 (by omega), E2]
    exact Hc
  · unfold CRm at Hm ⊢
    rw [E1 10 1 (by omega), E1 13 2 (by omega), E1 13 3 (by omega), E2]
    exact Hm
end
