/-! ===== the class realizes as the evaluator: the start ===== -/
/-- the world behind the setter's start -/
def w_st (w : W_) (x : Int) : W_ := w_f (w_a (w_a (w_fill (w_fill (w_f (w_f (w_f (w_f (w_f (w_f (w_f (w_f w 50 7 0) 50 8 0) 50 9 1) 50 10 0) 50 11 0) 50 12 0) 50 13 0) 50 14 0) 18 42 45 0) 34 (w.1 33 1 * 13).toNat (w.1 33 1 * 13 + 13).toNat 0) 34 (w.1 33 1 * 13 + 0).toNat 7) 34 (w.1 33 1 * 13 + 1).toNat x) 33 1 (w.1 33 1 + 1)
section
variable {G : G_} {sil : Bool} {o : Nat} {K0 : Int} {s : S_} {w : W_}
theorem XR_st {v : T_} {x : Int} (H : CR (g_C0 G) sil o 0 False K0 s w) (hfl : flO (g_C0 G) (w.2 3) (w.2 5) (w.2 7) ∧ (False ∨ g0 (w.2 7))) (h183 : w.2 3 183 = 0 ∧ yG G o K0 w) (h33 : w.1 33 1 = 0) (h10 : w.1 41 10 = -1) (h12 : w.1 41 12 = -1) (hp : w.1 50 15 = G.2.2.2.1 ∧ w.1 50 16 = G.2.2.2.2) (hp2 : 3 ≤ G.2.2.2.1 ∧ G.2.2.2.1 ≤ 30 ∧ 1 ≤ G.2.2.2.2 ∧ G.2.2.2.2 ≤ 10) (h4 : w.1 o 4 = 0) (h20 : ∀ k, k < 42 → w.2 20 k = 0) (hv : cV w v x) : XR G sil o K0 s (q_start v) (w_st w x) := by
  have ho := H.1.1.1
  have hq := H.1.2.2.2
  have e1 : ∀ a j, a ≠ 50 → a ≠ 33 → (w_st w x).1 a j = w.1 a j := fun a j ha hb => by
    unfold w_st
    rw [w_f1, w_u_at, if_neg (fun z => hb z.1)]
    show (w_f _ 50 14 0).1 a j = _
    rw [w_f1, w_u_at, if_neg (fun z => ha z.1), w_f1, w_u_at, if_neg (fun z => ha z.1), w_f1, w_u_at, if_neg (fun z => ha z.1), w_f1, w_u_at, if_neg (fun z => ha z.1), w_f1, w_u_at, if_neg (fun z => ha z.1), w_f1, w_u_at, if_neg (fun z => ha z.1), w_f1, w_u_at, if_neg (fun z => ha z.1), w_f1, w_u_at, if_neg (fun z => ha z.1)]
  have e2 : ∀ b, b ≠ 34 → b ≠ 18 → (w_st w x).2 b = w.2 b := fun b h1 h2 => by
    unfold w_st
    show (w_a _ 34 _ _).2 b = _
    rw [w_a_2ne _ _ _ h1, w_a_2ne _ _ _ h1, w_fill_2ne _ _ _ _ h1, w_fill_2ne _ _ _ _ h2]
    rfl
  have e18 : ∀ k, (w_st w x).2 18 k = if 42 ≤ k ∧ k < 45 then 0 else w.2 18 k := fun k => by
    have uf : ∀ (A : W_) (a j : Nat) (y : Int), (w_f A a j y).2 = A.2 := fun _ _ _ _ => rfl
    unfold w_st
    rw [uf, w_a_2ne _ _ _ (by decide), w_a_2ne _ _ _ (by decide), w_fill_2ne _ _ _ _ (by decide)]
    show (if 18 = 18 ∧ 42 ≤ k ∧ k < 45 then (0 : Int) else w.2 18 k) = _
    by_cases c : 42 ≤ k ∧ k < 45
    · rw [if_pos c, if_pos ⟨rfl, c⟩]
    · rw [if_neg c, if_neg (fun z => c z.2)]
  have f0 : (w_st w x).2 34 (13 * 0) = 7 := by
    unfold w_st
    rw [h33]
    rfl
  have f1 : (w_st w x).2 34 (13 * 0 + 1) = x := by
    unfold w_st
    rw [h33]
    rfl
  have c33 : (w_st w x).1 33 1 = 1 := by
    show w.1 33 1 + 1 = 1
    rw [h33]
    rfl
  have L : wL o w (w_st w x) := ⟨fun a j h1 h2 _ _ => e1 a j h2 h1, fun b h1 _ _ _ h5 _ => e2 b h1 h5⟩
  have X := hX_L ho L
  have q50 : (w_st w x).1 50 7 = 0 ∧ (w_st w x).1 50 8 = 0 ∧ (w_st w x).1 50 9 = 1 ∧ (w_st w x).1 50 10 = 0 ∧ (w_st w x).1 50 11 = 0 ∧ (w_st w x).1 50 12 = 0 ∧ (w_st w x).1 50 13 = 0 ∧ (w_st w x).1 50 14 = 0 ∧ (w_st w x).1 50 15 = w.1 50 15 ∧ (w_st w x).1 50 16 = w.1 50 16 := ⟨rfl, rfl, rfl, rfl, rfl, rfl, rfl, rfl, rfl, rfl⟩
  generalize w_st w x = W at *
  obtain ⟨p1, p2, p3, p4, p5, p6, p7, p8, p9, p10⟩ := q50
  refine ⟨CR_L H L ⟨?_, (show (0 : Int) ≤ ((0 : Nat) : Int) from by decide), (show ((0 : Nat) : Int) ≤ 12 from by decide)⟩ (fun k hk => ?_), ⟨?_, ?_⟩, ⟨⟨p1, p2, p3, p4, p5, p6, p7, p8, by rw [p9]; exact hp.1, by rw [p10]; exact hp.2⟩, fun i r h => (by cases h), fun i m h => (by cases h), fun k hk => ?_, ?_, fun i l h => (by cases h)⟩, ⟨hp2, ⟨(show (1 : Int) ≤ 1 from by decide), (show (1 : Int) ≤ 3 from by decide), (show (0 : Int) ≤ 0 from by decide), (show (0 : Int) ≤ 3 from by decide)⟩, ⟨(show (0 : Int) ≤ 0 from by decide), (show (0 : Int) + ((0 : Nat) : Int) ≤ 2 * ((0 : Nat) : Int) from by decide), (show (0 : Int) ≤ 0 from by decide), (by show (0 : Int) < G.2.2.2.2; omega), (show (0 : Int) ≤ 0 from by decide), (show (0 : Int) ≤ 10002 from by decide)⟩, ⟨fun k _ => ⟨by show (-9999 : Int) ≤ 0; decide, by show (0 : Int) ≤ 9999; decide⟩, (show (0 : Int) ≤ 0 from by decide), (show (0 : Int) + ((0 : Nat) : Int) ≤ ((0 : Nat) : Int) from by decide)⟩, (show 0 ≤ 0 from Nat.le_refl 0), (show 0 ≤ 201 from by decide)⟩, ⟨⟨f0, ?_⟩, trivial⟩, ?_, ?_, ?_⟩
  · rw [e1 17 6 (by decide) (by decide)]
    exact H.1.2.1.2.2.1
  · have z := hq k hk
    rw [e18]
    by_cases c : k < 42
    · have z : w.2 18 k = G.1 k ∧ -9999 ≤ G.1 k ∧ G.1 k ≤ 9999 := by
        have e : (g_C0 G).1 k = some (G.1 k) := if_pos c
        rw [e] at z
        exact z
      rw [if_neg (by omega)]
      show w.2 18 k = (if k < 42 then G.1 k else 0) ∧ -9999 ≤ (if k < 42 then G.1 k else 0) ∧ (if k < 42 then G.1 k else 0) ≤ 9999
      rw [if_pos c]
      exact z
    · rw [if_pos ⟨by omega, hk⟩]
      show 0 = (if k < 42 then G.1 k else 0) ∧ -9999 ≤ (if k < 42 then G.1 k else 0) ∧ (if k < 42 then G.1 k else 0) ≤ 9999
      rw [if_neg c]
      exact ⟨rfl, by decide, by decide⟩
  · rw [e2 3 (by decide) (by decide), e2 5 (by decide) (by decide), e2 7 (by decide) (by decide)]; exact hfl
  · rw [e2 3 (by decide) (by decide)]; exact ⟨h183.1, rG_L ho h183.2 L⟩
  · rw [e2 20 (by decide) (by decide)]; exact h20 k hk
  · rw [e1 o 4 (by omega) (by omega), h4]; rfl
  · show cV W v (W.2 34 (13 * 0 + 1)); rw [f1]; exact cV_X X hv
  · rw [c33]; rfl
  · rw [e1 41 10 (by decide) (by decide)]; exact h10
  · rw [e1 41 12 (by decide) (by decide)]; exact h12
end
