/-! ===== the class runs as the evaluator: the body of a call begins ===== -/
section
variable {C : C_} {sil : Bool} {o a0 : Nat} {D : Prop} {K0 : Int} {hb : Bool} {s s1 : S_} {E E1 : N_} {w : W_} {fr : Nat} {Q : Option am_V → W_ → Prop} {i : Int} {k : Nat} {n : Int} {id : Nat} {a b c v : T_}

theorem oQ_48 {m : Int} {w' : W_} (h : n48 w w') (ho : oK w) : oQ m w w' := by
  obtain ⟨h1, h2⟩ := h
  refine ⟨⟨by rw [h1], by rw [h1]⟩, fun k _ => by rw [h2 34 (by decide)], h2 42 (by decide), ⟨by rw [h1]; exact Int.le_refl _, fun k _ => by rw [h2 13 (by decide)]⟩, fun j => by rw [h1], ⟨h2 _ (by decide), h2 _ (by decide), h2 _ (by decide), h2 _ (by decide), h2 _ (by decide), h2 _ (by decide), by rw [h1]; exact Int.le_refl _, fun k _ => by rw [h2 22 (by decide)], rQ_1 (fun a j _ => by rw [h1]) (fun b q => h2 b (by omega))⟩, ⟨by rw [h1], h2 _ (by omega), by rw [h1]⟩, fun m hb t q => ?_⟩
  unfold eW0 at q ⊢
  rw [h2 3 (by decide), h2 5 (by decide), h2 37 (by decide), h2 46 (by decide), h2 7 (by decide)]
  exact q
theorem CR_48 {w' : W_} (H : CR C sil o a0 D K0 s w) (h : n48 w w') : CR C sil o a0 D K0 s w' := by
  obtain ⟨h1, h2⟩ := h
  obtain ⟨Ha, Hb, Hc, Hm⟩ := H
  have ho := Ha.1.1
  refine ⟨?_, ?_, ?_, ?_⟩
  · unfold CRa at Ha ⊢
    rw [h1, h2 (o + 3) (by omega), h2 18 (by decide)]
    exact Ha
  · unfold CRb at Hb ⊢
    rw [h1, h2 22 (by decide)]
    exact Hb
  · unfold CRc fW0 at Hc ⊢
    rw [h1, h2 46 (by decide), h2 13 (by decide), h2 3 (by decide), h2 5 (by decide), h2 37 (by decide), h2 44 (by decide), h2 7 (by decide)]
    exact Hc
  · unfold CRm at Hm ⊢
    rw [h1, h2 11 (by decide), h2 13 (by decide), h2 3 (by decide), h2 5 (by decide), h2 7 (by decide)]
    exact Hm
theorem RD_48 {w' : W_} (H : RD C sil o a0 D K0 hb s E w) (h : n48 w w') : RD C sil o a0 D K0 hb s E w' := by
  have e : w'.1 33 1 = w.1 33 1 := by rw [h.1]
  exact RD_o H (CR_48 H.1 h) (oQ_48 h (RD_oK H.1)) rfl (Nat.le_refl _) H.2.2.2.2.2.1 (by rw [e]; exact ⟨Int.le_refl _, H.2.2.2.1.2⟩)
/-- the world with the body's names and its code due -/
def w_en (w : W_) (x y id : Int) (o : Nat) : W_ := w_en2 (w_f (w_en1 w x y) o 7 (w.1 o 7 + 1)) x y id
theorem w_scp1' (w : W_) (b : Int) : (w_scp w b).1 = (w_f w 41 12 (w.1 41 12 + 1)).1 := by
  unfold w_scp
  rw [w_bind_1]
  rfl
theorem en_1 {x y id : Int} (ho : o = 24 ∨ o = 55 ∨ o = 64) (a j : Nat) : (w_en w x y id o).1 a j = if a = 41 ∧ j = 10 then w_g w 37 (id * 9 + 0) - 1 else if a = 41 ∧ j = 12 then w.1 41 12 + 1 else if a = o ∧ j = 7 then w.1 o 7 + 1 else if a = 41 ∧ j = 16 then w.1 17 4 else if a = 41 ∧ (j = 14 ∨ j = 15) then w.1 41 14 + 1 else w.1 a j := by
  have e37 : ∀ k, w_g (w_f (w_en1 w x y) o 7 (w.1 o 7 + 1)) 37 k = w_g w 37 k := fun k => by
    rw [w_g_f]
    unfold w_en1
    rw [w_g_f, w_g_f, w_g_f]
    refine w_g_ne ?_ k
    rw [w_fs2 _ _ _ (by decide), w_fs2 _ _ _ (by decide), w_fs2 _ _ _ (by decide), w_fs2 _ _ _ (by decide), w_fs2 _ _ _ (by decide), w_fs2 _ _ _ (by decide)]
  have e1 : ∀ a j, (w_f (w_en1 w x y) o 7 (w.1 o 7 + 1)).1 a j = if a = o ∧ j = 7 then w.1 o 7 + 1 else if a = 41 ∧ j = 16 then w.1 17 4 else if a = 41 ∧ j = 15 then w.1 41 14 + 1 else if a = 41 ∧ j = 14 then w.1 41 14 + 1 else w.1 a j := fun a j => rfl
  have e12 : (w_f (w_en1 w x y) o 7 (w.1 o 7 + 1)).1 41 12 = w.1 41 12 := by
    rw [e1, if_neg (by omega)]
    rfl
  unfold w_en w_en2
  rw [w_f1, w_u_at, e37]
  by_cases c1 : a = 41 ∧ j = 10
  · rw [if_pos c1, if_pos c1]
  · rw [if_neg c1, if_neg c1]
    have e : ∀ X : W_, (w_a X 42 ((w_f (w_en1 w x y) o 7 (w.1 o 7 + 1)).1 41 12 * 0).toNat y).1 = X.1 := fun _ => rfl
    have ei : ∀ (P : Prop) [Decidable P] (A B : W_), A.1 = B.1 → (if P then A else B).1 = B.1 := fun P _ A B hAB => by
      split
      · exact hAB
      · rfl
    show (if _ then w_scp (w_f (w_en1 w x y) o 7 (w.1 o 7 + 1)) _ else w_a (w_scp (w_f (w_en1 w x y) o 7 (w.1 o 7 + 1)) _) 42 _ x).1 a j = _
    rw [ei _ _ _ (by rfl)]
    show (w_scp (w_f (w_en1 w x y) o 7 (w.1 o 7 + 1)) _).1 a j = _
    rw [w_scp1', w_f1, w_u_at, e12]
    by_cases c2 : a = 41 ∧ j = 12
    · rw [if_pos c2, if_pos c2]
    · rw [if_neg c2, if_neg c2, e1]
      by_cases c3 : a = o ∧ j = 7
      · rw [if_pos c3, if_pos c3]
      · rw [if_neg c3, if_neg c3]
        by_cases c4 : a = 41 ∧ j = 16
        · rw [if_pos c4, if_pos c4]
        · rw [if_neg c4, if_neg c4]
          by_cases c5 : a = 41 ∧ j = 15
          · rw [if_pos c5, if_pos ⟨c5.1, Or.inr c5.2⟩]
          · rw [if_neg c5]
            by_cases c6 : a = 41 ∧ j = 14
            · rw [if_pos c6, if_pos ⟨c6.1, Or.inl c6.2⟩]
            · rw [if_neg c6, if_neg (by omega)]
theorem en_2 {x y id : Int} {b : Nat} (h1 : b ≠ 34) (h2 : b ≠ 42) : (w_en w x y id o).2 b = w.2 b := by
  have e0 : (w_f (w_en1 w x y) o 7 (w.1 o 7 + 1)).2 b = w.2 b := by
    show (w_en1 w x y).2 b = _
    unfold w_en1
    show (w_fs (w_fs (w_fs (w_fs (w_fs (w_fs w 3 x) 4 y) 6 (w.1 17 3)) 7 (w.1 17 5)) 8 (w.1 17 4)) 9 (w.1 41 15)).2 b = _
    rw [w_fs2 _ _ _ h1, w_fs2 _ _ _ h1, w_fs2 _ _ _ h1, w_fs2 _ _ _ h1, w_fs2 _ _ _ h1, w_fs2 _ _ _ h1]
  have es : ∀ X z, (w_scp X z).2 b = X.2 b := fun X z => by
    unfold w_scp
    rw [w_bind_2 h2, w_fill_2ne _ _ _ _ h2]
    rfl
  unfold w_en w_en2
  rw [← e0]
  generalize w_f (w_en1 w x y) o 7 (w.1 o 7 + 1) = X
  show (w_a (if w_g X 37 (id * 9 + 7) - 1 = -1 then w_scp X (w_h X x 1) else w_a (w_scp X (w_h X x 1)) 42 ((X.1 41 12 + 1) * 10 + (w_g X 37 (id * 9 + 7) - 1)).toNat x) 42 ((X.1 41 12 + 1) * 10 + w_g X 5 id % 10).toNat y).2 b = X.2 b
  rw [w_a_2ne _ _ _ h2]
  split
  · exact es _ _
  · rw [w_a_2ne _ _ _ h2]
    exact es _ _
/-- frames: those of the call -/
theorem en_34 {x y id : Int} (k : Nat) : (w_en w x y id o).2 34 k = (w_fs (w_fs (w_fs (w_fs (w_fs (w_fs w 3 x) 4 y) 6 (w.1 17 3)) 7 (w.1 17 5)) 8 (w.1 17 4)) 9 (w.1 41 15)).2 34 k := by
  have e0 : (w_f (w_en1 w x y) o 7 (w.1 o 7 + 1)).2 34 = (w_fs (w_fs (w_fs (w_fs (w_fs (w_fs w 3 x) 4 y) 6 (w.1 17 3)) 7 (w.1 17 5)) 8 (w.1 17 4)) 9 (w.1 41 15)).2 34 := rfl
  have es : ∀ X z, (w_scp X z).2 34 = X.2 34 := fun X z => by
    unfold w_scp
    rw [w_bind_2 (by decide), w_fill_2ne _ _ _ _ (by decide)]
    rfl
  unfold w_en w_en2
  rw [← e0]
  generalize w_f (w_en1 w x y) o 7 (w.1 o 7 + 1) = X
  show (w_a (if w_g X 37 (id * 9 + 7) - 1 = -1 then w_scp X (w_h X x 1) else w_a (w_scp X (w_h X x 1)) 42 ((X.1 41 12 + 1) * 10 + (w_g X 37 (id * 9 + 7) - 1)).toNat x) 42 ((X.1 41 12 + 1) * 10 + w_g X 5 id % 10).toNat y).2 34 k = X.2 34 k
  rw [w_a_2ne _ _ _ (by decide)]
  split
  · rw [es]
  · rw [w_a_2ne _ _ _ (by decide), es]
theorem en_F {x y id g : Int} (ho : o = 24 ∨ o = 55 ∨ o = 64) (h1 : 1 ≤ w.1 33 1) (hg : 0 ≤ g) : f_t (w_en w x y id o) g = if g = 9 then w.1 41 15 else if g = 8 then w.1 17 4 else if g = 7 then w.1 17 5 else if g = 6 then w.1 17 3 else if g = 4 then y else if g = 3 then x else f_t w g := by
  have e33 : (w_en w x y id o).1 33 1 = w.1 33 1 := by
    rw [en_1 ho, if_neg (by decide), if_neg (by decide), if_neg (by omega), if_neg (by decide), if_neg (by decide)]
  have e : f_t (w_en w x y id o) g = f_t (w_fs (w_fs (w_fs (w_fs (w_fs (w_fs w 3 x) 4 y) 6 (w.1 17 3)) 7 (w.1 17 5)) 8 (w.1 17 4)) 9 (w.1 41 15)) g := by
    unfold f_t w_g
    rw [e33, en_34]
    rfl
  rw [e, f_t_fs0 (by exact h1) (by decide) hg, f_t_fs0 (by exact h1) (by decide) hg, f_t_fs0 (by exact h1) (by decide) hg, f_t_fs0 (by exact h1) (by decide) hg, f_t_fs0 (by exact h1) (by decide) hg, f_t_fs0 (by exact h1) (by decide) hg]
theorem en_34b {x y id : Int} (k : Nat) (h1 : 1 ≤ w.1 33 1) (hk : (k : Int) < 13 * (w.1 33 1 - 1)) : (w_en w x y id o).2 34 k = w.2 34 k := by
  have e : ∀ (N : W_) (f z : Int), N.1 33 1 = w.1 33 1 → 0 ≤ f → (w_fs N f z).2 34 k = N.2 34 k := fun N f z hN hf => by
    show w_u N.2 34 _ z 34 k = _
    rw [w_u_at, if_neg (by omega)]
  rw [en_34, e _ 9 _ (by rfl) (by decide), e _ 8 _ (by rfl) (by decide), e _ 7 _ (by rfl) (by decide), e _ 6 _ (by rfl) (by decide), e _ 4 _ (by rfl) (by decide), e _ 3 _ (by rfl) (by decide)]
/-- names: those of the body -/
theorem en_42 {x y : Int} {fn v e cl : T_} {id : Nat} (ho : o = 24 ∨ o = 55 ∨ o = 64) (hfn : fn = .tag 12 (.append e cl)) (hid : e_id e = id) (h12 : 0 ≤ w.1 41 12) (h0 : 0 ≤ w.1 13 2) (hf : vW_ w fn x) (hv : vW_ w v y) : (∀ m, m < 10 → match n_body e cl v fn m with
  | none => (w_en w x y id o).2 42 ((w.1 41 12 + 1).toNat * 10 + m) = 20005
  | some u => vW_ w u ((w_en w x y id o).2 42 ((w.1 41 12 + 1).toNat * 10 + m))) ∧ ∀ k : Nat, (k : Int) < 10 * (w.1 41 12 + 1) → (w_en w x y id o).2 42 k = w.2 42 k := by
  have hf' := hf
  rw [hfn] at hf'
  obtain ⟨⟨hN1, p3, ⟨⟨kk, n, id', a, b, c, hb, he0, hk, eRx⟩, tIx⟩, pc, ⟨E0, hcl⟩, hk16⟩, -⟩ := hf'
  have eid : id' = id := by rw [he0] at hid; exact hid
  have k16 : kk = 16 := by rw [he0] at hk16; exact hk16
  subst eid k16
  have he : eW w 0 hb e := ⟨eRx, tIx⟩
  rw [he0] at he
  have heR := he.1
  obtain ⟨-, -, -, -, -, -, -, -, hs1, -⟩ := heR
  obtain ⟨⟨i1, i2, i3, i4, i5, i6⟩, -, -, -, -, -, hu⟩ := eW_ce he
  obtain ⟨-, -, hown⟩ := hu (Or.inl rfl)
  have hown := hown rfl
  rw [← he0] at hown
  have epar : (e_par e : Int) = n % 10 := by
    rw [he0]
    show ((n % 10).toNat : Int) = _
    omega
  -- the world ahead of the names
  have X13 : (w_f (w_en1 w x y) o 7 (w.1 o 7 + 1)).2 13 = w.2 13 := by
    show (w_en1 w x y).2 13 = _
    unfold w_en1
    show (w_fs (w_fs (w_fs (w_fs (w_fs (w_fs w 3 x) 4 y) 6 (w.1 17 3)) 7 (w.1 17 5)) 8 (w.1 17 4)) 9 (w.1 41 15)).2 13 = _
    rw [w_fs2 _ _ _ (by decide), w_fs2 _ _ _ (by decide), w_fs2 _ _ _ (by decide), w_fs2 _ _ _ (by decide), w_fs2 _ _ _ (by decide), w_fs2 _ _ _ (by decide)]
  have X37 : (w_f (w_en1 w x y) o 7 (w.1 o 7 + 1)).2 37 = w.2 37 := by
    show (w_en1 w x y).2 37 = _
    unfold w_en1
    show (w_fs (w_fs (w_fs (w_fs (w_fs (w_fs w 3 x) 4 y) 6 (w.1 17 3)) 7 (w.1 17 5)) 8 (w.1 17 4)) 9 (w.1 41 15)).2 37 = _
    rw [w_fs2 _ _ _ (by decide), w_fs2 _ _ _ (by decide), w_fs2 _ _ _ (by decide), w_fs2 _ _ _ (by decide), w_fs2 _ _ _ (by decide), w_fs2 _ _ _ (by decide)]
  have X5 : (w_f (w_en1 w x y) o 7 (w.1 o 7 + 1)).2 5 = w.2 5 := by
    show (w_en1 w x y).2 5 = _
    unfold w_en1
    show (w_fs (w_fs (w_fs (w_fs (w_fs (w_fs w 3 x) 4 y) 6 (w.1 17 3)) 7 (w.1 17 5)) 8 (w.1 17 4)) 9 (w.1 41 15)).2 5 = _
    rw [w_fs2 _ _ _ (by decide), w_fs2 _ _ _ (by decide), w_fs2 _ _ _ (by decide), w_fs2 _ _ _ (by decide), w_fs2 _ _ _ (by decide), w_fs2 _ _ _ (by decide)]
  have X42 : (w_f (w_en1 w x y) o 7 (w.1 o 7 + 1)).2 42 = w.2 42 := by
    show (w_en1 w x y).2 42 = _
    unfold w_en1
    show (w_fs (w_fs (w_fs (w_fs (w_fs (w_fs w 3 x) 4 y) 6 (w.1 17 3)) 7 (w.1 17 5)) 8 (w.1 17 4)) 9 (w.1 41 15)).2 42 = _
    rw [w_fs2 _ _ _ (by decide), w_fs2 _ _ _ (by decide), w_fs2 _ _ _ (by decide), w_fs2 _ _ _ (by decide), w_fs2 _ _ _ (by decide), w_fs2 _ _ _ (by decide)]
  have X12 : (w_f (w_en1 w x y) o 7 (w.1 o 7 + 1)).1 41 12 = w.1 41 12 := by
    show (if 41 = o ∧ 12 = 7 then w.1 o 7 + 1 else (w_en1 w x y).1 41 12) = _
    rw [if_neg (by omega)]
    rfl
  have eln : w_g (w_f (w_en1 w x y) o 7 (w.1 o 7 + 1)) 37 ((id' : Int) * 9 + 7) - 1 = w_g w 37 ((id' : Int) * 9 + 7) - 1 := by rw [wg_w, wg_w, X37]
  have epn : w_g (w_f (w_en1 w x y) o 7 (w.1 o 7 + 1)) 5 (id' : Int) % 10 = n % 10 := by rw [wg_w, X5, ← wg_w, i3]
  have ehx : w_h (w_f (w_en1 w x y) o 7 (w.1 o 7 + 1)) x 1 = pH (w.2 13) x 1 := by rw [pH_w, X13]
  have hW42 : (w_en w x y id' o).2 42 = (w_a (if w_g w 37 ((id' : Int) * 9 + 7) - 1 = -1 then w_scp (w_f (w_en1 w x y) o 7 (w.1 o 7 + 1)) (pH (w.2 13) x 1) else w_a (w_scp (w_f (w_en1 w x y) o 7 (w.1 o 7 + 1)) (pH (w.2 13) x 1)) 42 ((w.1 41 12 + 1) * 10 + (w_g w 37 ((id' : Int) * 9 + 7) - 1)).toNat x) 42 ((w.1 41 12 + 1) * 10 + n % 10).toNat y).2 42 := by
    unfold w_en w_en2
    rw [eln, epn, ehx, X12]
    rfl
  generalize w_f (w_en1 w x y) o 7 (w.1 o 7 + 1) = X at *
  -- the chain
  have hY : ∀ k, (w_fill (w_f X 41 12 (X.1 41 12 + 1)) 42 ((X.1 41 12 + 1) * 10).toNat ((X.1 41 12 + 1) * 10 + 10).toNat 20005).2 42 k = if (w.1 41 12 + 1) * 10 ≤ (k : Int) ∧ (k : Int) < (w.1 41 12 + 1) * 10 + 10 then 20005 else w.2 42 k := fun k => by
    rw [X12, ← X42]
    show (if 42 = 42 ∧ ((w.1 41 12 + 1) * 10).toNat ≤ k ∧ k < ((w.1 41 12 + 1) * 10 + 10).toNat then (20005 : Int) else X.2 42 k) = _
    by_cases c : (w.1 41 12 + 1) * 10 ≤ (k : Int) ∧ (k : Int) < (w.1 41 12 + 1) * 10 + 10
    · rw [if_pos c, if_pos ⟨rfl, by omega, by omega⟩]
    · rw [if_neg c, if_neg (by omega)]
  have hY13 : (w_fill (w_f X 41 12 (X.1 41 12 + 1)) 42 ((X.1 41 12 + 1) * 10).toNat ((X.1 41 12 + 1) * 10 + 10).toNat 20005).2 13 = w.2 13 := (w_fill_2ne _ _ _ _ (by decide)).trans X13
  have hS : w_scp X (pH (w.2 13) x 1) = w_bind 10 (w_fill (w_f X 41 12 (X.1 41 12 + 1)) 42 ((X.1 41 12 + 1) * 10).toNat ((X.1 41 12 + 1) * 10 + 10).toNat 20005) (w.1 41 12 + 1) (pH (w.2 13) x 1) := by
    unfold w_scp
    rw [X12]
  generalize w_fill (w_f X 41 12 (X.1 41 12 + 1)) 42 ((X.1 41 12 + 1) * 10).toNat ((X.1 41 12 + 1) * 10 + 10).toNat 20005 = Y at *
  rw [hcl] at pc
  obtain ⟨B1, B2⟩ := bind_get (F := fW w) (s := w.1 41 12 + 1) (by omega) h0 10 10 (pH (w.2 13) x 1) Y (Nat.le_refl _) (Nat.le_refl _) hY13 pc
  rw [← hS] at B1 B2
  generalize w_scp X (pH (w.2 13) x 1) = Z at *
  have gcl : ∀ k, k < 10 → n_get cl k = if e_use e k = true then E0 k else none := fun k hk => by
    rw [hcl, n_get_clos]
    by_cases c : e_use e k = true
    · rw [if_pos ⟨hk, c⟩, if_pos c]
    · rw [if_neg (fun q => c q.2), if_neg c]
  have idx : ∀ k : Nat, ((w.1 41 12 + 1) * 10 + (k : Int)).toNat = (w.1 41 12 + 1).toNat * 10 + k := fun k => by omega
  have ua : ∀ (A : W_) (q : Nat) (z : Int) (k : Nat), (w_a A 42 q z).2 42 k = if k = q then z else A.2 42 k := fun A q z k => by
    show w_u A.2 42 q z 42 k = _
    rw [w_u_at]
    by_cases c : k = q
    · rw [if_pos ⟨rfl, c⟩, if_pos c]
    · rw [if_neg (fun h => c h.2), if_neg c]
  have hZ : ∀ k, k < 10 → match n_get cl k with
      | none => Z.2 42 ((w.1 41 12 + 1).toNat * 10 + k) = 20005
      | some u => vW_ w u (Z.2 42 ((w.1 41 12 + 1).toNat * 10 + k)) := fun k hk => by
    obtain ⟨A1, A2⟩ := B1 k hk
    rw [idx] at A1 A2
    rw [gcl k hk]
    by_cases c : e_use e k = true
    · rw [if_pos c]
      cases q : E0 k with
      | none =>
        show Z.2 42 _ = 20005
        rw [A2 (fun _ _ => q), hY, if_pos ⟨by omega, by omega⟩]
      | some u => exact A1 u hk c q
    · rw [if_neg c]
      show Z.2 42 _ = 20005
      rw [A2 (fun _ h => absurd h c), hY, if_pos ⟨by omega, by omega⟩]
  have hpar10 : e_par e < 10 := by omega
  have ipar : ((w.1 41 12 + 1) * 10 + n % 10).toNat = (w.1 41 12 + 1).toNat * 10 + e_par e := by rw [← epar]; exact idx _
  rw [hW42, ipar]
  have hlow : ∀ k : Nat, (k : Int) < 10 * (w.1 41 12 + 1) → Z.2 42 k = w.2 42 k := fun k hk => by
    rw [B2 k (Or.inl (by omega)), hY, if_neg (by omega)]
  cases ow : e_own e with
  | none =>
    rw [ow] at hown
    have hown : w_g w 37 ((id' : Int) * 9 + 7) - 1 = -1 := hown
    rw [if_pos hown]
    refine ⟨fun m hm => ?_, fun k hk => by rw [ua, if_neg (by omega)]; exact hlow k hk⟩
    have eb : n_body e cl v fn m = if m = e_par e then some v else n_get cl m := by
      unfold n_body
      rw [ow]
      rfl
    rw [eb, ua]
    by_cases c : m = e_par e
    · rw [if_pos c, if_pos (by rw [c])]
      exact hv
    · rw [if_neg c, if_neg (by omega)]
      exact hZ m hm
  | some j =>
    rw [ow] at hown
    have hown : w_g w 37 ((id' : Int) * 9 + 7) - 1 = (j : Int) := hown
    have hj : j < 10 := by
      rw [he0] at ow
      rcases hs1 (by decide) with q | ⟨z, q, z1, z2⟩
      · rw [q] at ow; cases ow
      · rw [q] at ow
        have ow : some z.toNat = some j := ow
        injection ow with ow
        omega
    rw [if_neg (by omega), hown, idx j]
    refine ⟨fun m hm => ?_, fun k hk => by rw [ua, if_neg (by omega), ua, if_neg (by omega)]; exact hlow k hk⟩
    have eb : n_body e cl v fn m = if m = e_par e then some v else if m = j then some fn else n_get cl m := by
      unfold n_body
      rw [ow]
      rfl
    have er : (w_a (w_a Z 42 ((w.1 41 12 + 1).toNat * 10 + j) x) 42 ((w.1 41 12 + 1).toNat * 10 + e_par e) y).2 42 ((w.1 41 12 + 1).toNat * 10 + m) = if m = e_par e then y else if m = j then x else Z.2 42 ((w.1 41 12 + 1).toNat * 10 + m) := by
      rw [ua, ua]
      by_cases c : m = e_par e
      · rw [if_pos c, if_pos (by rw [c])]
      · rw [if_neg c]
        by_cases c2 : m = j
        · rw [if_pos c2, if_neg (by omega), if_pos (by rw [c2])]
        · rw [if_neg c2, if_neg (by omega), if_neg (by omega)]
    rw [er]
    by_cases c : m = e_par e
    · rw [if_pos c] at eb
      rw [eb, if_pos c]
      exact hv
    · rw [if_neg c] at eb
      rw [if_neg c]
      by_cases c2 : m = j
      · rw [if_pos c2] at eb
        rw [eb, if_pos c2]
        exact hf
      · rw [if_neg c2] at eb
        rw [eb, if_neg c2]
        exact hZ m hm
end
