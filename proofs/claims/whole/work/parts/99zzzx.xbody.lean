/-! ===== the class realizes as the evaluator: a body is entered from nowhere ===== -/
section
variable {C : C_} {sil : Bool} {o a0 : Nat} {D : Prop} {K0 : Int} {hb : Bool} {s s1 : S_} {E E1 : N_} {w : W_} {fr : Nat} {Q : Option am_V → W_ → Prop} {i : Int} {k : Nat} {n : Int} {id : Nat} {a b c v : T_}
theorem en_43 {x y : Int} {fn v e cl : T_} {id : Nat} (ho : o = 24 ∨ o = 55 ∨ o = 64) (hfn : fn = .tag 12 (.append e cl)) (hid : e_id e = id) (h12 : -1 ≤ w.1 41 12) (h0 : 0 ≤ w.1 13 2) (hf : vW_ w fn x) (hv : vW_ w v y) : (∀ m, m < 10 → match n_body e cl v fn m with
  | none => (w_en w x y id o).2 42 ((w.1 41 12 + 1).toNat * 10 + m) = 20005
  | some u => vW_ w u ((w_en w x y id o).2 42 ((w.1 41 12 + 1).toNat * 10 + m))) ∧ ∀ k : Nat, (k : Int) < 10 * (w.1 41 12 + 1) → (w_en w x y id o).2 42 k = w.2 42 k := by
  have hf' := hf
  rw [hfn] at hf'
  obtain ⟨⟨hN1, p3, ⟨⟨kk, n, id', a, b, c, hb, he0, hk, eRx⟩, tIx⟩, pc, ⟨E0, hcl⟩, hk16⟩, -⟩ := hf'
  have eid : id' = id := by rw [he0] at hid; exact hid
  have k16 : kk = 16 := by rw [he0] at hk16; exact hk16
  subst eid k16
  have he : eW w 0 hb e := ⟨eRx, tIx⟩
  rw [he0] at he
  have heR := he.1
  obtain ⟨-, -, -, -, -, -, -, -, hs1, -⟩ := heR
  obtain ⟨⟨i1, i2, i3, i4, i5, i6⟩, -, -, -, -, -, hu⟩ := eW_ce he
  obtain ⟨-, -, hown⟩ := hu (Or.inl rfl)
  have hown := hown rfl
  rw [← he0] at hown
  have epar : (e_par e : Int) = n % 10 := by
    rw [he0]
    show ((n % 10).toNat : Int) = _
    omega
  -- the world ahead of the names
  have X13 : (w_f (w_en1 w x y) o 7 (w.1 o 7 + 1)).2 13 = w.2 13 := by
    show (w_en1 w x y).2 13 = _
    unfold w_en1
    show (w_fs (w_fs (w_fs (w_fs (w_fs (w_fs w 3 x) 4 y) 6 (w.1 17 3)) 7 (w.1 17 5)) 8 (w.1 17 4)) 9 (w.1 41 15)).2 13 = _
    rw [w_fs2 _ _ _ (by decide), w_fs2 _ _ _ (by decide), w_fs2 _ _ _ (by decide), w_fs2 _ _ _ (by decide), w_fs2 _ _ _ (by decide), w_fs2 _ _ _ (by decide)]
  have X37 : (w_f (w_en1 w x y) o 7 (w.1 o 7 + 1)).2 37 = w.2 37 := by
    show (w_en1 w x y).2 37 = _
    unfold w_en1
    show (w_fs (w_fs (w_fs (w_fs (w_fs (w_fs w 3 x) 4 y) 6 (w.1 17 3)) 7 (w.1 17 5)) 8 (w.1 17 4)) 9 (w.1 41 15)).2 37 = _
    rw [w_fs2 _ _ _ (by decide), w_fs2 _ _ _ (by decide), w_fs2 _ _ _ (by decide), w_fs2 _ _ _ (by decide), w_fs2 _ _ _ (by decide), w_fs2 _ _ _ (by decide)]
  have X5 : (w_f (w_en1 w x y) o 7 (w.1 o 7 + 1)).2 5 = w.2 5 := by
    show (w_en1 w x y).2 5 = _
    unfold w_en1
    show (w_fs (w_fs (w_fs (w_fs (w_fs (w_fs w 3 x) 4 y) 6 (w.1 17 3)) 7 (w.1 17 5)) 8 (w.1 17 4)) 9 (w.1 41 15)).2 5 = _
    rw [w_fs2 _ _ _ (by decide), w_fs2 _ _ _ (by decide), w_fs2 _ _ _ (by decide), w_fs2 _ _ _ (by decide), w_fs2 _ _ _ (by decide), w_fs2 _ _ _ (by decide)]
  have X42 : (w_f (w_en1 w x y) o 7 (w.1 o 7 + 1)).2 42 = w.2 42 := by
    show (w_en1 w x y).2 42 = _
    unfold w_en1
    show (w_fs (w_fs (w_fs (w_fs (w_fs (w_fs w 3 x) 4 y) 6 (w.1 17 3)) 7 (w.1 17 5)) 8 (w.1 17 4)) 9 (w.1 41 15)).2 42 = _
    rw [w_fs2 _ _ _ (by decide), w_fs2 _ _ _ (by decide), w_fs2 _ _ _ (by decide), w_fs2 _ _ _ (by decide), w_fs2 _ _ _ (by decide), w_fs2 _ _ _ (by decide)]
  have X12 : (w_f (w_en1 w x y) o 7 (w.1 o 7 + 1)).1 41 12 = w.1 41 12 := by
    show (if 41 = o ∧ 12 = 7 then w.1 o 7 + 1 else (w_en1 w x y).1 41 12) = _
    rw [if_neg (by omega)]
    rfl
  have eln : w_g (w_f (w_en1 w x y) o 7 (w.1 o 7 + 1)) 37 ((id' : Int) * 9 + 7) - 1 = w_g w 37 ((id' : Int) * 9 + 7) - 1 := by rw [wg_w, wg_w, X37]
  have epn : w_g (w_f (w_en1 w x y) o 7 (w.1 o 7 + 1)) 5 (id' : Int) % 10 = n % 10 := by rw [wg_w, X5, ← wg_w, i3]
  have ehx : w_h (w_f (w_en1 w x y) o 7 (w.1 o 7 + 1)) x 1 = pH (w.2 13) x 1 := by rw [pH_w, X13]
  have hW42 : (w_en w x y id' o).2 42 = (w_a (if w_g w 37 ((id' : Int) * 9 + 7) - 1 = -1 then w_scp (w_f (w_en1 w x y) o 7 (w.1 o 7 + 1)) (pH (w.2 13) x 1) else w_a (w_scp (w_f (w_en1 w x y) o 7 (w.1 o 7 + 1)) (pH (w.2 13) x 1)) 42 ((w.1 41 12 + 1) * 10 + (w_g w 37 ((id' : Int) * 9 + 7) - 1)).toNat x) 42 ((w.1 41 12 + 1) * 10 + n % 10).toNat y).2 42 := by
    unfold w_en w_en2
    rw [eln, epn, ehx, X12]
    rfl
  generalize w_f (w_en1 w x y) o 7 (w.1 o 7 + 1) = X at *
  -- the chain
  have hY : ∀ k, (w_fill (w_f X 41 12 (X.1 41 12 + 1)) 42 ((X.1 41 12 + 1) * 10).toNat ((X.1 41 12 + 1) * 10 + 10).toNat 20005).2 42 k = if (w.1 41 12 + 1) * 10 ≤ (k : Int) ∧ (k : Int) < (w.1 41 12 + 1) * 10 + 10 then 20005 else w.2 42 k := fun k => by
    rw [X12, ← X42]
    show (if 42 = 42 ∧ ((w.1 41 12 + 1) * 10).toNat ≤ k ∧ k < ((w.1 41 12 + 1) * 10 + 10).toNat then (20005 : Int) else X.2 42 k) = _
    by_cases c : (w.1 41 12 + 1) * 10 ≤ (k : Int) ∧ (k : Int) < (w.1 41 12 + 1) * 10 + 10
    · rw [if_pos c, if_pos ⟨rfl, by omega, by omega⟩]
    · rw [if_neg c, if_neg (by omega)]
  have hY13 : (w_fill (w_f X 41 12 (X.1 41 12 + 1)) 42 ((X.1 41 12 + 1) * 10).toNat ((X.1 41 12 + 1) * 10 + 10).toNat 20005).2 13 = w.2 13 := (w_fill_2ne _ _ _ _ (by decide)).trans X13
  have hS : w_scp X (pH (w.2 13) x 1) = w_bind 10 (w_fill (w_f X 41 12 (X.1 41 12 + 1)) 42 ((X.1 41 12 + 1) * 10).toNat ((X.1 41 12 + 1) * 10 + 10).toNat 20005) (w.1 41 12 + 1) (pH (w.2 13) x 1) := by
    unfold w_scp
    rw [X12]
  generalize w_fill (w_f X 41 12 (X.1 41 12 + 1)) 42 ((X.1 41 12 + 1) * 10).toNat ((X.1 41 12 + 1) * 10 + 10).toNat 20005 = Y at *
  rw [hcl] at pc
  obtain ⟨B1, B2⟩ := bind_get (F := fW w) (s := w.1 41 12 + 1) (by omega) h0 10 10 (pH (w.2 13) x 1) Y (Nat.le_refl _) (Nat.le_refl _) hY13 pc
  rw [← hS] at B1 B2
  generalize w_scp X (pH (w.2 13) x 1) = Z at *
  have gcl : ∀ k, k < 10 → n_get cl k = if e_use e k = true then E0 k else none := fun k hk => by
    rw [hcl, n_get_clos]
    by_cases c : e_use e k = true
    · rw [if_pos ⟨hk, c⟩, if_pos c]
    · rw [if_neg (fun q => c q.2), if_neg c]
  have idx : ∀ k : Nat, ((w.1 41 12 + 1) * 10 + (k : Int)).toNat = (w.1 41 12 + 1).toNat * 10 + k := fun k => by omega
  have ua : ∀ (A : W_) (q : Nat) (z : Int) (k : Nat), (w_a A 42 q z).2 42 k = if k = q then z else A.2 42 k := fun A q z k => by
    show w_u A.2 42 q z 42 k = _
    rw [w_u_at]
    by_cases c : k = q
    · rw [if_pos ⟨rfl, c⟩, if_pos c]
    · rw [if_neg (fun h => c h.2), if_neg c]
  have hZ : ∀ k, k < 10 → match n_get cl k with
      | none => Z.2 42 ((w.1 41 12 + 1).toNat * 10 + k) = 20005
      | some u => vW_ w u (Z.2 42 ((w.1 41 12 + 1).toNat * 10 + k)) := fun k hk => by
    obtain ⟨A1, A2⟩ := B1 k hk
    rw [idx] at A1 A2
    rw [gcl k hk]
    by_cases c : e_use e k = true
    · rw [if_pos c]
      cases q : E0 k with
      | none =>
        show Z.2 42 _ = 20005
        rw [A2 (fun _ _ => q), hY, if_pos ⟨by omega, by omega⟩]
      | some u => exact A1 u hk c q
    · rw [if_neg c]
      show Z.2 42 _ = 20005
      rw [A2 (fun _ h => absurd h c), hY, if_pos ⟨by omega, by omega⟩]
  have hpar10 : e_par e < 10 := by omega
  have ipar : ((w.1 41 12 + 1) * 10 + n % 10).toNat = (w.1 41 12 + 1).toNat * 10 + e_par e := by rw [← epar]; exact idx _
  rw [hW42, ipar]
  have hlow : ∀ k : Nat, (k : Int) < 10 * (w.1 41 12 + 1) → Z.2 42 k = w.2 42 k := fun k hk => by
    rw [B2 k (Or.inl (by omega)), hY, if_neg (by omega)]
  cases ow : e_own e with
  | none =>
    rw [ow] at hown
    have hown : w_g w 37 ((id' : Int) * 9 + 7) - 1 = -1 := hown
    rw [if_pos hown]
    refine ⟨fun m hm => ?_, fun k hk => by rw [ua, if_neg (by omega)]; exact hlow k hk⟩
    have eb : n_body e cl v fn m = if m = e_par e then some v else n_get cl m := by
      unfold n_body
      rw [ow]
      rfl
    rw [eb, ua]
    by_cases c : m = e_par e
    · rw [if_pos c, if_pos (by rw [c])]
      exact hv
    · rw [if_neg c, if_neg (by omega)]
      exact hZ m hm
  | some j =>
    rw [ow] at hown
    have hown : w_g w 37 ((id' : Int) * 9 + 7) - 1 = (j : Int) := hown
    have hj : j < 10 := by
      rw [he0] at ow
      rcases hs1 (by decide) with q | ⟨z, q, z1, z2⟩
      · rw [q] at ow; cases ow
      · rw [q] at ow
        have ow : some z.toNat = some j := ow
        injection ow with ow
        omega
    rw [if_neg (by omega), hown, idx j]
    refine ⟨fun m hm => ?_, fun k hk => by rw [ua, if_neg (by omega), ua, if_neg (by omega)]; exact hlow k hk⟩
    have eb : n_body e cl v fn m = if m = e_par e then some v else if m = j then some fn else n_get cl m := by
      unfold n_body
      rw [ow]
      rfl
    have er : (w_a (w_a Z 42 ((w.1 41 12 + 1).toNat * 10 + j) x) 42 ((w.1 41 12 + 1).toNat * 10 + e_par e) y).2 42 ((w.1 41 12 + 1).toNat * 10 + m) = if m = e_par e then y else if m = j then x else Z.2 42 ((w.1 41 12 + 1).toNat * 10 + m) := by
      rw [ua, ua]
      by_cases c : m = e_par e
      · rw [if_pos c, if_pos (by rw [c])]
      · rw [if_neg c]
        by_cases c2 : m = j
        · rw [if_pos c2, if_neg (by omega), if_pos (by rw [c2])]
        · rw [if_neg c2, if_neg (by omega), if_neg (by omega)]
    rw [er]
    by_cases c : m = e_par e
    · rw [if_pos c] at eb
      rw [eb, if_pos c]
      exact hv
    · rw [if_neg c] at eb
      rw [if_neg c]
      by_cases c2 : m = j
      · rw [if_pos c2] at eb
        rw [eb, if_pos c2]
        exact hf
      · rw [if_neg c2] at eb
        rw [eb, if_neg c2]
        exact hZ m hm
theorem ex_ct {V : W_} {x y : Int} {fn e cl : T_} {id : Nat} (H : CR C sil o a0 D K0 s V) (hrow : -1 ≤ V.1 41 12 ∧ V.1 41 12 ≤ 2000) (hfn : fn = .tag 12 (.append e cl)) (hid : e_id e = id) (hf : cV V fn x) (h1 : 1 ≤ V.1 33 1 ∧ V.1 33 1 < 24000) : ww_Ct 98 5 [.inr (.inr (.inl 41)), .inl x, .inl y] V fun r w' => r = none ∧ w' = w_en V x y id o := by
  have Ha := H.1
  have hcn := H.2.2.1.2.2.2
  rw [hfn] at hf
  obtain ⟨hN1, p3, ⟨⟨kk, n, id', a, b, c, hb', he0, hk, eRx⟩, tIx⟩, pc, ⟨E0, hcl⟩, hk16⟩ := hf
  have eid : id' = id := by rw [he0] at hid; exact hid
  have k16 : kk = 16 := by rw [he0] at hk16; exact hk16
  subst eid k16
  have he : eW V 0 hb' e := ⟨eRx, tIx⟩
  rw [he0] at he
  have heR := he.1
  obtain ⟨-, -, -, -, -, -, -, -, hs1, -⟩ := heR
  obtain ⟨⟨i1, i2, i3, i4, i5, i6⟩, -, -, -, -, -, hu⟩ := eW_ce he
  obtain ⟨-, -, hown⟩ := hu (Or.inl rfl)
  have hown := hown rfl
  have hx0 := hN1.1
  rw [hcl] at pc
  have hln : -1 ≤ w_g V 37 ((id' : Int) * 9 + 7) - 1 ∧ w_g V 37 ((id' : Int) * 9 + 7) - 1 < 10 := by
    rw [hown]
    cases ow : e_own (ce 16 n id' a b c) with
    | none => exact ⟨by decide, by decide⟩
    | some j =>
      have hj : j < 10 := by
        rcases hs1 (by decide) with q | ⟨z, q, z1, z2⟩
        · rw [q] at ow; cases ow
        · rw [q] at ow
          have ow : some z.toNat = some j := ow
          injection ow with ow
          omega
      show -1 ≤ (j : Int) ∧ (j : Int) < 10
      omega
  rw [hid] at p3
  exact lk_98 (id := (id' : Int)) (o := o) Ha.1.2 Ha.1.1 h1 ⟨by omega, by omega⟩ p3 ⟨by omega, by omega⟩ ⟨by omega, by omega⟩ (cn_of hcn.1.1 (by omega) 10 10 _ (Nat.le_refl _) (Nat.le_refl _) pc) hln (by omega)
/-- a rule's body begins -/
theorem RD_ex {V : W_} {x y : Int} {fn v e cl : T_} {id : Nat} (H : CR C sil o a0 False K0 s V) (hfl : flO C (V.2 3) (V.2 5) (V.2 7) ∧ (False ∨ g0 (V.2 7))) (h183 : V.2 3 183 = 0) (hcnt : 0 ≤ V.1 33 1 ∧ V.1 33 1 ≤ 19990 + 2 * s_tb s) (hrow : V.1 41 12 = -1) (hlt : s_lt s ≤ s_b s) (hfn : fn = .tag 12 (.append e cl)) (hid : e_id e = id) (hf : vW_ V fn x) (hv : vW_ V v y) (hd : s_dp s = 0) (hr : s_rw s < 2040) : RD C sil o a0 False K0 false (u_rw (u_rn (u_dp s 1) (s_rn s + 1) (s_tk s)) (s_rw s + 1)) (n_body e cl v fn) (w_en V x y id o) ∧ xP V (w_en V x y id o) := by
  obtain ⟨Ha, Hb, Hc, Hm⟩ := H
  have ho := Ha.1.1
  have hoK : oK V := by
    have e : w_o V = o := by unfold w_o; rw [Ha.1.2]; rfl
    unfold oK
    rw [e]
    exact ho
  have h0 := Hc.2.2.2.1.1
  have E1 : ∀ a j, ¬ (a = 41 ∧ (j = 10 ∨ j = 12 ∨ j = 14 ∨ j = 15 ∨ j = 16)) → ¬ (a = o ∧ j = 7) → (w_en V x y id o).1 a j = V.1 a j := fun a j q1 q2 => by
    rw [en_1 ho, if_neg (by omega), if_neg (by omega), if_neg q2, if_neg (by omega), if_neg (by omega)]
  have E14 : (w_en V x y id o).1 41 14 = V.1 41 14 + 1 := by rw [en_1 ho, if_neg (by decide), if_neg (by decide), if_neg (by omega), if_neg (by decide), if_pos (by decide)]
  have E15 : (w_en V x y id o).1 41 15 = V.1 41 14 + 1 := by rw [en_1 ho, if_neg (by decide), if_neg (by decide), if_neg (by omega), if_neg (by decide), if_pos (by decide)]
  have E16 : (w_en V x y id o).1 41 16 = V.1 17 4 := by rw [en_1 ho, if_neg (by decide), if_neg (by decide), if_neg (by omega), if_pos ⟨rfl, rfl⟩]
  have E12 : (w_en V x y id o).1 41 12 = V.1 41 12 + 1 := by rw [en_1 ho, if_neg (by decide), if_pos ⟨rfl, rfl⟩]
  have E7 : (w_en V x y id o).1 o 7 = V.1 o 7 + 1 := by rw [en_1 ho, if_neg (by omega), if_neg (by omega), if_pos ⟨rfl, rfl⟩]
  have E2 : ∀ b, b ≠ 34 → b ≠ 42 → (w_en V x y id o).2 b = V.2 b := fun b q1 q2 => en_2 q1 q2
  obtain ⟨N1, N2⟩ := en_43 (o := o) ho hfn hid (by omega) h0 hf hv
  have eo : w_o V = o := by unfold w_o; rw [Ha.1.2]; rfl
  have X : xP V (w_en V x y id o) := by
    refine ⟨⟨by rw [E1 13 2 (by omega) (by omega)]; exact Int.le_refl _, fun k _ => by rw [E2 13 (by decide) (by decide)]⟩, fun j => E1 50 j (by omega) (by omega), ⟨E2 _ (by decide) (by decide), E2 _ (by decide) (by decide), E2 _ (by decide) (by decide), E2 _ (by decide) (by decide), E2 _ (by decide) (by decide), E2 _ (by decide) (by decide), by rw [E1 17 3 (by omega) (by omega)]; exact Int.le_refl _, fun k _ => by rw [E2 22 (by decide) (by decide)], rQ_1 (fun a j q => E1 a j (by omega) (by omega)) (fun b q => E2 b (by omega) (by omega))⟩, ⟨E1 _ _ (by omega) (by omega), E2 _ (by omega) (by omega), E1 _ 4 (by omega) (by omega)⟩, fun m hb t q => ?_⟩
    unfold eW0 at q ⊢
    rw [E2 3 (by decide) (by decide), E2 5 (by decide) (by decide), E2 37 (by decide) (by decide), E2 46 (by decide) (by decide), E2 7 (by decide) (by decide)]
    exact q
  generalize w_en V x y id o = W at *
  refine ⟨⟨⟨?_, ?_, ?_, ?_⟩, fun m hm => ?_, fun q => Bool.noConfusion q, ?_, ?_, hlt, ?_, ?_⟩, X⟩
  · unfold CRa at Ha ⊢
    rw [E1 17 7 (by omega) (by omega), E1 17 4 (by omega) (by omega), E1 17 5 (by omega) (by omega), E1 17 6 (by omega) (by omega), E1 o 5 (by omega) (by omega), E2 (o + 3) (by omega) (by omega), E2 18 (by decide) (by decide)]
    exact Ha
  · unfold CRb at Hb ⊢
    obtain ⟨⟨n, n1, n2, n3, n4, n5⟩, ⟨b1, b2⟩, b3, b4, b5, b6⟩ := Hb
    rw [E1 17 3 (by omega) (by omega), E2 22 (by decide) (by decide), E14, E15, E16, E1 41 17 (by omega) (by omega)]
    refine ⟨⟨n, n1, n2, n3, n4, n5⟩, ⟨?_, ?_⟩, by omega, fun z => z.elim, ?_, b6⟩
    · show V.1 41 14 + 1 = ((1 : Nat) : Int)
      omega
    · show 1 ≤ 8
      decide
    · have z := Ha.2.1.1
      have y := Hc.2.2.2.2
      unfold am_rg
      omega
  · unfold CRc fW0 at Hc ⊢
    obtain ⟨⟨c1, c2, c3⟩, c4, c5, c6, c7, c8, c9, c10, c11, c12⟩ := Hc
    rw [E7, E1 o 8 (by omega) (by omega), E1 13 2 (by omega) (by omega), E2 46 (by decide) (by decide), E2 13 (by decide) (by decide), E2 3 (by decide) (by decide), E2 5 (by decide) (by decide), E2 37 (by decide) (by decide), E2 44 (by decide) (by decide), E2 7 (by decide) (by decide)]
    refine ⟨⟨fun q => ⟨?_, (c1 q).2⟩, c2, c3⟩, c4, c5, c6, c7, c8, hr, c10, c11, c12⟩
    show V.1 o 7 + 1 = ((s_rn s + 1 : Nat) : Int)
    rw [(c1 q).1]
    rfl
  · unfold CRm at Hm ⊢
    rw [E1 10 1 (by omega) (by omega), E1 13 2 (by omega) (by omega), E1 13 3 (by omega) (by omega), E2 11 (by decide) (by decide), E2 13 (by decide) (by decide), E2 3 (by decide) (by decide), E2 5 (by decide) (by decide), E2 7 (by decide) (by decide)]
    exact Hm
  · have h9 := N1 m hm
    rw [E12]
    cases q : n_body e cl v fn m with
    | none => rw [q] at h9; exact h9
    | some u => rw [q] at h9; exact vW_x X h0 h9
  · rw [E1 33 1 (by omega) (by omega)]
    exact hcnt
  · rw [E12]
    refine ⟨by omega, ?_⟩
    show V.1 41 12 + 1 ≤ ((s_rw s + 1 : Nat) : Int)
    omega
  · rw [E2 3 (by decide) (by decide)]; exact h183
  · rw [E2 3 (by decide) (by decide), E2 5 (by decide) (by decide), E2 7 (by decide) (by decide)]; exact hfl
end
