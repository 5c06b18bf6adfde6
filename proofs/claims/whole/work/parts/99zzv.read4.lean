/-! ===== reading a file: the turns ===== -/
abbrev rl (P : Option am_V → W_ → Prop) (fl i : Int) (w : W_) : Prop := ww_Z 10 3 10 0 cX10_read none P 86 [.inr (.inr (.inl 36)), .inl fl, .inl i] [] w
/-- where the next item's place is written -/
def lnk (o x : Int) : Nat := (if x = 0 then o * 9 else (x - 1) * 9 + 3).toNat
/-- what is written of an expression -/
def uP (a : Nat → Int) (q id : Nat) (ib ar : Int) (g : Option Int) : Nat → Int := fun k => if k = id * 9 + 7 then (match g with
  | some y => y
  | none => a k) else if k = id * 9 + 8 then ar else if k = id * 9 + 6 then ib else if k = q then (id : Int) + 1 else a k
section
variable {w0 : W_} {f z : Nat} {st : List SE} {p : Nat} {l : List Int} {w : W_} {t o x s ib ar i : Int} {P : Option am_V → W_ → Prop}
theorem rd_i (H0 : FI w0 f z) (H : RI w0 f z ((t, o, x, ib, ar) :: st) p l w) (ht : t = 0 ∨ t = 1) (L : p < z → ww_Z 10 6 8 0 cX10_readItem none P 81 [.inr (.inr (.inl 36)), .inl t, .inl o, am_X, am_X, am_X] [] w) (L' : z ≤ p → ww_Z 10 6 8 0 cX10_readItem none P 39 [.inr (.inr (.inl 36)), .inl t, .inl o, am_X, am_X, am_X] [] w) : ww_Ct 136 8 [.inr (.inr (.inl 36))] w P := by
  obtain ⟨c, m, g0, g1, g2, g3, g4⟩ := RI_top H0 H
  obtain ⟨kn, e3, e5, e7, -⟩ := RI_fl H0 H
  obtain ⟨-, ⟨h4, h5, h6⟩, ⟨-, -, hz⟩, -⟩ := H
  obtain ⟨-, ⟨f3, z6, hz7⟩, -⟩ := H0
  refine lk_136a (v := t) ⟨by omega, by omega⟩ m g0 (by unfold am_rg; omega) fun fg hfg => ?_
  have hfg : fg = t := by rw [hfg]; split <;> omega
  rw [hfg]
  refine lk_136b ⟨by omega, by omega⟩ m g1 ?_
  have ez : w_g w 7 (f : Int) = (z : Int) := by rw [w_g_0 w 7 rfl, e7]; exact hz7
  exact lk_136c (p := p) (z := z) (fl := f) h6 h5 (by unfold am_rg; omega) ez ⟨by unfold am_rg; omega, by unfold am_rg; omega⟩ (fun q => L (by omega)) (fun q => L' (by omega))
/-- the end of the file in an item's turn -/
theorem rd_i1 (H0 : FI w0 f z) (H : RI w0 f z ((t, o, x, ib, ar) :: st) p l w) (ht : t = 0 ∨ t = 1) (ho : 0 ≤ o ∧ o < 184) (hp : z ≤ p) : ww_Ct 136 8 [.inr (.inr (.inl 36))] w fun r w' => r = none ∧ RI w0 f z st p (if 180 ≤ o then l else l ++ [100000 * 2 + (10000 * (f : Int) + 100 * (p : Int))]) w' ∧ w'.2 37 = w.2 37 := by
  refine rd_i H0 H ht (fun q => absurd hp (by omega)) fun _ => ?_
  obtain ⟨c, -⟩ := RI_top H0 H
  obtain ⟨kn, -⟩ := RI_fl H0 H
  have hz := H.2.2.1.2.2
  obtain ⟨h4, h5, h6⟩ := H.2.1
  obtain ⟨f3, z6, -⟩ := H0.2.1
  by_cases c8 : 180 ≤ o
  · rw [if_pos c8]
    exact lk_136d2 (n := w.1 36 4) rfl ⟨by omega, by omega⟩ h6 h5 c8 (by unfold am_rg; omega) ⟨rfl, RI_4 H rfl, rfl⟩
  · rw [if_neg c8]
    refine lk_136e (p := p) (fl := f) h6 h5 ⟨ho.1, by omega⟩ kn ⟨by omega, by omega⟩ ⟨by omega, by omega⟩ ?_
    have n1 : (w_nt w (100000 * 2 + (10000 * (f : Int) + 100 * (p : Int)))).1 36 4 = w.1 36 4 := w_nt_1 kn (by decide)
    exact lk_136f (n := w.1 36 4) n1 ⟨by omega, by omega⟩ ⟨rfl, RI_4 (RI_nt H0 H) (by rw [n1]), w_nt_2 kn (by decide)⟩
theorem rd_i114 {κ : Int} (H0 : FI w0 f z) (H : RI w0 f z ((t, o, x, ib, ar) :: st) p l w) (ht : t = 0 ∨ t = 1) (hp : p < z) (hk : w0.2 3 (60 * f + p) = κ) (L : ∀ W, RI w0 f z ((t, o, x, ib, ar) :: st) (p + 1) l W → W.2 37 = w.2 37 → ww_Z 10 6 8 0 cX10_readItem none P 114 [.inr (.inr (.inl 36)), .inl t, .inl o, .inl ((60 * f + p : Nat) : Int), .inl κ, am_X] [] W) : ww_Ct 136 8 [.inr (.inr (.inl 36))] w P := by
  refine rd_i H0 H ht (fun _ => ?_) fun q => absurd hp (by omega)
  obtain ⟨kn, e3, -⟩ := RI_fl H0 H
  obtain ⟨h4, h5, h6⟩ := H.2.1
  obtain ⟨f3, z6, -⟩ := H0.2.1
  refine lk_136g (p := p) (fl := f) (id := ((60 * f + p : Nat) : Int)) (k := κ) h6 h5 (by omega) ⟨by omega, by omega⟩ ⟨by omega, by omega⟩ (by rw [w_g_0 w 3 rfl, e3]; exact hk) ?_
  exact L _ (RI_6 H rfl hp) rfl
/-- END -/
theorem rd_i2 (H0 : FI w0 f z) (H : RI w0 f z ((t, o, x, ib, ar) :: st) p l w) (ht : t = 0 ∨ t = 1) (ho : 0 ≤ o ∧ o < 180) (hp : p < z) (hk : w0.2 3 (60 * f + p) = 5) : ww_Ct 136 8 [.inr (.inr (.inl 36))] w fun r w' => r = none ∧ RI w0 f z st (p + 1) l w' ∧ w'.2 37 = w.2 37 := by
  refine rd_i114 H0 H ht hp hk fun W HW eW => ?_
  obtain ⟨c, -⟩ := RI_top H0 HW
  exact lk_136h (n := W.1 36 4) rfl ⟨by omega, by omega⟩ (by decide) ⟨ho.1, by omega⟩ (fun _ _ => ⟨rfl, RI_4 HW rfl, eW⟩) fun q => absurd ⟨rfl, ho.2⟩ q
/-- what fits, and what doesn't -/
theorem rd_i138 {κ : Int} (H0 : FI w0 f z) (H : RI w0 f z ((t, o, x, ib, ar) :: st) p l w) (ht : t = 0 ∨ t = 1) (ho : 0 ≤ o ∧ o < 184) (hp : p < z) (hk : w0.2 3 (60 * f + p) = κ) (hn : ¬ (κ = 5 ∧ o < 180)) (L : ∀ W, RI w0 f z ((t, o, x, ib, ar) :: st) (p + 1) l W → W.2 37 = w.2 37 → (κ = 0 ∨ κ = 3 ∨ (t = 0 ∧ κ < 5)) → ww_Z 10 6 8 0 cX10_readItem none P 175 [.inr (.inr (.inl 36)), .inl t, .inl o, .inl ((60 * f + p : Nat) : Int), .inl κ, am_X] [] W) (L' : ∀ W, RI w0 f z ((t, o, x, ib, ar) :: st) (p + 1) l W → W.2 37 = w.2 37 → ¬ (κ = 0 ∨ κ = 3 ∨ (t = 0 ∧ κ < 5)) → ww_Z 10 6 8 0 cX10_readItem none P 162 [.inr (.inr (.inl 36)), .inl t, .inl o, .inl ((60 * f + p : Nat) : Int), .inl κ, am_X] [] W) : ww_Ct 136 8 [.inr (.inr (.inl 36))] w P := by
  refine rd_i114 H0 H ht hp hk fun W HW eW => ?_
  obtain ⟨c, -⟩ := RI_top H0 HW
  obtain ⟨f3, z6, -⟩ := H0.2.1
  have kk := H0.2.2 (60 * f + p) (by omega)
  rw [hk] at kk
  refine lk_136h (n := W.1 36 4) rfl ⟨by omega, by omega⟩ ⟨kk.1, kk.2.1⟩ ho (fun q r => absurd ⟨q, r⟩ hn) fun _ => ?_
  rcases ht with rfl | rfl
  · exact lk_136i0 ⟨kk.1, kk.2.1⟩ (fun q => L' W HW eW (by omega)) fun q => L W HW eW (by omega)
  · exact lk_136i1 ⟨kk.1, kk.2.1⟩ (fun q => L' W HW eW (by omega)) fun q => L W HW eW (by omega)
/-- a token that doesn't fit -/
theorem rd_i3 {κ : Int} (H0 : FI w0 f z) (H : RI w0 f z ((t, o, x, ib, ar) :: st) p l w) (ht : t = 0 ∨ t = 1) (ho : 0 ≤ o ∧ o < 184) (hp : p < z) (hk : w0.2 3 (60 * f + p) = κ) (hn : ¬ (κ = 5 ∧ o < 180)) (hb : ¬ (κ = 0 ∨ κ = 3 ∨ (t = 0 ∧ κ < 5))) : ww_Ct 136 8 [.inr (.inr (.inl 36))] w fun r w' => r = none ∧ RI w0 f z ((t, o, x, ib, ar) :: st) (p + 1) (l ++ [100000 * 1 + (10000 * (f : Int) + 100 * (p : Int))]) w' ∧ w'.2 37 = w.2 37 := by
  refine rd_i138 H0 H ht ho hp hk hn (fun _ _ _ q => absurd q hb) fun W HW eW _ => ?_
  obtain ⟨kn, -⟩ := RI_fl H0 HW
  obtain ⟨f3, z6, -⟩ := H0.2.1
  have e : (100000 * 1 + (10000 * (((60 * f + p : Nat) : Int) / 60) + 100 * (((60 * f + p : Nat) : Int) % 60))) = 100000 * 1 + (10000 * (f : Int) + 100 * (p : Int)) := by omega
  refine lk_136j kn ⟨by omega, by omega⟩ ?_
  rw [e]
  exact ⟨rfl, RI_nt H0 HW, (w_nt_2 kn (by decide)).trans eW⟩
/-- an item, up to what follows of it -/
theorem rd_i188 {κ : Int} (H0 : FI w0 f z) (H : RI w0 f z ((t, o, x, ib, ar) :: st) p l w) (ht : t = 0 ∨ t = 1) (ho : 0 ≤ o ∧ o < 184) (hx : 0 ≤ x ∧ x < 184) (hlk : lnk o x < (60 * f + p + 1) * 9 ∨ 1620 ≤ lnk o x) (hp : p < z) (hk : w0.2 3 (60 * f + p) = κ) (hb : κ = 0 ∨ κ = 3 ∨ (t = 0 ∧ κ < 5)) (L : ∀ W, RI w0 f z ((t, o, ((60 * f + p : Nat) : Int) + 1, ib, ar) :: st) (p + 1) l W → (∀ k, W.2 37 k = if k = lnk o x then ((60 * f + p : Nat) : Int) + 1 else w.2 37 k) → ww_Z 10 6 8 0 cX10_readItem none P 188 [.inr (.inr (.inl 36)), .inl t, .inl o, .inl ((60 * f + p : Nat) : Int), .inl κ, .inl ar] [] W) : ww_Ct 136 8 [.inr (.inr (.inl 36))] w P := by
  refine rd_i138 H0 H ht ho hp hk (by omega) (fun W HW eW _ => ?_) fun _ _ _ q => absurd hb q
  obtain ⟨c, m, g0, g1, g2, g3, g4⟩ := RI_top H0 HW
  obtain ⟨f3, z6, -⟩ := H0.2.1
  have hl := HW.2.2.1.2.1
  rw [List.length_cons] at hl
  refine lk_136k ⟨by omega, by omega⟩ m g4 ?_
  refine lk_136l (lk_137 (q := ((5 * st.length : Nat) : Int) + 2) (g := x) (by rw [m]) ⟨by omega, by omega⟩ ho ⟨by omega, by omega⟩ g2 hx) ?_
  have e2 : ((if x = 0 then o * 9 else (x - 1) * 9 + 3) : Int).toNat = lnk o x := rfl
  rw [e2]
  refine L _ (RI_39 (RI_37 HW fun q s q1 q2 q3 => by omega) (by omega)) fun k => ?_
  rw [w_a_2ne _ _ _ (by decide), w_a2, w_u_at, eW]
  simp only [true_and]
theorem rd_i4 {κ : Int} (H0 : FI w0 f z) (H : RI w0 f z ((t, o, x, ib, ar) :: st) p l w) (ht : t = 0 ∨ t = 1) (ho : 0 ≤ o ∧ o < 184) (hx : 0 ≤ x ∧ x < 184) (hlk : lnk o x < (60 * f + p + 1) * 9 ∨ 1620 ≤ lnk o x) (hp : p < z) (hk : w0.2 3 (60 * f + p) = κ) (hb : κ = 0 ∨ (t = 0 ∧ κ < 3)) : ww_Ct 136 8 [.inr (.inr (.inl 36))] w fun r w' => r = none ∧ RI w0 f z ((t, o, ((60 * f + p : Nat) : Int) + 1, ib, ar) :: st) (p + 1) l w' ∧ ∀ k, w'.2 37 k = if k = lnk o x then ((60 * f + p : Nat) : Int) + 1 else w.2 37 k := by
  obtain ⟨f3, z6, -⟩ := H0.2.1
  have kk := H0.2.2 (60 * f + p) (by omega)
  rw [hk] at kk
  exact rd_i188 H0 H ht ho hx hlk hp hk (by omega) fun W HW eW => lk_136m0 (by omega) ⟨rfl, HW, eW⟩
/-- CODE in a text or a formula -/
theorem rd_i5 (H0 : FI w0 f z) (H : RI w0 f z ((t, o, x, ib, ar) :: st) p l w) (ht : t = 0 ∨ t = 1) (ho : 0 ≤ o ∧ o < 184) (hx : 0 ≤ x ∧ x < 184) (hlk : lnk o x < (60 * f + p + 1) * 9 ∨ 1620 ≤ lnk o x) (hp : p < z) (hk : w0.2 3 (60 * f + p) = 3) : ww_Ct 136 8 [.inr (.inr (.inl 36))] w fun r w' => r = none ∧ RI w0 f z ((2, ((60 * f + p : Nat) : Int), 0, 1 - t, ar) :: (t, o, ((60 * f + p : Nat) : Int) + 1, ib, ar) :: st) (p + 1) l w' ∧ ∀ k, w'.2 37 k = if k = lnk o x then ((60 * f + p : Nat) : Int) + 1 else w.2 37 k := by
  have hl := H.2.2.1.2.1
  rw [List.length_cons] at hl
  refine rd_i188 H0 H ht ho hx hlk hp hk (by omega) fun W HW eW => ?_
  obtain ⟨c, -⟩ := RI_top H0 HW
  rcases ht with rfl | rfl
  · exact lk_136m30 ⟨by omega, by omega⟩ ⟨rfl, RI_ex HW (by rw [List.length_cons]; omega), by rw [ex_37]; exact eW⟩
  · exact lk_136m31 ⟨by omega, by omega⟩ ⟨rfl, RI_ex HW (by rw [List.length_cons]; omega), by rw [ex_37]; exact eW⟩
/-- MATH in a text -/
theorem rd_i6 (H0 : FI w0 f z) (H : RI w0 f z ((0, o, x, ib, ar) :: st) p l w) (ho : 0 ≤ o ∧ o < 184) (hx : 0 ≤ x ∧ x < 184) (hlk : lnk o x < (60 * f + p + 1) * 9 ∨ 1620 ≤ lnk o x) (hp : p < z) (hk : w0.2 3 (60 * f + p) = 4) : ww_Ct 136 8 [.inr (.inr (.inl 36))] w fun r w' => r = none ∧ RI w0 f z ((1, ((60 * f + p : Nat) : Int), 0, 0, ar) :: (0, o, ((60 * f + p : Nat) : Int) + 1, ib, ar) :: st) (p + 1) l w' ∧ ∀ k, w'.2 37 k = if k = lnk o x then ((60 * f + p : Nat) : Int) + 1 else w.2 37 k := by
  have hl := H.2.2.1.2.1
  rw [List.length_cons] at hl
  refine rd_i188 H0 H (Or.inl rfl) ho hx hlk hp hk (by omega) fun W HW eW => ?_
  obtain ⟨c, -⟩ := RI_top H0 HW
  exact lk_136m4 ⟨by omega, by omega⟩ ⟨rfl, RI_ex HW (by rw [List.length_cons]; omega), by rw [ex_37]; exact eW⟩
/-- a part's turn, up to the kind -/
theorem rd_p85 (H0 : FI w0 f z) (H : RI w0 f z ((2, o, s, ib, ar) :: st) p l w) (L : ∀ W e k, RI w0 f z st p l W → W.2 37 = w.2 37 → (e = if z ≤ p then 1 else 0) → k = w0.2 3 (60 * f + p) → ww_Z 10 10 8 0 cX10_readPart none P 85 [.inr (.inr (.inl 36)), .inl o, .inl s, .inl ib, .inl ar, .inl ((60 * f + p : Nat) : Int), .inl e, .inl k, am_X, am_X] [] W) : ww_Ct 138 8 [.inr (.inr (.inl 36))] w P := by
  obtain ⟨c, m, g0, g1, g2, g3, g4⟩ := RI_top H0 H
  obtain ⟨kn, e3, e5, e7, -⟩ := RI_fl H0 H
  have HW := RI_4 (n := w.1 36 4 - 1) H rfl
  obtain ⟨-, ⟨h4, h5, h6⟩, ⟨-, -, hz⟩, -⟩ := H
  obtain ⟨-, ⟨f3, z6, hz7⟩, -⟩ := H0
  refine lk_138a ⟨by omega, by omega⟩ m g1 g2 g3 g4 ?_
  refine lk_138b (n := w.1 36 4) (p := p) (fl := f) (id := ((60 * f + p : Nat) : Int)) rfl ⟨by omega, by omega⟩ h6 h5 (by omega) ⟨by omega, by omega⟩ ⟨by omega, by omega⟩ ?_
  obtain ⟨-, ⟨j4, j5, j6⟩, -⟩ := id HW
  have ez : w_g (w_f w 36 4 (w.1 36 4 - 1)) 7 (f : Int) = (z : Int) := by rw [w_g_0 _ 7 rfl]; show w.2 7 f = _; rw [e7]; exact hz7
  refine lk_138c (p := p) (z := z) (fl := f) j6 j5 (by unfold am_rg; omega) ez ⟨by unfold am_rg; omega, by unfold am_rg; omega⟩ fun e he => ?_
  refine lk_138d (by unfold am_rg; omega) rfl ?_
  refine L _ e _ HW rfl (by rw [he]; split <;> split <;> omega) ?_
  rw [w_g_0 _ 3 rfl]
  show w.2 3 _ = _
  rw [e3]
/-- no part: the end of the file -/
theorem rd_p1 {on sn : Nat} (H0 : FI w0 f z) (H : RI w0 f z ((2, (on : Int), (sn : Int), ib, ar) :: st) p l w) (ho : 60 * f ≤ on ∧ on < 60 * f + p) (hs : sn < 3) (hp : z ≤ p) : ww_Ct 138 8 [.inr (.inr (.inl 36))] w fun r w' => r = none ∧ RI w0 f z st p (l ++ [100000 * 2 + (10000 * (f : Int) + 100 * (p : Int))]) w' ∧ ∀ k, w'.2 37 k = if k = on * 9 + sn then 184 else w.2 37 k := by
  have hpz := H.2.2.1.2.2
  obtain ⟨f3, z6, -⟩ := H0.2.1
  refine rd_p85 H0 H fun W e k HW eW he hk => ?_
  rw [if_pos hp] at he
  have kk := H0.2.2 (60 * f + p) (by omega)
  rw [← hk] at kk
  obtain ⟨kn, -⟩ := RI_fl H0 HW
  obtain ⟨h4, h5, h6⟩ := HW.2.1
  subst he
  refine lk_138e (by unfold am_rg; omega) (by unfold am_rg; omega) (fun _ => ?_) fun q => absurd q (by decide)
  refine lk_138f1 (p := p) (fl := f) kn h6 h5 ⟨by omega, by omega⟩ ⟨by omega, by omega⟩ ?_
  have HN := RI_nt (x := 100000 * 2 + (10000 * (f : Int) + 100 * (p : Int))) H0 HW
  refine lk_138g (p := p) (by unfold am_rg; omega) (by unfold am_rg; omega) HN.2.1.2.2 ⟨by omega, by omega⟩ (fun q => absurd q (by decide)) fun _ => ?_
  refine lk_138h (q := ((on * 9 + sn : Nat) : Int)) (by omega) ⟨by omega, by omega⟩ ⟨by omega, by omega⟩ ?_
  refine ⟨rfl, RI_37 HN fun q s' q1 q2 q3 => by omega, fun k => ?_⟩
  rw [w_a2, w_u_at, w_nt_2 kn (by decide), eW]
  simp only [true_and, Int.toNat_natCast]
/-- no part: a token of a text -/
theorem rd_p2 {on sn : Nat} {κ : Int} (H0 : FI w0 f z) (H : RI w0 f z ((2, (on : Int), (sn : Int), ib, ar) :: st) p l w) (ho : 60 * f ≤ on ∧ on < 60 * f + p) (hs : sn < 3) (hp : p < z) (hk : w0.2 3 (60 * f + p) = κ) (k6 : κ < 6) : ww_Ct 138 8 [.inr (.inr (.inl 36))] w fun r w' => r = none ∧ RI w0 f z st (if κ = 5 then p else p + 1) (l ++ [100000 * 1 + (10000 * (f : Int) + 100 * (p : Int))]) w' ∧ ∀ k, w'.2 37 k = if k = on * 9 + sn then 184 else w.2 37 k := by
  have hpz := H.2.2.1.2.2
  obtain ⟨f3, z6, -⟩ := H0.2.1
  refine rd_p85 H0 H fun W e k HW eW he hk' => ?_
  rw [if_neg (by omega)] at he
  have hk' : k = κ := hk'.trans hk
  have kk := H0.2.2 (60 * f + p) (by omega)
  rw [hk] at kk
  obtain ⟨kn, -⟩ := RI_fl H0 HW
  obtain ⟨h4, h5, h6⟩ := HW.2.1
  subst he
  rw [hk']
  refine lk_138e (by unfold am_rg; omega) (by unfold am_rg; omega) (fun _ => ?_) fun _ q => absurd q (by omega)
  refine lk_138f0 (p := p) (fl := f) kn h6 h5 ⟨by omega, by omega⟩ ⟨by omega, by omega⟩ ?_
  have HN := RI_nt (x := 100000 * 1 + (10000 * (f : Int) + 100 * (p : Int))) H0 HW
  have fin : ∀ k, (w_a (w_nt W (100000 * 1 + (10000 * (f : Int) + 100 * (p : Int)))) 37 ((on * 9 + sn : Nat) : Int).toNat 184).2 37 k = if k = on * 9 + sn then 184 else w.2 37 k := fun k => by
    rw [w_a2, w_u_at, w_nt_2 kn (by decide), eW]
    simp only [true_and, Int.toNat_natCast]
  refine lk_138g (p := p) (by unfold am_rg; omega) (by unfold am_rg; omega) HN.2.1.2.2 ⟨by omega, by omega⟩ (fun _ q => ?_) fun q => ?_
  · rw [if_neg q]
    refine lk_138h (q := ((on * 9 + sn : Nat) : Int)) (by omega) ⟨by omega, by omega⟩ ⟨by omega, by omega⟩ ?_
    exact ⟨rfl, RI_37 (RI_6 HN rfl hp) fun q s' q1 q2 q3 => by omega, fin⟩
  · rw [if_pos (by omega)]
    refine lk_138h (q := ((on * 9 + sn : Nat) : Int)) (by omega) ⟨by omega, by omega⟩ ⟨by omega, by omega⟩ ?_
    exact ⟨rfl, RI_37 HN fun q s' q1 q2 q3 => by omega, fin⟩
/-- a part, up to who looks at a name -/
theorem rd_p276 {on sn : Nat} {κ κo ν : Int} (H0 : FI w0 f z) (H : RI w0 f z ((2, (on : Int), (sn : Int), ib, ar) :: st) p l w) (ho : 60 * f ≤ on ∧ on < 60 * f + p) (hs : sn < 3) (hp : p < z) (hk : w0.2 3 (60 * f + p) = κ) (k6 : 6 ≤ κ) (hko : w0.2 3 on = κo) (hν : w0.2 5 on = ν) (L : ∀ W, RI w0 f z st (p + 1) l W → W.2 37 = uP (w.2 37) (on * 9 + sn) (60 * f + p) ib ar (if κ = 16 ∧ κo = 15 then some (ν % 10 + 1) else none) → ww_Z 10 10 8 0 cX10_readPart none P 276 [.inr (.inr (.inl 36)), .inl (on : Int), .inl (sn : Int), .inl ib, .inl ar, .inl ((60 * f + p : Nat) : Int), .inl 0, .inl κ, am_X, am_X] [] W) : ww_Ct 138 8 [.inr (.inr (.inl 36))] w P := by
  have hpz := H.2.2.1.2.2
  obtain ⟨f3, z6, -⟩ := H0.2.1
  refine rd_p85 H0 H fun W e k HW eW he hk' => ?_
  rw [if_neg (by omega)] at he
  have hk' : k = κ := hk'.trans hk
  have kk := H0.2.2 (60 * f + p) (by omega)
  rw [hk] at kk
  have kko := H0.2.2 on (by omega)
  rw [hko, hν] at kko
  obtain ⟨kn, e3, e5, -⟩ := RI_fl H0 HW
  obtain ⟨h4, h5, h6⟩ := HW.2.1
  subst he
  rw [hk']
  refine lk_138e (by unfold am_rg; omega) (by unfold am_rg; omega) (fun q => absurd q (by omega)) fun _ _ => ?_
  refine lk_138i (p := p) (q := ((on * 9 + sn : Nat) : Int)) h6 ⟨by omega, by omega⟩ (by omega) ⟨by omega, by omega⟩ ⟨by omega, by omega⟩ ⟨by omega, by omega⟩ ?_
  have H1 : RI w0 f z st (p + 1) l (w_a (w_f W 36 6 ((p : Int) + 1)) 37 ((on * 9 + sn : Nat) : Int).toNat (((60 * f + p : Nat) : Int) + 1)) := RI_37 (RI_6 HW rfl hp) fun q s' q1 q2 q3 => by omega
  have f1 : ∀ k, (w_a (w_f W 36 6 ((p : Int) + 1)) 37 ((on * 9 + sn : Nat) : Int).toNat (((60 * f + p : Nat) : Int) + 1)).2 37 k = if k = on * 9 + sn then ((60 * f + p : Nat) : Int) + 1 else w.2 37 k := fun k => by
    rw [w_a2, w_u_at, w_f2, eW]
    simp only [true_and, Int.toNat_natCast]
  generalize w_a (w_f W 36 6 ((p : Int) + 1)) 37 ((on * 9 + sn : Nat) : Int).toNat (((60 * f + p : Nat) : Int) + 1) = W1 at *
  refine lk_138j ⟨by omega, by omega⟩ ?_
  rw [show (((60 * f + p : Nat) : Int) * 9 + 6).toNat = (60 * f + p) * 9 + 6 by omega, show (((60 * f + p : Nat) : Int) * 9 + 8).toNat = (60 * f + p) * 9 + 8 by omega]
  have H2 : RI w0 f z st (p + 1) l (w_a (w_a W1 37 ((60 * f + p) * 9 + 6) ib) 37 ((60 * f + p) * 9 + 8) ar) := RI_37 (RI_37 H1 fun q s' q1 q2 q3 => by omega) fun q s' q1 q2 q3 => by omega
  have f2 : ∀ k, (w_a (w_a W1 37 ((60 * f + p) * 9 + 6) ib) 37 ((60 * f + p) * 9 + 8) ar).2 37 k = if k = (60 * f + p) * 9 + 8 then ar else if k = (60 * f + p) * 9 + 6 then ib else if k = on * 9 + sn then ((60 * f + p : Nat) : Int) + 1 else w.2 37 k := fun k => by
    rw [w_a2, w_u_at, w_a2, w_u_at, f1]
    simp only [true_and]
  generalize w_a (w_a W1 37 ((60 * f + p) * 9 + 6) ib) 37 ((60 * f + p) * 9 + 8) ar = W2 at *
  obtain ⟨-, e3', e5', -⟩ := RI_fl H0 H2
  refine lk_138k (ko := κo) (by unfold am_rg; omega) ⟨by omega, by omega⟩ (by rw [w_g_0 _ 3 rfl, e3']; exact hko) (by unfold am_rg; omega) (fun q1 q2 => ?_) fun q => ?_
  · rw [if_pos ⟨q1, q2⟩] at L
    refine lk_138l (nu := ν) ⟨by omega, by omega⟩ ⟨by omega, by omega⟩ (by rw [w_g_0 _ 5 rfl, e5']; exact hν) ⟨by omega, by omega⟩ ?_
    rw [show (((60 * f + p : Nat) : Int) * 9 + 7).toNat = (60 * f + p) * 9 + 7 by omega]
    refine L _ (RI_37 H2 fun q s' q1 q2 q3 => by omega) ?_
    funext k
    rw [w_a2, w_u_at, f2]
    simp only [true_and]
    rfl
  · rw [if_neg q] at L
    refine L _ H2 ?_
    funext k
    rw [f2]
    unfold uP
    by_cases c7 : k = (60 * f + p) * 9 + 7
    · rw [if_pos c7, if_neg (by omega), if_neg (by omega), if_neg (by omega)]
    · rw [if_neg c7]
end
