/-! ===== the world, and what the heap has to hold for it ===== -/
def w_u (f : Nat → Nat → Int) (a j : Nat) (x : Int) : Nat → Nat → Int := fun b k => if b = a ∧ k = j then x else f b k
def w_f (w : W_) (a j : Nat) (x : Int) : W_ := (w_u w.1 a j x, w.2)
def w_a (w : W_) (a i : Nat) (x : Int) : W_ := (w.1, w_u w.2 a i x)
theorem w_u_at (f : Nat → Nat → Int) (a j : Nat) (x : Int) (b k : Nat) : w_u f a j x b k = if b = a ∧ k = j then x else f b k := rfl
theorem w_f1 (w : W_) (a j : Nat) (x : Int) : (w_f w a j x).1 = w_u w.1 a j x := rfl
theorem w_f2 (w : W_) (a j : Nat) (x : Int) : (w_f w a j x).2 = w.2 := rfl
theorem w_a1 (w : W_) (a j : Nat) (x : Int) : (w_a w a j x).1 = w.1 := rfl
theorem w_a2 (w : W_) (a j : Nat) (x : Int) : (w_a w a j x).2 = w_u w.2 a j x := rfl
def w_fv (w : W_) (P : Nat → Nat) (a j : Nat) : am_V := match am_tk (w_ci a) j with
  | 0 => .inl (w.1 a j)
  | 1 => .inl (w.1 a j)
  | 2 => .inr (.inl (w.1 a j))
  | _ => .inr (.inr (.inl (if w_g1 a j = true then P a else w_pv w a j)))
def w_sum (L : Nat → Nat) : Nat := (w_keys.map L).sum
/-- slots made by the constructors, and some -/
def w_s0 : Nat := 220000
def w_cap (a : Nat) : Nat := 2 * w_bd a + 1024
/-- the heap h holds the world w (a cell 0 isn't: its field 0 counts what was thrown) -/
def w_R (w : W_) (h : am_H) : Prop := ∃ P L : Nat → Nat,
  (127 ≤ h.2.1 ∧ 16 * h.2.1 ≤ 16 * 127 + w_sum L ∧ h.2.2 ≤ w_s0 + 1000 * (w.1 0 0).toNat + 2 * w_sum L) ∧
  (∀ a, w_ci a ≠ 0 → am_oc h a = w_ci a ∧ ∀ j, j < am_nf (w_ci a) → am_fv h a j = w_fv w P a j) ∧
  (∀ a, w_ak a ≠ 0 → am_ak h a = w_ak a ∧ am_ln h a = w_al a ∧ ∀ i, i < w_al a → am_el h a i = w.2 a i) ∧
  (∀ a, a ∈ w_keys → (w_ci (P a) = 0 ∧ w_ak (P a) = 0 ∧ 1 ≤ P a ∧ P a ≤ h.2.1) ∧ am_ak h (P a) = 1 ∧ am_ln h (P a) = L a ∧ (∀ i, i < L a → am_el h (P a) i = w.2 a i) ∧ (∀ i, L a ≤ i → i < 2147483648 → w.2 a i = 0) ∧ 16 ≤ L a ∧ L a ≤ w_cap a) ∧
  (∀ a, a ∈ w_keys → ∀ b, b ∈ w_keys → P a = P b → a = b) ∧
  (w.1 17 7 = 24 ∨ w.1 17 7 = 55 ∨ w.1 17 7 = 64) ∧ 8 * w.1 13 2 ≤ (L 13 : Int) ∧ ∃ q, L 13 = 1024 * 2 ^ q
theorem w_ci_le {a : Nat} (h : w_ci a ≠ 0) : 1 ≤ a ∧ a ≤ 127 := by
  refine ⟨?_, ?_⟩
  · rcases a with _ | a
    · exact absurd rfl h
    · omega
  · apply Nat.le_of_not_lt
    intro q
    apply h
    unfold w_ci
    rw [List.getD_eq_getElem?_getD, List.getElem?_eq_none]
    · rfl
    · exact q
theorem w_ak_le {a : Nat} (h : w_ak a ≠ 0) : 1 ≤ a ∧ a ≤ 127 := by
  refine ⟨?_, ?_⟩
  · rcases a with _ | a
    · exact absurd rfl h
    · omega
  · apply Nat.le_of_not_lt
    intro q
    apply h
    unfold w_ak
    rw [List.getD_eq_getElem?_getD, List.getElem?_eq_none]
    · rfl
    · exact q
theorem w_key_ak : ∀ a, a ∈ w_keys → w_ak a = 0 := by decide +kernel
theorem w_ci_ak : ∀ a, a < 128 → w_ci a ≠ 0 → w_ak a = 0 := by decide +kernel
-- what a change of a field, of an element changes
theorem am_oc_sf (h : am_H) (a k : Nat) (v : am_V) (b : Nat) : am_oc (am_sf h a k v) b = am_oc h b := by
  unfold am_oc am_sf
  dsimp only
  by_cases e : b = a
  · subst e
    rw [am_up_same]
    rcases h.1 b with ⟨kd, n, f⟩ | ⟨ci, fs⟩ <;> rfl
  · rw [am_up_ne _ _ e]
theorem am_ak_sf (h : am_H) (a k : Nat) (v : am_V) (b : Nat) : am_ak (am_sf h a k v) b = am_ak h b := by
  unfold am_ak am_sf
  dsimp only
  by_cases e : b = a
  · subst e
    rw [am_up_same]
    rcases h.1 b with ⟨kd, n, f⟩ | ⟨ci, fs⟩ <;> rfl
  · rw [am_up_ne _ _ e]
theorem am_ln_sf (h : am_H) (a k : Nat) (v : am_V) (b : Nat) : am_ln (am_sf h a k v) b = am_ln h b := by
  unfold am_ln am_sf
  dsimp only
  by_cases e : b = a
  · subst e
    rw [am_up_same]
    rcases h.1 b with ⟨kd, n, f⟩ | ⟨ci, fs⟩ <;> rfl
  · rw [am_up_ne _ _ e]
theorem am_el_sf (h : am_H) (a k : Nat) (v : am_V) (b i : Nat) : am_el (am_sf h a k v) b i = am_el h b i := by
  unfold am_el am_sf
  dsimp only
  by_cases e : b = a
  · subst e
    rw [am_up_same]
    rcases h.1 b with ⟨kd, n, f⟩ | ⟨ci, fs⟩ <;> rfl
  · rw [am_up_ne _ _ e]
theorem am_fv_sf {h : am_H} {a k : Nat} {v : am_V} (ho : am_oc h a ≠ 0) (b j : Nat) : am_fv (am_sf h a k v) b j = if b = a ∧ j = k then v else am_fv h b j := by
  unfold am_fv am_sf
  dsimp only
  by_cases e : b = a
  · subst e
    rw [am_up_same]
    unfold am_oc at ho
    generalize h.1 b = C at ho ⊢
    rcases C with ⟨kd, n, f⟩ | ⟨ci, fs⟩
    · exact (ho rfl).elim
    · show am_up fs k v j = _
      by_cases e2 : j = k
      · subst e2
        rw [am_up_same, if_pos ⟨rfl, rfl⟩]
      · rw [am_up_ne _ _ e2, if_neg (fun q => e2 q.2)]
  · rw [am_up_ne _ _ e, if_neg (fun q => e q.1)]
theorem am_oc_se (h : am_H) (a k : Nat) (x : Int) (b : Nat) : am_oc (am_se h a k x) b = am_oc h b := by
  unfold am_oc am_se
  dsimp only
  by_cases e : b = a
  · subst e
    rw [am_up_same]
    rcases h.1 b with ⟨kd, n, f⟩ | ⟨ci, fs⟩ <;> rfl
  · rw [am_up_ne _ _ e]
theorem am_ak_se (h : am_H) (a k : Nat) (x : Int) (b : Nat) : am_ak (am_se h a k x) b = am_ak h b := by
  unfold am_ak am_se
  dsimp only
  by_cases e : b = a
  · subst e
    rw [am_up_same]
    rcases h.1 b with ⟨kd, n, f⟩ | ⟨ci, fs⟩ <;> rfl
  · rw [am_up_ne _ _ e]
theorem am_ln_se (h : am_H) (a k : Nat) (x : Int) (b : Nat) : am_ln (am_se h a k x) b = am_ln h b := by
  unfold am_ln am_se
  dsimp only
  by_cases e : b = a
  · subst e
    rw [am_up_same]
    rcases h.1 b with ⟨kd, n, f⟩ | ⟨ci, fs⟩ <;> rfl
  · rw [am_up_ne _ _ e]
theorem am_fv_se (h : am_H) (a k : Nat) (x : Int) (b j : Nat) : am_fv (am_se h a k x) b j = am_fv h b j := by
  unfold am_fv am_se
  dsimp only
  by_cases e : b = a
  · subst e
    rw [am_up_same]
    rcases h.1 b with ⟨kd, n, f⟩ | ⟨ci, fs⟩ <;> rfl
  · rw [am_up_ne _ _ e]
theorem am_el_se {h : am_H} {a k : Nat} {x : Int} (ho : am_ak h a ≠ 0) (b i : Nat) : am_el (am_se h a k x) b i = if b = a ∧ i = k then x else am_el h b i := by
  unfold am_el am_se
  dsimp only
  by_cases e : b = a
  · subst e
    rw [am_up_same]
    unfold am_ak at ho
    generalize h.1 b = C at ho ⊢
    rcases C with ⟨kd, n, f⟩ | ⟨ci, fs⟩
    · show am_up f k x i = _
      by_cases e2 : i = k
      · subst e2
        rw [am_up_same, if_pos ⟨rfl, rfl⟩]
      · rw [am_up_ne _ _ e2, if_neg (fun q => e2 q.2)]
    · exact (ho rfl).elim
  · rw [am_up_ne _ _ e, if_neg (fun q => e q.1)]
theorem w_R.out {w : W_} {h : am_H} (R : w_R w h) : w.1 17 7 = 24 ∨ w.1 17 7 = 55 ∨ w.1 17 7 = 64 := by
  obtain ⟨P, L, -, -, -, -, -, h6, -⟩ := R
  exact h6
theorem w_R.oc {w : W_} {h : am_H} (R : w_R w h) {a ci : Nat} (e : w_ci a = ci) (h0 : ci ≠ 0) : am_oc h a = ci := by
  obtain ⟨P, L, -, h2, -⟩ := R
  subst e
  exact (h2 a h0).1
theorem w_R.gv {w : W_} {h : am_H} (R : w_R w h) {a j : Nat} (h0 : w_ci a ≠ 0) (hj : j < am_nf (w_ci a)) (hg : w_g1 a j = false) : am_gv h a j (am_tk (w_ci a) j) = w_gv w a j := by
  obtain ⟨P, L, -, h2, -⟩ := R
  have h2 := (h2 a h0).2 j hj
  unfold w_fv at h2
  unfold w_gv
  rw [hg] at h2
  generalize am_tk (w_ci a) j = t at h2 ⊢
  rcases t with _ | _ | _ | t
  · show Sum.inl (am_fi h a j) = _
    unfold am_fi
    rw [h2]
    rfl
  · show Sum.inl (am_fi h a j) = _
    unfold am_fi
    rw [h2]
    rfl
  · show Sum.inr (Sum.inl (am_fi h a j)) = _
    unfold am_fi
    rw [h2]
    rfl
  · exact h2
/-- a number into a field -/
theorem w_R.pf {w : W_} {h : am_H} (R : w_R w h) {a j : Nat} {x : Int} (h0 : w_ci a ≠ 0) (v : am_V) (ht : (am_tk (w_ci a) j ≤ 1 ∧ v = .inl x) ∨ (am_tk (w_ci a) j = 2 ∧ v = .inr (.inl x))) (hx : a = 17 ∧ j = 7 → x = 24 ∨ x = 55 ∨ x = 64) (hy : a = 13 ∧ j = 2 → x ≤ w.1 13 2) : w_R (w_f w a j x) (am_sf h a j v) := by
  obtain ⟨P, L, h1, h2, h3, h4, h5, h6, h7⟩ := R
  have ho : am_oc h a ≠ 0 := by rw [(h2 a h0).1]; exact h0
  have e00 : (w_f w a j x).1 0 0 = w.1 0 0 := by
    rw [w_f1, w_u_at, if_neg (fun q => h0 (by rw [← q.1]; rfl))]
  refine ⟨P, L, by rw [e00]; exact h1, fun b hb => ?_, fun b hb => ?_, fun b hb => ?_, h5, ?_, ?_, h7.2⟩
  · refine ⟨by rw [am_oc_sf]; exact (h2 b hb).1, fun k hk => ?_⟩
    rw [am_fv_sf ho]
    have h2 := (h2 b hb).2 k hk
    have hpv : w_pv (w_f w a j x) b k = if b = 17 ∧ k = 7 ∧ a = 17 ∧ j = 7 then x.toNat else w_pv w b k := by
      unfold w_pv
      rw [w_f1, w_u_at]
      by_cases e : b = 17 ∧ k = 7
      · rw [if_pos e, if_pos e]
        by_cases e2 : 17 = a ∧ 7 = j
        · rw [if_pos e2, if_pos ⟨e.1, e.2, e2.1.symm, e2.2.symm⟩]
        · rw [if_neg e2, if_neg (fun q => e2 ⟨q.2.2.1.symm, q.2.2.2.symm⟩)]
      · rw [if_neg e, if_neg e, if_neg (fun q => e ⟨q.1, q.2.1⟩)]
    by_cases e : b = a ∧ k = j
    · obtain ⟨rfl, rfl⟩ := e
      rw [if_pos ⟨rfl, rfl⟩]
      unfold w_fv
      rw [w_f1, w_u_at, if_pos ⟨rfl, rfl⟩]
      rcases ht with ⟨ht, rfl⟩ | ⟨ht, rfl⟩
      · generalize am_tk (w_ci b) k = t at ht ⊢
        rcases t with _ | _ | t
        · rfl
        · rfl
        · omega
      · rw [ht]
        rfl
    · rw [if_neg e, h2]
      have hpv : w_pv (w_f w a j x) b k = w_pv w b k := by
        rw [hpv, if_neg (fun q => e ⟨q.1.trans q.2.2.1.symm, q.2.1.trans q.2.2.2.symm⟩)]
      unfold w_fv
      rw [w_f1, w_u_at, if_neg e, hpv]
  · rw [am_ak_sf, am_ln_sf]
    refine ⟨(h3 b hb).1, (h3 b hb).2.1, fun i hi => ?_⟩
    rw [am_el_sf]
    exact (h3 b hb).2.2 i hi
  · obtain ⟨q1, q2, q3, q4, q5⟩ := h4 b hb
    rw [am_ak_sf, am_ln_sf]
    refine ⟨q1, q2, q3, fun i hi => ?_, q5⟩
    rw [am_el_sf]
    exact q4 i hi
  · rw [w_f1, w_u_at]
    by_cases e : 17 = a ∧ 7 = j
    · rw [if_pos e]
      exact hx ⟨e.1.symm, e.2.symm⟩
    · rw [if_neg e]
      exact h6
  · rw [w_f1, w_u_at]
    by_cases e : 13 = a ∧ 2 = j
    · rw [if_pos e]
      have := hy ⟨e.1.symm, e.2.symm⟩
      have := h7.1
      omega
    · rw [if_neg e]
      exact h7.1
/-- the result that a round writes to -/
theorem w_R.po {w : W_} {h : am_H} (R : w_R w h) {x : Nat} (hx : x = 24 ∨ x = 55 ∨ x = 64) : w_R (w_f w 17 7 x) (am_sf h 17 7 (.inr (.inr (.inl x)))) := by
  obtain ⟨P, L, h1, h2, h3, h4, h5, h6, h7⟩ := R
  have ho : am_oc h 17 ≠ 0 := by rw [(h2 17 (by decide)).1]; decide
  have e00 : (w_f w 17 7 x).1 0 0 = w.1 0 0 := by
    rw [w_f1, w_u_at, if_neg (by decide)]
  refine ⟨P, L, by rw [e00]; exact h1, fun b hb => ?_, fun b hb => ?_, fun b hb => ?_, h5, ?_, ?_⟩
  · refine ⟨by rw [am_oc_sf]; exact (h2 b hb).1, fun k hk => ?_⟩
    rw [am_fv_sf ho]
    have h2 := (h2 b hb).2 k hk
    by_cases e : b = 17 ∧ k = 7
    · obtain ⟨rfl, rfl⟩ := e
      rw [if_pos ⟨rfl, rfl⟩]
      show _ = Sum.inr (Sum.inr (Sum.inl (if w_g1 17 7 = true then P 17 else w_pv (w_f w 17 7 x) 17 7)))
      have : w_pv (w_f w 17 7 x) 17 7 = x := by
        unfold w_pv
        rw [if_pos ⟨rfl, rfl⟩, w_f1, w_u_at, if_pos ⟨rfl, rfl⟩]
        rfl
      rw [this]
      rfl
    · rw [if_neg e, h2]
      have hpv : w_pv (w_f w 17 7 x) b k = w_pv w b k := by
        unfold w_pv
        rw [if_neg e, if_neg e]
      unfold w_fv
      rw [w_f1, w_u_at, if_neg e, hpv]
  · rw [am_ak_sf, am_ln_sf]
    refine ⟨(h3 b hb).1, (h3 b hb).2.1, fun i hi => ?_⟩
    rw [am_el_sf]
    exact (h3 b hb).2.2 i hi
  · obtain ⟨q1, q2, q3, q4, q5⟩ := h4 b hb
    rw [am_ak_sf, am_ln_sf]
    refine ⟨q1, q2, q3, fun i hi => ?_, q5⟩
    rw [am_el_sf]
    exact q4 i hi
  · rw [w_f1, w_u_at, if_pos ⟨rfl, rfl⟩]
    omega
  · exact h7
theorem w_R.ak {w : W_} {h : am_H} (R : w_R w h) {a k : Nat} (e : w_ak a = k) (h0 : k ≠ 0) : am_ak h a = k ∧ am_ln h a = w_al a ∧ ∀ i, i < w_al a → am_el h a i = w.2 a i := by
  obtain ⟨P, L, -, -, h3, -⟩ := R
  subst e
  exact h3 a h0
/-- a number into an array -/
theorem w_R.pa {w : W_} {h : am_H} (R : w_R w h) {a i : Nat} {x : Int} (h0 : w_ak a ≠ 0) : w_R (w_a w a i x) (am_se h a i x) := by
  obtain ⟨P, L, h1, h2, h3, h4, h5, h6, h7⟩ := R
  have ho : am_ak h a ≠ 0 := by rw [(h3 a h0).1]; exact h0
  refine ⟨P, L, h1, fun b hb => ?_, fun b hb => ?_, fun b hb => ?_, h5, h6, h7⟩
  · refine ⟨by rw [am_oc_se]; exact (h2 b hb).1, fun k hk => ?_⟩
    rw [am_fv_se, (h2 b hb).2 k hk]
    rfl
  · rw [am_ak_se, am_ln_se]
    refine ⟨(h3 b hb).1, (h3 b hb).2.1, fun k hk => ?_⟩
    rw [am_el_se ho, (h3 b hb).2.2 k hk]
    rfl
  · obtain ⟨q1, q2, q3, q4, q5, q6⟩ := h4 b hb
    have hne : P b ≠ a := fun q => h0 (by rw [← q]; exact q1.2.1)
    have hnb : b ≠ a := fun q => h0 (by rw [← q]; exact w_key_ak b hb)
    rw [am_ak_se, am_ln_se]
    refine ⟨q1, q2, q3, fun k hk => ?_, fun k hk => ?_, q6⟩
    · rw [am_el_se ho, if_neg (fun q => hne q.1), q4 k hk, w_a2, w_u_at, if_neg (fun q => hnb q.1)]
    · rw [w_a2, w_u_at, if_neg (fun q => hnb q.1)]
      exact q5 k hk
