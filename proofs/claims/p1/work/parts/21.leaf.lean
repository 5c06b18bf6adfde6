/-! ===== contracts as functions; leaves ===== -/
abbrev w_SP : Type := List am_V → W_ → Option (Nat × Prop × Option am_V × W_)
def ww_cOk1 (mid : Nat) (f : w_SP) : Prop := ∀ as w fr pre r w1, f as w = some (fr, pre, r, w1) → pre → ww_Ct mid fr as w fun r' w' => r' = r ∧ w' = w1
def ctL : List (Nat × w_SP) → w_CT
  | [], _, _, _ => none
  | (m, f) :: l, mid, as, w => if mid = m then f as w else ctL l mid as w
theorem ctL_n (mid : Nat) (as : List am_V) (w : W_) : ctL [] mid as w = none := rfl
theorem ctL_c (m : Nat) (f : w_SP) (l : List (Nat × w_SP)) (mid : Nat) (as : List am_V) (w : W_) : ctL ((m, f) :: l) mid as w = if mid = m then f as w else ctL l mid as w := rfl
theorem ctL_nil : ww_cOk (ctL []) := fun _ _ _ _ _ _ _ h => by cases h
theorem ctL_cons {m : Nat} {f : w_SP} {l : List (Nat × w_SP)} (hf : ww_cOk1 m f) (hl : ww_cOk (ctL l)) : ww_cOk (ctL ((m, f) :: l)) := by
  intro mid as w fr pre r w1 e hp
  rw [ctL_c] at e
  by_cases c : mid = m
  · rw [if_pos c] at e
    subst c
    exact hf as w fr pre r w1 e hp
  · rw [if_neg c] at e
    exact hl mid as w fr pre r w1 e hp
def b9 (x : Int) : Int := if x < -9999 then -9999 else if 9999 < x then 9999 else x
/-- the cells of the rows -/
def w_isR (a : Nat) : Bool := w_keys.elem a && w_ci a == 10
theorem w_isR_ok {a : Nat} (h : w_isR a = true) : a ∈ w_keys ∧ w_ci a = 10 := by
  unfold w_isR at h
  rw [Bool.and_eq_true, beq_iff_eq] at h
  exact ⟨List.elem_iff.mp h.1, h.2⟩
theorem w_isRs : w_isR 3 = true ∧ w_isR 5 = true ∧ w_isR 7 = true ∧ w_isR 11 = true ∧ w_isR 14 = true ∧ w_isR 18 = true ∧ w_isR 20 = true ∧ w_isR 22 = true ∧ w_isR 25 = true ∧ w_isR 27 = true ∧ w_isR 29 = true ∧ w_isR 31 = true ∧ w_isR 34 = true ∧ w_isR 37 = true ∧ w_isR 39 = true ∧ w_isR 42 = true ∧ w_isR 44 = true ∧ w_isR 46 = true ∧ w_isR 48 = true ∧ w_isR 51 = true ∧ w_isR 53 = true ∧ w_isR 56 = true ∧ w_isR 58 = true ∧ w_isR 60 = true ∧ w_isR 62 = true ∧ w_isR 65 = true ∧ w_isR 67 = true ∧ w_isR 69 = true ∧ w_isR 71 = true := by decide +kernel
theorem w_bds : w_bd 3 = 180 ∧ w_bd 5 = 180 ∧ w_bd 7 = 64 ∧ w_bd 11 = 3700 ∧ w_bd 14 = 262144 ∧ w_bd 18 = 64 ∧ w_bd 20 = 64 ∧ w_bd 22 = 20000 ∧ w_bd 25 = 1210 ∧ w_bd 27 = 64 ∧ w_bd 29 = 64 ∧ w_bd 31 = 64 ∧ w_bd 34 = 320000 ∧ w_bd 37 = 1700 ∧ w_bd 39 = 1200 ∧ w_bd 42 = 24000 ∧ w_bd 44 = 64 ∧ w_bd 46 = 64 ∧ w_bd 48 = 64 ∧ w_bd 51 = 30000 ∧ w_bd 53 = 64 ∧ w_bd 56 = 1210 ∧ w_bd 58 = 64 ∧ w_bd 60 = 64 ∧ w_bd 62 = 64 ∧ w_bd 65 = 1210 ∧ w_bd 67 = 64 ∧ w_bd 69 = 64 ∧ w_bd 71 = 64 := by decide +kernel
def sp_68 : w_SP
  | [.inr (.inr (.inl a)), .inl i], w => some (0, w_isR a = true ∧ am_rg i, some (.inl (w_g w a i)), w)
  | _, _ => none
theorem at_68 (a : Nat) (i : Int) (w : W_) : sp_68 [.inr (.inr (.inl a)), .inl i] w = some (0, w_isR a = true ∧ am_rg i, some (.inl (w_g w a i)), w) := rfl
theorem ok_68 : ww_cOk1 68 sp_68 := by
  intro as w fr pre r w1 e hp
  unfold sp_68 at e
  split at e
  · cases e
    exact rw_get (w_isR_ok hp.1).1 (w_isR_ok hp.1).2 hp.2.1 hp.2.2
  · cases e
def sp_69 : w_SP
  | [.inr (.inr (.inl a)), .inl i, .inl x], w => some (2, w_isR a = true ∧ 0 ≤ i ∧ i < w_bd a, none, w_a w a i.toNat x)
  | _, _ => none
theorem at_69 (a : Nat) (i x : Int) (w : W_) : sp_69 [.inr (.inr (.inl a)), .inl i, .inl x] w = some (2, w_isR a = true ∧ 0 ≤ i ∧ i < w_bd a, none, w_a w a i.toNat x) := rfl
theorem ok_69 : ww_cOk1 69 sp_69 := by
  intro as w fr pre r w1 e hp
  unfold sp_69 at e
  split at e
  · cases e
    exact rw_set (w_isR_ok hp.1).1 (w_isR_ok hp.1).2 hp.2.1 hp.2.2 (Nat.le_refl _)
  · cases e
def sp_70 : w_SP
  | [.inr (.inr (.inl a)), .inl i, .inl n, .inl x], w => some (2, w_isR a = true ∧ 0 ≤ i ∧ 0 ≤ n ∧ i + n ≤ w_bd a, none, w_fill w a i.toNat (i + n).toNat x)
  | _, _ => none
theorem at_70 (a : Nat) (i n x : Int) (w : W_) : sp_70 [.inr (.inr (.inl a)), .inl i, .inl n, .inl x] w = some (2, w_isR a = true ∧ 0 ≤ i ∧ 0 ≤ n ∧ i + n ≤ w_bd a, none, w_fill w a i.toNat (i + n).toNat x) := rfl
theorem ok_70 : ww_cOk1 70 sp_70 := by
  intro as w fr pre r w1 e hp
  unfold sp_70 at e
  split at e
  · cases e
    exact rw_fill (w_isR_ok hp.1).1 (w_isR_ok hp.1).2 hp.2.1 hp.2.2.1 hp.2.2.2 (Nat.le_refl _)
  · cases e
def sp_18 : w_SP
  | [.inr (.inr (.inl 13)), .inl v, .inl f], w => some (0, (-100000 ≤ v ∧ v < 10000000) ∧ 0 ≤ f ∧ f < 8, some (.inl (w_h w v f.toNat)), w)
  | _, _ => none
theorem at_18 (v f : Int) (w : W_) : sp_18 [.inr (.inr (.inl 13)), .inl v, .inl f] w = some (0, (-100000 ≤ v ∧ v < 10000000) ∧ 0 ≤ f ∧ f < 8, some (.inl (w_h w v f.toNat)), w) := rfl
theorem ok_18 : ww_cOk1 18 sp_18 := by
  intro as w fr pre r w1 e hp
  unfold sp_18 at e
  split at e
  · cases e
    exact rw_hget hp.1.1 hp.1.2 hp.2.1 hp.2.2
  · cases e
def sp_19 : w_SP
  | [.inr (.inr (.inl 13)), .inl v, .inl f, .inl x], w => some (0, (30000 ≤ v ∧ v - 30000 < w.1 13 2) ∧ 0 ≤ f ∧ f < 8, none, w_a w 13 ((v - 30000) * 8 + f).toNat x)
  | _, _ => none
theorem at_19 (v f x : Int) (w : W_) : sp_19 [.inr (.inr (.inl 13)), .inl v, .inl f, .inl x] w = some (0, (30000 ≤ v ∧ v - 30000 < w.1 13 2) ∧ 0 ≤ f ∧ f < 8, none, w_a w 13 ((v - 30000) * 8 + f).toNat x) := rfl
theorem ok_19 : ww_cOk1 19 sp_19 := by
  intro as w fr pre r w1 e hp
  unfold sp_19 at e
  split at e
  · cases e
    exact rw_hset hp.1.1 hp.1.2 hp.2.1 hp.2.2
  · cases e
def sp_20 : w_SP
  | [.inr (.inr (.inl 13)), .inl a, .inl b, .inl c, .inl d, .inl e], w => some (2, 0 ≤ w.1 13 2 ∧ w.1 13 2 < 262144, some (.inl (30000 + w.1 13 2)), w_mk w a b c d e)
  | _, _ => none
theorem at_20 (a b c d e : Int) (w : W_) : sp_20 [.inr (.inr (.inl 13)), .inl a, .inl b, .inl c, .inl d, .inl e] w = some (2, 0 ≤ w.1 13 2 ∧ w.1 13 2 < 262144, some (.inl (30000 + w.1 13 2)), w_mk w a b c d e) := rfl
theorem ok_20 : ww_cOk1 20 sp_20 := by
  intro as w fr pre r w1 e hp
  unfold sp_20 at e
  split at e
  · cases e
    exact rw_make hp.1 hp.2 (Nat.le_refl _)
  · cases e
theorem w_g_a (w : W_) (a i : Nat) (x : Int) (b : Nat) (k : Int) : w_g (w_a w a i x) b k = if b = a ∧ 0 ≤ k ∧ k.toNat = i then x else w_g w b k := by
  unfold w_g
  rw [w_a2, w_u_at]
  by_cases c : k < 0
  · rw [if_pos c, if_neg (by omega), if_pos c]
  · rw [if_neg c, if_neg c]
    by_cases e : b = a ∧ k.toNat = i
    · rw [if_pos e, if_pos ⟨e.1, by omega, e.2⟩]
    · rw [if_neg e, if_neg (fun q => e ⟨q.1, q.2.2⟩)]
theorem w_g_f (w : W_) (a i : Nat) (x : Int) (b : Nat) (k : Int) : w_g (w_f w a i x) b k = w_g w b k := rfl
theorem w_g_fill (w : W_) (a i j : Nat) (x : Int) (b : Nat) (k : Int) : w_g (w_fill w a i j x) b k = if b = a ∧ 0 ≤ k ∧ (i : Int) ≤ k ∧ k < j then x else w_g w b k := by
  unfold w_g w_fill
  dsimp only
  by_cases c : k < 0
  · rw [if_pos c, if_neg (by omega), if_pos c]
  · rw [if_neg c, if_neg c]
    by_cases e : b = a ∧ i ≤ k.toNat ∧ k.toNat < j
    · rw [if_pos e, if_pos ⟨e.1, by omega, by omega, by omega⟩]
    · rw [if_neg e, if_neg (fun q => e ⟨q.1, by omega, by omega⟩)]
theorem w_fill1 (w : W_) (a i j : Nat) (x : Int) : (w_fill w a i j x).1 = w.1 := rfl
theorem w_i0 (c : Prop) [Decidable c] : ((if c then (1 : Int) else 0) = 0) = ¬ c := by
  by_cases h : c
  · simp [h]
  · simp [h]
theorem w_i1 (c : Prop) [Decidable c] : ((if c then (1 : Int) else 0) ≠ 0) = c := by
  by_cases h : c
  · simp [h]
  · simp [h]
theorem w_i2 (c : Prop) [Decidable c] : am_rg (if c then (1 : Int) else 0) = True := by
  refine eq_true ?_
  by_cases h : c
  · rw [if_pos h]; exact ⟨by decide, by decide⟩
  · rw [if_neg h]; exact ⟨by decide, by decide⟩
theorem w_mk1 (w : W_) (a b c d e : Int) : (w_mk w a b c d e).1 = w_u w.1 13 2 (w.1 13 2 + 1) := rfl
/-- three widths -/
def w_wid (w : W_) (v a b c : Int) : W_ := w_a (w_a (w_a w 13 ((v - 30000) * 8 + 5).toNat a) 13 ((v - 30000) * 8 + 6).toNat b) 13 ((v - 30000) * 8 + 7).toNat c
theorem w_wid1 (w : W_) (v a b c : Int) : (w_wid w v a b c).1 = w.1 := rfl
def h_w (w : W_) (v s : Int) : Int := if -9999 ≤ v ∧ v ≤ 9999 then s else if s < 1 ∨ 3 < s then 0 else w_h w v (4 + s).toNat
def h_nf (w : W_) (v : Int) : Int := if w_h w v 0 = 12 then 1 else if w_h w v 0 = 13 then w_h w v 3 else 0
abbrev h_cC (w : W_) (v : Int) : Prop := v = 20000 ∨ (1 ≤ w_h w v 0 ∧ w_h w v 0 ≤ 9)
abbrev h_cF (w : W_) (v : Int) : Prop := (-9999 ≤ v ∧ v ≤ 9999) ∨ (1 ≤ w_h w v 0 ∧ w_h w v 0 ≤ 9) ∨ (w_h w v 0 = 13 ∧ w_h w v 4 ≠ 0)
def h_code (w : W_) (v : Int) : Int := if v < 30000 then v else if w_h w v 0 = 12 then 20001 else if w_h w v 0 = 13 then 20002 else 20000
/-- a value that may be asked for its fields -/
abbrev h_ok (w : W_) (v : Int) : Prop := (-100000 ≤ v ∧ v < 10000000) ∧ am_rg (w_h w v 0) ∧ am_rg (w_h w v 3) ∧ am_rg (w_h w v 4)
