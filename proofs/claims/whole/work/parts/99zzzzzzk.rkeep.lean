/-! ===== the reference keeps a call ===== -/
/-- a row of the memory is told; what stands below it stays -/
def rKQ (w w' : W_) (k : Nat) (x a o : Int) : Prop := (∀ b j, ¬ (b = 73 ∧ j = 70) → w'.1 b j = w.1 b j) ∧ (∀ b, b < 114 ∨ 121 < b → w'.2 b = w.2 b) ∧ (∀ b i, 114 ≤ b → b ≤ 120 → b ≠ 117 → i ≠ k → w'.2 b i = w.2 b i) ∧ (w'.2 114 k = w.2 79 x.toNat ∧ w'.2 115 k = w.2 80 x.toNat ∧ w'.2 116 k = a ∧ w'.2 118 k = o ∧ w'.2 119 k = w.1 73 45 ∧ w'.2 120 k = w.1 73 46) ∧ (∀ i, i < 10 * k → w'.2 117 i = w.2 117 i) ∧ ∀ i, i < 45 * k → w'.2 121 i = w.2 121 i
def rAw (w : W_) (q : Nat) : Int := if q < 42 then w.2 104 q else w.2 103 (q - 42)
section
variable {w w' w2 : W_} {k fr : Nat} {x a o : Int}
theorem rKQ_a (h : rKQ w w' k x a o) {b i : Nat} {y : Int} (hb : b = 117 ∧ 10 * k ≤ i ∨ b = 121 ∧ 45 * k ≤ i) : rKQ w (w_a w' b i y) k x a o := by
  obtain ⟨h1, h2, h3, h4, h5, h6⟩ := h
  have N : ∀ c, c ≠ b → (w_a w' b i y).2 c = w'.2 c := fun c q => w_a_2ne _ _ _ q
  refine ⟨h1, fun c q => by rw [N c (by omega)]; exact h2 c q, fun c j q0 q1 q2 q3 => by rw [N c (by omega)]; exact h3 c j q0 q1 q2 q3, ?_, fun j q => ?_, fun j q => ?_⟩
  · rw [N 114 (by omega), N 115 (by omega), N 116 (by omega), N 118 (by omega), N 119 (by omega), N 120 (by omega)]
    exact h4
  · show (if 117 = b ∧ j = i then y else w'.2 117 j) = _
    rw [if_neg (by omega)]; exact h5 j q
  · show (if 121 = b ∧ j = i then y else w'.2 121 j) = _
    rw [if_neg (by omega)]; exact h6 j q
theorem lk_219 (h1 : 1 ≤ fr) (hk : w.1 73 70 = (k : Int)) (k0 : k < 60) (hx : 0 ≤ x ∧ x < 1024) (ar : am_rg a) (or_ : am_rg o) (dr : am_rg (w.1 73 45)) (yr : ∀ m, m < 10 → am_rg (w.2 122 m)) (zr : ∀ q, q < 45 → am_rg (rAw w q)) : ww_Ct 219 fr [.inr (.inr (.inl 73)), .inl x, .inl a, .inl o] w fun r w' => r = none ∧ rKQ w w' k x a o ∧ (∀ m, m < 10 → w'.2 117 (10 * k + m) = w.2 122 m) ∧ (∀ q, q < 45 → w'.2 121 (45 * k + q) = rAw w q) ∧ w'.1 73 70 = (k : Int) + 1 := by
  have kk : ((k : Int)).toNat = k := by omega
  have k60 : (0 : Int) ≤ (k : Int) ∧ (k : Int) < 60 := by omega
  refine lk_219a hk k60 hx ar or_ dr ?_
  rw [kk]
  have K0 : rKQ w (w_a (w_a (w_a (w_a (w_a (w_a w 114 k (w.2 79 x.toNat)) 115 k (w.2 80 x.toNat)) 116 k a) 118 k o) 119 k (w.1 73 45)) 120 k (w.1 73 46)) k x a o := by
    have S : ∀ (w' : W_) (b i : Nat) (y : Int), (w_a w' b i y).2 b i = y := fun w' b i y => by
      show (if b = b ∧ i = i then y else _) = y
      rw [if_pos ⟨rfl, rfl⟩]
    have T : ∀ (w' : W_) (b i j : Nat) (y : Int) (c : Nat), j ≠ i → (w_a w' b i y).2 c j = w'.2 c j := fun w' b i j y c q => by
      show (if c = b ∧ j = i then y else _) = _
      rw [if_neg (fun z => q z.2)]
    have N : ∀ (w' : W_) (b i : Nat) (y : Int) (c : Nat), c ≠ b → (w_a w' b i y).2 c = w'.2 c := fun w' b i y c q => w_a_2ne _ _ _ q
    refine ⟨fun _ _ _ => rfl, fun b q => ?_, fun b i _ _ _ q => ?_, ⟨?_, ?_, ?_, ?_, ?_, ?_⟩, fun i _ => ?_, fun i _ => ?_⟩
    · rw [N _ _ _ _ _ (by omega), N _ _ _ _ _ (by omega), N _ _ _ _ _ (by omega), N _ _ _ _ _ (by omega), N _ _ _ _ _ (by omega), N _ _ _ _ _ (by omega)]
    · rw [T _ _ _ _ _ _ q, T _ _ _ _ _ _ q, T _ _ _ _ _ _ q, T _ _ _ _ _ _ q, T _ _ _ _ _ _ q, T _ _ _ _ _ _ q]
    · rw [N _ _ _ _ _ (by decide), N _ _ _ _ _ (by decide), N _ _ _ _ _ (by decide), N _ _ _ _ _ (by decide), N _ _ _ _ _ (by decide), S]
    · rw [N _ _ _ _ _ (by decide), N _ _ _ _ _ (by decide), N _ _ _ _ _ (by decide), N _ _ _ _ _ (by decide), S]
    · rw [N _ _ _ _ _ (by decide), N _ _ _ _ _ (by decide), N _ _ _ _ _ (by decide), S]
    · rw [N _ _ _ _ _ (by decide), N _ _ _ _ _ (by decide), S]
    · rw [N _ _ _ _ _ (by decide), S]
    · rw [S]
    · rw [N _ _ _ _ _ (by decide), N _ _ _ _ _ (by decide), N _ _ _ _ _ (by decide), N _ _ _ _ _ (by decide), N _ _ _ _ _ (by decide), N _ _ _ _ _ (by decide)]
    · rw [N _ _ _ _ _ (by decide), N _ _ _ _ _ (by decide), N _ _ _ _ _ (by decide), N _ _ _ _ _ (by decide), N _ _ _ _ _ (by decide), N _ _ _ _ _ (by decide)]
  have e70 : (w_a (w_a (w_a (w_a (w_a (w_a w 114 k (w.2 79 x.toNat)) 115 k (w.2 80 x.toNat)) 116 k a) 118 k o) 119 k (w.1 73 45)) 120 k (w.1 73 46)).1 73 70 = (k : Int) := hk
  generalize w_a (w_a (w_a (w_a (w_a (w_a w 114 k (w.2 79 x.toNat)) 115 k (w.2 80 x.toNat)) 116 k a) 118 k o) 119 k (w.1 73 45)) 120 k (w.1 73 46) = w1 at K0 e70 ⊢
  -- answers
  have ML : ∀ (d i : Nat) (w2 : W_), d + i = 45 → rKQ w w2 k x a o → w2.1 73 70 = (k : Int) → (∀ m, m < 10 → w2.2 117 (10 * k + m) = w.2 122 m) → (∀ q, q < i → w2.2 121 (45 * k + q) = rAw w q) → zr219 fr (fun r w' => r = none ∧ rKQ w w' k x a o ∧ (∀ m, m < 10 → w'.2 117 (10 * k + m) = w.2 122 m) ∧ (∀ q, q < 45 → w'.2 121 (45 * k + q) = rAw w q) ∧ w'.1 73 70 = (k : Int) + 1) 117 x a o (i : Int) w2 := by
    intro d
    induction d with
    | zero =>
      intro i w2 hd K h70 hm hq
      have : i = 45 := by omega
      subst this
      refine lk_219e h70 k60 rfl ⟨rfl, ?_, hm, hq, ?_⟩
      · obtain ⟨h1, h2⟩ := K
        exact ⟨fun b j q => by rw [w_f_ne _ _ _ _ _ _ q]; exact h1 b j q, h2⟩
      · rw [w_f1, w_u_at, if_pos ⟨rfl, rfl⟩]
    | succ d ih =>
      intro i w2 hd K h70 hm hq
      have ii : (0 : Int) ≤ (i : Int) ∧ (i : Int) < 45 := by omega
      have ea : (if (i : Int) < 42 then w2.2 104 ((i : Int)).toNat else w2.2 103 ((i : Int) - 42).toNat) = rAw w i := by
        unfold rAw
        rw [K.2.1 104 (by omega), K.2.1 103 (by omega)]
        by_cases c : i < 42
        · rw [if_pos (by omega), if_pos c]; rfl
        · rw [if_neg (by omega), if_neg c, show ((i : Int) - 42).toNat = i - 42 by omega]
      refine lk_219d (y := rAw w i) h1 h70 k60 ii ea (zr i (by omega)) ?_
      have e : (45 * (k : Int) + (i : Int)).toNat = 45 * k + i := by omega
      rw [e]
      have z := ih (i + 1) (w_a w2 121 (45 * k + i) (rAw w i)) (by omega) (rKQ_a K (Or.inr ⟨rfl, by omega⟩)) h70 (fun m hm' => by rw [w_a_2ne _ _ _ (by decide)]; exact hm m hm') (fun q hq' => ?_)
      · rw [show (((i + 1 : Nat)) : Int) = (i : Int) + 1 by omega] at z
        exact z
      · show (if 121 = 121 ∧ 45 * k + q = 45 * k + i then rAw w i else w2.2 121 (45 * k + q)) = _
        by_cases c : q = i
        · rw [if_pos ⟨rfl, by omega⟩, c]
        · rw [if_neg (by omega)]; exact hq q (by omega)
  -- names
  have NL : ∀ (d i : Nat) (w2 : W_), d + i = 10 → rKQ w w2 k x a o → w2.1 73 70 = (k : Int) → (∀ m, m < i → w2.2 117 (10 * k + m) = w.2 122 m) → zr219 fr (fun r w' => r = none ∧ rKQ w w' k x a o ∧ (∀ m, m < 10 → w'.2 117 (10 * k + m) = w.2 122 m) ∧ (∀ q, q < 45 → w'.2 121 (45 * k + q) = rAw w q) ∧ w'.1 73 70 = (k : Int) + 1) 79 x a o (i : Int) w2 := by
    intro d
    induction d with
    | zero =>
      intro i w2 hd K h70 hm
      have : i = 10 := by omega
      subst this
      exact lk_219c rfl (ML 45 0 w2 rfl K h70 hm (fun q hq => absurd hq (Nat.not_lt_zero q)))
    | succ d ih =>
      intro i w2 hd K h70 hm
      have ii : (0 : Int) ≤ (i : Int) ∧ (i : Int) < 10 := by omega
      refine lk_219b (y := w.2 122 i) h70 k60 ii (by rw [K.2.1 122 (by omega)]; rfl) (yr i (by omega)) ?_
      have e : (10 * (k : Int) + (i : Int)).toNat = 10 * k + i := by omega
      rw [e]
      have z := ih (i + 1) (w_a w2 117 (10 * k + i) (w.2 122 i)) (by omega) (rKQ_a K (Or.inl ⟨rfl, by omega⟩)) h70 (fun m hm' => ?_)
      · rw [show (((i + 1 : Nat)) : Int) = (i : Int) + 1 by omega] at z
        exact z
      · show (if 117 = 117 ∧ 10 * k + m = 10 * k + i then w.2 122 i else w2.2 117 (10 * k + m)) = _
        by_cases c : m = i
        · rw [if_pos ⟨rfl, by omega⟩, c]
        · rw [if_neg (by omega)]; exact hm m (by omega)
  exact NL 10 0 w1 rfl K0 e70 (fun m hm => absurd hm (Nat.not_lt_zero m))
/-- the memory behind it -/
theorem rS5_add {s : S_} {r : R_} {me : List R_} (H : rS5 s w) (hl : (s_me s).length = k) (hk : (s_me s).length < 60) (K : rKQ w w' k x a o) (e70 : w'.1 73 70 = (k : Int) + 1) (hR : rRR w' k r) (hme : me = s_me s ++ [r]) : rS5 (u_me s me) w' := by
  obtain ⟨⟨h70, h60⟩, hR0⟩ := H
  obtain ⟨k1, k2, k3, k4, k5, k6⟩ := K
  have em : s_me (u_me s me) = s_me s ++ [r] := hme
  unfold rS5
  rw [em]
  refine ⟨⟨by rw [e70, List.length_append]; show _ = (((s_me s).length + 1 : Nat) : Int); omega, by rw [List.length_append]; show (s_me s).length + 1 ≤ 60; omega⟩, fun i r' hr => ?_⟩
  by_cases c : i = k
  · rw [c, ← hl, List.getElem?_append_right (Nat.le_refl _), Nat.sub_self] at hr
    cases hr
    rw [c]
    exact hR
  · have il : i < (s_me s).length := by
      have z := (List.getElem?_eq_some_iff.1 hr).1
      rw [List.length_append] at z
      have z : i < (s_me s).length + 1 := z
      omega
    rw [List.getElem?_append_left il] at hr
    have Q := hR0 i r' hr
    rw [k3 114 i (by omega) (by omega) (by omega) c, k3 115 i (by omega) (by omega) (by omega) c, k3 116 i (by omega) (by omega) (by omega) c, k3 118 i (by omega) (by omega) (by omega) c, k3 119 i (by omega) (by omega) (by omega) c, k3 120 i (by omega) (by omega) (by omega) c]
    obtain ⟨q1, q2, q3, q4, q5⟩ := Q
    refine ⟨q1, q2, fun m hm => by rw [k5 (10 * i + m) (by omega)]; exact q3 m hm, q4, fun q hq ha => by rw [k6 (45 * i + q) (by omega)]; exact q5 q hq ha⟩
end
