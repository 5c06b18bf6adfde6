/-! ===== an item is made: it and what was told wait to be joined ===== -/
/-- behind a run where items may have come: those below g stay -/
def rPI (n : Nat) (s s1 : S_) (w : W_) (Γ : rG_) (w' : W_) (Γ' : rG_) (R : Int) (g : Nat) : Prop := rXT w Γ w' Γ' R ∧ rOt w w' ∧ (∀ i : Nat, i < g → w'.2 98 i = w.2 98 i) ∧ (w'.1 73 35 = w.1 73 35 ∧ ∀ i : Nat, (i : Int) < w.1 73 35 → w'.2 99 i = w.2 99 i) ∧ (w.1 73 40 ≤ w'.1 73 40 ∧ s_nt s ≤ s_nt s1 ∧ (s_nt s1 = s_nt s ↔ w'.1 73 40 = w.1 73 40)) ∧ w'.1 73 45 ≤ max (w.1 73 45) (n : Int) ∧ w'.1 73 21 + ((s_tb s : Nat) : Int) ≤ w.1 73 21 + ((s_tb s1 : Nat) : Int)
/-- an item (where it is something) and n marks are laid behind k others -/
def rMV (w w' : W_) (g k e n ft : Nat) (c : Int) : Prop := (∀ a j, ¬ (a = 73 ∧ (j = 33 ∨ j = 35)) → w'.1 a j = w.1 a j) ∧ (w'.1 73 33 = ((g + k + e + n : Nat) : Int) ∧ w'.1 73 35 = (ft : Int)) ∧ (∀ b, b ≠ 98 → w'.2 b = w.2 b) ∧ (∀ i, i < g + k → w'.2 98 i = w.2 98 i) ∧ (e = 1 → w'.2 98 (g + k) = c) ∧ ∀ i, i < n → w'.2 98 (g + k + e + i) = w.2 99 (ft + i)
section
variable {C : C_} {sil : Bool} {D : Prop} {qq : Int} {s s1 s2 : S_} {w w' w1 w2 : W_} {Γ Γ1 Γ2 : rG_} {n n1 n2 fr g k e ft m : Nat} {hb : Bool} {R R1 R2 c x f r st i kk : Int} {v10 v11 : am_V} {P : Option am_V → W_ → Prop} {l l1 : List T_}
theorem rPI_rfl : rPI n s s w Γ w Γ R g := ⟨rXT_rfl, rOt_rfl, fun _ _ => rfl, ⟨rfl, fun _ _ => rfl⟩, ⟨Int.le_refl _, Nat.le_refl _, ⟨fun _ => rfl, fun _ => rfl⟩⟩, by omega, Int.le_refl _⟩
theorem rPI_trans (h : rPI n1 s s1 w Γ w1 Γ1 R1 g) (q : rPI n2 s1 s2 w1 Γ1 w2 Γ2 R2 g) (hn1 : n1 ≤ n) (hn2 : n2 ≤ n) (h1 : R1 = R ∨ w.1 73 15 ≤ R1 ∨ R1 < 0) (h2 : R2 = R ∨ w.1 73 15 ≤ R2 ∨ R2 < 0) : rPI n s s2 w Γ w2 Γ2 R g := by
  obtain ⟨a1, a2, a3, ⟨a4, a5⟩, ⟨a6, a7, a8⟩, a9, a10⟩ := h
  obtain ⟨b1, b2, b3, ⟨b4, b5⟩, ⟨b6, b7, b8⟩, b9, b10⟩ := q
  refine ⟨rXT_trans a1 b1 h1 h2, rOt_tr a2 b2, fun i hi => by rw [b3 i hi, a3 i hi], ⟨by rw [b4, a4], fun i hi => by rw [b5 i (by omega), a5 i hi]⟩, ⟨by omega, by omega, ⟨fun z => ?_, fun z => ?_⟩⟩, by omega, by omega⟩
  · have := a8.1 (by omega)
    have := b8.1 (by omega)
    omega
  · have := a8.2 (by omega)
    have := b8.2 (by omega)
    omega
theorem rMV_X (M : rMV w w' g k e n ft c) : rXT w Γ w' Γ R := rXT_same (fun j q => M.1 73 j (by omega)) (fun b _ q => M.2.2.1 b (by omega))
/-- the items behind it -/
theorem rMV_it (M : rMV w w' g k e n ft c) (hI : rIT 98 w Γ g k l1) (hc : e = 0 ∧ l = [] ∨ e = 1 ∧ l ≠ [] ∧ rCC w Γ c l ∧ ((∀ t ∈ l, rNK t = true) ∨ w.2 92 c.toNat ≠ 50)) : ∀ (j : Nat) (l0 : List T_), j ≤ n → rIT 99 w Γ ft j l0 → rIT 98 w' Γ g (k + e + j) (l1 ++ l ++ l0) := by
  have X : rXT w Γ w' Γ (-1) := rMV_X M
  have m92 := M.2.2.1 92 (by decide)
  intro j
  induction j with
  | zero =>
    intro l0 _ h0
    have h0 : l0 = [] := h0
    have base : rIT 98 w' Γ g k l1 := rIT_mono X k l1 (fun i hi => M.2.2.2.1 i hi) hI
    rw [h0, List.append_nil, Nat.add_zero]
    rcases hc with ⟨q1, q2⟩ | ⟨q1, q2, q3, q4⟩
    · rw [q1, q2, List.append_nil]; exact base
    · rw [q1]
      have e98 := M.2.2.2.2.1 q1
      refine ⟨l1, l, base, by rw [e98]; exact rCC_mono X q3, q2, ?_, rfl⟩
      rw [e98, m92]; exact q4
  | succ j ih =>
    intro l0 hj h0
    obtain ⟨a1, a2, g1, g2, g3, g4, g5⟩ := h0
    have e98 := M.2.2.2.2.2 j (by omega)
    have ei : g + (k + e + j) = g + k + e + j := by omega
    refine ⟨l1 ++ l ++ a1, a2, ih a1 (by omega) g1, ?_, g3, ?_, ?_⟩
    · show rCC w' Γ (w'.2 98 (g + (k + e + j))) a2
      rw [ei, e98]; exact rCC_mono X g2
    · show (∀ t ∈ a2, rNK t = true) ∨ w'.2 92 (w'.2 98 (g + (k + e + j))).toNat ≠ 50
      rw [ei, e98, m92]; exact g4
    · rw [g5, List.append_assoc (l1 ++ l)]
/-- E's state behind it -/
theorem rMV_rc (M : rMV w w' g k e n ft c) (H : rRC C sil D qq ft s w Γ) (hg : w.1 73 33 = ((g + k : Nat) : Int)) (ht : w.1 73 35 = ((ft + n : Nat) : Int)) (he : e ≤ 1) (hq : qq + 1 ≤ 400) : rRC C sil D (qq + 1) ft (u_tl s .nil) w' Γ := by
  obtain ⟨c1, ⟨c33, c35⟩, cb, -, -, -⟩ := M
  obtain ⟨q1, ⟨q2, q2'⟩, q3, q4, q5, q6, q7, ⟨⟨k1, k1', k1''⟩, k2, k3, k4, k5⟩, -⟩ := H
  refine ⟨rHH_same q1 (fun j q => c1 73 j (by omega)) (fun b _ q => cb b (by omega)), ⟨rFR_w (s := s) q2 (c1 _ _ (by omega)) (c1 _ _ (by omega)) (cb _ (by decide)), q2'⟩, ?_, rS2_w q4 (c1 _ _ (by omega)) (c1 _ _ (by omega)) (c1 _ _ (by omega)) ⟨rfl, rfl, rfl⟩, ?_, fun f hf => ?_, ?_, ⟨⟨?_, hq, k1''⟩, ?_, ?_, ?_, ?_⟩, ⟨0, by rw [c35]; omega, rfl⟩, vc_nil, fun t ht => by cases ht⟩
  · unfold rS1 at q3 ⊢
    rw [c1 73 39 (by omega), c1 73 43 (by omega), c1 73 15 (by omega), c1 73 80 (by omega), c1 73 81 (by omega), c1 73 79 (by omega)]
    exact q3
  · unfold rS3 at q5 ⊢
    rw [c1 73 62 (by omega), c1 73 47 (by omega), cb 104 (by decide), cb 103 (by decide), cb 74 (by decide), cb 75 (by decide), cb 76 (by decide)]
    exact q5
  · obtain ⟨z1, z2, z3⟩ := q6 f hf
    rw [cb 100 (by decide), cb 101 (by decide)]
    refine ⟨z1, z2, fun q => ?_⟩
    obtain ⟨rw', r1, r2, r3, r4⟩ := z3 q
    exact ⟨rw', r1, by rw [c1 73 15 (by omega)]; exact r2, r3, rNF_go r4 (fun j q => c1 73 j (by omega)) (cb 84 (by decide))⟩
  · unfold rS5 at q7 ⊢
    rw [c1 73 70 (by omega), cb 114 (by decide), cb 115 (by decide), cb 116 (by decide), cb 117 (by decide), cb 118 (by decide), cb 119 (by decide), cb 120 (by decide), cb 121 (by decide)]
    exact q7
  · rw [c1 73 26 (by omega), c1 73 21 (by omega), c33, c35, cb 90 (by decide)]
    have ef : fcz (u_tl s .nil) = fcz s := rfl
    have et : s_tb (u_tl s .nil) = s_tb s := rfl
    rw [ef, et]
    omega
  · rw [c1 73 21 (by omega)]; exact k2
  · rw [c1 73 17 (by omega)]; exact k3
  · rw [c33, c35]; omega
  · rw [c1 73 5 (by omega)]; exact k5
/-- the walk: from where an item is made to the next one -/
theorem lk_mv (hv : am_two v10 = false ∧ am_two v11 = false) (hg : w.1 73 33 = ((g + k : Nat) : Int)) (ht : w.1 73 35 = ((ft + n : Nat) : Int)) (hb : g + k + n ≤ 8000 ∧ ft + n ≤ 8000) (hc : am_rg c) (hi : 0 ≤ i ∧ i < 1024) (L : ∀ e w', e ≤ 1 → (c = 0 → e = 0) → (c ≠ 0 → e = 1) → rMV w w' g k e n ft c → ∀ v9 v10 : am_V, am_two v9 = false → am_two v10 = false → zr198 fr P 18 f r 0 (g : Int) (ft : Int) st (w'.2 83 i.toNat) (.inl kk) v9 v10 v11 w') : zr198 fr P 175 f r 0 (g : Int) (ft : Int) st i (.inl kk) (.inl c) v10 v11 w := by
  obtain ⟨g10, g11⟩ := hv
  -- what was told is moved
  have M : ∀ (d j e : Nat) (w1 : W_), j + d = n → e ≤ 1 → (c = 0 → e = 0) → (c ≠ 0 → e = 1) → (∀ a j, ¬ (a = 73 ∧ j = 33) → w1.1 a j = w.1 a j) → w1.1 73 33 = ((g + k + e + j : Nat) : Int) → (∀ b, b ≠ 98 → w1.2 b = w.2 b) → (∀ i, i < g + k → w1.2 98 i = w.2 98 i) → (e = 1 → w1.2 98 (g + k) = c) → (∀ i, i < j → w1.2 98 (g + k + e + i) = w.2 99 (ft + i)) → zr198 fr P 209 f r 0 (g : Int) (ft : Int) st i (.inl kk) (.inl c) (.inl ((ft + j : Nat) : Int)) v11 w1 := by
    intro d
    induction d with
    | zero =>
      intro j e w1 hj he h0 h1 m1 m2 m3 m4 m5 m6
      have jn : j = n := by omega
      refine lk_198_209b (n := ((ft + n : Nat) : Int)) ⟨rfl, g11⟩ (by rw [m1 73 35 (by omega)]; exact ht) (by omega) (by omega) (by omega) (lk_198_254 ⟨rfl, g11⟩ hi ?_)
      have e83 : w1.2 83 = (w_f w1 73 35 (ft : Int)).2 83 := rfl
      rw [e83]
      refine L e (w_f w1 73 35 (ft : Int)) he h0 h1 ⟨fun a j q => ?_, ⟨?_, ?_⟩, m3, m4, m5, fun i hi => m6 i (by omega)⟩ _ _ rfl rfl
      · rw [w_f_ne _ _ _ _ _ _ (by omega)]; exact m1 a j (by omega)
      · rw [w_f_ne _ _ _ _ _ _ (by omega), m2, jn]
      · rw [w_f1, w_u_at, if_pos ⟨rfl, rfl⟩]
    | succ d ih =>
      intro j e w1 hj he h0 h1 m1 m2 m3 m4 m5 m6
      refine lk_198_209a (m := ((g + k + e + j : Nat) : Int)) (n := ((ft + n : Nat) : Int)) ⟨rfl, g11⟩ m2 (by omega) (by rw [m1 73 35 (by omega)]; exact ht) (by omega) (by omega) ?_
      rw [show (((g + k + e + j : Nat) : Int)).toNat = g + k + e + j by omega, show (((ft + j : Nat) : Int)).toNat = ft + j by omega, m3 99 (by decide)]
      have z := ih (j + 1) e (w_f (w_a w1 98 (g + k + e + j) (w.2 99 (ft + j))) 73 33 (((g + k + e + j : Nat) : Int) + 1)) (by omega) he h0 h1 (fun a j' q => ?_) ?_ (fun b q => ?_) (fun i hi => ?_) (fun q => ?_) (fun i hi => ?_)
      · rw [show (((ft + (j + 1) : Nat)) : Int) = ((ft + j : Nat) : Int) + 1 by omega] at z
        exact z
      · rw [w_f_ne _ _ _ _ _ _ (by omega)]; exact m1 a j' q
      · rw [w_f1, w_u_at, if_pos ⟨rfl, rfl⟩]; omega
      · rw [w_f2, w_a_2ne _ _ _ q]; exact m3 b q
      · rw [w_f2]
        show (if 98 = 98 ∧ i = g + k + e + j then _ else w1.2 98 i) = _
        rw [if_neg (by omega)]; exact m4 i hi
      · rw [w_f2]
        show (if 98 = 98 ∧ g + k = g + k + e + j then _ else w1.2 98 (g + k)) = _
        rw [if_neg (by omega)]; exact m5 q
      · rw [w_f2]
        show (if 98 = 98 ∧ g + k + e + i = g + k + e + j then w.2 99 (ft + j) else w1.2 98 (g + k + e + i)) = _
        by_cases d' : i = j
        · rw [if_pos ⟨rfl, by omega⟩, d']
        · rw [if_neg (by omega)]; exact m6 i (by omega)
  have eg : (((g + k : Nat) : Int)).toNat = g + k := by omega
  by_cases c0 : c = 0
  · refine lk_198_175_0 (m := ((g + k : Nat) : Int)) ⟨g10, g11⟩ hg (by omega) hc c0 ?_
    rw [eg]
    refine M n 0 0 (w_f (w_a w 98 (g + k) c) 73 33 (((g + k : Nat) : Int) + 0)) (by omega) (by omega) (fun _ => rfl) (fun q => absurd c0 q) (fun a j q => ?_) ?_ (fun b q => ?_) (fun i hi => ?_) (fun q => by cases q) (fun i hi => by omega)
    · rw [w_f_ne _ _ _ _ _ _ q]; rfl
    · rw [w_f1, w_u_at, if_pos ⟨rfl, rfl⟩]; omega
    · rw [w_f2, w_a_2ne _ _ _ q]
    · rw [w_f2]
      show (if 98 = 98 ∧ i = g + k then _ else w.2 98 i) = _
      rw [if_neg (by omega)]
  · refine lk_198_175_1 (m := ((g + k : Nat) : Int)) ⟨g10, g11⟩ hg (by omega) hc c0 ?_
    rw [eg]
    refine M n 0 1 (w_f (w_a w 98 (g + k) c) 73 33 (((g + k : Nat) : Int) + 1)) (by omega) (by omega) (fun q => absurd q c0) (fun _ => rfl) (fun a j q => ?_) ?_ (fun b q => ?_) (fun i hi => ?_) (fun _ => ?_) (fun i hi => by omega)
    · rw [w_f_ne _ _ _ _ _ _ q]; rfl
    · rw [w_f1, w_u_at, if_pos ⟨rfl, rfl⟩]; omega
    · rw [w_f2, w_a_2ne _ _ _ q]
    · rw [w_f2]
      show (if 98 = 98 ∧ i = g + k then _ else w.2 98 i) = _
      rw [if_neg (by omega)]
    · rw [w_f2]
      show (if 98 = 98 ∧ g + k = g + k then c else _) = c
      rw [if_pos ⟨rfl, rfl⟩]
end
