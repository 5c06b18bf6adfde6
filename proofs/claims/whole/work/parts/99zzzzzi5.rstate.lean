/-! ===== what E's state is in the reference ===== -/
/-- counts -/
def rS1 (sil : Bool) (s : S_) (w : W_) : Prop := (w.1 73 39 = ((s_b s : Nat) : Int) ∧ s_b s ≤ 100000 ∧ s_tb s ≤ s_b s ∧ s_lt s ≤ s_b s) ∧ (w.1 73 43 = ((s_dp s : Nat) : Int) ∧ s_dp s ≤ 8) ∧ (w.1 73 15 = ((s_rw s : Nat) : Int) ∧ s_rw s ≤ 2040) ∧ (w.1 73 80 = ((s_rn s : Nat) : Int) ∧ w.1 73 81 = ((s_tk s : Nat) : Int)) ∧ w.1 73 79 = if sil = true then 1 else 0
/-- how deep calls were, the last turn, what was asked: inside a kept call as E has it -/
def rS2 (C : C_) (D : Prop) (s : S_) (w : W_) : Prop := (0 ≤ w.1 73 45 ∧ w.1 73 45 ≤ 2000) ∧ am_rg (w.1 73 44) ∧ (∃ a : Nat, w.1 73 46 = ((a : Nat) : Int) ∧ a < 35184372088832 ∧ (D → ∀ q, q < 45 → a.testBit q = s_as s q)) ∧ (D → w.1 73 45 = ((s_sn s : Nat) : Int) ∧ w.1 73 44 = ((s_lt s : Nat) : Int) ∧ ∀ q, s_as s q = true → q < 45 ∧ (C.1 q).isSome = true)
/-- answers; tokens -/
def rS3 (C : C_) (w : W_) : Prop := (C.2.1 = w.1 73 62 ∧ 0 ≤ C.2.1 ∧ C.2.1 ≤ 12) ∧ (w.1 73 47 = 0 ∨ w.1 73 47 = 1) ∧ (∀ q : Nat, q < 42 → C.1 q = some (w.2 104 q) ∧ -9999 ≤ w.2 104 q ∧ w.2 104 q ≤ 9999) ∧ (∀ c : Nat, c < 3 → (w.1 73 47 = 1 → C.1 (42 + c) = some (w.2 103 c) ∧ -9999 ≤ w.2 103 c ∧ w.2 103 c ≤ 9999) ∧ (w.1 73 47 = 0 → C.1 (42 + c) = none)) ∧ flO C (w.2 74) (w.2 75) (w.2 76) ∧ ∀ c : Nat, c < 3 → am_rg (w.2 103 c)
/-- files -/
def rS4 (s : S_) (w : W_) (Γ : rG_) : Prop := ∀ f : Nat, f < 3 → w.2 100 f = ((s_fs s f : Nat) : Int) ∧ s_fs s f ≤ 2 ∧ (s_fs s f = 2 → ∃ row : Nat, w.2 101 f = (row : Int) ∧ (row : Int) < w.1 73 15 ∧ Γ.2.2.2 row = true ∧ rNF w Γ (fun _ => true) (s_fe s f) row)
/-- the memory -/
def rS5 (s : S_) (w : W_) : Prop := (w.1 73 70 = (((s_me s).length : Nat) : Int) ∧ (s_me s).length ≤ 60) ∧ ∀ (i : Nat) (r : R_), (s_me s)[i]? = some r → (w.2 114 i = ((r_id r / 60 : Nat) : Int) ∧ w.2 115 i = ((r_id r % 60 : Nat) : Int) ∧ r_id r < 1000 ∧ w.2 116 i = r_arg r ∧ -9999 ≤ r_arg r ∧ r_arg r ≤ 9999) ∧ (w.2 118 i = ((r_lt r : Nat) : Int) ∧ r_lt r ≤ 100000 ∧ w.2 119 i = ((r_sn r : Nat) : Int) ∧ r_sn r ≤ 2000) ∧ (∀ m : Nat, m < 10 → (∃ x, r_nums r m = some x ∧ w.2 117 (10 * i + m) = 8 * x + 1 ∧ -9999 ≤ x ∧ x ≤ 9999) ∨ (r_nums r m = none ∧ w.2 117 (10 * i + m) = 6)) ∧ (∃ a : Nat, w.2 120 i = ((a : Nat) : Int) ∧ a < 35184372088832 ∧ ∀ q, q < 45 → a.testBit q = r_as r q) ∧ ∀ q : Nat, q < 45 → r_as r q = true → r_an r q = some (w.2 121 (45 * i + q)) ∧ -9999 ≤ w.2 121 (45 * i + q) ∧ w.2 121 (45 * i + q) ≤ 9999
/-- bounds: what is made was begun -/
def rS6 (qq : Int) (s : S_) (w : W_) : Prop := (w.1 73 26 + 3 * ((rUC (w.2 90) (w.1 73 21).toNat : Nat) : Int) + w.1 73 33 + w.1 73 35 + ((fcz s : Nat) : Int) ≤ 4 + 3 * ((s_tb s : Nat) : Int) + qq ∧ qq ≤ 400 ∧ s_tb s ≤ 2000) ∧ (0 ≤ w.1 73 21 ∧ w.1 73 21 ≤ ((s_tb s : Nat) : Int)) ∧ (0 ≤ w.1 73 17 ∧ w.1 73 17 ≤ ((s_rw s : Nat) : Int)) ∧ (0 ≤ w.1 73 33 ∧ 0 ≤ w.1 73 35) ∧ w.1 73 5 + 241 * ((fcz s : Nat) : Int) ≤ 723
/-- what was told since ft -/
def rTl (ft : Nat) (s : S_) (w : W_) (Γ : rG_) : Prop := (∃ n : Nat, w.1 73 35 = ((ft + n : Nat) : Int) ∧ rIT 99 w Γ ft n (rFL (s_tl s))) ∧ vc (s_tl s) ∧ ∀ t ∈ rFL (s_tl s), rNK t = false
def rRC (C : C_) (sil : Bool) (D : Prop) (qq : Int) (ft : Nat) (s : S_) (w : W_) (Γ : rG_) : Prop := rHH w Γ ∧ (rFR s w ∧ s_nt s ≤ 1000000) ∧ rS1 sil s w ∧ rS2 C D s w ∧ rS3 C w ∧ rS4 s w Γ ∧ rS5 s w ∧ rS6 qq s w ∧ rTl ft s w Γ
/-- all else stays -/
def rOt (w w' : W_) : Prop := (∀ a j, ¬ (a = 73 ∧ (j = 5 ∨ j = 13 ∨ j = 14 ∨ j = 15 ∨ j = 17 ∨ j = 21 ∨ j = 26 ∨ j = 33 ∨ j = 35 ∨ j = 39 ∨ j = 40 ∨ j = 41 ∨ j = 43 ∨ j = 44 ∨ j = 45 ∨ j = 46 ∨ j = 70 ∨ j = 79 ∨ j = 80 ∨ j = 81 ∨ j = 83 ∨ j = 84)) → w'.1 a j = w.1 a j) ∧ (∀ b, b < 77 ∨ (102 < b ∧ b < 114) ∨ 122 < b → w'.2 b = w.2 b) ∧ ∀ g : Nat, g < 3 → w.2 100 g ≠ 0 → w'.2 100 g = w.2 100 g ∧ w'.2 101 g = w.2 101 g
/-- behind a run -/
def rPO (n : Nat) (hb : Bool) (s s1 : S_) (w : W_) (Γ : rG_) (w' : W_) (Γ' : rG_) (R : Int) : Prop := rXT w Γ w' Γ' R ∧ rOt w w' ∧ (w'.1 73 33 = w.1 73 33 ∧ ∀ i : Nat, (i : Int) < w.1 73 33 → w'.2 98 i = w.2 98 i) ∧ (w.1 73 35 ≤ w'.1 73 35 ∧ (∀ i : Nat, (i : Int) < w.1 73 35 → w'.2 99 i = w.2 99 i) ∧ (hb = false → w'.1 73 35 = w.1 73 35)) ∧ (w.1 73 40 ≤ w'.1 73 40 ∧ s_nt s ≤ s_nt s1 ∧ (s_nt s1 = s_nt s ↔ w'.1 73 40 = w.1 73 40)) ∧ w'.1 73 45 ≤ max (w.1 73 45) (n : Int) ∧ w'.1 73 21 + ((s_tb s : Nat) : Int) ≤ w.1 73 21 + ((s_tb s1 : Nat) : Int)
section
variable {C : C_} {sil : Bool} {D : Prop} {qq qq' : Int} {ft : Nat} {s s' s1 s2 : S_} {w w' w1 w2 : W_} {Γ Γ' Γ1 Γ2 : rG_} {R R1 R2 : Int} {n n1 n2 : Nat} {hb hb1 hb2 : Bool}
theorem rOt_tr (h : rOt w w1) (g : rOt w1 w2) : rOt w w2 := ⟨fun a j q => by rw [g.1 a j q, h.1 a j q], fun b q => by rw [g.2.1 b q, h.2.1 b q], fun f hf q => by
  have x := h.2.2 f hf q
  have y := g.2.2 f hf (by rw [x.1]; exact q)
  exact ⟨by rw [y.1, x.1], by rw [y.2, x.2]⟩⟩
theorem rOt_rfl : rOt w w := ⟨fun _ _ _ => rfl, fun _ _ => rfl, fun _ _ _ => ⟨rfl, rfl⟩⟩
theorem rOt_mk (h1 : ∀ a j, ¬ (a = 73 ∧ (j = 5 ∨ j = 13 ∨ j = 14 ∨ j = 15 ∨ j = 17 ∨ j = 21 ∨ j = 26 ∨ j = 33 ∨ j = 35 ∨ j = 39 ∨ j = 40 ∨ j = 41 ∨ j = 43 ∨ j = 44 ∨ j = 45 ∨ j = 46 ∨ j = 70 ∨ j = 79 ∨ j = 80 ∨ j = 81 ∨ j = 83 ∨ j = 84)) → w'.1 a j = w.1 a j) (h2 : ∀ b, b < 77 ∨ (99 < b ∧ b < 102) ∨ (102 < b ∧ b < 114) ∨ 122 < b → w'.2 b = w.2 b) : rOt w w' := ⟨h1, fun b q => h2 b (by omega), fun f _ _ => ⟨by rw [h2 100 (by omega)], by rw [h2 101 (by omega)]⟩⟩
theorem rPO_rfl : rPO n hb s s w Γ w Γ R := ⟨rXT_rfl, rOt_rfl, ⟨rfl, fun _ _ => rfl⟩, ⟨Int.le_refl _, fun _ _ => rfl, fun _ => rfl⟩, ⟨Int.le_refl _, Nat.le_refl _, ⟨fun _ => rfl, fun _ => rfl⟩⟩, by omega, Int.le_refl _⟩
theorem rPO_trans (h : rPO n1 hb1 s s1 w Γ w1 Γ1 R1) (g : rPO n2 hb2 s1 s2 w1 Γ1 w2 Γ2 R2) (hn1 : n1 ≤ n) (hn2 : n2 ≤ n) (hb1' : hb = false → hb1 = false) (hb2' : hb = false → hb2 = false) (h1 : R1 = R ∨ w.1 73 15 ≤ R1 ∨ R1 < 0) (h2 : R2 = R ∨ w.1 73 15 ≤ R2 ∨ R2 < 0) : rPO n hb s s2 w Γ w2 Γ2 R := by
  obtain ⟨a1, a2, ⟨a3, a4⟩, ⟨a5, a6, a7⟩, ⟨a8, a9, a10⟩, a11, a12⟩ := h
  obtain ⟨b1, b2, ⟨b3, b4⟩, ⟨b5, b6, b7⟩, ⟨b8, b9, b10⟩, b11, b12⟩ := g
  refine ⟨rXT_trans a1 b1 h1 h2, rOt_tr a2 b2, ⟨by omega, fun i q => by rw [b4 i (by omega), a4 i q]⟩, ⟨by omega, fun i q => by rw [b6 i (by omega), a6 i q], fun q => by rw [b7 (hb2' q), a7 (hb1' q)]⟩, ⟨by omega, by omega, ⟨fun q => ?_, fun q => ?_⟩⟩, by omega, by omega⟩
  · have := a10.1 (by omega)
    have := b10.1 (by omega)
    omega
  · have := a10.2 (by omega)
    have := b10.2 (by omega)
    omega
theorem rPO_wk (h : rPO n1 hb1 s s1 w Γ w1 Γ1 R1) (hn1 : n1 ≤ n) (hb1' : hb = false → hb1 = false) (h1 : R1 = R ∨ w.1 73 15 ≤ R1 ∨ R1 < 0) : rPO n hb s s1 w Γ w1 Γ1 R := rPO_trans h (rPO_rfl (n := n) (hb := hb) (R := R)) hn1 (Nat.le_refl _) hb1' (fun q => q) h1 (Or.inl rfl)
/-- the state relation behind a change that leaves files, memory and marks -/
theorem rRC_mk (H : rRC C sil D qq ft s w Γ) (X : rXT w Γ w' Γ' R) (hR : rOK Γ R) (H' : rHH w' Γ') (hfr : rFR s' w') (hnt : s_nt s' ≤ 1000000) (h1 : rS1 sil s' w') (h2 : rS2 C D s' w') (hF : ∀ j, j = 62 ∨ j = 47 ∨ j = 70 ∨ j = 35 → w'.1 73 j = w.1 73 j) (hA : ∀ b, (b < 77 ∨ 97 < b) → b ≠ 102 → b ≠ 98 → w'.2 b = w.2 b) (hs : s_fs s' = s_fs s ∧ s_fe s' = s_fe s ∧ s_me s' = s_me s ∧ s_tl s' = s_tl s) (h6 : rS6 qq' s' w') : rRC C sil D qq' ft s' w' Γ' := by
  obtain ⟨a1, a2, a3, a4, a5, a6, a7, a8, a9⟩ := H
  obtain ⟨e1, e2, e3, e4⟩ := hs
  refine ⟨H', ⟨hfr, hnt⟩, h1, h2, ?_, fun f hf => ?_, ?_, h6, ?_⟩
  · unfold rS3 at a5 ⊢
    rw [hF 62 (by omega), hF 47 (by omega), hA 104 (by omega) (by omega) (by omega), hA 103 (by omega) (by omega) (by omega), hA 74 (by omega) (by omega) (by omega), hA 75 (by omega) (by omega) (by omega), hA 76 (by omega) (by omega) (by omega)]
    exact a5
  · obtain ⟨q1, q2, q3⟩ := a6 f hf
    rw [hA 100 (by omega) (by omega) (by omega), hA 101 (by omega) (by omega) (by omega), e1, e2]
    refine ⟨q1, q2, fun q => ?_⟩
    obtain ⟨row, r1, r2, r3, r4⟩ := q3 q
    have hr : (row : Int) ≠ R := fun z => by
      have := hR row z
      rw [r3] at this
      cases this
    have m := X.1.1.2.1
    exact ⟨row, r1, by omega, by rw [X.2.1.2 row r2]; exact r3, rNF_mono X r2 hr r4⟩
  · unfold rS5 at a7 ⊢
    rw [hF 70 (by omega), e3, hA 114 (by omega) (by omega) (by omega), hA 115 (by omega) (by omega) (by omega), hA 116 (by omega) (by omega) (by omega), hA 117 (by omega) (by omega) (by omega), hA 118 (by omega) (by omega) (by omega), hA 119 (by omega) (by omega) (by omega), hA 120 (by omega) (by omega) (by omega), hA 121 (by omega) (by omega) (by omega)]
    exact a7
  · unfold rTl at a9 ⊢
    obtain ⟨⟨n, t1, t2⟩, t3, t4⟩ := a9
    rw [e4, hF 35 (by omega)]
    exact ⟨⟨n, t1, rIT_mono X n _ (fun i _ => by rw [hA 99 (by omega) (by omega) (by omega)]) t2⟩, t3, t4⟩
/-- only cells of numbers have changed -/
theorem rRC_c (H : rRC C sil D qq ft s w Γ) (hfr : rFR s' w') (hnt : s_nt s' ≤ 1000000) (h1 : rS1 sil s' w') (h2 : rS2 C D s' w') (hF : ∀ j, j = 62 ∨ j = 47 ∨ j = 70 ∨ j = 35 ∨ j = 33 ∨ j = 5 ∨ j = 15 ∨ j = 17 ∨ j = 21 ∨ j = 26 → w'.1 73 j = w.1 73 j) (hA : ∀ b, b ≠ 102 → w'.2 b = w.2 b) (hs : s_fs s' = s_fs s ∧ s_fe s' = s_fe s ∧ s_me s' = s_me s ∧ s_tl s' = s_tl s) (h6 : s_tb s ≤ s_tb s' ∧ s_tb s' ≤ 2000 ∧ s_rw s ≤ s_rw s') (hq : qq' = qq - 3 * (((s_tb s' : Nat) : Int) - ((s_tb s : Nat) : Int))) : rRC C sil D qq' ft s' w' Γ := by
  refine rRC_mk H (rXT_same (R := -1) (fun j q => hF j (by omega)) (fun b _ _ => hA b (by omega))) (rOK_m _) (rHH_same H.1 (fun j q => hF j (by omega)) (fun b _ _ => hA b (by omega))) hfr hnt h1 h2 (fun j q => hF j (by omega)) (fun b _ q _ => hA b q) hs ?_
  obtain ⟨-, -, -, -, -, -, -, ⟨⟨a1, a2, a3⟩, a4, a5, a6, a7⟩, -⟩ := H
  unfold rS6
  have ef : fcz s' = fcz s := by unfold fcz; rw [hs.1]
  rw [hF 26 (by omega), hF 21 (by omega), hF 33 (by omega), hF 35 (by omega), hF 17 (by omega), hF 5 (by omega), hA 90 (by omega), ef]
  refine ⟨⟨by omega, by omega, by omega⟩, by omega, by omega, a6, a7⟩
end
