/-! ===== what has two parts ===== -/
section
variable {C : C_} {sil : Bool} {D : Prop} {qq : Int} {ft : Nat} {s s1 s2 : S_} {w w2 : W_} {Γ Γ2 : rG_} {n n1 fr fr1 L id : Nat} {hb hb1 : Bool} {u : Nat → Bool} {v v1 a b c e t : T_} {E E1 E2 : N_} {row : Nat} {x y nn : Int} {r1 r2 r4 : K_} {R : Int}
/-- both parts are run -/
theorem run_two {k : Nat} (I : rIN C sil D qq ft n u s (ce k nn id a b c) E w Γ x row fr) (hn : n1 + 1 ≤ n) (h1 : rSK C sil n1 r1) (M1 : eMK r1) (hB : rBr r1) (hK : k = 9 ∨ k = 10 ∨ k = 11 ∨ k = 12 ∨ k = 13 ∨ k = 30) (h : ev1 L C r1 r2 r4 sil (ce k nn id a b c) E hb s = some (v, E1, s1)) (hs : s_b s1 ≤ 90000 ∧ s_nt s1 ≤ 900000) (Lk : ∀ v1 v2 E3 s3 rv1 rv2 w3 Γ3, o_pair L C k id a b v1 v2 E3 s3 = some (v, E1, s1) → rIN C sil D (qq - 3) ft n u s3 (ce k nn id a b c) E3 w3 Γ3 x row fr → rVF w3 Γ3 v1 rv1 → rVF w3 Γ3 v2 rv2 → rPO n hb s s3 w Γ w3 Γ3 (row : Int) → w3.1 73 21 + 1 + ((s_tb s : Nat) : Int) ≤ w.1 73 21 + ((s_tb s3 : Nat) : Int) → (v_nf v1 = 0 ∨ (w3.2 79 (w3.2 81 (3 * x + 0).toNat).toNat = ((e_id a / 60 : Nat) : Int) ∧ w3.2 80 (w3.2 81 (3 * x + 0).toNat).toNat = ((e_id a % 60 : Nat) : Int))) → (v_nf v2 = 0 ∨ (w3.2 79 (w3.2 81 (3 * x + 1).toNat).toNat = ((e_id b / 60 : Nat) : Int) ∧ w3.2 80 (w3.2 81 (3 * x + 1).toNat).toNat = ((e_id b % 60 : Nat) : Int))) → zr208 (fr - 1) (rVO C sil D qq ft n hb u s s1 v E1 row w Γ) 243 x rv1 (row : Int) (if hb = true then 1 else 0) (.inl (k : Int)) (.inl (w3.2 81 (3 * x + 0).toNat)) (.inl rv2) am_X am_X w3) : ww_Ct 207 fr [.inr (.inr (.inl 73)), .inl x, .inl (row : Int), .inl (if hb = true then 1 else 0)] w (rVO C sil D qq ft n hb u s s1 v E1 row w Γ) := by
  rw [ev1_two hK] at h
  split at h
  · rename_i tb
    cases hr : r1 sil a E hb (u_go s) with
    | none => rw [hr] at h; cases h
    | some z =>
      obtain ⟨v1, E2, s2⟩ := z
      rw [hr] at h
      dsimp only at h
      cases hr2 : r1 sil b E2 hb s2 with
      | none => rw [hr2] at h; cases h
      | some z =>
        obtain ⟨v2, E3, s3⟩ := z
        rw [hr2] at h
        have h : o_pair L C k id a b v1 v2 E3 s3 = some (v, E1, s1) := h
        have hfr := I.2.2.2.2.2.2
        have lt : s_lt (u_go s) ≤ s_b (u_go s) := by have := rIN_lt I; show s_lt s ≤ s_b s + 1; omega
        have m1 := M1 _ _ _ _ _ _ _ _ hr lt
        have m2 := M1 _ _ _ _ _ _ _ _ hr2 m1.2.2.2.2.1
        have m3 := o_pair_M (hb := hb) h m2.2.2.2.2.1
        have hs3 : s_b s3 ≤ 90000 ∧ s_nt s3 ≤ 900000 := ⟨Nat.le_trans m3.1 hs.1, Nat.le_trans m3.2.1 hs.2⟩
        have hs2 : s_b s2 ≤ 90000 ∧ s_nt s2 ≤ 900000 := ⟨Nat.le_trans m2.1 hs3.1, Nat.le_trans m2.2.1 hs3.2⟩
        have hb1 : s_b s + 1 ≤ 90000 := Nat.le_trans m1.1 hs2.1
        have p2 : 2 ≤ j_par k ∧ 1 ≤ j_par k ∧ k ≠ 15 := by rcases hK with rfl | rfl | rfl | rfl | rfl | rfl <;> decide
        have hK7 : (9 ≤ k ∧ k ≤ 14) ∨ k = 17 ∨ k = 20 ∨ k = 21 ∨ k = 28 ∨ k = 30 ∨ k = 31 := by omega
        have k64 : (0 ≤ (k : Int) ∧ (k : Int) < 64) ∧ ((k : Int) ≠ 14 ∧ (k : Int) ≠ 17) ∧ ((k : Int) ≠ 20 ∧ (k : Int) ≠ 28) ∧ (k : Int) ≠ 21 ∧ (k : Int) ≠ 31 := by omega
        have ea := (rIN_x I).2.2.2.2.1 p2.2.1
        rw [if_neg p2.2.2] at ea
        have kx := (rIN_x I).1
        have eb0 := (rIN_x I).2.2.2.2.2.1 p2.1
        refine run_kid I hn h1 tb hb1 hK7 hr hs2 (fun rv w2 Γ2 I2 V P ST => ?_)
        clear hK hK7
        have Xk := (rIN_x I2).2.1.1
        have Xx := (rIN_x I2).1
        have eb := (rIN_x I2).2.2.2.2.2.1 p2.1
        have A2 := P.1.1.2 x.toNat (by omega) (by omega)
        have f81 : ∀ w' : W_, w'.2 81 (3 * x.toNat) = w.2 81 (3 * x.toNat) → w'.2 81 (3 * x + 0).toNat = w.2 81 (3 * x + 0).toNat := fun w' q => by
          rw [show (3 * x + 0).toNat = 3 * x.toNat by omega]; exact q
        have g81 : ∀ w' : W_, w'.2 81 (3 * x.toNat + 1) = w2.2 81 (3 * x.toNat + 1) → w'.2 81 (3 * x + 1).toNat = w2.2 81 (3 * x + 1).toNat := fun w' q => by
          rw [show (3 * x + 1).toNat = 3 * x.toNat + 1 by omega]; exact q
        refine lk_207p (R := fun y w' => rVO C sil D qq ft n hb u s s1 v E1 row w Γ (some (.inl y)) w') k64.1 (by omega) k64.2.1 (Q_m ?_) (fun y w' g => g)
        refine lk_208b (k := (k : Int)) (p1 := w2.2 81 (3 * x + 0).toNat) (by omega) (by omega) Xk rfl k64.1 k64.2.2.1 ?_
        refine lk_208_98n k64.1 k64.2.2.2.1 (lk_208_159n k64.1 k64.2.2.2.2 ?_)
        refine lk_208_228 (R := fun y w' => rVO C sil D (qq - 3) ft n1 hb u s2 s3 v2 E3 row w2 Γ2 (some (.inl y)) w') (by omega) (by omega) ((rSK_to h1 hr2 (rIN_kid (n1 := n1) (fr1 := fr - 1 - 1) I2 eb (fun m q => nm_b q) (by omega)) hs3).mono (yP_m rVO_yP)) ?_
        rintro rv2 w3 ⟨y, q, Γ3, g1, g2, g3, g4⟩
        cases q
        have A3 := g4.1.1.2 x.toNat (by omega) (by omega)
        have P3 := rPO_trans (n := n) (hb := hb) (R := (row : Int)) P g4 (Nat.le_refl _) (by omega) (fun q => q) (fun q => q) (Or.inl rfl) (Or.inl rfl)
        have e0 : w3.2 81 (3 * x + 0).toNat = w.2 81 (3 * x + 0).toNat := f81 w3 (by rw [A3.2.2.1, A2.2.2.1])
        have e02 : w2.2 81 (3 * x + 0).toNat = w.2 81 (3 * x + 0).toNat := f81 w2 A2.2.2.1
        have e1 : w3.2 81 (3 * x + 1).toNat = w2.2 81 (3 * x + 1).toNat := g81 w3 A3.2.2.2.1
        have kia := kid_id (w2 := w3) hB hr ea P3.1.1.2
        have kib := kid_id (w2 := w3) hB hr2 eb g4.1.1.2
        rw [← e0] at kia
        rw [← e1] at kib
        rw [e02, ← e0]
        have z := g4.2.2.2.2.2.2
        exact Lk v1 v2 E3 s3 rv rv2 w3 Γ3 h (rIN_next I2 g1 g4 g3) (rVF_mono g4.1 V) g2 P3 (by clear kia kib ea eb eb0; omega) kia kib
  · cases h
theorem b9_b (x : Int) : -9999 ≤ b9 x ∧ b9 x ≤ 9999 := by
  unfold b9
  (repeat' split) <;> omega
theorem mul_b {x y : Int} (h1 : -9999 ≤ x ∧ x ≤ 9999) (h2 : -9999 ≤ y ∧ y ≤ 9999) : -100000000 ≤ x * y ∧ x * y ≤ 100000000 := by
  have a : x.natAbs ≤ 9999 := by omega
  have b : y.natAbs ≤ 9999 := by omega
  have c := Nat.mul_le_mul a b
  rw [← Int.natAbs_mul] at c
  omega
theorem va_9 (x y : Int) : b9 (x + y) = v_arith 9 x y := by unfold v_arith; rw [if_pos rfl]
theorem va_10 (x y : Int) : b9 (x - y) = v_arith 10 x y := by unfold v_arith; rw [if_neg (by decide), if_pos rfl]
theorem va_11 (x y : Int) : b9 (x * y) = v_arith 11 x y := by unfold v_arith; rw [if_neg (by decide), if_neg (by decide), if_pos rfl]
theorem va_12 (x y : Int) : (if x < y then 1 else 0) = v_arith 12 x y := by
  unfold v_arith
  rw [if_neg (show ¬ (12 : Nat) = 9 by decide), if_neg (show ¬ (12 : Nat) = 10 by decide), if_neg (show ¬ (12 : Nat) = 11 by decide)]
/-- ADD, SUB, MUL, LESS -/
theorem rn_ar {k : Nat} (I : rIN C sil D qq ft n u s (ce k nn id a b c) E w Γ x row fr) (hn : n1 + 1 ≤ n) (h1 : rSK C sil n1 r1) (M1 : eMK r1) (hB : rBr r1) (hk : k = 9 ∨ k = 10 ∨ k = 11 ∨ k = 12) (h : ev1 L C r1 r2 r4 sil (ce k nn id a b c) E hb s = some (v, E1, s1)) (hs : s_b s1 ≤ 90000 ∧ s_nt s1 ≤ 900000) : ww_Ct 207 fr [.inr (.inr (.inl 73)), .inl x, .inl (row : Int), .inl (if hb = true then 1 else 0)] w (rVO C sil D qq ft n hb u s s1 v E1 row w Γ) := by
  refine run_two I hn h1 M1 hB (by omega) h hs (fun v1 v2 E3 s3 rv1 rv2 w3 Γ3 h I3 V1 V2 P _ _ _ => ?_)
  have hq := I.2.1
  have hfr := I.2.2.2.2.2.2
  have B := rRC_bd I3.1
  have X1 := (rIN_x I3).1
  have Xk := (rIN_x I3).2.1.1
  have k64 : (0 ≤ (k : Int) ∧ (k : Int) < 64) ∧ (k : Int) ≠ 30 ∧ (k : Int) ≠ 13 := by omega
  refine lk_208_243n k64.1 k64.2.1 (lk_208_302n k64.1 k64.2.2 (lk_208_369 (R := fun y w' => rVO C sil D qq ft n hb u s s1 v E1 row w Γ (some (.inl y)) w') (by omega) (Q_m ?_) (fun y w' g => g)))
  have e : o_pair L C k id a b v1 v2 E3 s3 = o_two C k id v1 v2 E3 s3 := by
    unfold o_pair
    rw [if_neg (by omega), if_neg (by omega)]
  rw [e] at h
  obtain ⟨rg1, T1⟩ := rVt V1 B.1
  obtain ⟨rg2, T2⟩ := rVt V2 B.1
  unfold o_two at h
  by_cases w1 : v_isW v1 = true ∨ v_isW v2 = true
  · rw [if_pos w1] at h
    cases h
    refine lk_200w (by omega) rg1 rg2 rfl rfl ?_ (rVO_W I3 hq P)
    rcases w1 with q | q
    · rcases T1 with ⟨e1, e2⟩ | ⟨z, e1, e2, e3, e4⟩ | ⟨e1, e2, e3, e4⟩
      · exact Or.inl e2
      · rw [e1] at q; cases q
      · rw [e1] at q; cases q
    · rcases T2 with ⟨e1, e2⟩ | ⟨z, e1, e2, e3, e4⟩ | ⟨e1, e2, e3, e4⟩
      · exact Or.inr e2
      · rw [e1] at q; cases q
      · rw [e1] at q; cases q
  · rw [if_neg w1] at h
    have n5 : rv1 % 8 ≠ 5 ∧ rv2 % 8 ≠ 5 := by
      refine ⟨fun q => w1 (Or.inl ?_), fun q => w1 (Or.inr ?_)⟩
      · rcases T1 with ⟨e1, e2⟩ | ⟨z, e1, e2, e3, e4⟩ | ⟨e1, e2, e3, e4⟩
        · rw [e1]; rfl
        · omega
        · exact absurd q e3
      · rcases T2 with ⟨e1, e2⟩ | ⟨z, e1, e2, e3, e4⟩ | ⟨e1, e2, e3, e4⟩
        · rw [e1]; rfl
        · omega
        · exact absurd q e3
    have BAD : (rv1 % 8 ≠ 1 ∨ rv2 % 8 ≠ 1) → o_bad C 3 id E3 s3 = some (v, E1, s1) → ww_Ct 200 (fr - 1 - 1) [.inr (.inr (.inl 73)), .inl x, .inl rv1, .inl rv2] w3 (rVO C sil D qq ft n hb u s s1 v E1 row w Γ) := fun h11 h => by
      unfold o_bad at h
      cases h
      exact lk_200b (by omega) (by omega) rg1 rg2 rfl rfl n5 h11 (by omega) (rVO_bad I3 hq P hs.2)
    rcases T1 with ⟨e1, e2⟩ | ⟨z1, e1, e2, e3, e4⟩ | ⟨e1, e2, e3, e4⟩
    · exact absurd e2 n5.1
    · rcases T2 with ⟨f1, f2⟩ | ⟨z2, f1, f2, f3, f4⟩ | ⟨f1, f2, f3, f4⟩
      · exact absurd f2 n5.2
      · rw [e1, f1] at h
        have h : some (vN (v_arith k z1 z2), E3, s3) = some (v, E1, s1) := h
        cases h
        have G : ∀ y, y = v_arith k z1 z2 → -9999 ≤ y ∧ y ≤ 9999 → rVO C sil D qq ft n hb u s s1 (vN (v_arith k z1 z2)) E1 row w Γ (some (.inl (8 * y + 1))) w3 := fun y q yr => by
          rw [← q]
          exact ⟨_, rfl, Γ3, rRC_qq I3.1 (by omega) (by omega), rVF_N yr, I3.2.2.2.2.1, P⟩
        have hm : -100000000 ≤ z1 * z2 ∧ z1 * z2 ≤ 100000000 := mul_b e4 f4
        rcases hk with rfl | rfl | rfl | rfl
        · exact lk_200_9 (by omega) (by omega) rg1 rg2 e2 f2 e3 f3 e4 f4 hm Xk (G _ (va_9 z1 z2) (b9_b _))
        · exact lk_200_10 (by omega) (by omega) rg1 rg2 e2 f2 e3 f3 e4 f4 hm Xk (G _ (va_10 z1 z2) (b9_b _))
        · exact lk_200_11 (by omega) (by omega) rg1 rg2 e2 f2 e3 f3 e4 f4 hm Xk (G _ (va_11 z1 z2) (b9_b _))
        · refine lk_200_12a (by omega) (by omega) rg1 rg2 e2 f2 e3 f3 e4 f4 Xk (fun q => G 1 ?_ (by omega)) (fun q => G 0 ?_ (by omega))
          · rw [← va_12, if_pos q]
          · rw [← va_12, if_neg q]
      · rw [e1, f2] at h
        exact BAD (Or.inr f4) h
    · rw [e2] at h
      exact BAD (Or.inl e4) (by cases hv : v_num v2 <;> (rw [hv] at h; exact h))
end
