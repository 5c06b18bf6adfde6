/-! ===== realizing: down to the first piece ===== -/
/-- only what waits is another -/
def rWS (w w' : W_) : Prop := (∀ a j, ¬ (a = 73 ∧ j = 52) → w'.1 a j = w.1 a j) ∧ ∀ b, b < 107 ∨ 110 < b → w'.2 b = w.2 b
theorem rWS_rfl (w : W_) : rWS w w := ⟨fun _ _ _ => rfl, fun _ _ => rfl⟩
theorem rWS_tr {w w1 w2 : W_} (h : rWS w w1) (g : rWS w1 w2) : rWS w w2 := ⟨fun a j q => by rw [g.1 a j q, h.1 a j q], fun b q => by rw [g.2 b q, h.2 b q]⟩
theorem rWS_f (w : W_) (x : Int) : rWS w (w_f w 73 52 x) := ⟨fun a j q => w_f_ne _ _ _ _ _ _ q, fun _ _ => rfl⟩
theorem rWS_X {w w' : W_} {Γ : rG_} {R : Int} (h : rWS w w') : rXT w Γ w' Γ R := rXT_same (fun j q => h.1 73 j (by omega)) (fun b _ q => h.2 b (by omega))
section
variable {w w' : W_} {o a b c : Int} {n : Nat}
theorem r_wt_1 (h : ¬ (b = 73 ∧ c = 52)) {x y : Nat} (hx : (x : Int) = b) (hy : (y : Int) = c) {p q r s : Int} : (r_wt w p q r s).1 x y = w.1 x y := by
  unfold r_wt
  rw [w_f_ne _ _ _ _ _ _ (by omega)]
  rfl
theorem r_wt_WS (w : W_) (o a b c : Int) : rWS w (r_wt w o a b c) := by
  refine ⟨fun x y q => ?_, fun d q => ?_⟩
  · unfold r_wt
    rw [w_f_ne _ _ _ _ _ _ q]; rfl
  · unfold r_wt
    rw [w_f2, w_a_2ne _ _ _ (by omega), w_a_2ne _ _ _ (by omega), w_a_2ne _ _ _ (by omega), w_a_2ne _ _ _ (by omega)]
/-- one more waits -/
theorem r_wt_at (h : w.1 73 52 = (n : Int)) : (r_wt w o a b c).1 73 52 = ((n + 1 : Nat) : Int) ∧ ((r_wt w o a b c).2 107 n = o ∧ (r_wt w o a b c).2 108 n = a ∧ (r_wt w o a b c).2 109 n = b ∧ (r_wt w o a b c).2 110 n = c) ∧ ∀ i, i < n → (r_wt w o a b c).2 107 i = w.2 107 i ∧ (r_wt w o a b c).2 108 i = w.2 108 i ∧ (r_wt w o a b c).2 109 i = w.2 109 i ∧ (r_wt w o a b c).2 110 i = w.2 110 i := by
  have en : (w.1 73 52).toNat = n := by omega
  unfold r_wt
  rw [en, h]
  have N : ∀ (v : W_) (b i : Nat) (y : Int) (c : Nat), c ≠ b → (w_a v b i y).2 c = v.2 c := fun v b i y c q => w_a_2ne _ _ _ q
  have S : ∀ (v : W_) (b i : Nat) (y : Int), (w_a v b i y).2 b i = y := fun v b i y => by
    show (if b = b ∧ i = i then y else _) = y
    rw [if_pos ⟨rfl, rfl⟩]
  have T : ∀ (v : W_) (b i j : Nat) (y : Int), j ≠ i → (w_a v b i y).2 b j = v.2 b j := fun v b i j y q => by
    show (if b = b ∧ j = i then y else _) = _
    rw [if_neg (fun z => q z.2)]
  refine ⟨by rw [w_f1, w_u_at, if_pos ⟨rfl, rfl⟩]; omega, ⟨?_, ?_, ?_, ?_⟩, fun i hi => ⟨?_, ?_, ?_, ?_⟩⟩
  · rw [w_f2, N _ _ _ _ _ (by decide), N _ _ _ _ _ (by decide), N _ _ _ _ _ (by decide), S]
  · rw [w_f2, N _ _ _ _ _ (by decide), N _ _ _ _ _ (by decide), S]
  · rw [w_f2, N _ _ _ _ _ (by decide), S]
  · rw [w_f2, S]
  · rw [w_f2, N _ _ _ _ _ (by decide), N _ _ _ _ _ (by decide), N _ _ _ _ _ (by decide), T _ _ _ _ _ (by omega)]
  · rw [w_f2, N _ _ _ _ _ (by decide), N _ _ _ _ _ (by decide), T _ _ _ _ _ (by omega), N _ _ _ _ _ (by decide)]
  · rw [w_f2, N _ _ _ _ _ (by decide), T _ _ _ _ _ (by omega), N _ _ _ _ _ (by decide), N _ _ _ _ _ (by decide)]
  · rw [w_f2, T _ _ _ _ _ (by omega), N _ _ _ _ _ (by decide), N _ _ _ _ _ (by decide), N _ _ _ _ _ (by decide)]
end
section
variable {w w' : W_} {Γ : rG_} {fr K L : Nat} {P : Option am_V → W_ → Prop} {y : Int}
/-- one more entry -/
theorem rST_push {n : Nat} {l1 l2 : List F_} {o a b c : Int} (h : w.1 73 52 = (n : Int)) (H : rST w Γ K L n l2) (hE : rEnt (r_wt w o a b c) Γ K L n l1 l2) : rST (r_wt w o a b c) Γ K L (n + 1) (l1 ++ l2) := ⟨l1, l2, rfl, rST_mono (rWS_X (R := -1) (r_wt_WS w o a b c)) (Nat.le_refl _) n l2 (r_wt_at h).2.2 H, hE⟩
/-- what is empty is passed -/
theorem ref_skip {tok : F_} {l : List F_} (h1 : 1 ≤ fr) : ∀ (n : Nat) (w : W_), w.1 73 52 = (n : Int) → n ≤ 16384 → rHH w Γ → rST w Γ K L n (tok :: l) → (∀ (w' : W_) (n' : Nat) (l1 l2 : List F_), rWS w w' → w'.1 73 52 = ((n' + 1 : Nat) : Int) → n' + 1 ≤ 16384 → tok :: l = l1 ++ l2 → l1 ≠ [] → rST w' Γ K L n' l2 → rEnt w' Γ K L n' l1 l2 → zr234 fr P 23 y w') → zr234 fr P 23 y w := by
  intro n
  induction n with
  | zero => intro w _ _ _ h; cases h
  | succ n ih =>
    intro w hn hn2 HH h LL
    obtain ⟨l1, l2, e, h2, h3⟩ := h
    by_cases c : l1 = []
    · have c0 : w.2 107 n = 0 ∧ w.2 108 n = 0 := by
        rcases h3.2 with ⟨g1, ts, g2, g3, -⟩ | ⟨-, -, m, -, g⟩ | ⟨-, g⟩ | ⟨-, g⟩ | ⟨-, g⟩
        · rw [c] at g2
          have ts0 : ts = [] := by
            cases ts with
            | nil => rfl
            | cons t r => cases g2
          exact ⟨g1, (rCC_0 HH g3).2 ts0⟩
        · rw [c] at g; cases g
        · rw [c] at g; cases g
        · rw [c] at g; cases g
        · rw [c] at g; cases g
      have en : (((n + 1 : Nat) : Int) - 1).toNat = n := by omega
      have ei : ((n + 1 : Nat) : Int) - 1 = (n : Int) := by omega
      refine lk_234d (R := fun w' => w' = w_f w 73 52 (n : Int)) h1 hn (by omega) (lk_232a hn (by omega) (by rw [en]; exact c0.1) rfl (by rw [en]; exact c0.2) (by rw [ei]; exact ⟨rfl, rfl⟩)) (fun w' hw => ?_)
      rw [hw]
      rw [c] at e
      have e : tok :: l = l2 := e
      refine ih _ (by rw [w_f1, w_u_at, if_pos ⟨rfl, rfl⟩]) (by omega) (rHH_same HH (fun j q => w_f_ne _ _ _ _ _ _ (by omega)) (fun _ _ _ => rfl)) ?_ (fun w2 n' l1' l2' q1 => LL w2 n' l1' l2' (rWS_tr (rWS_f w _) q1))
      rw [e]
      exact rST_mono (rWS_X (R := -1) (rWS_f w _)) (Nat.le_refl _) n l2 (fun _ _ => ⟨rfl, rfl, rfl, rfl⟩) h2
    · exact LL w n l1 l2 (rWS_rfl w) hn hn2 e c h2 h3
/-- contents that are joined wait apart -/
theorem ref_cat (h1 : 3 ≤ fr) : ∀ (c : Nat) (w : W_) (n : Nat) (l2 : List F_) (ts : List T_), w.1 73 52 = ((n + 1 : Nat) : Int) → n + 1 ≤ 16384 → rHH w Γ → w.1 73 26 ≤ 8192 → rST w Γ K L n l2 → w.2 107 n = 0 → w.2 108 n = (c : Int) → rCC w Γ (c : Int) ts → ts ≠ [] → n + uW (w.2 92) c ≤ K * cRl l2 + L → K * cRl l2 + L < 16384 → (∀ (w' : W_) (n' c' : Nat) (t : T_) (l' : List F_), rWS w w' → w'.1 73 52 = ((n' + 1 : Nat) : Int) → n' + 1 ≤ 16384 → ts.map fP ++ l2 = fP t :: l' → rST w' Γ K L n' l' → w'.2 107 n' = 0 → w'.2 108 n' = (c' : Int) → rCC w' Γ (c' : Int) [t] → w'.2 92 c' ≠ 50 → n' + uW (w'.2 92) c' ≤ K * cRl l' + L → zr234 fr P 23 y w') → zr234 fr P 23 y w := by
  intro c
  induction c using Nat.strongRecOn with
  | ind c ih =>
    intro w n l2 ts hn hn2 HH h26 h2 h107 h108 hc hts hb hK LL
    have hcr := hc.1
    have c0 : c ≠ 0 := fun q => hts ((rCC_0 HH hc).1 (by omega))
    have cc : ((c : Int)).toNat = c := by omega
    have c8 : 0 ≤ (c : Int) ∧ (c : Int) < 8192 := by omega
    obtain ⟨⟨-, g1, g2, -⟩, -, g3⟩ := HH.2.2.1 c (by omega) (by omega)
    have hΓ : Γ.1 c = ts := by have z := hc.2; rw [cc] at z; exact z
    by_cases k : w.2 92 c = 50
    · rcases g3 with ⟨-, ⟨a1, a2⟩, ⟨b1, b2⟩, g4, -⟩ | ⟨q, -⟩
      · have en : (((n + 1 : Nat) : Int) - 1).toNat = n := by omega
        have ei : ((n + 1 : Nat) : Int) - 1 = (n : Int) := by omega
        have uc := uW_lt (w.2 92) (m := (w.2 93 c).toNat) (n := c) (by omega) (by rw [k]; decide)
        have ud := uW_lt (w.2 92) (m := (w.2 94 c).toNat) (n := c) (by omega) (by rw [k]; decide)
        have S0 := rWS_f w (n : Int)
        have n0 : (w_f w 73 52 (n : Int)).1 73 52 = (n : Int) := by rw [w_f1, w_u_at, if_pos ⟨rfl, rfl⟩]
        have S1 := r_wt_WS (w_f w 73 52 (n : Int)) 0 (w.2 94 c) 0 0
        obtain ⟨n1, ⟨x1, x2, -, -⟩, -⟩ := r_wt_at (o := 0) (a := w.2 94 c) (b := 0) (c := 0) n0
        have S2 := r_wt_WS (r_wt (w_f w 73 52 (n : Int)) 0 (w.2 94 c) 0 0) 0 (w.2 93 c) 0 0
        obtain ⟨n2, ⟨y1, y2, -, -⟩, -⟩ := r_wt_at (o := 0) (a := w.2 93 c) (b := 0) (c := 0) n1
        have S01 := rWS_tr S0 S1
        have S02 := rWS_tr S01 S2
        have X1 : rXT w Γ _ Γ (-1) := rWS_X S01
        have X2 : rXT w Γ _ Γ (-1) := rWS_X S02
        have e92 : ∀ w', rWS w w' → w'.2 92 = w.2 92 := fun w' s => s.2 92 (by omega)
        have B1 : rCC w Γ (w.2 94 c) (Γ.1 (w.2 94 c).toNat) := ⟨by omega, rfl⟩
        have A1 : rCC w Γ (w.2 93 c) (Γ.1 (w.2 93 c).toNat) := ⟨by omega, rfl⟩
        have h20 : rST (w_f w 73 52 (n : Int)) Γ K L n l2 := rST_mono (rWS_X (R := -1) S0) (Nat.le_refl _) n l2 (fun _ _ => ⟨rfl, rfl, rfl, rfl⟩) h2
        have h21 := rST_push (o := 0) (a := w.2 94 c) (b := 0) (c := 0) (l1 := (Γ.1 (w.2 94 c).toNat).map fP) n0 h20 ⟨by omega, Or.inl ⟨x1, _, rfl, by rw [x2]; exact rCC_mono X1 B1, by rw [x2, e92 _ S01]; omega⟩⟩
        refine lk_234d (R := fun w' => w' = r_wt (r_wt (w_f w 73 52 (n : Int)) 0 (w.2 94 c) 0 0) 0 (w.2 93 c) 0 0) (by omega) hn (by omega) (lk_232b (a := (c : Int)) (R := fun w' => w' = r_wt (r_wt (w_f w 73 52 (n : Int)) 0 (w.2 94 c) 0 0) 0 (w.2 93 c) 0 0) (by omega) hn (by omega) (by rw [en]; exact h107) rfl (by rw [en]; exact h108) (by omega) ?_ (fun w' q => ⟨rfl, q⟩)) (fun w' hw => ?_)
        · rw [ei]
          refine lk_231a (k := 50) (a := w.2 94 c) (by omega) c8 (by rw [cc]; exact k) (by rw [n0]; omega) rfl (by rw [cc]; rfl) (lk_231b (a := w.2 93 c) (by omega) c8 (by rw [n1]; omega) ?_ ⟨rfl, rfl⟩)
          rw [cc, S1.2 93 (by omega)]; rfl
        · rw [hw]
          have nA : Γ.1 (w.2 93 c).toNat ≠ [] := (HH.2.2.1 (w.2 93 c).toNat (by omega) (by omega)).1.2.1
          have aa : (((w.2 93 c).toNat : Nat) : Int) = w.2 93 c := by omega
          have cr : cRl ((Γ.1 (w.2 94 c).toNat).map fP ++ l2) = cRl l2 := by rw [cRl_app, cRl_map]; omega
          refine ih (w.2 93 c).toNat (by omega) _ (n + 1) ((Γ.1 (w.2 94 c).toNat).map fP ++ l2) (Γ.1 (w.2 93 c).toNat) n2 (by omega) (rHH_same HH (fun j q => S02.1 73 j (by omega)) (fun b _ q => S02.2 b (by omega))) (by rw [S02.1 73 26 (by omega)]; exact h26) (rST_mono (rWS_X (R := -1) S2) (Nat.le_refl _) (n + 1) _ (r_wt_at n1).2.2 h21) y1 (by rw [aa]; exact y2) (by rw [aa]; exact rCC_mono X2 A1) nA (by rw [e92 _ S02, cr]; omega) (by rw [cr]; exact hK) (fun w2 n' c' t l' q1 q2 q3 q4 => LL w2 n' c' t l' (rWS_tr S02 q1) q2 q3 (by rw [← hΓ, g4, List.map_append, List.append_assoc]; exact q4))
      · exact absurd k q
    · rcases g3 with ⟨q, -⟩ | ⟨-, t, g4, -⟩
      · exact absurd q k
      · have et : ts = [t] := by rw [← hΓ]; exact g4
        exact LL w n c t l2 (rWS_rfl w) hn hn2 (by rw [et]; rfl) h2 h107 h108 (by rw [← et]; exact hc) k hb
end
