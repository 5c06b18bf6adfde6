/-! ===== contentOf, gathered ===== -/
def r_nts (w : W_) (c f p : Int) : Nat → W_
  | 0 => w
  | n + 1 => r_nt (r_nts w c f p n) c f p
theorem f_notes_S (C : C_) (f : Int) : ∀ (n : Nat) (s : S_), f_notes C f (n + 1) s = f_note C f (f_notes C f n s) := by
  intro n
  induction n with
  | zero => intro s; rfl
  | succ n ih => intro s; exact ih (f_note C f s)
section
variable {w w1 w2 : W_} {Γ Γ1 Γ2 : rG_} {K : Nat} {d : Int} {c f p z : Int} {s : S_} {C : C_}
theorem r_nts_1 (n : Nat) {a j : Nat} (h : ¬ (a = 73 ∧ (j = 40 ∨ j = 41))) : (r_nts w c f p n).1 a j = w.1 a j := by
  induction n with
  | zero => rfl
  | succ n ih => show (r_nt _ c f p).1 a j = _; rw [r_nt_1 _ _ _ _ h]; exact ih
theorem r_nts_2 (n : Nat) {b : Nat} (h : b ≠ 102) : (r_nts w c f p n).2 b = w.2 b := by
  induction n with
  | zero => rfl
  | succ n ih => show (r_nt _ c f p).2 b = _; rw [r_nt_2 _ _ _ _ h]; exact ih
theorem r_nts_40 (n : Nat) : (r_nts w c f p n).1 73 40 = w.1 73 40 + n := by
  induction n with
  | zero => show w.1 73 40 = _; omega
  | succ n ih =>
    show (r_nt (r_nts w c f p n) c f p).1 73 40 = _
    have e : (r_nt (r_nts w c f p n) c f p).1 73 40 = (r_nts w c f p n).1 73 40 + 1 := by
      unfold r_nt
      split <;> rfl
    rw [e, ih]; omega
theorem r_nts_41 (n : Nat) (h : 0 ≤ w.1 73 41 ∧ w.1 73 41 ≤ 60) : 0 ≤ (r_nts w c f p n).1 73 41 ∧ (r_nts w c f p n).1 73 41 ≤ 60 := by
  induction n with
  | zero => exact h
  | succ n ih =>
    show 0 ≤ (r_nt (r_nts w c f p n) c f p).1 73 41 ∧ (r_nt (r_nts w c f p n) c f p).1 73 41 ≤ 60
    unfold r_nt
    split
    · show 0 ≤ (r_nts w c f p n).1 73 41 + 1 ∧ (r_nts w c f p n).1 73 41 + 1 ≤ 60
      omega
    · exact ih
theorem f_notes_len (n : Nat) (h : (s_fl s).length ≤ 60) : (s_fl (f_notes C z n s)).length = min 60 ((s_fl s).length + n) ∧ s_nt (f_notes C z n s) = s_nt s + n := by
  induction n with
  | zero => exact ⟨by show (s_fl s).length = _; omega, rfl⟩
  | succ n ih =>
    rw [f_notes_S]
    obtain ⟨i1, i2⟩ := ih
    generalize f_notes C z n s = s1 at i1 i2 ⊢
    have e1 : s_fl (f_note C z s1) = if (s_fl s1).length < 60 then s_fl s1 ++ [z + C.2.1] else s_fl s1 := rfl
    have e2 : s_nt (f_note C z s1) = s_nt s1 + 1 := rfl
    refine ⟨?_, by rw [e2, i2]; omega⟩
    rw [e1]
    split
    · rw [List.length_append, List.length_singleton]; omega
    · omega
theorem rFR_ntk (hu : C.2.1 = w.1 73 62) (hz : z = 100000 * c + (10000 * f + 100 * p)) (h : rFR s w) (n : Nat) : rFR (f_notes C z n s) (r_nts w c f p n) := by
  induction n with
  | zero => exact h
  | succ n ih =>
    rw [f_notes_S]
    exact rFR_nt (by rw [r_nts_1 _ (by omega)]; exact hu) ih hz
/-- faults of functions that have no content: all count, sixty at most are new -/
theorem rFR_nts (hu : C.2.1 = w.1 73 62) (hz : z = 100000 * c + (10000 * f + 100 * p)) (h : rFR s w) (n : Nat) : rFR (f_notes C z (min 60 n) s) (r_nts w c f p (min 100 n)) := by
  by_cases q : n ≤ 60
  · rw [show min 60 n = n by omega, show min 100 n = n by omega]
    exact rFR_ntk hu hz h n
  · rw [show min 60 n = 60 by omega]
    have A : ∀ j : Nat, (r_nts w c f p (60 + j)).1 73 41 = (r_nts w c f p 60).1 73 41 ∧ (r_nts w c f p (60 + j)).2 102 = (r_nts w c f p 60).2 102 := by
      have z0 := rFR_ntk hu hz h 60
      have l := f_notes_len (C := C) (z := z) (s := s) 60 h.1.2
      intro j
      induction j with
      | zero => rw [Nat.add_zero]; exact ⟨rfl, rfl⟩
      | succ j ih =>
        obtain ⟨i1, i2⟩ := ih
        show (r_nt (r_nts w c f p (60 + j)) c f p).1 73 41 = _ ∧ (r_nt (r_nts w c f p (60 + j)) c f p).2 102 = _
        have e : ¬ (r_nts w c f p (60 + j)).1 73 41 < 60 := by
          rw [i1, z0.1.1, l.1]
          omega
        unfold r_nt
        rw [if_neg e]
        exact ⟨i1, i2⟩
    have E : ∃ j, min 100 n = 60 + j ∧ j ≤ 40 := ⟨min 100 n - 60, by omega, by omega⟩
    obtain ⟨j, ej, j40⟩ := E
    rw [ej]
    have z60 := rFR_ntk hu hz h 60
    have l := f_notes_len (C := C) (z := z) (s := s) 60 h.1.2
    obtain ⟨⟨q1, q2⟩, q3, q4, q5⟩ := z60
    refine ⟨⟨by rw [(A j).1]; exact q1, q2⟩, fun i hi => by rw [(A j).2]; exact q3 i hi, ?_, ?_⟩
    · rw [l.2, r_nts_40]
      have := h.2.2.1
      omega
    · rw [l.2, r_nts_40]
      have := h.2.2.2
      omega
/-- the content of a value, its functions noted -/
theorem lk_195 {L : Nat} {v : T_} {r : Int} {fr : Nat} (H : rHH w Γ) (V : rVF w Γ v r) (hL : v_dp v ≤ L) (hf : L + 9 ≤ fr) (B : rBD w) (hb : w.1 73 26 + 3 * (rUC (w.2 90) (rKr r) : Int) + 1 ≤ 8192) (h41 : 0 ≤ w.1 73 41 ∧ w.1 73 41 ≤ 60) : ww_Ct 195 fr [.inr (.inr (.inl 73)), .inl r, .inl f, .inl p] w fun r' w' => ∃ x, r' = some (.inl x) ∧ ∃ Γ' w1, rMO w Γ w1 Γ' (rKr r) (if v_isN v = true then 1 else 0) ∧ rCC w1 Γ' x (rFL v) ∧ w' = r_nts w1 3 f p (min 100 (v_nf v)) := by
  refine lk_195a (by omega) (lk_193 L (fr := fr - 1) H V hL (by omega) B hb) (fun x w1 hR => ?_)
  obtain ⟨Γ1, M, C1, P1⟩ := hR
  have M' := M
  obtain ⟨X, H1, G, ⟨F, A, S⟩, D⟩ := M
  have B1 : rBD w1 := by
    refine ⟨by rw [F 73 17 (by omega)]; exact B.1, by rw [F 73 21 (by omega)]; exact B.2.1, ?_⟩
    split at D <;> omega
  have V1 := rVF_mono X V
  have N := rFN H1 V1 B1 P1
  have p4 := rVF_p4 V1 B1
  have h41' : 0 ≤ w1.1 73 41 ∧ w1.1 73 41 ≤ 60 := by rw [F 73 41 (by omega)]; exact h41
  have M : ∀ (j k : Nat), k + j = min 100 (v_nf v) → zr195 fr (fun r' w' => ∃ x, r' = some (.inl x) ∧ ∃ Γ' w1, rMO w Γ w1 Γ' (rKr r) (if v_isN v = true then 1 else 0) ∧ rCC w1 Γ' x (rFL v) ∧ w' = r_nts w1 3 f p (min 100 (v_nf v))) 10 r f p (.inl x) (.inl (k : Int)) (r_nts w1 3 f p k) := by
    intro j
    induction j with
    | zero =>
      intro k hk
      refine lk_195b (n := ((min 100 (v_nf v) : Nat) : Int)) (by omega) p4 ?_ (by omega) (by omega) ?_ (fun q => absurd q (by omega)) (fun _ => ⟨x, rfl, Γ1, w1, M', C1, by rw [← hk]; rfl⟩)
      · rw [r_nts_2 _ (by decide)]; exact N
      · have := r_nts_41 (c := 3) (f := f) (p := p) k h41'; omega
    | succ j ih =>
      intro k hk
      refine lk_195b (n := ((min 100 (v_nf v) : Nat) : Int)) (by omega) p4 ?_ (by omega) (by omega) ?_ (fun q => ?_) (fun q => absurd q (by omega))
      · rw [r_nts_2 _ (by decide)]; exact N
      · have := r_nts_41 (c := 3) (f := f) (p := p) k h41'; omega
      · have z := ih (k + 1) (by omega)
        rw [show (((k + 1 : Nat)) : Int) = (k : Int) + 1 by omega] at z
        exact z
  exact M (min 100 (v_nf v)) 0 (by omega)
/-- items that wait: their leaves -/
def rIT (ar : Nat) (w : W_) (Γ : rG_) (from_ : Nat) : Nat → List T_ → Prop
  | 0, l => l = []
  | n + 1, l => ∃ l1 l2, rIT ar w Γ from_ n l1 ∧ rCC w Γ (w.2 ar (from_ + n)) l2 ∧ l2 ≠ [] ∧ ((∀ t ∈ l2, rNK t = true) ∨ w.2 92 (w.2 ar (from_ + n)).toNat ≠ 50) ∧ l = l1 ++ l2
theorem rIT_mono {ar : Nat} {R : Int} (X : rXT w Γ w1 Γ1 R) {fm : Nat} : ∀ (n : Nat) (l : List T_), (∀ i, i < fm + n → w1.2 ar i = w.2 ar i) → rIT ar w Γ fm n l → rIT ar w1 Γ1 fm n l := by
  intro n
  induction n with
  | zero => intro l _ h; exact h
  | succ n ih =>
    intro l hi h
    obtain ⟨l1, l2, h1, h2, h3, h4, h5⟩ := h
    have e := hi (fm + n) (by omega)
    have hc := h2.1
    refine ⟨l1, l2, ih l1 (fun i q => hi i (by omega)) h1, by rw [e]; exact rCC_mono X h2, h3, ?_, h5⟩
    rw [e, (X.2.2.2.2 _ (by omega)).1.1]
    exact h4
theorem w_f_f (w : W_) (a j : Nat) (x y : Int) : w_f (w_f w a j x) a j y = w_f w a j y := by
  refine Prod.ext ?_ rfl
  funext b k
  show (if b = a ∧ k = j then y else if b = a ∧ k = j then x else w.1 b k) = if b = a ∧ k = j then y else w.1 b k
  split <;> rfl
theorem w_f_id (w : W_) (a j : Nat) (x : Int) (h : w.1 a j = x) : w_f w a j x = w := by
  refine Prod.ext ?_ rfl
  funext b k
  show (if b = a ∧ k = j then x else w.1 b k) = w.1 b k
  by_cases c : b = a ∧ k = j
  · rw [if_pos c, c.1, c.2, h]
  · rw [if_neg c]
theorem rMO_f33 (h : rMO w Γ w1 Γ1 K d) (x : Int) : rMO (w_f w 73 33 x) Γ (w_f w1 73 33 x) Γ1 K d := by
  obtain ⟨X, H1, G, ⟨F, A, S⟩, D⟩ := h
  have E : ∀ {v : W_} (j : Nat), j ≠ 33 → (w_f v 73 33 x).1 73 j = v.1 73 j := fun j q => by
    show (if 73 = 73 ∧ j = 33 then x else _) = _
    rw [if_neg (by omega)]
  refine ⟨rXT_trans (rXT_same (R := -1) (Γ := Γ) (fun j q => (E j (by omega)).symm) (fun _ _ _ => rfl)) (rXT_trans X (rXT_same (R := -1) (Γ := Γ1) (fun j q => E j (by omega)) (fun _ _ _ => rfl)) (Or.inl rfl) (Or.inl rfl)) (Or.inl rfl) (Or.inl rfl), rHH_same H1 (fun j q => E j (by omega)) (fun _ _ _ => rfl), G, ⟨fun a j q => ?_, A, S⟩, ?_⟩
  · show (if a = 73 ∧ j = 33 then x else w1.1 a j) = if a = 73 ∧ j = 33 then x else w.1 a j
    rw [F a j q]
  · rw [E 26 (by omega), E 26 (by omega)]
    exact D
/-- what waits is joined -/
theorem lk_192 {fr fm n : Nat} {l : List T_} (H : rHH w Γ) (hf : 6 ≤ fr) (hi : w.1 73 33 = ((fm + n : Nat) : Int)) (hn : fm + n ≤ 8192) (hb : w.1 73 26 + n ≤ 8192) (h : rIT 98 w Γ fm n l) : ww_Ct 192 fr [.inr (.inr (.inl 73)), .inl (fm : Int)] w fun r w' => ∃ x, r = some (.inl x) ∧ ∃ Γ', rMO w Γ (w_f w' 73 33 (w.1 73 33)) Γ' 0 n ∧ w'.1 73 33 = fm ∧ rCC w' Γ' x l := by
  refine lk_192a ?_
  have M : ∀ (k : Nat) (j : Nat) (v : W_) (Γ1 : rG_) (sm : Int) (l1 l2 : List T_), k + j = n → rMO w Γ (w_f v 73 33 (w.1 73 33)) Γ1 0 j → v.1 73 33 = ((fm + k : Nat) : Int) → rIT 98 w Γ fm k l1 → rCC v Γ1 sm l2 → l = l1 ++ l2 → zr192 fr (fun r w' => ∃ x, r = some (.inl x) ∧ ∃ Γ', rMO w Γ (w_f w' 73 33 (w.1 73 33)) Γ' 0 n ∧ w'.1 73 33 = fm ∧ rCC w' Γ' x l) 2 fm sm v := by
    intro k
    induction k with
    | zero =>
      intro j v Γ1 sm l1 l2 hj Mo h33 hI hC hl
      refine lk_192b (n := ((fm : Nat) : Int)) (R := fun _ _ => False) h33 (by omega) (by omega) (fun _ => ⟨sm, rfl, Γ1, rMO_wk Mo (by omega), h33, ?_⟩) (fun q => absurd q (by omega)) (fun q => absurd q (by omega))
      have hI : l1 = [] := hI
      rw [hl, hI]; exact hC
    | succ k ih =>
      intro j v Γ1 sm l1 l2 hj Mo h33 hI hC hl
      obtain ⟨a1, a2, g1, g2, g3, g4, g5⟩ := hI
      obtain ⟨X, H1, G, ⟨F, A, S⟩, D⟩ := Mo
      have E : ∀ (j : Nat) (x : Int), j ≠ 33 → ∀ v : W_, (w_f v 73 33 x).1 73 j = v.1 73 j := fun j x q v => by
        show (if 73 = 73 ∧ j = 33 then x else _) = _
        rw [if_neg (by omega)]
      have e26 := E 26 (w.1 73 33) (by omega) v
      have a98 : v.2 98 = w.2 98 := A 98 (by omega)
      have Hv : rHH v Γ1 := rHH_same H1 (fun j q => (E j _ (by omega) v).symm) (fun _ _ _ => rfl)
      have Hv1 : rHH (w_f v 73 33 (((fm + (k + 1) : Nat) : Int) - 1)) Γ1 := rHH_same Hv (fun j q => E j _ (by omega) v) (fun _ _ _ => rfl)
      have Xv : rXT w Γ (w_f v 73 33 (((fm + (k + 1) : Nat) : Int) - 1)) Γ1 (-1) := rXT_trans X (rXT_same (R := -1) (fun j q => by rw [E j _ (by omega) v, E j _ (by omega) v]) (fun _ _ _ => rfl)) (Or.inl rfl) (Or.inl rfl)
      have ix : (((fm + (k + 1) : Nat) : Int) - 1).toNat = fm + k := by omega
      have r0 : rUC (v.2 90) 0 = 0 := rfl
      have r0' : rUC (w.2 90) 0 = 0 := rfl
      have D' : v.1 73 26 ≤ w.1 73 26 + j := by
        have D : (w_f v 73 33 (w.1 73 33)).1 73 26 + 3 * ((rUC (v.2 90) 0 : Nat) : Int) ≤ w.1 73 26 + 3 * ((rUC (w.2 90) 0 : Nat) : Int) + j := D
        rw [r0, r0', e26] at D
        omega
      refine lk_192b (n := ((fm + (k + 1) : Nat) : Int)) (R := fun x w' => ∃ Γ2, rMO (w_f v 73 33 (((fm + (k + 1) : Nat) : Int) - 1)) Γ1 w' Γ2 0 1 ∧ rCC w' Γ2 x (a2 ++ l2)) h33 (by omega) (by omega) (fun q => absurd q (by omega)) (fun _ => ?_) (fun _ x w' hR => ?_)
      · rw [ix, a98]
        have c1 := rCC_mono Xv g2
        have c2 : rCC (w_f v 73 33 (((fm + (k + 1) : Nat) : Int) - 1)) Γ1 sm l2 := hC
        have g2' := g2.1
        have g4' : (∀ t ∈ a2, rNK t = true) ∨ (w_f v 73 33 (((fm + (k + 1) : Nat) : Int) - 1)).2 92 (w.2 98 (fm + k)).toNat ≠ 50 := by
          rw [(Xv.2.2.2.2 _ (by omega)).1.1]; exact g4
        obtain ⟨fr', q1, q2⟩ := lk_191 (K := 0) (fr := fr) Hv1 (by omega) (by rw [E 26 _ (by omega) v]; omega) c1 c2 g4'
        refine ww_Cn_of q2 q1 ?_
        rintro r' w' ⟨x, rfl, Γ2, z1, z2, -⟩
        exact ⟨x, rfl, Γ2, rMO_wk z1 (by split <;> omega), z2⟩
      · obtain ⟨Γ2, m1, m2⟩ := hR
        have m3 := rMO_f33 m1 (w.1 73 33)
        rw [w_f_f] at m3
        have m4 := rMO_trans ⟨X, H1, G, ⟨F, A, S⟩, D⟩ m3
        have e33 : w'.1 73 33 = ((fm + k : Nat) : Int) := by
          rw [m1.2.2.2.1.1 73 33 (by omega)]
          show ((fm + (k + 1) : Nat) : Int) - 1 = _
          omega
        exact ih (j + 1) w' Γ2 x a1 (a2 ++ l2) (by omega) m4 e33 g1 m2 (by rw [hl, g5, List.append_assoc])
  have z := M n 0 w Γ 0 l [] (by omega) (by rw [w_f_id _ _ _ _ rfl]; exact rMO_rfl H) hi h ⟨⟨by omega, by have := H.1.2.2.2.2; omega⟩, H.2.1⟩ (by rw [List.append_nil])
  exact z
end
