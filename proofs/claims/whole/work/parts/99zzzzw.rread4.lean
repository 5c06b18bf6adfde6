/-! ===== the reference reads a file ===== -/
theorem r_par_j (k : Nat) : r_par (k : Int) = ((j_par k : Nat) : Int) := by
  unfold r_par j_par
  (repeat' split) <;> omega
theorem j_par_3 (k : Nat) : j_par k ≤ 3 := by
  unfold j_par
  (repeat' split) <;> omega
theorem w_a_same (w : W_) (a i : Nat) (x : Int) (h : w.2 a i = x) : w_a w a i x = w := by
  refine Prod.ext rfl ?_
  funext b k
  show (if b = a ∧ k = i then x else w.2 b k) = w.2 b k
  by_cases c : b = a ∧ k = i
  · rw [if_pos c, c.1, c.2, h]
  · rw [if_neg c]
theorem j_go_I (n : Nat) (J : J_) (wh fm : Bool) (own : Option Nat) (p : Nat) : j_go (n + 1) J (some (wh, fm)) own p = (if J.2.2.1 ≤ p then ((.nil : T_), p, if wh = true then [] else [j_flt J 2 p]) else if J.1 p = 5 ∧ wh = false then ((.nil : T_), p + 1, []) else if J.1 p = 0 ∨ J.1 p = 3 ∨ (fm = false ∧ J.1 p < 5) then (ct (J.1 p) (J.2.1 p) (j_id J p) (if J.1 p = 3 then j_go n J none none (p + 1) else if J.1 p = 4 then j_go n J (some (false, true)) none (p + 1) else ((.nil : T_), p + 1, ([] : List Int))).1 (j_go n J (some (wh, fm)) none (if J.1 p = 3 then j_go n J none none (p + 1) else if J.1 p = 4 then j_go n J (some (false, true)) none (p + 1) else ((.nil : T_), p + 1, ([] : List Int))).2.1).1, (j_go n J (some (wh, fm)) none (if J.1 p = 3 then j_go n J none none (p + 1) else if J.1 p = 4 then j_go n J (some (false, true)) none (p + 1) else ((.nil : T_), p + 1, ([] : List Int))).2.1).2.1, (if J.1 p = 3 then j_go n J none none (p + 1) else if J.1 p = 4 then j_go n J (some (false, true)) none (p + 1) else ((.nil : T_), p + 1, ([] : List Int))).2.2 ++ (j_go n J (some (wh, fm)) none (if J.1 p = 3 then j_go n J none none (p + 1) else if J.1 p = 4 then j_go n J (some (false, true)) none (p + 1) else ((.nil : T_), p + 1, ([] : List Int))).2.1).2.2) else ((j_go n J (some (wh, fm)) none (p + 1)).1, (j_go n J (some (wh, fm)) none (p + 1)).2.1, j_flt J 1 p :: (j_go n J (some (wh, fm)) none (p + 1)).2.2)) := rfl
theorem j_go_fO : ∀ (n : Nat) (J : J_) (wh : Bool) (own : Option Nat) (p : Nat), r_fO (j_go n J (some (wh, true)) own p).1 := by
  intro n
  induction n with
  | zero => intro J wh own p; exact trivial
  | succ n ih =>
    intro J wh own p
    rw [j_go_I]
    split
    · exact trivial
    · split
      · exact trivial
      · split
        · rename_i c
          refine ⟨?_, ih J wh none _⟩
          rcases c with q | q | q
          · exact Or.inl q
          · exact Or.inr q
          · exact absurd q.1 (by decide)
        · exact ih J wh none _
def rTK (a74 a75 a76 : Nat → Int) : Prop := (∀ k : Nat, k < 181 → 0 ≤ a74 k ∧ a74 k < 32 ∧ 0 ≤ a75 k ∧ a75 k < 100) ∧ ∀ f : Nat, f < 3 → 0 ≤ a76 f ∧ a76 f ≤ 60
/-- may be read from there; d nodes are over -/
def rRA (w : W_) (f p : Nat) (d : Int) : Prop := (w.1 73 13 = (f : Int) ∧ f < 3) ∧ (w.1 73 14 = (p : Int) ∧ (p : Int) ≤ w.2 76 f) ∧ rTK (w.2 74) (w.2 75) (w.2 76) ∧ (0 ≤ w.1 73 41 ∧ w.1 73 41 ≤ 60) ∧ 0 ≤ w.1 73 5 ∧ w.1 73 5 + 4 * (w.2 76 f - p) + d ≤ 1024
theorem rRA_of {w w' : W_} {f p p' : Nat} {d e : Int} {l : List Int} (H : rRA w f p d) (h : rRQ w w' l) (hp : w'.1 73 14 = (p' : Int)) (h2 : (p' : Int) ≤ w.2 76 f) (hn : w'.1 73 5 ≤ w.1 73 5 + 4 * ((p' : Int) - p) + e) : rRA w' f p' (d - e) := by
  obtain ⟨⟨a1, a2⟩, ⟨a3, a4⟩, a5, a7, a8, a9⟩ := H
  have e74 := h.1.2 74 (by omega) (by omega)
  have e75 := h.1.2 75 (by omega) (by omega)
  have e76 := h.1.2 76 (by omega) (by omega)
  have e5 := h.2.1.2.1
  refine ⟨⟨by rw [h.1.1 73 13 (by omega)]; exact a1, a2⟩, ⟨hp, by rw [e76]; exact h2⟩, by rw [e74, e75, e76]; exact a5, h.2.2.1.1 a7, by omega, ?_⟩
  rw [e76]
  omega
/-- what came of it: at most so many nodes more -/
def rRP (w w' : W_) (p : Nat) (d : Int) (g : T_ × Nat × List Int) : Prop := rRQ w w' g.2.2 ∧ w'.1 73 14 = (g.2.1 : Int) ∧ w'.1 73 5 ≤ w.1 73 5 + 4 * ((g.2.1 : Int) - p) + d
/-- a part of node m -/
def rKid (v : W_) (m j : Nat) (t : T_) (own : Option Nat) : Prop := rEN v ((m : Int) + 1) (v.1 73 5) t (some own) (v.2 81 (3 * m + j))
section
variable {w v v' : W_} {l : List Int} {m i j : Nat} {t : T_} {own : Option Nat} {x : Int}
theorem rKid_RQ (h : rRQ v v' l) (hm : (m : Int) < v.1 73 5) (hj : j < 3) (g : rKid v m j t own) : rKid v' m j t own := by
  have A := h.2.1.2.2 m (by omega) hm
  have e : v'.2 81 (3 * m + j) = v.2 81 (3 * m + j) := by
    have : j = 0 ∨ j = 1 ∨ j = 2 := by omega
    rcases this with rfl | rfl | rfl
    · exact A.2.2.1
    · exact A.2.2.2.1
    · exact A.2.2.2.2
  unfold rKid at g ⊢
  rw [e]
  refine rEN_mono (by omega) (fun i q0 q1 => h.2.1.2.2 i (by omega) q1) (Int.le_refl _) h.2.1.2.1 _ _ _ g
theorem rKid_81 (hj : j ≠ i) (hj3 : j < 3) (hi3 : i < 3) (g : rKid v m j t own) : rKid (w_a v 81 (3 * m + i) x) m j t own := by
  unfold rKid at g ⊢
  have e : (w_a v 81 (3 * m + i) x).2 81 (3 * m + j) = v.2 81 (3 * m + j) := by
    show (if 81 = 81 ∧ 3 * m + j = 3 * m + i then x else _) = _
    rw [if_neg (by omega)]
  rw [e]
  exact rEN_mono (by omega) (rAN_81 (m := m) (by omega) (by omega)) (Int.le_refl _) (Int.le_refl _) _ _ _ g
theorem rKid_new (hi3 : i < 3) {lo : Int} (hlo : (m : Int) + 1 ≤ lo) (g : rEN v lo (v.1 73 5) t (some own) x) : rKid (w_a v 81 (3 * m + i) x) m i t own := by
  unfold rKid
  have e : (w_a v 81 (3 * m + i) x).2 81 (3 * m + i) = x := by
    show (if 81 = 81 ∧ 3 * m + i = 3 * m + i then x else _) = _
    rw [if_pos ⟨rfl, rfl⟩]
  rw [e]
  exact rEN_mono (by omega) (rAN_81 (m := m) (by omega) (by omega)) (by omega) (Int.le_refl _) _ _ _ g
theorem rBR {p : Int} (h : 0 ≤ v.1 73 5) : rEN (r_nd v 40 0 p) (v.1 73 5) (v.1 73 5 + 1) .nil (some own) (v.1 73 5) := by
  have z := rNM_nd (w := v) (k := 40) (n := 0) (p := p)
  unfold rEN
  exact ⟨⟨Int.le_refl _, by omega⟩, z.1.1, z.2.1⟩
theorem rEP_NM {lo hi n : Int} {k f p : Nat} (h : rNM v m k n f p) (hl : lo ≤ m) (hh : (m : Int) < hi) (hp : p < 60) (h9 : 60 * f + p < 1000) : rEP v lo hi m k n (60 * f + p) := by
  have e : (m : Int).toNat = m := by omega
  unfold rEP
  rw [e, show (60 * f + p) / 60 = f by omega, show (60 * f + p) % 60 = p by omega]
  exact ⟨⟨⟨hl, hh⟩, h9⟩, h.1.1, h.1.2.1, h.1.2.2.1, h.1.2.2.2⟩
theorem rRQ_83 (h : rRQ w v l) {i : Nat} {x : Int} (hi : w.1 73 5 ≤ i) : rRQ w (w_a v 83 i x) l := by
  obtain ⟨⟨a1, a2⟩, ⟨a3, a4, a5⟩, a6, a7⟩ := h
  refine ⟨⟨a1, fun b q z => by rw [w_a_2ne _ _ _ (by omega)]; exact a2 b q z⟩, ⟨a3, a4, fun k q0 q1 => ?_⟩, a6, fun C s hu hs => rFR_w (a7 C s hu hs) rfl rfl (w_a_2ne _ _ _ (by decide))⟩
  have A := a5 k q0 q1
  refine ⟨A.1, ⟨A.2.1.1, ?_⟩, A.2.2⟩
  show (if 83 = 83 ∧ k = i then _ else v.2 83 k) = _
  rw [if_neg (by omega)]; exact A.2.1.2
theorem rRQ_83b (h : rRQ w v l) {i : Nat} {x : Int} : rRQ (w_a w 83 i x) (w_a v 83 i x) l := by
  obtain ⟨⟨a1, a2⟩, ⟨a3, a4, a5⟩, a6, a7⟩ := h
  refine ⟨⟨a1, fun b q z => by rw [w_a_2ne _ _ _ (by omega), w_a_2ne _ _ _ (by omega)]; exact a2 b q z⟩, ⟨a3, a4, fun k q0 q1 => ?_⟩, a6, fun C s hu hs => rFR_w (a7 C s hu (rFR_w hs rfl rfl (w_a_2ne _ _ _ (by decide)).symm)) rfl rfl (w_a_2ne _ _ _ (by decide))⟩
  have A := a5 k q0 q1
  refine ⟨A.1, ⟨A.2.1.1, ?_⟩, A.2.2⟩
  show (if 83 = 83 ∧ k = i then _ else v.2 83 k) = (if 83 = 83 ∧ k = i then _ else w.2 83 k)
  by_cases c : 83 = 83 ∧ k = i
  · rw [if_pos c, if_pos c]
  · rw [if_neg c, if_neg c]; exact A.2.1.2
end
theorem rNM_f {v : W_} {m : Nat} {k n f p : Int} {a j : Nat} {x : Int} (g : rNM v m k n f p) : rNM (w_f v a j x) m k n f p := g
/-- reading an expression -/
def rdE (n : Nat) : Prop := ∀ (w : W_) (fr f p : Nat) (own : Option Nat) (d : Int), rRA w f p d → 1 ≤ d → (w.2 76 f).toNat < n + p → n + 2 ≤ fr → ww_Ct 179 fr [.inr (.inr (.inl 73))] w fun r w' => ∃ x, r = some (.inl x) ∧ rRP w w' p 1 (j_go n (tJ (w.2 74) (w.2 75) (w.2 76) f) none own p) ∧ rEN w' (w.1 73 5) (w'.1 73 5) (j_go n (tJ (w.2 74) (w.2 75) (w.2 76) f) none own p).1 (some own) x
/-- the world where the last item has its next one -/
abbrev rLN (w : W_) (y z : Int) : W_ := if y = -1 then w else w_a w 83 y.toNat z
/-- reading items, from the loop's head on -/
def rdI (n : Nat) : Prop := ∀ (w : W_) (fr f p : Nat) (wb fb : Bool) (d wh fm x y : Int) (v5 v6 v7 v8 : am_V) (P : Option am_V → W_ → Prop), rRA w f p d → 0 ≤ d → (w.2 76 f).toNat < n + p → n + 2 ≤ fr → ((am_two v5 = false ∧ am_two v6 = false) ∧ am_two v7 = false ∧ am_two v8 = false) → (wh = if wb = true then 1 else 0) → (fm = if fb = true then 1 else 0) → (x = -1 ∧ y = -1 ∨ (0 ≤ x ∧ x < w.1 73 5) ∧ (0 ≤ y ∧ y < w.1 73 5) ∧ w.2 83 y.toNat = -1) → (∀ z w', rRP (rLN w y z) w' p 0 (j_go n (tJ (w.2 74) (w.2 75) (w.2 76) f) (some (wb, fb)) none p) → rEN w' (w.1 73 5) (w'.1 73 5) (j_go n (tJ (w.2 74) (w.2 75) (w.2 76) f) (some (wb, fb)) none p).1 none z → P (some (.inl (if x = -1 then z else x))) w') → z180 fr P 5 wh fm x y v5 v6 v7 v8 w
/-- reading items -/
def rdT (n : Nat) : Prop := ∀ (w : W_) (fr f p : Nat) (wb fb : Bool) (d wh fm : Int), rRA w f p d → 0 ≤ d → (w.2 76 f).toNat < n + p → n + 2 ≤ fr → (wh = if wb = true then 1 else 0) → (fm = if fb = true then 1 else 0) → ww_Ct 180 fr [.inr (.inr (.inl 73)), .inl wh, .inl fm] w fun r w' => ∃ x, r = some (.inl x) ∧ rRP w w' p 0 (j_go n (tJ (w.2 74) (w.2 75) (w.2 76) f) (some (wb, fb)) none p) ∧ rEN w' (w.1 73 5) (w'.1 73 5) (j_go n (tJ (w.2 74) (w.2 75) (w.2 76) f) (some (wb, fb)) none p).1 none x
theorem rdT_of {n : Nat} (ih : rdI n) : rdT n := by
  intro w fr f p wb fb d wh fm H hd hn hfr hw hf
  refine lk_180a (ih w fr f p wb fb d wh fm (-1) (-1) _ _ _ _ _ H hd hn hfr ⟨⟨rfl, rfl⟩, rfl, rfl⟩ hw hf (Or.inl ⟨rfl, rfl⟩) ?_)
  intro z w' h1 h2
  rw [if_pos rfl]
  exact ⟨z, rfl, h1, h2⟩
theorem rdE_step {n : Nat} (ihe : rdE n) (iht : rdT n) : rdE (n + 1) := by
  intro w fr f p own d H hd hn hfr
  have H0 := H
  obtain ⟨⟨a1, a2⟩, ⟨a3, a4⟩, a5, a7, a8, a9⟩ := H
  have L60 := a5.2 f a2
  have ef : (w.1 73 13).toNat = f := by omega
  generalize eJ : tJ (w.2 74) (w.2 75) (w.2 76) f = J
  have j1 : ∀ q, J.1 q = (w.2 74 (60 * f + q)).toNat := fun q => by rw [← eJ]; rfl
  have j2 : ∀ q, J.2.1 q = w.2 75 (60 * f + q) := fun q => by rw [← eJ]; rfl
  have j3 : J.2.2.1 = (w.2 76 f).toNat := by rw [← eJ]; rfl
  have j4 : J.2.2.2 = f := by rw [← eJ]; rfl
  have jf : ∀ c q : Nat, j_flt J c q = 100000 * (c : Int) + (10000 * (f : Int) + 100 * (q : Int)) := fun c q => by unfold j_flt; rw [j4]
  have r13 : ∀ c q : Int, (r_nt w c (w.1 73 13) q).1 73 13 = w.1 73 13 := fun c q => r_nt_1 _ _ _ _ (by omega)
  have r5 : ∀ c q : Int, (r_nt w c (w.1 73 13) q).1 73 5 = w.1 73 5 := fun c q => r_nt_1 _ _ _ _ (by omega)
  have r14 : ∀ c q : Int, (r_nt w c (w.1 73 13) q).1 73 14 = w.1 73 14 := fun c q => r_nt_1 _ _ _ _ (by omega)
  have hf : 0 ≤ w.1 73 13 ∧ w.1 73 13 < 3 := by omega
  refine lk_179a (p := (p : Int)) hf a3 (by omega) (by rw [ef]; unfold am_rg; omega) (fun q => ?_) (fun q => ?_)
  · rw [ef] at q
    unfold j_go
    rw [if_pos (show J.2.2.1 ≤ p by omega)]
    refine lk_179b (by omega) hf (by omega) (by omega) (by omega) ⟨w.1 73 5, rfl, ⟨?_, ?_, ?_⟩, ?_⟩
    · exact rRQ_trans (rRQ_nt (z := j_flt J 2 p) a8 (by have := jf 2 p; omega)) (rRQ_nd (by rw [r5]; exact a8))
    · show (r_nt w 2 (w.1 73 13) p).1 73 14 = _
      rw [r14, a3]
    · show (r_nt w 2 (w.1 73 13) p).1 73 5 + 1 ≤ _
      rw [r5]
      dsimp only
      omega
    · have z := rBR (v := r_nt w 2 (w.1 73 13) p) (own := own) (p := (p : Int)) (by rw [r5]; exact a8)
      rw [r5] at z
      have e : (r_nd (r_nt w 2 (w.1 73 13) p) 40 0 p).1 73 5 = w.1 73 5 + 1 := by
        show (r_nt w 2 (w.1 73 13) p).1 73 5 + 1 = _
        rw [r5]
      rw [e]
      exact z
  · rw [ef] at q
    have pl : (p : Int) < w.2 76 f := by omega
    have p60 : p < 60 := by omega
    have K := a5.1 (60 * f + p) (by omega)
    have ek : w.2 74 (60 * w.1 73 13 + (p : Int)).toNat = (J.1 p : Int) := by
      rw [j1, show (60 * w.1 73 13 + (p : Int)).toNat = 60 * f + p by omega]
      omega
    have en : w.2 75 (60 * w.1 73 13 + (p : Int)).toNat = J.2.1 p := by
      rw [j2, show (60 * w.1 73 13 + (p : Int)).toNat = 60 * f + p by omega]
    have K1 : J.1 p < 32 := by rw [j1]; omega
    have K2 : 0 ≤ J.2.1 p ∧ J.2.1 p < 100 := by rw [j2]; exact K.2.2
    unfold j_go
    rw [if_neg (show ¬ J.2.2.1 ≤ p by omega)]
    refine lk_179c (k := (J.1 p : Int)) (by omega) hf (by omega) ek (by omega) (fun q5 => ?_) (fun q5 => ?_)
    · rw [if_pos (show J.1 p ≤ 5 by omega)]
      refine lk_179d (by omega) hf (by omega) a3 (by omega) (by omega) (by omega) ⟨w.1 73 5, rfl, ⟨?_, ?_, ?_⟩, ?_⟩
      · exact rRQ_trans (rRQ_nt (z := j_flt J 1 p) a8 (by have := jf 1 p; omega)) (rRQ_trans (rRQ_pos (by rw [r5]; exact a8)) (rRQ_nd (by show 0 ≤ (r_nt w 1 (w.1 73 13) p).1 73 5; rw [r5]; exact a8)))
      · show (if (J.1 p : Int) = 5 then (p : Int) else (p : Int) + 1) = (((if J.1 p = 5 then p else p + 1) : Nat) : Int)
        (repeat' split) <;> omega
      · show (r_nt w 1 (w.1 73 13) p).1 73 5 + 1 ≤ w.1 73 5 + 4 * ((((if J.1 p = 5 then p else p + 1) : Nat) : Int) - p) + 1
        rw [r5]
        split <;> omega
      · have z := rBR (v := w_f (r_nt w 1 (w.1 73 13) p) 73 14 (if (J.1 p : Int) = 5 then (p : Int) else (p : Int) + 1)) (own := own) (p := (p : Int)) (by show 0 ≤ (r_nt w 1 (w.1 73 13) p).1 73 5; rw [r5]; exact a8)
        have e0 : (w_f (r_nt w 1 (w.1 73 13) p) 73 14 (if (J.1 p : Int) = 5 then (p : Int) else (p : Int) + 1)).1 73 5 = w.1 73 5 := by
          show (r_nt w 1 (w.1 73 13) p).1 73 5 = _
          rw [r5]
        have e : (r_nd (w_f (r_nt w 1 (w.1 73 13) p) 73 14 (if (J.1 p : Int) = 5 then (p : Int) else (p : Int) + 1)) 40 0 p).1 73 5 = w.1 73 5 + 1 := by
          show (r_nt w 1 (w.1 73 13) p).1 73 5 + 1 = _
          rw [r5]
        rw [e0] at z
        rw [e]
        exact z
    · rw [if_neg (show ¬ J.1 p ≤ 5 by omega)]
      have N5 : w.1 73 5 < 1024 := by omega
      refine lk_179e (by omega) hf (by omega) a3 (by omega) ?_
      rw [en]
      generalize em : w.1 73 5 = m at N5 ⊢
      have V : ∃ v, w_f (r_nd w (J.1 p : Int) (J.2.1 p) p) 73 14 ((p : Int) + 1) = v := ⟨_, rfl⟩
      obtain ⟨v, ev⟩ := V
      have m0 : 0 ≤ m := by omega
      have q0 : rRQ w v [] := by
        rw [← ev]
        exact rRQ_trans (rRQ_nd a8) (rRQ_pos (by show 0 ≤ w.1 73 5 + 1; omega))
      have v14 : v.1 73 14 = ((p + 1 : Nat) : Int) := by rw [← ev]; show (p : Int) + 1 = _; omega
      have v5 : v.1 73 5 = m + 1 := by rw [← ev, ← em]; rfl
      have vN : rNM v m.toNat (J.1 p : Int) (J.2.1 p) f p := by
        rw [← ev, ← em, ← a1]
        exact rNM_f rNM_nd
      have vA : rRA v f (p + 1) 4 := by
        have z := rRA_of (d := d) (e := -3) H0 q0 v14 (by omega) (by omega)
        obtain ⟨b1, b2, b3, b4, b5, b6⟩ := z
        exact ⟨b1, b2, b3, b4, b5, by omega⟩
      rw [ev]
      have tJv : ∀ {l : List Int} {w1 : W_}, rRQ w w1 l → tJ (w1.2 74) (w1.2 75) (w1.2 76) f = J ∧ w1.2 76 f = w.2 76 f := fun h => by
        rw [h.1.2 74 (by omega) (by omega), h.1.2 75 (by omega) (by omega), h.1.2 76 (by omega) (by omega)]
        exact ⟨eJ, rfl⟩
      have mN : (m.toNat : Int) = m := by omega
      have kz : am_rg (J.1 p : Int) := by unfold am_rg; omega
      by_cases c8 : J.1 p = 8
      · rw [if_pos c8]
        have ep : r_par (J.1 p : Int) = 0 := by rw [c8]; rfl
        refine lk_179f (R := fun _ _ => False) (by omega) (by omega) (by omega) kz (fun z => by omega) (fun z => absurd z (by omega)) (fun _ _ z => z.elim) (fun _ => ?_)
        obtain ⟨t1, t2⟩ := tJv q0
        have hc := iht v (fr - 1) f (p + 1) false false 4 0 0 vA (by omega) (by rw [t2]; omega) (by omega) rfl rfl
        rw [t1] at hc
        refine lk_179g (by omega) (by omega) rfl kz (fun _ => hc) (fun _ x w1 hR => ?_) (fun z => absurd (show (J.1 p : Int) = 8 by omega) z)
        obtain ⟨⟨h1, h2, h3⟩, h4⟩ := hR
        have g1 := (j_go_sz n J (some (false, false)) none (p + 1)).1
        generalize j_go n J (some (false, false)) none (p + 1) = g at h1 h2 h3 h4 g1 ⊢
        have n1 := h1.2.1.2.1
        refine ⟨m, rfl, ⟨?_, ?_, ?_⟩, ?_⟩
        · exact rRQ_82 (rRQ_trans q0 h1) (by omega)
        · exact h2
        · show w1.1 73 5 ≤ _
          dsimp only
          omega
        · show rEN _ m (w1.1 73 5) (.tag 8 (.nest (J.2.1 p) (.tag (j_id J p) (.append g.1 (.append .nil .nil))))) (some own) m
          have N1 := rNM_RQ h1 (by omega) vN
          rw [c8] at N1
          have N2 : (w_a w1 82 m.toNat x).2 82 m.toNat = x := by
            show (if 82 = 82 ∧ m.toNat = m.toNat then x else _) = x
            rw [if_pos ⟨rfl, rfl⟩]
          unfold rEN
          rw [show j_id J p = 60 * f + p by unfold j_id; rw [j4]]
          have z : rEP w1 m (w1.1 73 5) m 8 (J.2.1 p) (60 * f + p) := by
            have := rEP_NM (lo := m) (hi := w1.1 73 5) N1 (by omega) (by omega) p60 (by omega)
            rw [mN] at this
            exact this
          refine ⟨z, ⟨by omega, K2⟩, fun _ => ?_, fun z => absurd rfl z, fun z => absurd z (by decide), fun z => absurd z (by decide), fun z => absurd z (by decide), fun z => absurd rfl z, fun _ => ?_, fun _ => rfl⟩
          · rw [N2]
            exact rEN_mono (by omega) (rAN_82 (m := m.toNat) (by omega)) (by omega) (Int.le_refl _) _ _ _ h4
          · cases own <;> rfl
      · rw [if_neg c8]
        have F : ∀ {w1 : W_} {l : List Int} {q : Nat} {a b c : T_}, rRQ w w1 l → m < w1.1 73 5 → w1.1 73 14 = (q : Int) → w1.1 73 5 ≤ m + 4 * ((q : Int) - p) + 1 → rNM w1 m.toNat (J.1 p : Int) (J.2.1 p) f p → (1 ≤ j_par (J.1 p) → rKid w1 m.toNat 0 a (if J.1 p = 15 then some (J.2.1 p % 10).toNat else none)) → (2 ≤ j_par (J.1 p) → rKid w1 m.toNat 1 b none) → (3 ≤ j_par (J.1 p) → rKid w1 m.toNat 2 c none) → (j_par (J.1 p) = 0 → a = .nil) → (j_par (J.1 p) < 2 → b = j_own (J.1 p) own) → (j_par (J.1 p) < 3 → c = .nil) → ∃ x, some (.inl m) = some (.inl x : am_V) ∧ rRP w w1 p 1 (ce (J.1 p) (J.2.1 p) (j_id J p) a b c, q, l) ∧ rEN w1 m (w1.1 73 5) (ce (J.1 p) (J.2.1 p) (j_id J p) a b c) (some own) x := by
          intro w1 l q a b c h1 h2 h3 h4 N1 k1 k2 k3 z1 z2 z3
          refine ⟨m, rfl, ⟨h1, h3, by rw [em]; exact h4⟩, ?_⟩
          show rEN _ m (w1.1 73 5) (.tag (J.1 p) (.nest (J.2.1 p) (.tag (j_id J p) (.append a (.append b c))))) (some own) m
          unfold rEN
          rw [show j_id J p = 60 * f + p by unfold j_id; rw [j4]]
          have U : ∀ {j : Nat} {t : T_} {ow : Option Nat}, rKid w1 m.toNat j t ow → rEN w1 m (w1.1 73 5) t (some ow) (w1.2 81 (3 * m.toNat + j)) := fun g =>
            rEN_mono (by omega) (rAN_rfl _ _ _) (by omega) (Int.le_refl _) _ _ _ g
          refine ⟨?_, ⟨by omega, K2⟩, fun z => absurd z c8, fun _ => N1.2.1, fun z => U (k1 z), fun z => U (k2 z), fun z => U (k3 z), fun _ => z1, z2, z3⟩
          have := rEP_NM (lo := m) (hi := w1.1 73 5) N1 (by omega) (by omega) p60 (by omega)
          rw [mN] at this
          exact this
        have B : ∀ {w1 : W_} {i : Int} {P : Option am_V → W_ → Prop}, P (some (.inl m)) w1 → z179 fr P 150 (.inl p) (.inl (J.1 p : Int)) (.inl m) (.inl i) w1 := fun h =>
          lk_179g (R := fun _ _ => False) (by omega) (by omega) rfl kz (fun z => absurd (show J.1 p = 8 by omega) c8) (fun z => absurd (show J.1 p = 8 by omega) c8) (fun _ => h)
        have p3 := j_par_3 (J.1 p)
        have rp := r_par_j (J.1 p)
        by_cases c0 : j_par (J.1 p) = 0
        · rw [if_pos c0]
          refine lk_179f (R := fun _ _ => False) (by omega) (by omega) (by omega) kz (fun z => by omega) (fun z => absurd z (by omega)) (fun _ _ z => z.elim) (fun _ => B ?_)
          refine F q0 (by omega) v14 (by omega) vN (fun z => by omega) (fun z => by omega) (fun z => by omega) (fun _ => rfl) (fun _ => ?_) (fun _ => rfl)
          unfold j_own
          cases own with
          | none => rfl
          | some o =>
            have : J.1 p ≠ 16 := fun z => by rw [z] at c0; exact absurd c0 (by decide)
            dsimp only
            rw [if_neg this]
        · rw [if_neg c0]
          dsimp only
          obtain ⟨t1, t2⟩ := tJv q0
          have hc := ihe v (fr - 1) f (p + 1) (if J.1 p = 15 then some (J.2.1 p % 10).toNat else none) 4 vA (by omega) (by rw [t2]; omega) (by omega)
          rw [t1] at hc
          refine lk_179f (by omega) (by omega) (by omega) kz (fun z => by omega) (fun _ => hc) (fun x1 w1 hR => ?_) (fun z => absurd z (by omega))
          obtain ⟨⟨h1, h2, h3⟩, h4⟩ := hR
          have ga := j_go_sz n J none (if J.1 p = 15 then some (J.2.1 p % 10).toNat else none) (p + 1)
          have ga2 := ga.2 (by omega)
          generalize j_go n J none (if J.1 p = 15 then some (J.2.1 p % 10).toNat else none) (p + 1) = a at h1 h2 h3 h4 ga ga2 ⊢
          have n1 := h1.2.1.2.1
          have q1 := rRQ_81 (i := (3 * m + 0).toNat) (x := x1) (rRQ_trans q0 h1) (by omega)
          have N1 := rNM_81 (i := (3 * m + 0).toNat) (x := x1) (rNM_RQ h1 (by omega) vN)
          have k1 : rKid (w_a w1 81 (3 * m + 0).toNat x1) m.toNat 0 a.1 (if J.1 p = 15 then some (J.2.1 p % 10).toNat else none) := by
            rw [show (3 * m + 0).toNat = 3 * m.toNat + 0 by omega]
            exact rKid_new (by omega) (by omega) h4
          have s1 : w1.1 73 5 ≤ m + 4 * ((a.2.1 : Int) - p) - 2 := by omega
          have aA : rRA (w_a w1 81 (3 * m + 0).toNat x1) f a.2.1 3 := by
            have z := rRA_of (d := d) (e := d - 3) H0 q1 h2 (by omega) (by show w1.1 73 5 ≤ _; omega)
            rw [show d - (d - 3) = 3 by omega] at z
            exact z
          have w15 : (w_a w1 81 (3 * m + 0).toNat x1).1 73 5 = w1.1 73 5 := rfl
          have w114 : (w_a w1 81 (3 * m + 0).toNat x1).1 73 14 = (a.2.1 : Int) := h2
          have qw1 : rRQ w (w_a w1 81 (3 * m + 0).toNat x1) a.2.2 := q1
          generalize w_a w1 81 (3 * m + 0).toNat x1 = W1 at qw1 N1 k1 aA w15 w114 ⊢
          by_cases c1 : j_par (J.1 p) = 1
          · rw [if_pos c1]
            refine lk_179f (R := fun _ _ => False) (by omega) (by omega) (by omega) kz (fun z => by omega) (fun z => absurd z (by omega)) (fun _ _ z => z.elim) (fun _ => B ?_)
            exact F (q := a.2.1) (l := a.2.2) qw1 (by omega) w114 (by omega) N1 (fun _ => k1) (fun z => by omega) (fun z => by omega) (fun z => by omega) (fun _ => rfl) (fun _ => rfl)
          · rw [if_neg c1]
            obtain ⟨t1, t2⟩ := tJv qw1
            have hc := ihe W1 (fr - 1) f a.2.1 none 3 aA (by omega) (by rw [t2]; omega) (by omega)
            rw [t1] at hc
            refine lk_179f (by omega) (by omega) (by omega) kz (fun z => by omega) (fun _ => hc) (fun x2 w2 hR => ?_) (fun z => absurd z (by omega))
            obtain ⟨⟨h5, h6, h7⟩, h8⟩ := hR
            have gb := j_go_sz n J none none a.2.1
            have gb2 := gb.2 (by omega)
            generalize j_go n J none none a.2.1 = b at h5 h6 h7 h8 gb gb2 ⊢
            have n2 := h5.2.1.2.1
            have q2 := rRQ_81 (i := (3 * m + (0 + 1)).toNat) (x := x2) (rRQ_trans qw1 h5) (by omega)
            have N2 := rNM_81 (i := (3 * m + (0 + 1)).toNat) (x := x2) (rNM_RQ h5 (by omega) N1)
            have k2 : rKid (w_a w2 81 (3 * m + (0 + 1)).toNat x2) m.toNat 1 b.1 none := by
              rw [show (3 * m + (0 + 1)).toNat = 3 * m.toNat + 1 by omega]
              exact rKid_new (by omega) (by omega) h8
            have k1' : rKid (w_a w2 81 (3 * m + (0 + 1)).toNat x2) m.toNat 0 a.1 (if J.1 p = 15 then some (J.2.1 p % 10).toNat else none) := by
              rw [show (3 * m + (0 + 1)).toNat = 3 * m.toNat + 1 by omega]
              exact rKid_81 (by omega) (by omega) (by omega) (rKid_RQ h5 (by omega) (by omega) k1)
            have s2 : w2.1 73 5 ≤ m + 4 * ((b.2.1 : Int) - p) - 1 := by omega
            have bA : rRA (w_a w2 81 (3 * m + (0 + 1)).toNat x2) f b.2.1 2 := by
              have z := rRA_of (d := d) (e := d - 2) H0 q2 h6 (by omega) (by show w2.1 73 5 ≤ _; omega)
              rw [show d - (d - 2) = 2 by omega] at z
              exact z
            have w25 : (w_a w2 81 (3 * m + (0 + 1)).toNat x2).1 73 5 = w2.1 73 5 := rfl
            have w214 : (w_a w2 81 (3 * m + (0 + 1)).toNat x2).1 73 14 = (b.2.1 : Int) := h6
            generalize w_a w2 81 (3 * m + (0 + 1)).toNat x2 = W2 at q2 N2 k1' k2 bA w25 w214 ⊢
            by_cases c2 : j_par (J.1 p) = 2
            · rw [if_pos c2]
              refine lk_179f (R := fun _ _ => False) (by omega) (by omega) (by omega) kz (fun z => by omega) (fun z => absurd z (by omega)) (fun _ _ z => z.elim) (fun _ => B ?_)
              exact F q2 (by omega) w214 (by omega) N2 (fun _ => k1') (fun _ => k2) (fun z => by omega) (fun z => by omega) (fun z => by omega) (fun _ => rfl)
            · rw [if_neg c2]
              obtain ⟨t1, t2⟩ := tJv q2
              have hc := ihe W2 (fr - 1) f b.2.1 none 2 bA (by omega) (by rw [t2]; omega) (by omega)
              rw [t1] at hc
              refine lk_179f (by omega) (by omega) (by omega) kz (fun z => by omega) (fun _ => hc) (fun x3 w3 hR => ?_) (fun z => absurd z (by omega))
              obtain ⟨⟨h9, h10, h11⟩, h12⟩ := hR
              have gc := j_go_sz n J none none b.2.1
              have gc2 := gc.2 (by omega)
              generalize j_go n J none none b.2.1 = c at h9 h10 h11 h12 gc gc2 ⊢
              have n3 := h9.2.1.2.1
              have q3 := rRQ_81 (i := (3 * m + (0 + 1 + 1)).toNat) (x := x3) (rRQ_trans q2 h9) (by omega)
              rw [List.append_assoc] at q3
              have N3 := rNM_81 (i := (3 * m + (0 + 1 + 1)).toNat) (x := x3) (rNM_RQ h9 (by omega) N2)
              have e3 : (3 * m + (0 + 1 + 1)).toNat = 3 * m.toNat + 2 := by omega
              refine lk_179f (R := fun _ _ => False) (by omega) (by omega) (by omega) kz (fun z => by omega) (fun z => absurd z (by omega)) (fun _ _ z => z.elim) (fun _ => B ?_)
              refine F q3 (by show m < w3.1 73 5; omega) h10 (by show w3.1 73 5 ≤ _; omega) N3 (fun _ => ?_) (fun _ => ?_) (fun _ => ?_) (fun z => by omega) (fun z => by omega) (fun z => by omega)
              · rw [e3]; exact rKid_81 (by omega) (by omega) (by omega) (rKid_RQ h9 (by omega) (by omega) k1')
              · rw [e3]; exact rKid_81 (by omega) (by omega) (by omega) (rKid_RQ h9 (by omega) (by omega) k2)
              · rw [e3]; exact rKid_new (by omega) (by omega) h12
theorem rdI_step {n : Nat} (ihe : rdE n) (ihi : rdI n) : rdI (n + 1) := by
  intro w fr f p wb fb d wh fm x y v5 v6 v7 v8 P H hd hn hfr hv hw hf hxy L
  have iht := rdT_of ihi
  have H0 := H
  obtain ⟨⟨a1, a2⟩, ⟨a3, a4⟩, a5, a7, a8, a9⟩ := H
  have L60 := a5.2 f a2
  have ef : (w.1 73 13).toNat = f := by omega
  generalize eJ : tJ (w.2 74) (w.2 75) (w.2 76) f = J at L
  have j1 : ∀ q, J.1 q = (w.2 74 (60 * f + q)).toNat := fun q => by rw [← eJ]; rfl
  have j2 : ∀ q, J.2.1 q = w.2 75 (60 * f + q) := fun q => by rw [← eJ]; rfl
  have j3 : J.2.2.1 = (w.2 76 f).toNat := by rw [← eJ]; rfl
  have j4 : J.2.2.2 = f := by rw [← eJ]; rfl
  have jf : ∀ c q : Nat, j_flt J c q = 100000 * (c : Int) + (10000 * (f : Int) + 100 * (q : Int)) := fun c q => by unfold j_flt; rw [j4]
  have hf13 : 0 ≤ w.1 73 13 ∧ w.1 73 13 < 3 := by omega
  have hwh : wh = 0 ∨ wh = 1 := by cases wb <;> simp at hw <;> omega
  have hfm : fm = 0 ∨ fm = 1 := by cases fb <;> simp at hf <;> omega
  have hwb : wh = 0 ↔ wb = false := by cases wb <;> simp at hw <;> simp <;> omega
  have hfb : fm = 0 ↔ fb = false := by cases fb <;> simp at hf <;> simp <;> omega
  have tJv : ∀ {l : List Int} {w1 : W_}, rRQ w w1 l → tJ (w1.2 74) (w1.2 75) (w1.2 76) f = J ∧ w1.2 76 f = w.2 76 f := fun h => by
    rw [h.1.2 74 (by omega) (by omega), h.1.2 75 (by omega) (by omega), h.1.2 76 (by omega) (by omega)]
    exact ⟨eJ, rfl⟩
  -- nothing more: the last one's next stays
  have E0 : rLN w y (-1) = w := by
    unfold rLN
    split
    · rfl
    · rename_i c
      rcases hxy with z | z
      · exact absurd z.2 c
      · exact w_a_same _ _ _ _ z.2.2
  have eX : (if x = -1 then (-1 : Int) else x) = x := by
    split
    · rename_i c; exact c.symm
    · rfl
  have xrg : am_rg x := by unfold am_rg; omega
  have Lend : ∀ {w' : W_} {l : List Int} {q : Nat}, j_go (n + 1) J (some (wb, fb)) none p = (.nil, q, l) → rRQ w w' l → w'.1 73 14 = (q : Int) → w'.1 73 5 ≤ w.1 73 5 + 4 * ((q : Int) - p) + 0 → P (some (.inl x)) w' := by
    intro w' l q hj h1 h2 h3
    have z := L (-1) w' (by rw [E0, hj]; exact ⟨h1, h2, h3⟩) (by rw [hj]; show rEN w' _ _ .nil none (-1); unfold rEN; rfl)
    rw [eX] at z
    exact z
  refine lk_180b (p := (p : Int)) hv hf13 a3 (by omega) (by rw [ef]; unfold am_rg; omega) (fun q => ?_) (fun q => ?_)
  · rw [ef] at q
    have p60 : p < 60 := by omega
    have K := a5.1 (60 * f + p) (by omega)
    have ek : w.2 74 (60 * w.1 73 13 + (p : Int)).toNat = (J.1 p : Int) := by
      rw [j1, show (60 * w.1 73 13 + (p : Int)).toNat = 60 * f + p by omega]
      omega
    have en : w.2 75 (60 * w.1 73 13 + (p : Int)).toNat = J.2.1 p := by
      rw [j2, show (60 * w.1 73 13 + (p : Int)).toNat = 60 * f + p by omega]
    have K1 : J.1 p < 32 := by rw [j1]; omega
    have K2 : 0 ≤ J.2.1 p ∧ J.2.1 p < 100 := by rw [j2]; exact K.2.2
    have G1 : ¬ J.2.2.1 ≤ p := by omega
    refine lk_180d (k := (J.1 p : Int)) (by omega) hv hf13 a3 (by omega) (by omega) xrg hwh hfm ek (by omega) (fun c => ?_) (fun c c2 => ?_) (fun c c2 => ?_)
    · refine Lend (q := p + 1) (l := []) ?_ (rRQ_pos a8) (by show (p : Int) + 1 = _; omega) (by show w.1 73 5 ≤ _; omega)
      rw [j_go_I, if_neg G1, if_pos ⟨by omega, hwb.1 c.2⟩]
    · have c' : ¬ (J.1 p = 5 ∧ wb = false) := fun z => c ⟨by omega, hwb.2 z.2⟩
      have c2' : ¬ (J.1 p = 0 ∨ J.1 p = 3 ∨ (fb = false ∧ J.1 p < 5)) := by
        rintro (z | z | z)
        · exact c2 (Or.inl (by omega))
        · exact c2 (Or.inr (Or.inl (by omega)))
        · exact c2 (Or.inr (Or.inr ⟨hfb.2 z.1, by omega⟩))
      have q1 : rRQ w (r_nt (w_f w 73 14 ((p : Int) + 1)) 1 (w.1 73 13) p) [j_flt J 1 p] := rRQ_trans (rRQ_pos a8) (rRQ_nt (w := w_f w 73 14 ((p : Int) + 1)) a8 (by have := jf 1 p; omega))
      have q14 : (r_nt (w_f w 73 14 ((p : Int) + 1)) 1 (w.1 73 13) p).1 73 14 = ((p + 1 : Nat) : Int) := by
        rw [r_nt_1 _ _ _ _ (by omega)]
        show (p : Int) + 1 = _
        omega
      have q5 : (r_nt (w_f w 73 14 ((p : Int) + 1)) 1 (w.1 73 13) p).1 73 5 = w.1 73 5 := r_nt_1 _ _ _ _ (by omega)
      have q83 : (r_nt (w_f w 73 14 ((p : Int) + 1)) 1 (w.1 73 13) p).2 83 = w.2 83 := r_nt_2 _ _ _ _ (by decide)
      generalize r_nt (w_f w 73 14 ((p : Int) + 1)) 1 (w.1 73 13) p = w2 at q1 q14 q5 q83 ⊢
      have A2 := rRA_of (d := d) (e := 0) H0 q1 q14 (by omega) (by omega)
      obtain ⟨t1, t2⟩ := tJv q1
      refine ihi w2 fr f (p + 1) wb fb (d - 0) wh fm x y _ _ _ _ P A2 (by omega) (by rw [t2]; omega) (by omega) ⟨⟨rfl, rfl⟩, rfl, hv.2.2⟩ hw hf (by rw [q5, q83]; exact hxy) (fun z w' g1 g2 => ?_)
      rw [t1] at g1 g2
      rw [q5] at g2
      have e : j_go (n + 1) J (some (wb, fb)) none p = ((j_go n J (some (wb, fb)) none (p + 1)).1, (j_go n J (some (wb, fb)) none (p + 1)).2.1, j_flt J 1 p :: (j_go n J (some (wb, fb)) none (p + 1)).2.2) := by
        rw [j_go_I, if_neg G1, if_neg c', if_neg c2']
      refine L z w' ?_ (by rw [e]; exact g2)
      rw [e]
      obtain ⟨h1, h2, h3⟩ := g1
      refine ⟨?_, h2, ?_⟩
      · refine rRQ_trans (l1 := [j_flt J 1 p]) (w1 := rLN w2 y z) ?_ h1
        unfold rLN
        split
        · exact q1
        · exact rRQ_83b q1
      · have u1 : (rLN w2 y z).1 73 5 = w2.1 73 5 := by unfold rLN; split <;> rfl
        have u2 : (rLN w y z).1 73 5 = w.1 73 5 := by unfold rLN; split <;> rfl
        rw [u1] at h3
        rw [u2]
        dsimp only
        omega
    · have c' : ¬ (J.1 p = 5 ∧ wb = false) := fun z => c ⟨by omega, hwb.2 z.2⟩
      have c2' : J.1 p = 0 ∨ J.1 p = 3 ∨ (fb = false ∧ J.1 p < 5) := by
        rcases c2 with z | z | z
        · exact Or.inl (by omega)
        · exact Or.inr (Or.inl (by omega))
        · exact Or.inr (Or.inr ⟨hfb.1 z.1, by omega⟩)
      have k4 : J.1 p ≤ 4 := by
        rcases c2' with z | z | z <;> omega
      have e : j_go (n + 1) J (some (wb, fb)) none p = (ct (J.1 p) (J.2.1 p) (j_id J p) (if J.1 p = 3 then j_go n J none none (p + 1) else if J.1 p = 4 then j_go n J (some (false, true)) none (p + 1) else (.nil, p + 1, [])).1 (j_go n J (some (wb, fb)) none (if J.1 p = 3 then j_go n J none none (p + 1) else if J.1 p = 4 then j_go n J (some (false, true)) none (p + 1) else (.nil, p + 1, [])).2.1).1, (j_go n J (some (wb, fb)) none (if J.1 p = 3 then j_go n J none none (p + 1) else if J.1 p = 4 then j_go n J (some (false, true)) none (p + 1) else (.nil, p + 1, [])).2.1).2.1, (if J.1 p = 3 then j_go n J none none (p + 1) else if J.1 p = 4 then j_go n J (some (false, true)) none (p + 1) else (.nil, p + 1, [])).2.2 ++ (j_go n J (some (wb, fb)) none (if J.1 p = 3 then j_go n J none none (p + 1) else if J.1 p = 4 then j_go n J (some (false, true)) none (p + 1) else (.nil, p + 1, [])).2.1).2.2) := by
        rw [j_go_I, if_neg G1, if_neg c', if_pos c2']
      -- the parts of an item are read: what is told behind it
      have F : ∀ {w1 : W_} {g : T_ × Nat × List Int} {x3 x4 : Int}, (if J.1 p = 3 then j_go n J none none (p + 1) else if J.1 p = 4 then j_go n J (some (false, true)) none (p + 1) else ((.nil : T_), p + 1, ([] : List Int))) = g → rRQ w w1 g.2.2 → w1.1 73 14 = (g.2.1 : Int) → w.1 73 5 + 1 ≤ w1.1 73 5 → w1.1 73 5 ≤ w.1 73 5 + 4 * ((g.2.1 : Int) - p) → p + 1 ≤ g.2.1 → (g.2.1 : Int) ≤ w.2 76 f → ((w1.2 77 (w.1 73 5).toNat = (J.1 p : Int) ∧ w1.2 78 (w.1 73 5).toNat = J.2.1 p ∧ w1.2 79 (w.1 73 5).toNat = (f : Int) ∧ w1.2 80 (w.1 73 5).toNat = (p : Int)) ∧ w1.2 81 (3 * w.1 73 5).toNat = x3 ∧ w1.2 82 (w.1 73 5).toNat = x4 ∧ w1.2 83 (w.1 73 5).toNat = -1) → (J.1 p = 3 → rEN w1 (w.1 73 5 + 1) (w1.1 73 5) g.1 (some none) x3) → (J.1 p = 4 → rEN w1 (w.1 73 5 + 1) (w1.1 73 5) g.1 none x4) → (J.1 p ≠ 4 → x4 = -1) → (J.1 p ≠ 3 → J.1 p ≠ 4 → g.1 = .nil) → ∀ u7 : am_V, am_two u7 = false → z180 fr P 175 wh fm x y (.inl p) (.inl (J.1 p : Int)) u7 (.inl (w.1 73 5)) w1 := by
        intro w1 g x3 x4 hg h1 h2 h3 h4 h5 h6 N r3 r4 s4 s5 u7 hu
        have fOg : J.1 p = 4 → r_fO g.1 := fun q => by
          rw [← hg, if_neg (by omega), if_pos q]
          exact j_go_fO n J false none (p + 1)
        rw [hg] at e
        generalize em : w.1 73 5 = m at h3 h4 N r3 r4 hxy ⊢
        have m0 : 0 ≤ m := by omega
        have mN : (m.toNat : Int) = m := by omega
        have M1024 : m < 1024 := by omega
        refine lk_180h hu ⟨m0, M1024⟩ (by omega) (by omega) ?_
        have V : ∃ v, rLN w1 y m = v := ⟨_, rfl⟩
        obtain ⟨v, ev⟩ := V
        show z180 fr P 5 wh fm (if x = -1 then m else x) m (.inl p) (.inl (J.1 p : Int)) u7 (.inl m) (rLN w1 y m)
        have vq : rRQ (rLN w y m) v g.2.2 := by
          rw [← ev]
          unfold rLN
          split
          · exact h1
          · exact rRQ_83b h1
        have v1 : v.1 = w1.1 := by rw [← ev]; unfold rLN; split <;> rfl
        have v2 : ∀ b, b ≠ 83 → v.2 b = w1.2 b := fun b q => by
          rw [← ev]; unfold rLN
          split
          · rfl
          · exact w_a_2ne _ _ _ q
        have v83 : ∀ i : Nat, m ≤ i → v.2 83 i = w1.2 83 i := fun i q => by
          rw [← ev]; unfold rLN
          split
          · rfl
          · show (if 83 = 83 ∧ i = y.toNat then _ else w1.2 83 i) = _
            rw [if_neg (by omega)]
        have vaN : rAN w1 v (m + 1) (w1.1 73 5) := fun i q0 q1 => by
          rw [v2 77 (by decide), v2 78 (by decide), v2 79 (by decide), v2 80 (by decide), v2 81 (by decide), v2 82 (by decide), v83 i (by omega)]
          exact ⟨⟨rfl, rfl, rfl, rfl⟩, ⟨rfl, rfl⟩, rfl, rfl, rfl⟩
        rw [ev]
        obtain ⟨t1, t2⟩ := tJv h1
        have A1 : rRA w1 f g.2.1 (d - 0) := rRA_of (d := d) (e := 0) H0 h1 h2 h6 (by omega)
        have A2 : rRA v f g.2.1 d := by
          obtain ⟨b1, b2, b3, b4, b5, b6⟩ := A1
          unfold rRA
          rw [v1, v2 74 (by decide), v2 75 (by decide), v2 76 (by decide)]
          exact ⟨b1, b2, b3, b4, b5, by omega⟩
        have t1' : tJ (v.2 74) (v.2 75) (v.2 76) f = J := by rw [v2 74 (by decide), v2 75 (by decide), v2 76 (by decide)]; exact t1
        have t2' : v.2 76 f = w.2 76 f := by rw [v2 76 (by decide)]; exact t2
        have vm : v.1 73 5 = w1.1 73 5 := by rw [v1]
        refine ihi v fr f g.2.1 wb fb d wh fm _ m _ _ _ _ P A2 hd (by rw [t2']; omega) (by omega) ⟨⟨rfl, rfl⟩, hu, rfl⟩ hw hf (Or.inr ⟨?_, ⟨m0, by omega⟩, by rw [v83 m.toNat (by omega)]; exact N.2.2.2⟩) (fun z w' g1 g2 => ?_)
        · split
          · omega
          · omega
        rw [t1'] at g1 g2
        have eX2 : (if (if x = -1 then m else x) = -1 then z else if x = -1 then m else x) = if x = -1 then m else x := by
          rw [if_neg (by split <;> omega)]
        rw [eX2]
        obtain ⟨h7, h8, h9⟩ := g1
        have u1 : (rLN v m z).1 73 5 = v.1 73 5 := by unfold rLN; split <;> rfl
        have u2 : (rLN w y m).1 73 5 = w.1 73 5 := by unfold rLN; split <;> rfl
        have u3 : rLN v m z = w_a v 83 m.toNat z := by unfold rLN; rw [if_neg (by omega)]
        have n7 := h7.2.1.2.1
        rw [u1] at h9 n7
        have a7' := h7.2.1.2.2
        rw [u1] at a7'
        refine L m w' ?_ ?_
        · rw [e]
          refine ⟨?_, h8, ?_⟩
          · refine rRQ_trans (w1 := rLN v m z) ?_ h7
            rw [u3]
            exact rRQ_83 vq (by rw [u2]; omega)
          · rw [u2]
            dsimp only
            omega
        · rw [e]
          show rEN w' (w.1 73 5) (w'.1 73 5) (.tag (J.1 p) (.nest (J.2.1 p) (.tag (j_id J p) (.append g.1 (j_go n J (some (wb, fb)) none g.2.1).1)))) none m
          rw [em]
          have aNf : rAN v w' (m + 1) (v.1 73 5) := fun i q0 q1 => by
            have A := a7' i (by omega) q1
            have B := rAN_83 (w := v) (m := m.toNat) (x := z) (lo := m + 1) (hi := v.1 73 5) (by omega) i q0 q1
            rw [u3] at A
            exact ⟨⟨by rw [A.1.1, B.1.1], by rw [A.1.2.1, B.1.2.1], by rw [A.1.2.2.1, B.1.2.2.1], by rw [A.1.2.2.2, B.1.2.2.2]⟩, ⟨by rw [A.2.1.1, B.2.1.1], by rw [A.2.1.2, B.2.1.2]⟩, by rw [A.2.2.1, B.2.2.1], by rw [A.2.2.2.1, B.2.2.2.1], by rw [A.2.2.2.2, B.2.2.2.2]⟩
          have C1 : ∀ {t : T_} {md : Option (Option Nat)} {xx : Int}, rEN w1 (m + 1) (w1.1 73 5) t md xx → rEN w' m (w'.1 73 5) t md xx := fun h => by
            have h' := rEN_mono (by omega) vaN (Int.le_refl _) (Int.le_refl _) _ _ _ h
            rw [← vm] at h'
            exact rEN_mono (by omega) aNf (by omega) n7 _ _ _ h'
          have Am := a7' m.toNat (by omega) (by omega)
          rw [u3] at Am
          have z83 : (w_a v 83 m.toNat z).2 83 m.toNat = z := by
            show (if 83 = 83 ∧ m.toNat = m.toNat then z else _) = z
            rw [if_pos ⟨rfl, rfl⟩]
          obtain ⟨⟨A1, A2, A3, A4⟩, ⟨A5, A6⟩, A7, -, -⟩ := Am
          rw [z83] at A6
          rw [w_a_2ne _ _ _ (by decide), v2 77 (by decide)] at A1
          rw [w_a_2ne _ _ _ (by decide), v2 78 (by decide)] at A2
          rw [w_a_2ne _ _ _ (by decide), v2 79 (by decide)] at A3
          rw [w_a_2ne _ _ _ (by decide), v2 80 (by decide)] at A4
          rw [w_a_2ne _ _ _ (by decide), v2 82 (by decide)] at A5
          rw [w_a_2ne _ _ _ (by decide), v2 81 (by decide)] at A7
          have e3m : 3 * m.toNat = (3 * m).toNat := by omega
          have eid : j_id J p = 60 * f + p := by unfold j_id; rw [j4]
          have ct_eq := rEN_it (w := w') (lo := m) (hi := w'.1 73 5) (k := J.1 p) (n := J.2.1 p) (id := j_id J p) (y := g.1) (r := (j_go n J (some (wb, fb)) none g.2.1).1) (x := m)
          rw [ct_eq]
          refine ⟨⟨⟨⟨Int.le_refl _, by omega⟩, by rw [eid]; omega⟩, by rw [A1]; exact N.1.1, by rw [A2]; exact N.1.2.1, by rw [A3, eid, show (60 * f + p) / 60 = f by omega]; exact N.1.2.2.1, by rw [A4, eid, show (60 * f + p) % 60 = p by omega]; exact N.1.2.2.2⟩, ⟨k4, K2⟩, fun q3 => ?_, fun q4 => ?_, fun q4 => ?_, s5, ?_⟩
          · rw [A7, e3m, N.2.1]; exact C1 (r3 q3)
          · rw [A5, N.2.2.1]; exact ⟨C1 (r4 q4), fOg q4⟩
          · rw [A5, N.2.2.1]; exact s4 q4
          · rw [A6]
            exact rEN_mono (by omega) (rAN_rfl _ _ _) (by omega) (Int.le_refl _) _ _ _ g2
      refine lk_180e (by omega) ⟨rfl, hv.2.2⟩ (by show 0 ≤ w.1 73 13 ∧ w.1 73 13 < 3; exact hf13) (by omega) (by show 0 ≤ w.1 73 5 ∧ w.1 73 5 < 1024; omega) ?_
      show z180 fr P 129 wh fm x y (.inl p) (.inl (J.1 p : Int)) (.inl 1) (.inl (w.1 73 5)) (r_nd (w_f w 73 14 ((p : Int) + 1)) (J.1 p : Int) (w.2 75 (60 * w.1 73 13 + (p : Int)).toNat) p)
      rw [en]
      have V : ∃ v, r_nd (w_f w 73 14 ((p : Int) + 1)) (J.1 p : Int) (J.2.1 p) p = v := ⟨_, rfl⟩
      obtain ⟨v, ev⟩ := V
      have q0 : rRQ w v [] := by
        rw [← ev]
        exact rRQ_trans (rRQ_pos a8) (rRQ_nd (w := w_f w 73 14 ((p : Int) + 1)) a8)
      have v14 : v.1 73 14 = ((p + 1 : Nat) : Int) := by rw [← ev]; show (p : Int) + 1 = _; omega
      have v5 : v.1 73 5 = w.1 73 5 + 1 := by rw [← ev]; rfl
      have vN : rNM v (w.1 73 5).toNat (J.1 p : Int) (J.2.1 p) f p := by
        rw [← ev, ← a1]
        exact rNM_nd (w := w_f w 73 14 ((p : Int) + 1))
      have vA : rRA v f (p + 1) 3 := by
        have z := rRA_of (d := d) (e := -3) H0 q0 v14 (by omega) (by omega)
        obtain ⟨b1, b2, b3, b4, b5, b6⟩ := z
        exact ⟨b1, b2, b3, b4, b5, by omega⟩
      rw [ev]
      have kz : am_rg (J.1 p : Int) := by unfold am_rg; omega
      have m1024 : 0 ≤ w.1 73 5 ∧ w.1 73 5 < 1024 := by omega
      obtain ⟨t1, t2⟩ := tJv q0
      have e3 : (3 * w.1 73 5).toNat = 3 * (w.1 73 5).toNat := by omega
      by_cases c3 : J.1 p = 3
      · have hc := ihe v (fr - 1) f (p + 1) none 3 vA (by omega) (by rw [t2]; omega) (by omega)
        rw [t1] at hc
        refine lk_180f (by omega) rfl m1024 kz (fun _ => hc) (fun _ z w1 hR => ?_) (fun q => absurd (show (J.1 p : Int) = 3 by omega) q)
        obtain ⟨⟨h1, h2, h3⟩, h4⟩ := hR
        have gz := j_go_sz n J none none (p + 1)
        have gz2 := gz.2 (by omega)
        generalize hgg : j_go n J none none (p + 1) = g at h1 h2 h3 h4 gz gz2
        have eg : (if J.1 p = 3 then j_go n J none none (p + 1) else if J.1 p = 4 then j_go n J (some (false, true)) none (p + 1) else ((.nil : T_), p + 1, ([] : List Int))) = g := by rw [if_pos c3]; exact hgg
        have n1 := h1.2.1.2.1
        have N1 := rNM_RQ h1 (by omega) vN
        refine lk_180g (R := fun _ _ => False) (by omega) rfl m1024 kz (fun q => absurd q (by omega)) (fun q => absurd q (by omega)) (fun _ => ?_)
        refine F (g := g) (x3 := z) (x4 := -1) eg (rRQ_82 (rRQ_81 (rRQ_trans q0 h1) (by omega)) (by omega)) h2 (by show _ ≤ w1.1 73 5; omega) (by show w1.1 73 5 ≤ _; omega) (by omega) (by omega) ⟨⟨N1.1.1, N1.1.2.1, N1.1.2.2.1, N1.1.2.2.2⟩, ?_, ?_, N1.2.2⟩ (fun _ => ?_) (fun q => absurd q (by omega)) (fun _ => rfl) (fun q => absurd c3 q) _ rfl
        · show (if 81 = 81 ∧ (3 * w.1 73 5).toNat = (3 * w.1 73 5).toNat then z else _) = z
          rw [if_pos ⟨rfl, rfl⟩]
        · show (if 82 = 82 ∧ (w.1 73 5).toNat = (w.1 73 5).toNat then (-1 : Int) else _) = -1
          rw [if_pos ⟨rfl, rfl⟩]
        · rw [v5] at h4
          exact rEN_mono (by omega) (rAN_82 (m := (w.1 73 5).toNat) (by omega)) (Int.le_refl _) (Int.le_refl _) _ _ _ (rEN_mono (by omega) (rAN_81 (m := (w.1 73 5).toNat) (by omega) (by omega)) (Int.le_refl _) (Int.le_refl _) _ _ _ h4)
      · refine lk_180f (R := fun _ _ => False) (by omega) rfl m1024 kz (fun q => absurd q (by omega)) (fun q => absurd q (by omega)) (fun _ => ?_)
        have q1 : rRQ w (w_a v 81 (3 * w.1 73 5).toNat (-1)) [] := rRQ_81 q0 (by omega)
        have vN1 : rNM (w_a v 81 (3 * w.1 73 5).toNat (-1)) (w.1 73 5).toNat (J.1 p : Int) (J.2.1 p) f p := rNM_81 vN
        have s81 : (w_a v 81 (3 * w.1 73 5).toNat (-1)).2 81 (3 * w.1 73 5).toNat = -1 := by
          show (if 81 = 81 ∧ (3 * w.1 73 5).toNat = (3 * w.1 73 5).toNat then (-1 : Int) else _) = -1
          rw [if_pos ⟨rfl, rfl⟩]
        have s5 : (w_a v 81 (3 * w.1 73 5).toNat (-1)).1 = v.1 := rfl
        have vA1 : rRA (w_a v 81 (3 * w.1 73 5).toNat (-1)) f (p + 1) 3 := vA
        generalize w_a v 81 (3 * w.1 73 5).toNat (-1) = u at q1 vN1 s81 s5 vA1 ⊢
        obtain ⟨t1, t2⟩ := tJv q1
        have u5 : u.1 73 5 = w.1 73 5 + 1 := by rw [s5]; exact v5
        have u14 : u.1 73 14 = ((p + 1 : Nat) : Int) := by rw [s5]; exact v14
        by_cases c4 : J.1 p = 4
        · have hc := iht u (fr - 1) f (p + 1) false true 3 0 1 vA1 (by omega) (by rw [t2]; omega) (by omega) rfl rfl
          rw [t1] at hc
          refine lk_180g (by omega) rfl m1024 kz (fun _ => hc) (fun _ z w1 hR => ?_) (fun q => absurd (show (J.1 p : Int) = 4 by omega) q)
          obtain ⟨⟨h1, h2, h3⟩, h4⟩ := hR
          have gz := j_go_sz n J (some (false, true)) none (p + 1)
          have gz2 := gz.2 (by omega)
          generalize hgg : j_go n J (some (false, true)) none (p + 1) = g at h1 h2 h3 h4 gz gz2
          have eg : (if J.1 p = 3 then j_go n J none none (p + 1) else if J.1 p = 4 then j_go n J (some (false, true)) none (p + 1) else ((.nil : T_), p + 1, ([] : List Int))) = g := by rw [if_neg c3, if_pos c4]; exact hgg
          have n1 := h1.2.1.2.1
          have N1 := rNM_RQ h1 (by omega) vN1
          have Am := h1.2.1.2.2 (w.1 73 5).toNat (by omega) (by omega)
          refine F (g := g) (x3 := -1) (x4 := z) eg (rRQ_82 (rRQ_trans q1 h1) (by omega)) h2 (by show _ ≤ w1.1 73 5; omega) (by show w1.1 73 5 ≤ _; omega) (by omega) (by omega) ⟨⟨N1.1.1, N1.1.2.1, N1.1.2.2.1, N1.1.2.2.2⟩, ?_, ?_, N1.2.2⟩ (fun q => absurd q (by omega)) (fun _ => ?_) (fun q => absurd c4 q) (fun _ q => absurd c4 q) _ rfl
          · show w1.2 81 (3 * w.1 73 5).toNat = -1
            rw [e3, Am.2.2.1, ← e3]; exact s81
          · show (if 82 = 82 ∧ (w.1 73 5).toNat = (w.1 73 5).toNat then z else _) = z
            rw [if_pos ⟨rfl, rfl⟩]
          · rw [u5] at h4
            exact rEN_mono (by omega) (rAN_82 (m := (w.1 73 5).toNat) (by omega)) (Int.le_refl _) (Int.le_refl _) _ _ _ h4
        · refine lk_180g (R := fun _ _ => False) (by omega) rfl m1024 kz (fun q => absurd q (by omega)) (fun q => absurd q (by omega)) (fun _ => ?_)
          have eg : (if J.1 p = 3 then j_go n J none none (p + 1) else if J.1 p = 4 then j_go n J (some (false, true)) none (p + 1) else ((.nil : T_), p + 1, ([] : List Int))) = (.nil, p + 1, []) := by rw [if_neg c3, if_neg c4]
          refine F (x3 := -1) (x4 := -1) eg (rRQ_82 q1 (by omega)) u14 (by show _ ≤ u.1 73 5; omega) (by show u.1 73 5 ≤ _; dsimp only; omega) (Nat.le_refl _) (by dsimp only; omega) ⟨⟨vN1.1.1, vN1.1.2.1, vN1.1.2.2.1, vN1.1.2.2.2⟩, s81, ?_, vN1.2.2⟩ (fun q => absurd q c3) (fun q => absurd q c4) (fun _ => rfl) (fun _ _ => rfl) _ rfl
          show (if 82 = 82 ∧ (w.1 73 5).toNat = (w.1 73 5).toNat then (-1 : Int) else _) = -1
          rw [if_pos ⟨rfl, rfl⟩]
  · rw [ef] at q
    have G1 : J.2.2.1 ≤ p := by omega
    have e : j_go (n + 1) J (some (wb, fb)) none p = (.nil, p, if wb = true then [] else [j_flt J 2 p]) := by
      rw [j_go_I, if_pos G1]
    refine lk_180c (p := (p : Int)) (by omega) hv hf13 a3 (by omega) (by omega) xrg hwh (fun c => ?_) (fun c => ?_)
    · have cw : wb = true := by
        cases wb with
        | true => rfl
        | false => exact absurd (hwb.2 rfl) (by omega)
      rw [if_pos cw] at e
      exact Lend e (rRQ_rfl a8) a3 (by omega)
    · have cw : ¬ wb = true := fun z => by
        have := hwb.1 c
        rw [z] at this
        cases this
      rw [if_neg cw] at e
      refine Lend e (rRQ_nt a8 (by have := jf 2 p; omega)) ?_ ?_
      · rw [r_nt_1 _ _ _ _ (by omega)]; exact a3
      · rw [r_nt_1 _ _ _ _ (by omega)]; omega
/-- reading, with fuel that suffices -/
theorem rd_all : ∀ n : Nat, rdE n ∧ rdI n := by
  intro n
  induction n with
  | zero =>
    refine ⟨fun w fr f p own d H _ hn => ?_, fun w fr f p wb fb d wh fm x y v5 v6 v7 v8 P H _ hn => ?_⟩
    · exact absurd hn (by have := H.2.1; omega)
    · exact absurd hn (by have := H.2.1; omega)
  | succ n ih => exact ⟨rdE_step ih.1 (rdT_of ih.2), rdI_step ih.1 ih.2⟩
