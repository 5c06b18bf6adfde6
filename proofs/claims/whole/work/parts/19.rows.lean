/-! ===== rows that grow, in the world ===== -/
def w_RP (P L : Nat → Nat) (w : W_) (h : am_H) : Prop :=
  (127 ≤ h.2.1 ∧ 16 * h.2.1 ≤ 16 * 127 + w_sum L ∧ h.2.2 ≤ w_s0 + 1000 * (w.1 0 0).toNat + 2 * w_sum L) ∧
  (∀ a, w_ci a ≠ 0 → am_oc h a = w_ci a ∧ ∀ j, j < am_nf (w_ci a) → am_fv h a j = w_fv w P a j) ∧
  (∀ a, w_ak a ≠ 0 → am_ak h a = w_ak a ∧ am_ln h a = w_al a ∧ ∀ i, i < w_al a → am_el h a i = w.2 a i) ∧
  (∀ a, a ∈ w_keys → (w_ci (P a) = 0 ∧ w_ak (P a) = 0 ∧ 1 ≤ P a ∧ P a ≤ h.2.1) ∧ am_ak h (P a) = 1 ∧ am_ln h (P a) = L a ∧ (∀ i, i < L a → am_el h (P a) i = w.2 a i) ∧ (∀ i, L a ≤ i → i < 2147483648 → w.2 a i = 0) ∧ 16 ≤ L a ∧ L a ≤ w_cap a) ∧
  (∀ a, a ∈ w_keys → ∀ b, b ∈ w_keys → P a = P b → a = b) ∧
  (w.1 17 7 = 24 ∨ w.1 17 7 = 55 ∨ w.1 17 7 = 64) ∧ 8 * w.1 13 2 ≤ (L 13 : Int) ∧ ∃ q, L 13 = 1024 * 2 ^ q
theorem w_R_iff {w : W_} {h : am_H} : w_R w h ↔ ∃ P L, w_RP P L w h := Iff.rfl
theorem w_sum_up {L : Nat → Nat} {a n : Nat} (ha : a ∈ w_keys) : w_sum (am_up L a n) + L a = w_sum L + n := by
  have gen : ∀ l : List Nat, l.Nodup → a ∈ l → (l.map (am_up L a n)).sum + L a = (l.map L).sum + n := by
    intro l
    induction l with
    | nil => intro _ h; cases h
    | cons b l ih =>
      intro hn hm
      rw [List.map_cons, List.map_cons, List.sum_cons, List.sum_cons]
      have hn2 := List.nodup_cons.mp hn
      by_cases e : b = a
      · subst e
        rw [am_up_same]
        have : l.map (am_up L b n) = l.map L := List.map_congr_left fun c hc => am_up_ne _ _ (fun q => hn2.1 (q ▸ hc))
        rw [this]
        omega
      · rw [am_up_ne _ _ e]
        have := ih hn2.2 (by rcases List.mem_cons.mp hm with q | q; exact absurd q.symm e; exact q)
        omega
  exact gen w_keys (by decide +kernel) ha
theorem w_g1_inj {a j k : Nat} (h1 : w_g1 a j = true) (h2 : w_g1 a k = true) : j = k := by
  unfold w_g1 at h1 h2
  simp only [Bool.or_eq_true, Bool.and_eq_true, beq_iff_eq] at h1 h2
  rcases h1 with ⟨c1, e1⟩ | ⟨c1, e1⟩ <;> rcases h2 with ⟨c2, e2⟩ | ⟨c2, e2⟩
  · omega
  · subst c2; cases c1
  · subst c1; cases c2
  · omega
theorem am_el_eq {h h' : am_H} {b b' : Nat} (e : h.1 b = h'.1 b') (i : Nat) : am_el h b i = am_el h' b' i := by
  unfold am_el
  rw [e]
theorem am_el_of {h : am_H} {b kd n : Nat} {f : Nat → Int} (e : h.1 b = .inl (kd, n, f)) (i : Nat) : am_el h b i = f i := by
  unfold am_el
  rw [e]
theorem w_RP.grow {P L : Nat → Nat} {w : W_} {h : am_H} (R : w_RP P L w h) {a j n : Nat} (ha : a ∈ w_keys) (hc : w_ci a ≠ 0) (hj : w_g1 a j = true) (hn : 2 * L a ≤ n) (hcap : n ≤ w_cap a) (h13 : a = 13 → n = 2 * L a) :
    w_RP (am_up P a (h.2.1 + 1)) (am_up L a n) w (am_sf (am_add h (.inl (0, n, fun i => if i < L a then am_el h (P a) i else 0)) n) a j (.inr (.inr (.inl (h.2.1 + 1))))) := by
  obtain ⟨h1, h2, h3, h4, h5, h6, h7⟩ := R
  obtain ⟨q1, q2, q3, q4, q5, q6, q7⟩ := h4 a ha
  have hs := w_sum_up (L := L) (n := n) ha
  have old : ∀ b, b ≤ h.2.1 → (am_add h (.inl (0, n, fun i => if i < L a then am_el h (P a) i else 0)) n).1 b = h.1 b := fun b hb => am_up_ne _ _ (by omega)
  have new : (am_add h (.inl (0, n, fun i => if i < L a then am_el h (P a) i else 0)) n).1 (h.2.1 + 1) = .inl (0, n, fun i => if i < L a then am_el h (P a) i else 0) := am_up_same _ _ _
  have oc : ∀ b, b ≤ h.2.1 → am_oc (am_add h (.inl (0, n, fun i => if i < L a then am_el h (P a) i else 0)) n) b = am_oc h b := fun b hb => by unfold am_oc; rw [old b hb]
  have ak : ∀ b, b ≤ h.2.1 → am_ak (am_add h (.inl (0, n, fun i => if i < L a then am_el h (P a) i else 0)) n) b = am_ak h b := fun b hb => by unfold am_ak; rw [old b hb]
  have ln : ∀ b, b ≤ h.2.1 → am_ln (am_add h (.inl (0, n, fun i => if i < L a then am_el h (P a) i else 0)) n) b = am_ln h b := fun b hb => by unfold am_ln; rw [old b hb]
  have el : ∀ b i, b ≤ h.2.1 → am_el (am_add h (.inl (0, n, fun i => if i < L a then am_el h (P a) i else 0)) n) b i = am_el h b i := fun b i hb => am_el_eq (old b hb) i
  have fv : ∀ b k, b ≤ h.2.1 → am_fv (am_add h (.inl (0, n, fun i => if i < L a then am_el h (P a) i else 0)) n) b k = am_fv h b k := fun b k hb => by unfold am_fv; rw [old b hb]
  have hobj : ∀ b, w_ci b ≠ 0 → b ≤ h.2.1 := fun b hb => by have := w_ci_le hb; omega
  have harr : ∀ b, w_ak b ≠ 0 → b ≤ h.2.1 := fun b hb => by have := w_ak_le hb; omega
  have hoa : am_oc (am_add h (.inl (0, n, fun i => if i < L a then am_el h (P a) i else 0)) n) a ≠ 0 := by rw [oc a (hobj a hc), (h2 a hc).1]; exact hc
  refine ⟨⟨?_, ?_, ?_⟩, fun b hb => ?_, fun b hb => ?_, fun b hb => ?_, fun b hb c hcc e => ?_, h6, ?_⟩
  · show 127 ≤ h.2.1 + 1
    omega
  · show 16 * (h.2.1 + 1) ≤ _
    omega
  · show h.2.2 + n ≤ _
    omega
  · refine ⟨by rw [am_oc_sf, oc b (hobj b hb)]; exact (h2 b hb).1, fun k hk => ?_⟩
    rw [am_fv_sf hoa, fv b k (hobj b hb), (h2 b hb).2 k hk]
    unfold w_fv
    by_cases e : b = a ∧ k = j
    · obtain ⟨rfl, rfl⟩ := e
      rw [if_pos ⟨rfl, rfl⟩, if_pos hj, am_up_same]
      unfold w_g1 at hj
      simp only [Bool.or_eq_true, Bool.and_eq_true, beq_iff_eq] at hj
      rcases hj with ⟨c1, rfl⟩ | ⟨rfl, rfl⟩
      · rw [c1]; rfl
      · rfl
    · rw [if_neg e]
      by_cases g : w_g1 b k = true
      · have hba : b ≠ a := fun q => e ⟨q, w_g1_inj (q ▸ g) hj⟩
        rw [if_pos g, if_pos g, am_up_ne _ _ hba]
      · rw [if_neg g, if_neg g]
  · rw [am_ak_sf, am_ln_sf, ak b (harr b hb), ln b (harr b hb)]
    refine ⟨(h3 b hb).1, (h3 b hb).2.1, fun i hi => ?_⟩
    rw [am_el_sf, el b i (harr b hb)]
    exact (h3 b hb).2.2 i hi
  · by_cases e : b = a
    · subst e
      rw [am_up_same, am_up_same, am_ak_sf, am_ln_sf]
      refine ⟨⟨?_, ?_, by omega, Nat.le_refl _⟩, ?_, ?_, fun i hi => ?_, fun i hi => ?_, by omega, hcap⟩
      · apply Classical.byContradiction
        intro q
        have := w_ci_le q
        omega
      · apply Classical.byContradiction
        intro q
        have := w_ak_le q
        omega
      · unfold am_ak; rw [new]
      · unfold am_ln; rw [new]
      · rw [am_el_sf, am_el_of new]
        show (if i < L b then am_el h (P b) i else 0) = _
        by_cases z : i < L b
        · rw [if_pos z]
          exact q4 i z
        · rw [if_neg z]
          have hcb : ∀ c ∈ w_keys, w_cap c < 2147483648 := by decide +kernel
          exact (q5 i (by omega) (by have := hcb b ha; omega)).symm
      · exact q5 i (by omega)
    · obtain ⟨r1, r2, r3, r4, r5⟩ := h4 b hb
      rw [am_up_ne _ _ e, am_up_ne _ _ e, am_ak_sf, am_ln_sf, ak _ r1.2.2.2, ln _ r1.2.2.2]
      refine ⟨⟨r1.1, r1.2.1, r1.2.2.1, Nat.le_succ_of_le r1.2.2.2⟩, r2, r3, fun i hi => ?_, r5⟩
      rw [am_el_sf, el _ i r1.2.2.2]
      exact r4 i hi
  · by_cases e1 : b = a <;> by_cases e2 : c = a
    · rw [e1, e2]
    · rw [e1, am_up_same, am_up_ne _ _ e2] at e
      have := (h4 c hcc).1.2.2.2
      omega
    · rw [e2, am_up_same, am_up_ne _ _ e1] at e
      have := (h4 b hb).1.2.2.2
      omega
    · rw [am_up_ne _ _ e1, am_up_ne _ _ e2] at e
      exact h5 b hb c hcc e
  · by_cases e : 13 = a
    · rw [← e, am_up_same]
      rw [← e] at hn
      obtain ⟨h7, q, hq⟩ := h7
      have h13 := h13 e.symm
      rw [← e] at h13
      refine ⟨by omega, q + 1, ?_⟩
      rw [h13, hq, Nat.pow_succ]
      omega
    · rw [am_up_ne _ _ e]
      exact h7
/-- places from i to j hold x -/
def w_fill (w : W_) (a i j : Nat) (x : Int) : W_ := (w.1, fun b k => if b = a ∧ i ≤ k ∧ k < j then x else w.2 b k)
theorem w_RP.pe {P L : Nat → Nat} {w : W_} {h : am_H} (R : w_RP P L w h) {a i : Nat} {x : Int} (ha : a ∈ w_keys) (hi : i < L a) : w_RP P L (w_a w a i x) (am_se h (P a) i x) := by
  obtain ⟨h1, h2, h3, h4, h5, h6, h7⟩ := R
  obtain ⟨q1, q2, q3, q4, q5, q6, q7⟩ := h4 a ha
  have ho : am_ak h (P a) ≠ 0 := by rw [q2]; decide
  refine ⟨h1, fun b hb => ?_, fun b hb => ?_, fun b hb => ?_, h5, h6, h7⟩
  · refine ⟨by rw [am_oc_se]; exact (h2 b hb).1, fun k hk => ?_⟩
    rw [am_fv_se, (h2 b hb).2 k hk]
    rfl
  · rw [am_ak_se, am_ln_se]
    refine ⟨(h3 b hb).1, (h3 b hb).2.1, fun k hk => ?_⟩
    have hne : b ≠ P a := fun q => hb (by rw [q]; exact q1.2.1)
    have hna : b ≠ a := fun q => hb (by rw [q]; exact w_key_ak a ha)
    rw [am_el_se ho, if_neg (fun q => hne q.1), (h3 b hb).2.2 k hk, w_a2, w_u_at, if_neg (fun q => hna q.1)]
  · obtain ⟨r1, r2, r3, r4, r5, r6⟩ := h4 b hb
    rw [am_ak_se, am_ln_se]
    refine ⟨r1, r2, r3, fun k hk => ?_, fun k hk => ?_, r6⟩
    · rw [am_el_se ho, w_a2, w_u_at]
      by_cases e : b = a
      · subst e
        by_cases e2 : k = i
        · rw [if_pos ⟨rfl, e2⟩, if_pos ⟨rfl, e2⟩]
        · rw [if_neg (fun q => e2 q.2), if_neg (fun q => e2 q.2)]
          exact r4 k hk
      · rw [if_neg (fun q => e (h5 b hb a ha q.1)), if_neg (fun q => e q.1)]
        exact r4 k hk
    · rw [w_a2, w_u_at]
      by_cases e : b = a ∧ k = i
      · obtain ⟨rfl, rfl⟩ := e
        omega
      · rw [if_neg e]
        exact r5 k hk
theorem w_RP.fl {P L : Nat → Nat} {w : W_} {h : am_H} (R : w_RP P L w h) {a i j : Nat} {x : Int} (ha : a ∈ w_keys) (hj : j ≤ L a) : w_RP P L (w_fill w a i j x) (am_fl2 h (P a) i j x) := by
  obtain ⟨h1, h2, h3, h4, h5, h6, h7⟩ := R
  obtain ⟨q1, q2, q3, q4, q5, q6, q7⟩ := h4 a ha
  obtain ⟨n, f, ea, eln, eel⟩ := am_ak_of q2
  have hfl : am_fl2 h (P a) i j x = (am_up h.1 (P a) (.inl (0, n, fun k => if (i : Int) ≤ k ∧ (k : Int) < j then x else am_el h (P a) k)), h.2) := by
    unfold am_fl2 am_sw2
    rw [ea]
  have oth : ∀ b, b ≠ P a → (am_fl2 h (P a) i j x).1 b = h.1 b := fun b hb => by rw [hfl]; exact am_up_ne _ _ hb
  have el : ∀ b k, am_el (am_fl2 h (P a) i j x) b k = if b = P a ∧ i ≤ k ∧ k < j then x else am_el h b k := by
    intro b k
    by_cases e : b = P a
    · have e3 : am_el (am_fl2 h (P a) i j x) b k = if (i : Int) ≤ k ∧ (k : Int) < j then x else am_el h (P a) k := by
        rw [e]
        have : (am_fl2 h (P a) i j x).1 (P a) = .inl (0, n, fun k => if (i : Int) ≤ k ∧ (k : Int) < j then x else am_el h (P a) k) := by rw [hfl]; exact am_up_same _ _ _
        show (match (am_fl2 h (P a) i j x).1 (P a) with
          | .inl (_, _, f) => f k
          | _ => 0) = _
        rw [this]
      rw [e3, e]
      by_cases z : i ≤ k ∧ k < j
      · rw [if_pos ⟨by omega, by omega⟩, if_pos ⟨rfl, z⟩]
      · rw [if_neg (fun y => z ⟨by omega, by omega⟩), if_neg (fun y => z y.2)]
    · rw [if_neg (fun y => e y.1)]
      unfold am_el
      rw [oth b e]
  have hobj : ∀ b, w_ci b ≠ 0 → b ≠ P a := fun b hb q => hb (by rw [q]; exact q1.1)
  refine ⟨h1, fun b hb => ?_, fun b hb => ?_, fun b hb => ?_, h5, h6, h7⟩
  · have := oth b (hobj b hb)
    refine ⟨by unfold am_oc; rw [this]; exact (h2 b hb).1, fun k hk => ?_⟩
    have e3 : am_fv (am_fl2 h (P a) i j x) b k = am_fv h b k := by unfold am_fv; rw [this]
    rw [e3, (h2 b hb).2 k hk]
    rfl
  · have hne : b ≠ P a := fun q => hb (by rw [q]; exact q1.2.1)
    have hna : b ≠ a := fun q => hb (by rw [q]; exact w_key_ak a ha)
    rw [(am_fl2_ak h (P a) i j x b).1, (am_fl2_ak h (P a) i j x b).2]
    refine ⟨(h3 b hb).1, (h3 b hb).2.1, fun k hk => ?_⟩
    rw [el, if_neg (fun q => hne q.1), (h3 b hb).2.2 k hk]
    show _ = if b = a ∧ i ≤ k ∧ k < j then x else w.2 b k
    rw [if_neg (fun q => hna q.1)]
  · obtain ⟨r1, r2, r3, r4, r5, r6⟩ := h4 b hb
    rw [(am_fl2_ak h (P a) i j x (P b)).1, (am_fl2_ak h (P a) i j x (P b)).2]
    refine ⟨r1, r2, r3, fun k hk => ?_, fun k hk hk2 => ?_, r6⟩
    · rw [el]
      show _ = if b = a ∧ i ≤ k ∧ k < j then x else w.2 b k
      by_cases e : b = a
      · subst e
        by_cases e2 : i ≤ k ∧ k < j
        · rw [if_pos ⟨rfl, e2⟩, if_pos ⟨rfl, e2⟩]
        · rw [if_neg (fun q => e2 q.2), if_neg (fun q => e2 q.2)]
          exact r4 k hk
      · rw [if_neg (fun q => e (h5 b hb a ha q.1)), if_neg (fun q => e q.1)]
        exact r4 k hk
    · show (if b = a ∧ i ≤ k ∧ k < j then x else w.2 b k) = 0
      by_cases e : b = a ∧ i ≤ k ∧ k < j
      · obtain ⟨rfl, e1, e2⟩ := e
        omega
      · rw [if_neg e]
        exact r5 k hk hk2
