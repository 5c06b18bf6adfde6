/-! ===== the class finds the record that the evaluator finds ===== -/
theorem find_idx {p : R_ → Bool} : ∀ l : List R_, (∀ r, l.find? p = some r → ∃ j : Nat, l[j]? = some r ∧ p r = true ∧ ∀ (i : Nat) (r' : R_), i < j → l[i]? = some r' → p r' = false) ∧ (l.find? p = none → ∀ (i : Nat) (r' : R_), l[i]? = some r' → p r' = false) := by
  intro l
  induction l with
  | nil => exact ⟨fun r h => (by cases h), fun _ i r' h => (by cases h)⟩
  | cons a l ih =>
    cases q : p a with
    | true =>
      refine ⟨fun r h => ?_, fun h => ?_⟩
      · rw [List.find?_cons, q] at h
        cases h
        exact ⟨0, rfl, q, fun i r' hi => absurd hi (Nat.not_lt_zero _)⟩
      · rw [List.find?_cons, q] at h
        cases h
    | false =>
      refine ⟨fun r h => ?_, fun h => ?_⟩
      · rw [List.find?_cons, q] at h
        obtain ⟨j, h1, h2, h3⟩ := ih.1 r h
        refine ⟨j + 1, h1, h2, fun i r' hi hr => ?_⟩
        cases i with
        | zero => cases hr; exact q
        | succ i => exact h3 i r' (by omega) hr
      · rw [List.find?_cons, q] at h
        intro i r' hr
        cases i with
        | zero => cases hr; exact q
        | succ i => exact ih.2 h i r' hr
theorem wg_n {a : Nat → Int} {j : Int} {n : Nat} (h : j = (n : Int)) : wg a j = a n := by
  rw [h]
  unfold wg
  rw [if_neg (by omega), Int.toNat_natCast]
section
variable {C : C_} {o a0 : Nat} {D : Prop} {K0 : Int} {hb : Bool} {s : S_} {E : N_} {w w1 : W_}
/-- a record that is the same, in the class and in the evaluator -/
theorem r_M_is {i : Nat} {r : R_} {id : Nat} {x : Int} {nums : Nat → Option Int} (H : CR C false o a0 D K0 s w) (h : n48 w w1) (hr : (s_me s)[i]? = some r) (h48 : ∀ m : Nat, m < 10 → w1.2 48 m = (nums m).getD 20005) (hn : ∀ m z, m < 10 → nums m = some z → -9999 ≤ z ∧ z ≤ 9999) : r_M w1 id x i ↔ r_is C id x nums r = true := by
  obtain ⟨m1, m2, m3, m4, -⟩ := H.2.2.2
  obtain ⟨r1, r2, -, -, -, -, r7, r8⟩ := m3 i r hr
  obtain ⟨⟨C0, n0, E1, s0, s1, -, -, -, -, -, -, -, k8, k9⟩, -⟩ := m4 r (List.mem_of_getElem? hr)
  have hA := H.1.2.2.2
  have e11 : w1.2 11 = w.2 11 := h.2 11 (by decide)
  have e18 : w1.2 18 = w.2 18 := h.2 18 (by decide)
  have g0 : w_g w1 11 ((i : Int) * 61 + 0) = r_id r := by rw [wg_w, wg_n (n := 61 * i) (by omega), e11]; exact r1
  have g1 : w_g w1 11 ((i : Int) * 61 + 1) = r_arg r := by rw [wg_w, wg_n (n := 61 * i + 1) (by omega), e11]; exact r2
  have g6 : ∀ m : Nat, m < 10 → w_g w1 11 ((i : Int) * 61 + 6 + m) = (r_nums r m).getD 20005 := fun m hm => by rw [wg_w, wg_n (n := 61 * i + 6 + m) (by omega), e11]; exact r7 m hm
  have g16 : ∀ q : Nat, q < 45 → w_g w1 11 ((i : Int) * 61 + 16 + q) = if r_as r q = true then (r_an r q).getD 20005 else 20005 := fun q hq => by rw [wg_w, wg_n (n := 61 * i + 16 + q) (by omega), e11]; exact r8 q hq
  have g48 : ∀ m : Nat, m < 10 → w_g w1 48 (m : Int) = (nums m).getD 20005 := fun m hm => by rw [wg_w, wg_n (n := m) rfl]; exact h48 m hm
  have g18 : ∀ q : Nat, w_g w1 18 (q : Int) = w.2 18 q := fun q => by rw [wg_w, wg_n (n := q) rfl, e18]
  have hnum : ∀ m : Nat, m < 10 → ((r_nums r m).getD 20005 = (nums m).getD 20005 ↔ r_nums r m = nums m) := fun m hm => by
    constructor
    · intro q
      cases a : r_nums r m with
      | none =>
        cases b : nums m with
        | none => rfl
        | some z =>
          rw [a, b] at q
          have q : (20005 : Int) = z := q
          have := hn m z hm b
          omega
      | some y =>
        have hy := k8 m y a
        cases b : nums m with
        | none =>
          rw [a, b] at q
          have q : y = 20005 := q
          omega
        | some z =>
          rw [a, b] at q
          have q : y = z := q
          rw [q]
    · intro q; rw [q]
  have hans : ∀ q : Nat, q < 45 → ((w_g w1 11 ((i : Int) * 61 + 16 + q) ≠ 20005 → w_g w1 11 ((i : Int) * 61 + 16 + q) = w_g w1 18 (q : Int)) ↔ (!r_as r q || r_an r q == C.1 q) = true) := fun q hq => by
    have a := hA q hq
    rw [g16 q hq, g18]
    cases b : r_as r q with
    | false =>
      rw [if_neg Bool.false_ne_true]
      exact ⟨fun _ => rfl, fun _ z => absurd rfl z⟩
    | true =>
      obtain ⟨-, z, z1, z2, z3⟩ := k9 q b
      rw [if_pos rfl, z1]
      show ((z : Int) ≠ 20005 → z = w.2 18 q) ↔ (some z == C.1 q) = true
      cases c : C.1 q with
      | none =>
        rw [c] at a
        have a : w.2 18 q = 20005 := a
        constructor
        · intro y
          have := y (by omega)
          omega
        · intro y; cases y
      | some u =>
        rw [c] at a
        have a : w.2 18 q = u ∧ -9999 ≤ u ∧ u ≤ 9999 := a
        constructor
        · intro y
          have := y (by omega)
          rw [show z = u by omega]
          exact beq_self_eq_true _
        · intro y _
          have := eq_of_beq y
          injection this with this
          omega
  unfold r_M r_is
  rw [Bool.and_eq_true, Bool.and_eq_true, Bool.and_eq_true, List.all_eq_true, List.all_eq_true, g0, g1]
  constructor
  · rintro ⟨a1, a2, a3, a4⟩
    refine ⟨⟨⟨?_, ?_⟩, fun m hm => ?_⟩, fun q hq => ?_⟩
    · have : r_id r = id := by omega
      rw [this]
      exact beq_self_eq_true _
    · rw [a2]
      exact beq_self_eq_true _
    · have hm := List.mem_range.mp hm
      have z := a3 m (by omega) (by omega)
      rw [g6 m hm, g48 m hm] at z
      rw [(hnum m hm).mp z]
      exact beq_self_eq_true _
    · have hq := List.mem_range.mp hq
      exact (hans q hq).mp (a4 q (by omega) (by omega))
  · rintro ⟨⟨⟨a1, a2⟩, a3⟩, a4⟩
    have a1 := eq_of_beq a1
    have a2 := eq_of_beq a2
    refine ⟨by rw [a1], a2, fun k k0 k1 => ?_, fun k k0 k1 => ?_⟩
    · obtain ⟨m, rfl⟩ : ∃ m : Nat, k = (m : Int) := ⟨k.toNat, by omega⟩
      have hm : m < 10 := by omega
      rw [g6 m hm, g48 m hm]
      exact (hnum m hm).mpr (eq_of_beq (a3 m (List.mem_range.mpr hm)))
    · obtain ⟨q, rfl⟩ : ∃ q : Nat, k = (q : Int) := ⟨k.toNat, by omega⟩
      have hq : q < 45 := by omega
      exact (hans q hq).mpr (a4 q (List.mem_range.mpr hq))
/-- what find answers, in the evaluator's words -/
theorem r_F_E {id : Nat} {x y : Int} {fn v : T_} (H : CR C false o a0 D K0 s w) (h : n48 w w1) (hv : v_num v = some x) (hid : e_id (v_code fn) = id) (hf : k_fit (v_code fn) (v_clos fn) = true) (h48 : ∀ m : Nat, m < 10 → w1.2 48 m = (k_nums (v_code fn) (v_clos fn) m).getD 20005) (hn : ∀ m z, m < 10 → k_nums (v_code fn) (v_clos fn) m = some z → -9999 ≤ z ∧ z ≤ 9999) (hF : r_F w1 id x (w.1 41 14) y) : (r_find C false fn v s = none ∧ y = -1) ∨ ∃ r j, r_find C false fn v s = some r ∧ (s_me s)[j]? = some r ∧ y = ((j : Nat) : Int) ∧ r_is C id x (k_nums (v_code fn) (v_clos fn)) r = true := by
  obtain ⟨m1, m2, m3, m4, -⟩ := H.2.2.2
  have e11 : w1.2 11 = w.2 11 := h.2 11 (by decide)
  have c10 : w1.1 10 1 = (s_me s).length := by rw [h.1]; exact m1
  have c4 : w1.1 17 4 = (s_b s : Int) := by rw [h.1]; exact H.1.2.1.1
  have c14 : w.1 41 14 = (s_dp s : Int) := H.2.1.2.1.1
  have Mi := fun (i : Nat) (r : R_) (hr : (s_me s)[i]? = some r) => r_M_is (id := id) (x := x) (nums := k_nums (v_code fn) (v_clos fn)) H h hr h48 hn
  have ef : r_find C false fn v s = match (s_me s).find? (r_is C id x (k_nums (v_code fn) (v_clos fn))) with
      | some r => if s_dp s + r_sn r < 8 ∧ s_b s + r_lt r < 300 then some r else none
      | none => none := by
    unfold r_find
    rw [hv]
    dsimp only
    rw [if_pos hf, hid]
    cases (s_me s).find? (r_is C id x (k_nums (v_code fn) (v_clos fn))) <;> rfl
  obtain ⟨F1, F2⟩ := find_idx (p := r_is C id x (k_nums (v_code fn) (v_clos fn))) (s_me s)
  cases q : (s_me s).find? (r_is C id x (k_nums (v_code fn) (v_clos fn))) with
  | none =>
    rw [q] at ef
    refine Or.inl ⟨ef, ?_⟩
    rcases hF with ⟨j, j0, j1, jm, -⟩ | ⟨-, e⟩
    · obtain ⟨i, rfl⟩ : ∃ i : Nat, j = (i : Int) := ⟨j.toNat, by omega⟩
      have hi : i < (s_me s).length := by omega
      have hr : (s_me s)[i]? = some (s_me s)[i] := List.getElem?_eq_getElem hi
      have := (Mi i _ hr).mp jm
      rw [F2 q i _ hr] at this
      cases this
    · exact e
  | some r =>
    rw [q] at ef
    obtain ⟨k, k1, k2, k3⟩ := F1 r q
    have kl : k < (s_me s).length := by
      by_cases c : k < (s_me s).length
      · exact c
      · rw [List.getElem?_eq_none (by omega)] at k1
        cases k1
    obtain ⟨-, -, -, -, r5, r6, -⟩ := m3 k r k1
    have g4 : w_g w1 11 ((k : Int) * 61 + 4) = r_sn r := by rw [wg_w, wg_n (n := 61 * k + 4) (by omega), e11]; exact r5
    have g5 : w_g w1 11 ((k : Int) * 61 + 5) = r_lt r := by rw [wg_w, wg_n (n := 61 * k + 5) (by omega), e11]; exact r6
    have hy : y = if w.1 41 14 + w_g w1 11 ((k : Int) * 61 + 4) < 8 ∧ w1.1 17 4 + w_g w1 11 ((k : Int) * 61 + 5) < 300 then (k : Int) else -1 := by
      rcases hF with ⟨j, j0, j1, jm, jf, e⟩ | ⟨e, -⟩
      · obtain ⟨i, rfl⟩ : ∃ i : Nat, j = (i : Int) := ⟨j.toNat, by omega⟩
        have hi : i < (s_me s).length := by omega
        have hr : (s_me s)[i]? = some (s_me s)[i] := List.getElem?_eq_getElem hi
        have hm := (Mi i _ hr).mp jm
        have hik : i = k := by
          by_cases c : i < k
          · rw [k3 i _ c hr] at hm; cases hm
          · by_cases c2 : k < i
            · exact absurd ((Mi k r k1).mpr k2) (jf k (by omega) (by omega))
            · omega
        rw [hik] at e
        exact e
      · exact absurd ((Mi k r k1).mpr k2) (e k (by omega) (by omega))
    rw [g4, g5, c4, c14] at hy
    have ef : r_find C false fn v s = if s_dp s + r_sn r < 8 ∧ s_b s + r_lt r < 300 then some r else none := ef
    by_cases c : s_dp s + r_sn r < 8 ∧ s_b s + r_lt r < 300
    · rw [if_pos c] at ef
      rw [if_pos (by omega)] at hy
      exact Or.inr ⟨r, k, ef, k1, hy, k2⟩
    · rw [if_neg c] at ef
      rw [if_neg (by omega)] at hy
      exact Or.inl ⟨ef, hy⟩
end
