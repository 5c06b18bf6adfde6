/-! ===== the reference finds the record that the evaluator finds ===== -/
theorem bz_42 {a : Nat} (ha : a < 35184372088832) : bz_lshr (a : Int) 42 = ((a >>> 42 : Nat) : Int) := by
  unfold bz_lshr
  have z := bit_shr64 (a := (a : Int)) (q := 42) (by omega) (by omega) (by decide)
  exact z
theorem bz_q {a q : Nat} (ha : a < 35184372088832) (hq : q < 45) : bz_land (bz_lshr (a : Int) (q : Int)) 1 = if a.testBit q = true then 1 else 0 := by
  unfold bz_land bz_lshr
  have e : ((a : Int)).toNat = a := rfl
  rw [bit_shr64 (by omega) (by omega) hq, e]
  have h : a >>> q ≤ a := Nat.shiftRight_le a q
  have d : a.testBit q = decide (a >>> q % 2 = 1) := by rw [Nat.testBit_eq_decide_div_mod_eq, Nat.shiftRight_eq_div_pow]
  rw [d]
  generalize a >>> q = z at h
  rw [bit_and64 (by omega) (by omega)]
  have h2 := Nat.mod_two_eq_zero_or_one z
  rcases h2 with q | q
  · rw [decide_eq_false (by omega), if_neg (by decide)]; omega
  · rw [decide_eq_true q, if_pos rfl]; omega
theorem sh42_0 {a : Nat} (ha : a < 35184372088832) : a >>> 42 = 0 ↔ ∀ c, c < 3 → a.testBit (42 + c) = false := by
  constructor
  · intro h c _
    have : (a >>> 42).testBit c = false := by rw [h, Nat.zero_testBit]
    rw [Nat.testBit_shiftRight] at this
    exact this
  · intro h
    refine Nat.eq_of_testBit_eq fun i => ?_
    rw [Nat.testBit_shiftRight, Nat.zero_testBit]
    by_cases c : i < 3
    · exact h i c
    · refine Nat.testBit_lt_two_pow ?_
      have h45 : (2 : Nat) ^ 45 ≤ 2 ^ (42 + i) := Nat.pow_le_pow_right (by decide) (by omega)
      have e45 : (2 : Nat) ^ 45 = 35184372088832 := by decide
      omega
section
variable {C : C_} {w w' : W_} {r : R_} {i : Nat}
/-- a record of the memory in the reference -/
def rRR (w : W_) (i : Nat) (r : R_) : Prop := (w.2 114 i = ((r_id r / 60 : Nat) : Int) ∧ w.2 115 i = ((r_id r % 60 : Nat) : Int) ∧ r_id r < 1000 ∧ w.2 116 i = r_arg r ∧ -9999 ≤ r_arg r ∧ r_arg r ≤ 9999) ∧ (w.2 118 i = ((r_lt r : Nat) : Int) ∧ r_lt r ≤ 100000 ∧ w.2 119 i = ((r_sn r : Nat) : Int) ∧ r_sn r ≤ 2000) ∧ (∀ m : Nat, m < 10 → (∃ x, r_nums r m = some x ∧ w.2 117 (10 * i + m) = 8 * x + 1 ∧ -9999 ≤ x ∧ x ≤ 9999) ∨ (r_nums r m = none ∧ w.2 117 (10 * i + m) = 6)) ∧ (∃ a : Nat, w.2 120 i = ((a : Nat) : Int) ∧ a < 35184372088832 ∧ ∀ q, q < 45 → a.testBit q = r_as r q) ∧ ∀ q : Nat, q < 45 → r_as r q = true → r_an r q = some (w.2 121 (45 * i + q)) ∧ -9999 ≤ w.2 121 (45 * i + q) ∧ w.2 121 (45 * i + q) ≤ 9999
theorem r_is_iff {id : Nat} {x : Int} {nums : Nat → Option Int} : r_is C id x nums r = true ↔ r_id r = id ∧ r_arg r = x ∧ (∀ m, m < 10 → r_nums r m = nums m) ∧ ∀ q, q < 45 → r_as r q = true → r_an r q = C.1 q := by
  unfold r_is
  rw [Bool.and_eq_true, Bool.and_eq_true, Bool.and_eq_true, beq_iff_eq, beq_iff_eq, List.all_eq_true, List.all_eq_true]
  constructor
  · rintro ⟨⟨⟨h1, h2⟩, h3⟩, h4⟩
    refine ⟨h1, h2, fun m hm => ?_, fun q hq ha => ?_⟩
    · have := h3 m (List.mem_range.2 hm)
      exact beq_iff_eq.1 this
    · have := h4 q (List.mem_range.2 hq)
      rw [ha] at this
      exact beq_iff_eq.1 this
  · rintro ⟨h1, h2, h3, h4⟩
    refine ⟨⟨⟨h1, h2⟩, fun m hm => beq_iff_eq.2 (h3 m (List.mem_range.1 hm))⟩, fun q hq => ?_⟩
    cases ha : r_as r q with
    | false => rfl
    | true => exact beq_iff_eq.2 (h4 q (List.mem_range.1 hq) ha)
/-- is a record the same -/
theorem lk_217 {id fr : Nat} {x : Int} {node : Int} {e cl : T_} (hi : i < 60) (hR : rRR w i r) (h3 : rS3 C w) (hK : rKY w e cl) (hn : 0 ≤ node ∧ node < 1024) (hid : w.2 79 node.toNat = ((id / 60 : Nat) : Int) ∧ w.2 80 node.toNat = ((id % 60 : Nat) : Int)) (hid2 : id < 100000) (hx : -9999 ≤ x ∧ x ≤ 9999) (hfr : 1 ≤ fr) : ww_Ct 217 fr [.inr (.inr (.inl 73)), .inl (i : Int), .inl node, .inl x] w fun y w' => ∃ z, y = some (.inl z) ∧ w' = w ∧ ((z = 1 ∧ r_is C id x (k_nums e cl) r = true) ∨ (z = 0 ∧ r_is C id x (k_nums e cl) r = false)) := by
  obtain ⟨⟨a1, a2, a3, a4, a5, a6⟩, -, b1, ⟨a, c1, c2, c3⟩, d1⟩ := hR
  obtain ⟨-, s2, s3, s4, -⟩ := h3
  have ii : ((i : Int)).toNat = i := by omega
  have i60 : (0 : Int) ≤ (i : Int) ∧ (i : Int) < 60 := by omega
  have NO : ¬ (r_id r = id ∧ r_arg r = x ∧ (∀ m, m < 10 → r_nums r m = k_nums e cl m) ∧ ∀ q, q < 45 → r_as r q = true → r_an r q = C.1 q) → r_is C id x (k_nums e cl) r = false := fun h => by
    cases q : r_is C id x (k_nums e cl) r with
    | false => rfl
    | true => exact absurd (r_is_iff.1 q) h
  generalize hP : (fun (y : Option am_V) (w' : W_) => ∃ z, y = some (.inl z) ∧ w' = w ∧ ((z = 1 ∧ r_is C id x (k_nums e cl) r = true) ∨ (z = 0 ∧ r_is C id x (k_nums e cl) r = false))) = P
  have P0 : r_is C id x (k_nums e cl) r = false → P (some (.inl 0)) w := fun h => by rw [← hP]; exact ⟨0, rfl, rfl, Or.inr ⟨rfl, h⟩⟩
  have P1 : r_is C id x (k_nums e cl) r = true → P (some (.inl 1)) w := fun h => by rw [← hP]; exact ⟨1, rfl, rfl, Or.inl ⟨rfl, h⟩⟩
  -- it is not the same
  have F133 : ¬ (r_id r = id ∧ r_arg r = x ∧ (∀ m, m < 10 → r_nums r m = k_nums e cl m) ∧ ∀ q, q < 45 → r_as r q = true → r_an r q = C.1 q) → ∀ j : Int, 0 ≤ j ∧ j ≤ 45 → zr217 fr P 133 (i : Int) node x 0 j w := fun h j hj => lk_217d0 rfl hj (P0 (NO h))
  have F97 : ¬ (r_id r = id ∧ r_arg r = x ∧ (∀ m, m < 10 → r_nums r m = k_nums e cl m) ∧ ∀ q, q < 45 → r_as r q = true → r_an r q = C.1 q) → ∀ j : Int, zr217 fr P 97 (i : Int) node x 0 j w := fun h j => lk_217c0 rfl (F133 h 0 (by omega))
  have F50 : ¬ (r_id r = id ∧ r_arg r = x ∧ (∀ m, m < 10 → r_nums r m = k_nums e cl m) ∧ ∀ q, q < 45 → r_as r q = true → r_an r q = C.1 q) → ∀ j : Int, 0 ≤ j ∧ j ≤ 10 → zr217 fr P 50 (i : Int) node x 0 j w := fun h j hj => lk_217b0 rfl hj (F97 h j)
  have e114 : w.2 114 ((i : Int)).toNat = ((r_id r / 60 : Nat) : Int) := by rw [ii]; exact a1
  have e115 : w.2 115 ((i : Int)).toNat = ((r_id r % 60 : Nat) : Int) := by rw [ii]; exact a2
  have e116 : w.2 116 ((i : Int)).toNat = r_arg r := by rw [ii]; exact a4
  have g1 : am_rg (w.2 114 ((i : Int)).toNat) ∧ am_rg (w.2 79 node.toNat) := by rw [e114, hid.1]; unfold am_rg; omega
  have g2 : am_rg (w.2 115 ((i : Int)).toNat) ∧ am_rg (w.2 80 node.toNat) := by rw [e115, hid.2]; unfold am_rg; omega
  have g3 : am_rg (w.2 116 ((i : Int)).toNat) ∧ am_rg x := by rw [e116]; unfold am_rg; omega
  by_cases q1 : w.2 114 ((i : Int)).toNat = w.2 79 node.toNat
  · by_cases q2 : w.2 115 ((i : Int)).toNat = w.2 80 node.toNat
    · by_cases q3 : w.2 116 ((i : Int)).toNat = x
      · have eid : r_id r = id := by
          have z1 : ((r_id r / 60 : Nat) : Int) = ((id / 60 : Nat) : Int) := by rw [← e114, ← hid.1]; exact q1
          have z2 : ((r_id r % 60 : Nat) : Int) = ((id % 60 : Nat) : Int) := by rw [← e115, ← hid.2]; exact q2
          omega
        have earg : r_arg r = x := by rw [← e116]; exact q3
        refine lk_217a1 i60 hn g1 g2 g3 q1 q2 q3 ?_
        -- questions
        have eg : w.2 120 ((i : Int)).toNat = (a : Int) := by rw [ii]; exact c1
        have QL : (∀ m, m < 10 → r_nums r m = k_nums e cl m) → (w.1 73 47 = 0 → ∀ c, c < 3 → r_as r (42 + c) = false) → ∀ (d j : Nat), d + j = 45 → (∀ q, q < j → r_as r q = true → r_an r q = C.1 q) → zr217 fr P 133 (i : Int) node x 1 (j : Int) w := by
          intro hm hz d
          induction d with
          | zero =>
            intro j hd hj
            have : j = 45 := by omega
            subst this
            exact lk_217d1 rfl rfl (P1 (r_is_iff.2 ⟨eid, earg, hm, hj⟩))
          | succ d ih =>
            intro j hd hj
            have j45 : j < 45 := by omega
            have jj : (0 : Int) ≤ (j : Int) ∧ (j : Int) < 45 := by omega
            have bq := bz_q c2 j45
            rw [c3 j j45] at bq
            have N : (r_as r j = true → r_an r j = C.1 j) → zr217 fr P 133 (i : Int) node x 1 ((j : Int) + 1) w := fun q => by
              have z := ih (j + 1) (by omega) (fun p hp ha => by
                by_cases c : p = j
                · rw [c] at ha ⊢; exact q ha
                · exact hj p (by omega) ha)
              rw [show (((j + 1 : Nat)) : Int) = (j : Int) + 1 by omega] at z
              exact z
            cases ha : r_as r j with
            | false =>
              rw [ha, if_neg (by decide)] at bq
              exact lk_217e0 rfl i60 jj eg bq rfl (N (fun q => by rw [ha] at q; cases q))
            | true =>
              rw [ha, if_pos rfl] at bq
              obtain ⟨d2, d3, d4⟩ := d1 j j45 ha
              have e121 : w.2 121 (45 * (i : Int) + (j : Int)).toNat = w.2 121 (45 * i + j) := by rw [show (45 * (i : Int) + (j : Int)).toNat = 45 * i + j by omega]
              have AN : ∃ y, (if (j : Int) < 42 then w.2 104 ((j : Int)).toNat else w.2 103 ((j : Int) - 42).toNat) = y ∧ C.1 j = some y ∧ am_rg y := by
                by_cases c : j < 42
                · obtain ⟨t1, t2, t3⟩ := s3 j c
                  rw [if_pos (by omega), show ((j : Int)).toNat = j by omega]
                  exact ⟨_, rfl, t1, by unfold am_rg; omega⟩
                · rw [if_neg (by omega), show ((j : Int) - 42).toNat = j - 42 by omega]
                  have t := s4 (j - 42) (by omega)
                  rw [show 42 + (j - 42) = j by omega] at t
                  rcases s2 with z | z
                  · have := hz z (j - 42) (by omega)
                    rw [show 42 + (j - 42) = j by omega, ha] at this
                    cases this
                  · obtain ⟨t1, t2, t3⟩ := t.1 z
                    exact ⟨_, rfl, t1, by unfold am_rg; omega⟩
              obtain ⟨y, y1, y2, y3⟩ := AN
              by_cases c : w.2 121 (45 * i + j) = y
              · exact lk_217e1 rfl i60 jj eg bq hfr rfl y1 e121 ⟨y3, by unfold am_rg; omega⟩ c (N (fun _ => by rw [d2, y2, c]))
              · refine lk_217e2 rfl i60 jj eg bq hfr rfl y1 e121 ⟨y3, by unfold am_rg; omega⟩ c (F133 (fun h => c ?_) _ (by omega))
                have := h.2.2.2 j j45 ha
                rw [d2, y2] at this
                exact Option.some.inj this
        have T97 : (∀ m, m < 10 → r_nums r m = k_nums e cl m) → zr217 fr P 97 (i : Int) node x 1 10 w := by
          intro hm
          rcases s2 with z | z
          · have b42 := bz_42 c2
            have sh := sh42_0 c2
            by_cases c : a >>> 42 = 0
            · rw [c] at b42
              exact lk_217c2 rfl z i60 eg b42 rfl (QL hm (fun _ cc hc => by rw [← c3 (42 + cc) (by omega)]; exact sh.1 c cc hc) 45 0 rfl (fun q hq => absurd hq (Nat.not_lt_zero q)))
            · have h42 : a >>> 42 ≤ a := Nat.shiftRight_le a 42
              refine lk_217c3 rfl z i60 eg b42 (by omega) (by omega) (F133 (fun h => c (sh.2 fun cc hc => ?_)) 0 (by omega))
              rw [c3 (42 + cc) (by omega)]
              cases q : r_as r (42 + cc) with
              | false => rfl
              | true =>
                have z1 := h.2.2.2 (42 + cc) (by omega) q
                rw [(s4 cc hc).2 z, (d1 (42 + cc) (by omega) q).1] at z1
                cases z1
          · exact lk_217c1 rfl z (QL hm (fun q => by rw [z] at q; cases q) 45 0 rfl (fun q hq => absurd hq (Nat.not_lt_zero q)))
        -- names
        have NL : ∀ (d j : Nat), d + j = 10 → (∀ m, m < j → r_nums r m = k_nums e cl m) → zr217 fr P 50 (i : Int) node x 1 (j : Int) w := by
          intro d
          induction d with
          | zero =>
            intro j hd hj
            have : j = 10 := by omega
            subst this
            exact lk_217b1 rfl rfl (T97 hj)
          | succ d ih =>
            intro j hd hj
            have j10 : j < 10 := by omega
            have jj : (0 : Int) ≤ (j : Int) ∧ (j : Int) < 10 := by omega
            have e117 : w.2 117 (10 * (i : Int) + (j : Int)).toNat = w.2 117 (10 * i + j) := by rw [show (10 * (i : Int) + (j : Int)).toNat = 10 * i + j by omega]
            have e122 : w.2 122 ((j : Int)).toNat = w.2 122 j := by rw [show ((j : Int)).toNat = j by omega]
            have N : r_nums r j = k_nums e cl j → zr217 fr P 50 (i : Int) node x 1 ((j : Int) + 1) w := fun q => by
              have z := ih (j + 1) (by omega) (fun p hp => by
                by_cases c : p = j
                · rw [c]; exact q
                · exact hj p (by omega))
              rw [show (((j + 1 : Nat)) : Int) = (j : Int) + 1 by omega] at z
              exact z
            have n1 := b1 j j10
            have n2 := hK j j10
            have rg : am_rg (w.2 117 (10 * (i : Int) + (j : Int)).toNat) ∧ am_rg (w.2 122 ((j : Int)).toNat) := by
              rw [e117, e122]
              refine ⟨?_, ?_⟩
              · rcases n1 with ⟨z, -, z1, z2⟩ | ⟨-, z1⟩ <;> (unfold am_rg; omega)
              · rcases n2 with ⟨z, -, z1, z2⟩ | ⟨-, z1⟩ <;> (unfold am_rg; omega)
            by_cases c : w.2 117 (10 * i + j) = w.2 122 j
            · refine lk_217b2 rfl i60 jj rg (by rw [e117, e122]; exact c) (N ?_)
              rcases n1 with ⟨z, z0, z1, z2⟩ | ⟨z0, z1⟩
              · rcases n2 with ⟨y, y0, y1, y2⟩ | ⟨y0, y1⟩
                · rw [z0, y0]; congr 1; omega
                · omega
              · rcases n2 with ⟨y, y0, y1, y2⟩ | ⟨y0, y1⟩
                · omega
                · rw [z0, y0]
            · refine lk_217b3 rfl i60 jj rg (by rw [e117, e122]; exact c) (F50 (fun h => c ?_) _ (by omega))
              have h := h.2.2.1 j j10
              rcases n1 with ⟨z, z0, z1, z2⟩ | ⟨z0, z1⟩
              · rcases n2 with ⟨y, y0, y1, y2⟩ | ⟨y0, y1⟩
                · rw [z0, y0] at h
                  have h := Option.some.inj h
                  rw [z1, y1, h]
                · rw [z0, y0] at h; cases h
              · rcases n2 with ⟨y, y0, y1, y2⟩ | ⟨y0, y1⟩
                · rw [z0, y0] at h; cases h
                · rw [z1, y1]
        exact NL 10 0 rfl (fun m hm => absurd hm (Nat.not_lt_zero m))
      · refine lk_217a4 i60 hn g1 g2 g3 q1 q2 q3 (F50 (fun h => q3 ?_) 0 (by omega))
        rw [e116]; exact h.2.1
    · refine lk_217a3 i60 hn g1 g2 g3 q1 q2 (F50 (fun h => q2 ?_) 0 (by omega))
      rw [e115, hid.2, h.1]
  · refine lk_217a2 i60 hn g1 g2 g3 q1 (F50 (fun h => q1 ?_) 0 (by omega))
    rw [e114, hid.1, h.1]
/-- the first one that is the same -/
theorem lk_218 {s : S_} {id fr : Nat} {x : Int} {node : Int} {e cl : T_} (h5 : rS5 s w) (h3 : rS3 C w) (hK : rKY w e cl) (hn : 0 ≤ node ∧ node < 1024) (hid : w.2 79 node.toNat = ((id / 60 : Nat) : Int) ∧ w.2 80 node.toNat = ((id % 60 : Nat) : Int)) (hid2 : id < 100000) (hx : -9999 ≤ x ∧ x ≤ 9999) (hfr : 2 ≤ fr) : ww_Ct 218 fr [.inr (.inr (.inl 73)), .inl node, .inl x] w fun y w' => ∃ z, y = some (.inl z) ∧ w' = w ∧ ((z = -1 ∧ (s_me s).find? (r_is C id x (k_nums e cl)) = none) ∨ ∃ (j : Nat) (r : R_), z = (j : Int) ∧ (s_me s)[j]? = some r ∧ (s_me s).find? (r_is C id x (k_nums e cl)) = some r) := by
  obtain ⟨⟨h70, h60⟩, hR⟩ := h5
  obtain ⟨fi1, fi2⟩ := find_idx (p := r_is C id x (k_nums e cl)) (s_me s)
  have M : ∀ (j : Nat) (y : Int), j ≤ (s_me s).length → ((y = -1 ∧ ∀ (i : Nat) (r : R_), j ≤ i → (s_me s)[i]? = some r → r_is C id x (k_nums e cl) r = false) ∨ ∃ (i : Nat) (r : R_), j ≤ i ∧ y = (i : Int) ∧ (s_me s)[i]? = some r ∧ r_is C id x (k_nums e cl) r = true ∧ ∀ (i' : Nat) (r' : R_), j ≤ i' → i' < i → (s_me s)[i']? = some r' → r_is C id x (k_nums e cl) r' = false) → zr218 fr (fun y w' => ∃ z, y = some (.inl z) ∧ w' = w ∧ ((z = -1 ∧ (s_me s).find? (r_is C id x (k_nums e cl)) = none) ∨ ∃ (j : Nat) (r : R_), z = (j : Int) ∧ (s_me s)[j]? = some r ∧ (s_me s).find? (r_is C id x (k_nums e cl)) = some r)) 10 node x y ((j : Int) - 1) w := by
    intro j
    induction j with
    | zero =>
      intro y _ hy
      refine lk_218b (by omega) ⟨y, rfl, rfl, ?_⟩
      rcases hy with ⟨q1, q2⟩ | ⟨i, r, q0, q1, q2, q3, q4⟩
      · refine Or.inl ⟨q1, ?_⟩
        cases q : (s_me s).find? (r_is C id x (k_nums e cl)) with
        | none => rfl
        | some r =>
          obtain ⟨j, g1, g2, -⟩ := fi1 r q
          rw [q2 j r (Nat.zero_le _) g1] at g2
          cases g2
      · refine Or.inr ⟨i, r, q1, q2, ?_⟩
        cases q : (s_me s).find? (r_is C id x (k_nums e cl)) with
        | none =>
          rw [fi2 q i r q2] at q3
          cases q3
        | some r' =>
          obtain ⟨j, g1, g2, g3⟩ := fi1 r' q
          have : i = j := by
            by_cases c : i < j
            · rw [g3 i r c q2] at q3; cases q3
            · by_cases c2 : j < i
              · rw [q4 j r' (Nat.zero_le _) c2 g1] at g2; cases g2
              · omega
          rw [this] at q2
          rw [q2] at g1
          exact g1.symm
    | succ j ih =>
      intro y hj hy
      have hl : j < (s_me s).length := by omega
      have er : (s_me s)[j]? = some (s_me s)[j] := List.getElem?_eq_getElem hl
      have R := hR j _ er
      have z := lk_217 (i := j) (fr := fr - 1) (by omega) R h3 hK hn hid hid2 hx (by omega)
      rw [show (((j + 1 : Nat) : Int) - 1) = (j : Int) by omega]
      have e1 : (j : Int) + -1 = (j : Int) - 1 := by omega
      cases q : r_is C id x (k_nums e cl) (s_me s)[j] with
      | true =>
        refine lk_218c1 (by omega) (by omega) (z.mono ?_) ?_
        · rintro y' w' ⟨z', rfl, rfl, ⟨g1, -⟩ | ⟨-, g2⟩⟩
          · exact ⟨z', rfl, g1, rfl⟩
          · rw [q] at g2; cases g2
        · rw [e1]
          refine ih (j : Int) (by omega) (Or.inr ⟨j, _, Nat.le_refl _, rfl, er, q, fun i' r' h1 h2 => absurd h2 (by omega)⟩)
      | false =>
        refine lk_218c0 (by omega) (by omega) (z.mono ?_) ?_
        · rintro y' w' ⟨z', rfl, rfl, ⟨-, g2⟩ | ⟨g1, -⟩⟩
          · rw [q] at g2; cases g2
          · exact ⟨z', rfl, g1, rfl⟩
        · rw [e1]
          refine ih y (by omega) ?_
          have Z : ∀ (i' : Nat) (r' : R_), i' = j → (s_me s)[i']? = some r' → r_is C id x (k_nums e cl) r' = false := fun i' r' h1 h2 => by
            rw [h1, er] at h2
            cases h2
            exact q
          rcases hy with ⟨q1, q2⟩ | ⟨i, r, q0, q1, q2, q3, q4⟩
          · refine Or.inl ⟨q1, fun i r hi hr => ?_⟩
            by_cases c : i = j
            · exact Z i r c hr
            · exact q2 i r (by omega) hr
          · refine Or.inr ⟨i, r, by omega, q1, q2, q3, fun i' r' h1 h2 hr => ?_⟩
            by_cases c : i' = j
            · exact Z i' r' c hr
            · exact q4 i' r' (by omega) h2 hr
  refine lk_218a h70 ?_
  refine M (s_me s).length (-1) (Nat.le_refl _) (Or.inl ⟨rfl, fun i r hi hr => ?_⟩)
  rw [List.getElem?_eq_none hi] at hr
  cases hr
end
