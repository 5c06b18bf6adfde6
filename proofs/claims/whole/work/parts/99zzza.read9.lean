/-! ===== reading a file: a part ===== -/
section
variable {w0 : W_} {f z : Nat} {a46 : Nat → Int} {P : Option am_V → W_ → Prop} {n : Nat}
theorem tJ_k (H0 : FI w0 f z) {p : Nat} (hp : p < z) : ∃ kn : Nat, w0.2 3 (60 * f + p) = kn ∧ kn < 32 ∧ (tJ (w0.2 3) (w0.2 5) (w0.2 7) f).1 p = kn ∧ (0 ≤ w0.2 5 (60 * f + p) ∧ w0.2 5 (60 * f + p) < 100) := by
  have hz := H0.2.1
  have kk := H0.2.2 (60 * f + p) (by omega)
  obtain ⟨kn, hkn⟩ : ∃ kn : Nat, w0.2 3 (60 * f + p) = kn := ⟨_, (Int.toNat_of_nonneg kk.1).symm⟩
  refine ⟨kn, hkn, by omega, ?_, kk.2.2⟩
  show (w0.2 3 (60 * f + p)).toNat = kn
  rw [hkn]
  rfl
theorem tJ_z (H0 : FI w0 f z) : (tJ (w0.2 3) (w0.2 5) (w0.2 7) f).2.2.1 = z := by
  show (w0.2 7 f).toNat = z
  rw [H0.2.1.2.2]
  rfl
/-- a LET's FUNC in the tree: its name -/
theorem slot7 {κo ν : Int} {own : Option Nat} {kn : Nat} {g : Int} (hown : own = (if κo = 15 then some (ν % 10).toNat else none)) (hν : 0 ≤ ν) (hg : g = (match (if (kn : Int) = 16 ∧ κo = 15 then some (ν % 10 + 1) else none : Option Int) with
    | some y => y
    | none => 0)) : (kn = 16 → g = own.elim 0 fun m => (m : Int) + 1) ∧ 0 ≤ g ∧ g ≤ 10 := by
  by_cases c : κo = 15
  · rw [if_pos c] at hown
    by_cases c2 : kn = 16
    · rw [if_pos ⟨by omega, c⟩] at hg
      have hg : g = ν % 10 + 1 := hg
      subst hown
      refine ⟨fun _ => ?_, by omega, by omega⟩
      show g = ((ν % 10).toNat : Int) + 1
      omega
    · rw [if_neg (by omega)] at hg
      have hg : g = 0 := hg
      exact ⟨fun q => absurd q c2, by omega, by omega⟩
  · rw [if_neg c] at hown
    rw [if_neg (by omega)] at hg
    have hg : g = 0 := hg
    subst hown
    exact ⟨fun _ => hg, by omega, by omega⟩
/-- the names of a FUNC or LATE, as the tree has them -/
theorem use_ok {a3 a5 a1 : Nat → Int} {kn id : Nat} {own : Option Nat} {a : T_} {x4 : Int} (k16 : kn = 16 ∨ kn = 22) (hk : a3 id = kn) (n0 : 0 ≤ a5 id) (h7 : kn = 16 → a1 (id * 9 + 7) = own.elim 0 fun m => (m : Int) + 1) (hb : ∀ m, m < 10 → (bt x4 m ↔ bt 0 m ∨ (e_nm a m = true ∧ ¬ tel a3 a5 a1 (id : Int) m))) : ∀ m, m < 10 → (bt x4 m ↔ e_use (ce kn (a5 id) id a (j_own kn own) .nil) m = true) := by
  intro m hm
  have h0 : ¬ bt 0 m := fun q => by
    have : (0 : Nat) >>> m % 2 = 1 := q
    rw [Nat.zero_shiftRight] at this
    cases this
  have t : tel a3 a5 a1 (id : Int) m ↔ kn = 16 ∧ ((a5 id % 10).toNat = m ∨ a1 (id * 9 + 7) = (m : Int) + 1) := by
    unfold tel
    rw [wg_0 (a := a3) rfl, wg_0 (a := a5) rfl, wg_0 (k := id * 9 + 7) (by omega), hk]
    omega
  have u : e_use (ce kn (a5 id) id a (j_own kn own) .nil) m = (e_nm a m && !(kn == 16 && ((a5 id % 10).toNat == m || e_own (ce kn (a5 id) id a (j_own kn own) .nil) == some m))) := rfl
  rw [hb m hm, t, u, Bool.and_eq_true]
  rcases k16 with rfl | rfl
  · have e7 := h7 rfl
    cases own with
    | none =>
      have e7 : a1 (id * 9 + 7) = 0 := e7
      have eo : e_own (ce 16 (a5 id) id a (j_own 16 none) .nil) = none := rfl
      rw [eo]
      constructor
      · rintro (q | ⟨q1, q2⟩)
        · exact absurd q h0
        · refine ⟨q1, ?_⟩
          have : (a5 id % 10).toNat ≠ m := fun q => q2 ⟨rfl, Or.inl q⟩
          simp [this]
      · rintro ⟨q1, q2⟩
        refine Or.inr ⟨q1, fun r => ?_⟩
        have : (a5 id % 10).toNat = m := by omega
        simp [this] at q2
    | some m0 =>
      have e7 : a1 (id * 9 + 7) = (m0 : Int) + 1 := e7
      have eo : e_own (ce 16 (a5 id) id a (j_own 16 (some m0)) .nil) = some m0 := rfl
      rw [eo]
      constructor
      · rintro (q | ⟨q1, q2⟩)
        · exact absurd q h0
        · refine ⟨q1, ?_⟩
          have r1 : (a5 id % 10).toNat ≠ m := fun q => q2 ⟨rfl, Or.inl q⟩
          have r2 : m0 ≠ m := fun q => q2 ⟨rfl, Or.inr (by omega)⟩
          simp [r1, r2]
      · rintro ⟨q1, q2⟩
        refine Or.inr ⟨q1, fun r => ?_⟩
        have : (a5 id % 10).toNat = m ∨ m0 = m := by omega
        rcases this with this | this <;> simp [this] at q2
  · constructor
    · rintro (q | ⟨q1, -⟩)
      · exact absurd q h0
      · exact ⟨q1, rfl⟩
    · rintro ⟨q1, -⟩
      exact Or.inr ⟨q1, fun r => by omega⟩
/-- an expression's own turn, no block -/
theorem rA_own {p on sn kn : Nat} {ib ar : Int} {st : List SE} {l : List Int} {w : W_} {i : Int} {cs : List Int} (H0 : FI w0 f z) (H : RI w0 f z ((2, (on : Int), (sn : Int), ib, ar) :: st) p l w) (ho : 60 * f ≤ on ∧ on < 60 * f + p) (hs : sn < 3) (hc : cA (w.2 37) f p ar cs) (hi : 0 ≤ i ∧ i ≤ 900) (c1 : p < z) (hkn : w0.2 3 (60 * f + p) = kn) (k6 : 6 ≤ kn) (c8 : kn ≠ 8) (L : ∀ w1, RI w0 f z (pa (60 * f + p) (if kn = 16 ∨ kn = 22 then 0 else ib) (if kn = 16 ∨ kn = 22 then ((60 * f + p : Nat) : Int) + 1 else ar) (j_par kn) st) (p + 1) l w1 → pQ (w0.2 3) (w0.2 5) (w.2 37) (w1.2 37) (fun k => k = on * 9 + sn ∨ ((60 * f + p) * 9 ≤ k ∧ k < (60 * f + p + 1) * 9)) cs (kn == 29) (fun j => kn == 7 && (w0.2 5 (60 * f + p) % 10).toNat == j) → w1.2 37 (on * 9 + sn) = ((60 * f + p : Nat) : Int) + 1 → w1.2 37 ((60 * f + p) * 9 + 6) = ib → w1.2 37 ((60 * f + p) * 9 + 7) = (match (if (kn : Int) = 16 ∧ w0.2 3 on = 15 then some (w0.2 5 on % 10 + 1) else none : Option Int) with
    | some y => y
    | none => 0) → w1.2 37 ((60 * f + p) * 9 + 8) = ar → (∀ s, s < 6 → w1.2 37 ((60 * f + p) * 9 + s) = 0) → cA (w1.2 37) f (p + 1) ar cs → rl P f (i + 1) w1) : rl P f i w := by
  have hcd : ∀ d, d ∈ cs → 0 ≤ d ∧ d < ((60 * f + p : Nat) : Int) := fun d hd => by
    have := cA_mem hc hd
    omega
  have hz0 : ∀ s, s < 9 → w.2 37 ((60 * f + p) * 9 + s) = 0 := fun s hs => H.2.2.2 p s (Nat.le_refl _) c1 hs
  refine rt_part H0 H ⟨by omega, by omega⟩ (rd_fk H0 H ho hs c1 hkn k6 c8 rfl rfl hc) fun w1 h1 => ?_
  obtain ⟨T, t0, t6, t7, t8, ts⟩ := own_step h1.2 hcd (by omega) hz0
  exact L w1 h1.1 T t0 t6 t7 t8 ts (cA_pQ hc T (fun d hd => by
    have := hcd d hd
    exact ⟨by omega, by omega⟩) (Nat.le_succ p))
/-- an expression without parts -/
theorem rA_0 {own : Option Nat} {p on sn kn : Nat} {hb : Bool} {ar : Int} {st : List SE} {l : List Int} {w : W_} {i : Int} {cs : List Int} (H0 : FI w0 f z) (h46 : a46 f ≠ 0) (H : RI w0 f z ((2, (on : Int), (sn : Int), (if hb = true then 1 else 0), ar) :: st) p l w) (ho : 60 * f ≤ on ∧ on < 60 * f + p) (hs : sn < 3) (hc : cA (w.2 37) f p ar cs) (hi : 0 ≤ i ∧ i ≤ 900) (c1 : p < z) (hkn : w0.2 3 (60 * f + p) = kn) (k6 : 6 ≤ kn) (c8 : kn ≠ 8) (jp : j_par kn = 0) (K : ∀ w' i', i ≤ i' → i' ≤ i + 4 * (((j_go (n + 1) (tJ (w0.2 3) (w0.2 5) (w0.2 7) f) none own p).2.1 : Int) - p) + 1 → rO w0 f z a46 st p l (on * 9 + sn) vE1 0 hb cs (j_go (n + 1) (tJ (w0.2 3) (w0.2 5) (w0.2 7) f) none own p) w w' → rl P f i' w') : rl P f i w := by
  obtain ⟨f3, z6, hz7⟩ := H0.2.1
  have hJz := tJ_z H0
  obtain ⟨kn', hkn', k32, hJk, ν0, ν1⟩ := tJ_k H0 c1
  have : kn' = kn := by omega
  subst this
  have hJν : (tJ (w0.2 3) (w0.2 5) (w0.2 7) f).2.1 p = w0.2 5 (60 * f + p) := rfl
  have hJi : j_id (tJ (w0.2 3) (w0.2 5) (w0.2 7) f) p = 60 * f + p := rfl
  have hJp : p < (tJ (w0.2 3) (w0.2 5) (w0.2 7) f).2.2.1 := by rw [hJz]; exact c1
  have hid : (60 * f + p) / 60 = f := by omega
  have h46' : a46 ((60 * f + p) / 60) ≠ 0 := by rw [hid]; exact h46
  rw [jg_0 hJp (by rw [hJk]; exact k6) (by rw [hJk]; exact c8) (by rw [hJk]; exact jp), hJk, hJi, hJν] at K
  have nF : ¬ (kn' = 16 ∨ kn' = 22) := fun q => by
    have := jp_la q
    omega
  refine rA_own H0 H ho hs hc hi c1 hkn k6 c8 fun w1 h1 T t0 t6 t7 t8 ts _ => ?_
  rw [if_neg nF, if_neg nF, jp] at h1
  refine K w1 (i + 1) (by omega) (by show i + 1 ≤ i + 4 * (((p + 1 : Nat) : Int) - p) + 1; omega) ⟨?_, ?_, t0, ?_, ?_⟩
  · show RI w0 f z st (p + 1) (l ++ []) w1
    rw [List.append_nil]
    exact h1
  · refine pQ_eq (pQ_mono T (S' := rOut f p (p + 1) (on * 9 + sn)) fun k q => by omega) ?_ fun m => ?_
    · rw [e_imp_ce1]
      show (kn' == 29) = (kn' == 29 || false || false || false)
      rw [Bool.or_false, Bool.or_false, Bool.or_false]
    · rw [e_nm_ce1]
      show _ = ((kn' == 7 && (w0.2 5 (60 * f + p) % 10).toNat == m) || false || false || false)
      rw [Bool.or_false, Bool.or_false, Bool.or_false]
  · exact eR_mk ⟨by omega, hkn, rfl, ν0, ν1, k6, by omega, h46'⟩ t6 (fun q => absurd q c8) (fun q => by omega) (fun q => by omega) (fun q => by omega) (fun q => absurd q nF) (fun _ _ => rfl) (fun _ => Or.inl rfl) fun _ => rfl
  · rw [e_all_ce1]
    exact ⟨⟨by omega, by show 60 * f + p < 60 * f + (p + 1); omega⟩, trivial, trivial, trivial⟩
/-- one part, no FUNC and no LATE -/
theorem rA_1 {own : Option Nat} {p on sn kn : Nat} {hb : Bool} {ar : Int} {st : List SE} {l : List Int} {w : W_} {i : Int} {cs : List Int} (H0 : FI w0 f z) (h46 : a46 f ≠ 0) (hA : rA w0 f z a46 P n) (hn : z + 1 ≤ n + 1 + p) (H : RI w0 f z ((2, (on : Int), (sn : Int), (if hb = true then 1 else 0), ar) :: st) p l w) (ho : 60 * f ≤ on ∧ on < 60 * f + p) (hs : sn < 3) (hc : cA (w.2 37) f p ar cs) (hi : 0 ≤ i ∧ i + 4 * ((z : Int) - p) ≤ 900) (c1 : p < z) (hkn : w0.2 3 (60 * f + p) = kn) (k6 : 6 ≤ kn) (c8 : kn ≠ 8) (jp : j_par kn = 1) (nF : ¬ (kn = 16 ∨ kn = 22)) (K : ∀ w' i', i ≤ i' → i' ≤ i + 4 * (((j_go (n + 1) (tJ (w0.2 3) (w0.2 5) (w0.2 7) f) none own p).2.1 : Int) - p) + 1 → rO w0 f z a46 st p l (on * 9 + sn) vE1 0 hb cs (j_go (n + 1) (tJ (w0.2 3) (w0.2 5) (w0.2 7) f) none own p) w w' → rl P f i' w') : rl P f i w := by
  obtain ⟨f3, z6, hz7⟩ := H0.2.1
  have hJz := tJ_z H0
  obtain ⟨kn', hkn', k32, hJk, ν0, ν1⟩ := tJ_k H0 c1
  have : kn' = kn := by omega
  subst this
  have hJν : (tJ (w0.2 3) (w0.2 5) (w0.2 7) f).2.1 p = w0.2 5 (60 * f + p) := rfl
  have hJi : j_id (tJ (w0.2 3) (w0.2 5) (w0.2 7) f) p = 60 * f + p := rfl
  have hJp : p < (tJ (w0.2 3) (w0.2 5) (w0.2 7) f).2.2.1 := by rw [hJz]; exact c1
  have hid : (60 * f + p) / 60 = f := by omega
  have h46' : a46 ((60 * f + p) / 60) ≠ 0 := by rw [hid]; exact h46
  have hcd : ∀ d, d ∈ cs → 0 ≤ d ∧ d < ((60 * f + p : Nat) : Int) := fun d hd => by
    have := cA_mem hc hd
    omega
  obtain ⟨r, hr⟩ : ∃ r, j_go n (tJ (w0.2 3) (w0.2 5) (w0.2 7) f) none (if kn' = 15 then some (w0.2 5 (60 * f + p) % 10).toNat else none) (p + 1) = r := ⟨_, rfl⟩
  rw [jg_1 hJp (by rw [hJk]; exact k6) (by rw [hJk]; exact c8) (by rw [hJk]; exact jp) (a := r) (by rw [hJk, hJν]; exact hr), hJk, hJi, hJν] at K
  have gz := j_go_sz n (tJ (w0.2 3) (w0.2 5) (w0.2 7) f) none (if kn' = 15 then some (w0.2 5 (60 * f + p) % 10).toNat else none) (p + 1)
  rw [hr, hJz] at gz
  have gz2 := gz.2 (by omega)
  refine rA_own H0 H ho hs hc ⟨by omega, by omega⟩ c1 hkn k6 c8 fun w1 h1 T t0 t6 t7 t8 ts hc1 => ?_
  rw [if_neg nF, if_neg nF, jp] at h1
  refine hA (if kn' = 15 then some (w0.2 5 (60 * f + p) % 10).toNat else none) (p + 1) (60 * f + p) 0 hb ar st l w1 (i + 1) cs (by omega) h1 ⟨by omega, by omega⟩ (by decide) ?_ hc1 ⟨by omega, by omega⟩ fun w2 i2 j1 j2 R => ?_
  · rw [hkn]
    by_cases c : kn' = 15
    · rw [if_pos c, if_pos (by omega)]
    · rw [if_neg c, if_neg (by omega)]
  rw [hr] at R j2
  obtain ⟨R1, R2, R3, R4, R5⟩ := R
  have R3 : w2.2 37 ((60 * f + p) * 9) = (e_id r.1 : Int) + 1 := R3
  have FR : ∀ k, k % 9 ≠ 4 ∧ k % 9 ≠ 5 ∨ (60 * f + p) * 9 ≤ k → k ≠ (60 * f + p) * 9 → ¬ ((60 * f + (p + 1)) * 9 ≤ k ∧ k < (60 * f + r.2.1) * 9) → w2.2 37 k = w1.2 37 k := fun k hk h1 h2 => R2.1 k (fun q => by omega) fun d hd => by
    have := hcd d hd
    omega
  obtain ⟨o1, o2, o3⟩ := own_nil kn' own
  refine K w2 i2 (by omega) (by show i2 ≤ i + 4 * ((r.2.1 : Int) - p) + 1; omega) ⟨R1, ?_, ?_, ?_, ?_⟩
  · show pQ _ _ _ _ (rOut f p r.2.1 (on * 9 + sn)) _ _ _
    refine pQ_eq (pQ_tr (pQ_mono T (S' := rOut f p r.2.1 (on * 9 + sn)) fun k q => by omega) (pQ_mono R2 fun k q => by omega) fun d hd => ⟨(hcd d hd).1, fun q => by
      have := hcd d hd
      omega⟩) ?_ fun m => ?_
    · rw [e_imp_ce1, o1]
      show _ = (kn' == 29 || e_imp r.1 || false || false)
      rw [Bool.or_false, Bool.or_false]
    · rw [e_nm_ce1, o2]
      show _ = ((kn' == 7 && (w0.2 5 (60 * f + p) % 10).toNat == m) || e_nm r.1 m || false || false)
      rw [Bool.or_false, Bool.or_false]
  · rw [FR _ (by omega) (by omega) (by omega)]
    exact t0
  · refine eR_mk ⟨by omega, hkn, rfl, ν0, ν1, k6, by omega, h46'⟩ (by rw [FR _ (by omega) (by omega) (by omega)]; exact t6) (fun q => absurd q c8) (fun _ => ⟨R3, by rw [if_neg nF]; exact R4⟩) (fun q => by omega) (fun q => by omega) (fun q => absurd q nF) (fun q => by omega) (fun _ => ?_) fun _ => rfl
    unfold j_own
    split
    · rw [if_neg (fun q => nF (Or.inl q))]
      exact Or.inl rfl
    · exact Or.inl rfl
  · rw [e_all_ce1]
    exact ⟨⟨by omega, by show 60 * f + p < 60 * f + r.2.1; omega⟩, e_all_mono (fun _ q => ⟨by omega, q.2⟩) _ R5, o3 _, trivial⟩
/-- FUNC and LATE -/
theorem rA_F {own : Option Nat} {p on sn kn : Nat} {hb : Bool} {ar : Int} {st : List SE} {l : List Int} {w : W_} {i : Int} {cs : List Int} (H0 : FI w0 f z) (h46 : a46 f ≠ 0) (hA : rA w0 f z a46 P n) (hn : z + 1 ≤ n + 1 + p) (H : RI w0 f z ((2, (on : Int), (sn : Int), (if hb = true then 1 else 0), ar) :: st) p l w) (ho : 60 * f ≤ on ∧ on < 60 * f + p) (hs : sn < 3) (hown : own = (if w0.2 3 on = 15 then some (w0.2 5 on % 10).toNat else none)) (hc : cA (w.2 37) f p ar cs) (hi : 0 ≤ i ∧ i + 4 * ((z : Int) - p) ≤ 900) (c1 : p < z) (hkn : w0.2 3 (60 * f + p) = kn) (F : kn = 16 ∨ kn = 22) (K : ∀ w' i', i ≤ i' → i' ≤ i + 4 * (((j_go (n + 1) (tJ (w0.2 3) (w0.2 5) (w0.2 7) f) none own p).2.1 : Int) - p) + 1 → rO w0 f z a46 st p l (on * 9 + sn) vE1 0 hb cs (j_go (n + 1) (tJ (w0.2 3) (w0.2 5) (w0.2 7) f) none own p) w w' → rl P f i' w') : rl P f i w := by
  obtain ⟨f3, z6, hz7⟩ := H0.2.1
  have hJz := tJ_z H0
  obtain ⟨kn', hkn', k32, hJk, ν0, ν1⟩ := tJ_k H0 c1
  have : kn' = kn := by omega
  subst this
  have k6 : 6 ≤ kn' := by omega
  have c8 : kn' ≠ 8 := by omega
  have jp := jp_la F
  have hJν : (tJ (w0.2 3) (w0.2 5) (w0.2 7) f).2.1 p = w0.2 5 (60 * f + p) := rfl
  have hJi : j_id (tJ (w0.2 3) (w0.2 5) (w0.2 7) f) p = 60 * f + p := rfl
  have hJp : p < (tJ (w0.2 3) (w0.2 5) (w0.2 7) f).2.2.1 := by rw [hJz]; exact c1
  have hid : (60 * f + p) / 60 = f := by omega
  have h46' : a46 ((60 * f + p) / 60) ≠ 0 := by rw [hid]; exact h46
  have hcd : ∀ d, d ∈ cs → 0 ≤ d ∧ d < ((60 * f + p : Nat) : Int) := fun d hd => by
    have := cA_mem hc hd
    omega
  have hon := H0.2.2 on (by omega)
  obtain ⟨r, hr⟩ : ∃ r, j_go n (tJ (w0.2 3) (w0.2 5) (w0.2 7) f) none none (p + 1) = r := ⟨_, rfl⟩
  rw [jg_1 hJp (by rw [hJk]; exact k6) (by rw [hJk]; exact c8) (by rw [hJk]; exact jp) (a := r) (by rw [hJk, if_neg (by omega)]; exact hr), hJk, hJi, hJν] at K
  have gz := j_go_sz n (tJ (w0.2 3) (w0.2 5) (w0.2 7) f) none none (p + 1)
  rw [hr, hJz] at gz
  have gz2 := gz.2 (by omega)
  refine rA_own H0 H ho hs hc ⟨by omega, by omega⟩ c1 hkn k6 c8 fun w1 h1 T t0 t6 t7 t8 ts hc1 => ?_
  rw [if_pos F, if_pos F, jp] at h1
  obtain ⟨s7, g0, g1⟩ := slot7 (kn := kn') hown hon.2.2.1 t7
  have W7 : wg (w1.2 37) (((60 * f + p : Nat) : Int) * 9 + 7) = w1.2 37 ((60 * f + p) * 9 + 7) := wg_0 (by omega)
  have W4 : wg (w1.2 37) (((60 * f + p : Nat) : Int) * 9 + 4) = w1.2 37 ((60 * f + p) * 9 + 4) := wg_0 (by omega)
  have W5 : wg (w1.2 37) (((60 * f + p : Nat) : Int) * 9 + 5) = w1.2 37 ((60 * f + p) * 9 + 5) := wg_0 (by omega)
  have W8 : wg (w1.2 37) (((60 * f + p : Nat) : Int) * 9 + 8) = w1.2 37 ((60 * f + p) * 9 + 8) := wg_0 (by omega)
  have hc2 : cA (w1.2 37) f (p + 1) (((60 * f + p : Nat) : Int) + 1) (((60 * f + p : Nat) : Int) :: cs) := by
    refine ⟨⟨by omega, by omega, by omega, ?_⟩, fun d hd => ?_⟩
    · rw [W8, t8]
      have hch := (cA_pQ hc T (fun d hd => by
        have := hcd d hd
        exact ⟨by omega, by omega⟩) (Nat.le_refl p)).1
      have e : ((60 * f + p : Nat) : Int) = 60 * (f : Int) + (p : Int) := by omega
      rw [e]
      exact hch
    · rcases List.mem_cons.mp hd with rfl | hd
      · unfold cO
        rw [W4, W7, ts 4 (by decide)]
        exact ⟨by decide, g0, g1⟩
      · exact hc1.2 d hd
  refine hA none (p + 1) (60 * f + p) 0 false _ st l w1 (i + 1) _ (by omega) h1 ⟨by omega, by omega⟩ (by decide) (by rw [hkn, if_neg (by omega)]) hc2 ⟨by omega, by omega⟩ fun w2 i2 j1 j2 R => ?_
  rw [hr] at R j2
  obtain ⟨R1, R2, R3, R4, R5⟩ := R
  have R3 : w2.2 37 ((60 * f + p) * 9) = (e_id r.1 : Int) + 1 := R3
  have FR : ∀ k, k % 9 ≠ 4 ∧ k % 9 ≠ 5 → k ≠ (60 * f + p) * 9 → ¬ ((60 * f + (p + 1)) * 9 ≤ k ∧ k < (60 * f + r.2.1) * 9) → w2.2 37 k = w1.2 37 k := fun k hk h1 h2 => R2.1 k (fun q => by omega) fun d hd => by
    have : 0 ≤ d := by
      rcases List.mem_cons.mp hd with rfl | hd
      · omega
      · exact (hcd d hd).1
    omega
  obtain ⟨o1, o2, o3⟩ := own_nil kn' own
  obtain ⟨D5, D4⟩ := R2.2 _ (List.mem_cons_self ..)
  have V4 : wg (w2.2 37) (((60 * f + p : Nat) : Int) * 9 + 4) = w2.2 37 ((60 * f + p) * 9 + 4) := wg_0 (by omega)
  have V5 : wg (w2.2 37) (((60 * f + p : Nat) : Int) * 9 + 5) = w2.2 37 ((60 * f + p) * 9 + 5) := wg_0 (by omega)
  rw [V5, W5, ts 5 (by decide)] at D5
  rw [V4, W4, ts 4 (by decide)] at D4
  obtain ⟨D4, DB⟩ := D4 (by decide)
  refine K w2 i2 (by omega) (by show i2 ≤ i + 4 * ((r.2.1 : Int) - p) + 1; omega) ⟨R1, ?_, ?_, ?_, ?_⟩
  · refine pQ_eq (pQ_tr (pQ_mono T (S' := rOut f p r.2.1 (on * 9 + sn)) fun k q => by omega) (pQ_dn R2 (S' := rOut f p r.2.1 (on * 9 + sn)) (fun k q => by omega) (by omega) (by omega)) fun d hd => ⟨(hcd d hd).1, fun q => by
      have := hcd d hd
      omega⟩) ?_ fun m => ?_
    · rw [e_imp_ce1, o1]
      show _ = (kn' == 29 || e_imp r.1 || false || false)
      rw [Bool.or_false, Bool.or_false]
    · rw [e_nm_ce1, o2]
      show _ = ((kn' == 7 && (w0.2 5 (60 * f + p) % 10).toNat == m) || e_nm r.1 m || false || false)
      rw [Bool.or_false, Bool.or_false]
  · rw [FR _ (by omega) (by omega) (by omega)]
    exact t0
  · refine eR_mk ⟨by omega, hkn, rfl, ν0, ν1, k6, by omega, h46'⟩ (by rw [FR _ (by omega) (by omega) (by omega)]; exact t6) (fun q => absurd q c8) (fun _ => ⟨R3, by rw [if_pos F]; exact R4⟩) (fun q => by omega) (fun q => by omega) (fun _ => ⟨⟨D4.1, D4.2, ?_⟩, D5, fun q16 => ?_⟩) (fun q => by omega) (fun _ => ?_) fun _ => rfl
    · exact use_ok F hkn ν0 s7 DB
    · rw [FR _ (by omega) (by omega) (by omega), s7 q16]
      subst q16
      cases own with
      | none => rfl
      | some m => show (m : Int) + 1 - 1 = (m : Int); omega
    · unfold j_own
      split
      · rename_i m
        split
        · refine Or.inr ⟨m, rfl, by omega, ?_⟩
          by_cases c : w0.2 3 on = 15
          · rw [if_pos c] at hown
            injection hown with hown
            omega
          · rw [if_neg c] at hown
            cases hown
        · exact Or.inl rfl
      · exact Or.inl rfl
  · rw [e_all_ce1]
    exact ⟨⟨by omega, by show 60 * f + p < 60 * f + r.2.1; omega⟩, e_all_mono (fun _ q => ⟨by omega, q.2⟩) _ R5, o3 _, trivial⟩
end
