/-! ===== reading a file: who looks at a name ===== -/
theorem bit_or32 {a b : Int} (a0 : 0 ≤ a) (a1 : a < 1073741824) (b0 : 0 ≤ b) (b1 : b < 1073741824) : (Int32.ofInt a ||| Int32.ofInt b).toInt = ((a.toNat ||| b.toNat : Nat) : Int) := by
  have e : (Int32.ofInt a ||| Int32.ofInt b).toBitVec = BitVec.ofInt 32 a ||| BitVec.ofInt 32 b := rfl
  show (Int32.ofInt a ||| Int32.ofInt b).toBitVec.toInt = _
  rw [e]
  have v1 : (BitVec.ofInt 32 a).toNat = a.toNat := by
    show (a % 4294967296).toNat = _
    omega
  have v2 : (BitVec.ofInt 32 b).toNat = b.toNat := by
    show (b % 4294967296).toNat = _
    omega
  have hlt : a.toNat ||| b.toNat < 2 ^ 30 := Nat.or_lt_two_pow (by omega) (by omega)
  have hn : (BitVec.ofInt 32 a ||| BitVec.ofInt 32 b).toNat = a.toNat ||| b.toNat := by rw [BitVec.toNat_or, v1, v2]
  rw [BitVec.toInt_eq_toNat_of_lt (by rw [hn]; omega), hn]
theorem bit_shl32 : ∀ q, q < 10 → (Int32.ofInt 1 <<< (Int32.ofInt ((q : Nat) : Int) &&& 31)).toInt = ((2 ^ q : Nat) : Int) := by decide +kernel
theorem bt_test (x : Nat) (m : Nat) : bt (x : Int) m ↔ x.testBit m = true := by
  unfold bt
  rw [Int.toNat_natCast, Nat.testBit_eq_decide_div_mod_eq, decide_eq_true_eq, Nat.shiftRight_eq_div_pow]
theorem bt_or {g : Int} {q : Nat} (g0 : 0 ≤ g ∧ g < 1024) (hq : q < 10) : ∃ g2 : Int, (Int32.ofInt g ||| Int32.ofInt (Int32.ofInt 1 <<< (Int32.ofInt (q : Int) &&& 31)).toInt).toInt = g2 ∧ (0 ≤ g2 ∧ g2 < 1024) ∧ ∀ m, m < 10 → (bt g2 m ↔ bt g m ∨ q = m) := by
  obtain ⟨n, rfl⟩ := Int.eq_ofNat_of_zero_le g0.1
  have hp : 2 ^ q ≤ 2 ^ 9 := Nat.pow_le_pow_right (by decide) (by omega)
  have hn : n < 1024 := by omega
  have b0 : (0 : Int) ≤ ((2 ^ q : Nat) : Int) := Int.natCast_nonneg _
  have b1 : ((2 ^ q : Nat) : Int) < ((1073741824 : Nat) : Int) := Int.ofNat_lt.mpr (Nat.lt_of_le_of_lt hp (by decide))
  rw [bit_shl32 q hq, bit_or32 (by omega) (by omega) b0 b1, Int.toNat_natCast, Int.toNat_natCast]
  refine ⟨_, rfl, ⟨Int.natCast_nonneg _, ?_⟩, fun m _ => ?_⟩
  · have : n ||| 2 ^ q < 1024 := Nat.or_lt_two_pow (n := 10) hn (Nat.lt_of_le_of_lt hp (by decide))
    exact Int.ofNat_lt.mpr this
  · rw [bt_test, bt_test, Nat.testBit_or, Nat.testBit_two_pow, Bool.or_eq_true, decide_eq_true_eq]
/-- the slots of those around -/
def cO (a : Nat → Int) (d : Int) : Prop := (0 ≤ wg a (d * 9 + 4) ∧ wg a (d * 9 + 4) < 1024) ∧ 0 ≤ wg a (d * 9 + 7) ∧ wg a (d * 9 + 7) ≤ 10
section
variable {P : Option am_V → W_ → Prop}
theorem tl_loop {id k m : Int} {nn : Nat} {bi : Bool} {f : Nat} (hk : k = if bi = true then 29 else 7) (hm : m = nn) (n10 : nn < 10) {a3 a5 : Nat → Int} (k3 : ∀ j : Nat, j < 181 → 0 ≤ a3 j ∧ a3 j < 32 ∧ 0 ≤ a5 j ∧ a5 j < 100) : ∀ (l : List Int) (c B y : Int) (v : am_V) (w : W_), w.2 3 = a3 → w.2 5 = a5 → chA (w.2 37) f c B l → B ≤ 180 → (l.length : Int) ≤ y → y ≤ 60 → (∀ d, d ∈ l → cO (w.2 37) d) → (∀ w', w'.1 = w.1 → (∀ b, b ≠ 37 → w'.2 b = w.2 b) → pQ a3 a5 (w.2 37) (w'.2 37) (fun _ => False) l bi (fun j => !bi && nn == j) → P none w') → ww_Z 10 7 5 0 cX10_tellAround none P 34 [.inr (.inr (.inl 36)), .inl id, .inl k, .inl m, .inl c, .inl y, v] [] w := by
  intro l
  induction l with
  | nil =>
    intro c B y v w e3 e5 hc hB hl hy _ K
    have hc : c = -1 := hc
    have hl : (0 : Int) ≤ y := hl
    exact lk_139b (by unfold am_rg; omega) (by unfold am_rg; omega) (Or.inr hc) (K w rfl (fun _ _ => rfl) ⟨fun _ _ _ => rfl, fun d hd => by cases hd⟩)
  | cons d l ih =>
    intro c B y v w e3 e5 hc hB hl hy ho K
    obtain ⟨rfl, hd1, hd2, hc⟩ := hc
    rw [List.length_cons] at hl
    obtain ⟨n, rfl⟩ := Int.eq_ofNat_of_zero_le (show (0 : Int) ≤ c by omega)
    have hn : n < 180 := by omega
    obtain ⟨o4, o7⟩ := ho _ (List.mem_cons_self ..)
    have kn := k3 n (by omega)
    have hmem := chA_mem l hc
    -- what is left to do once its own slot is told
    have go : ∀ w1 : W_, w1.1 = w.1 → (∀ b, b ≠ 37 → w1.2 b = w.2 b) → (∀ k : Nat, k ≠ n * 9 + 4 → k ≠ n * 9 + 5 → w1.2 37 k = w.2 37 k) → tD a3 a5 (w.2 37) (w1.2 37) (n : Int) bi (fun j => !bi && nn == j) → ww_Z 10 7 5 0 cX10_tellAround none P 147 [.inr (.inr (.inl 36)), .inl id, .inl k, .inl m, .inl (n : Int), .inl y, .inl ((n : Int) * 9)] [] w1 := fun w1 q1 q2 q3 q4 => by
      have sl : ∀ (d : Int) (s : Nat), 0 ≤ d → s < 9 → (s = 4 ∨ s = 5 → d ≠ n) → wg (w1.2 37) (d * 9 + s) = wg (w.2 37) (d * 9 + s) := fun d s d0 hs hne => by
        rw [wg_0 (k := (d * 9 + s).toNat) (by omega), wg_0 (k := (d * 9 + s).toNat) (by omega)]
        refine q3 _ (fun q => ?_) fun q => ?_
        · have : s = 4 := by omega
          exact hne (Or.inl this) (by omega)
        · have : s = 5 := by omega
          exact hne (Or.inr this) (by omega)
      have e8 : wg (w1.2 37) ((n : Int) * 9 + 8) = wg (w.2 37) ((n : Int) * 9 + 8) := sl n 8 (by omega) (by decide) (by omega)
      have d8 : 0 ≤ wg (w.2 37) ((n : Int) * 9 + 8) ∧ wg (w.2 37) ((n : Int) * 9 + 8) ≤ 184 := by
        cases l with
        | nil =>
          have hc : wg (w.2 37) ((n : Int) * 9 + 8) - 1 = -1 := hc
          omega
        | cons d' l' =>
          obtain ⟨h1, h2, h3, -⟩ := hc
          omega
      refine lk_139h (d := wg (w.2 37) ((n : Int) * 9 + 8)) ⟨by omega, hy⟩ ⟨by omega, by omega⟩ (by rw [wg_w]; exact e8) d8 ?_
      have hne : ∀ d, d ∈ l → 0 ≤ d ∧ d ≠ n := fun d hd => by
        have := hmem d hd
        omega
      refine ih _ (n : Int) (y - 1) _ w1 ((q2 3 (by decide)).trans e3) ((q2 5 (by decide)).trans e5) (chA_a l (fun d hd => sl d 8 (hne d hd).1 (by decide) (by omega)) hc) (by omega) (by omega) (by omega) (fun d hd => ?_) fun w' r1 r2 r3 => ?_
      · have h := ho d (List.mem_cons_of_mem _ hd)
        have e4 : wg (w1.2 37) (d * 9 + 4) = wg (w.2 37) (d * 9 + 4) := sl d 4 (hne d hd).1 (by decide) fun _ => (hne d hd).2
        have e7 : wg (w1.2 37) (d * 9 + 7) = wg (w.2 37) (d * 9 + 7) := sl d 7 (hne d hd).1 (by decide) (by omega)
        unfold cO
        rw [e4, e7]
        exact h
      · refine K w' (r1.trans q1) (fun b hb => (r2 b hb).trans (q2 b hb)) ⟨fun k _ hk => ?_, fun d hd => ?_⟩
        · have h0 := hk n (List.mem_cons_self ..)
          exact (r3.1 k (fun q => q) fun d hd => hk d (List.mem_cons_of_mem _ hd)).trans (q3 k (by omega) (by omega))
        · rcases List.mem_cons.mp hd with rfl | hd
          · have e : ∀ s : Nat, s < 9 → wg (w'.2 37) ((n : Int) * 9 + s) = wg (w1.2 37) ((n : Int) * 9 + s) := fun s hs => by
              rw [wg_0 (k := n * 9 + s) (by omega), wg_0 (k := n * 9 + s) (by omega)]
              exact r3.1 _ (fun q => q) fun d hd => by
                have := hne d hd
                omega
            have e4 : wg (w'.2 37) ((n : Int) * 9 + 4) = wg (w1.2 37) ((n : Int) * 9 + 4) := e 4 (by decide)
            have e5 : wg (w'.2 37) ((n : Int) * 9 + 5) = wg (w1.2 37) ((n : Int) * 9 + 5) := e 5 (by decide)
            unfold tD at q4 ⊢
            rw [e4, e5]
            exact q4
          · have h := r3.2 d hd
            have e4 : wg (w1.2 37) (d * 9 + 4) = wg (w.2 37) (d * 9 + 4) := sl d 4 (hne d hd).1 (by decide) fun _ => (hne d hd).2
            have e5 : wg (w1.2 37) (d * 9 + 5) = wg (w.2 37) (d * 9 + 5) := sl d 5 (hne d hd).1 (by decide) fun _ => (hne d hd).2
            have e7 : wg (w1.2 37) (d * 9 + 7) = wg (w.2 37) (d * 9 + 7) := sl d 7 (hne d hd).1 (by decide) (by omega)
            unfold tD tel at h ⊢
            rw [e4, e5, e7] at h
            exact h
    refine lk_139c ⟨by omega, hy⟩ ⟨by omega, by omega⟩ ?_
    have up : ∀ (s : Nat) (x : Int) (k : Nat), (w_a w 37 (n * 9 + s) x).2 37 k = if k = n * 9 + s then x else w.2 37 k := fun s x k => by
      rw [w_a2, w_u_at]
      simp only [true_and]
    cases bi with
    | true =>
      rw [if_pos rfl] at hk
      subst hk
      refine lk_139d ⟨by omega, by omega⟩ ?_
      rw [show ((n : Int) * 9 + 5).toNat = n * 9 + 5 by omega]
      refine go _ rfl (fun b hb => w_a_2ne w _ _ hb) (fun k k4 k5 => by rw [up, if_neg k5]) ⟨?_, fun h => ?_⟩
      · rw [wg_0 (k := n * 9 + 5) (by omega), up, if_pos rfl, if_pos rfl]
      · have e4 : wg ((w_a w 37 (n * 9 + 5) 1).2 37) ((n : Int) * 9 + 4) = wg (w.2 37) ((n : Int) * 9 + 4) := by
          rw [wg_0 (k := n * 9 + 4) (by omega), wg_0 (k := n * 9 + 4) (by omega), up, if_neg (by omega)]
        rw [e4]
        exact ⟨h, fun j _ => ⟨Or.inl, fun q => by
          rcases q with q | ⟨q, -⟩
          · exact q
          · cases q⟩⟩
    | false =>
      rw [if_neg Bool.false_ne_true] at hk
      subst hk
      refine lk_139e (by unfold am_rg; omega) (by decide) ?_
      have g3 : wg a3 (n : Int) = a3 n := wg_0 rfl
      have g5 : wg a5 (n : Int) = a5 n := wg_0 rfl
      refine lk_139f (kc := a3 n) (nc := a5 n) (g := wg (w.2 37) ((n : Int) * 9 + 7)) ⟨by omega, by omega⟩ (by rw [w_g_0 _ 3 rfl, e3]) (by unfold am_rg; omega) (by rw [w_g_0 _ 5 rfl, e5]) ⟨kn.2.2.1, kn.2.2.2⟩ ⟨by omega, by omega⟩ (wg_w _ _ _) o7 (fun q => ?_) fun q => ?_
      · refine go w rfl (fun _ _ => rfl) (fun _ _ _ => rfl) ⟨by rw [if_neg Bool.false_ne_true], fun h => ⟨h, fun j _ => ⟨Or.inl, fun r => ?_⟩⟩⟩
        rcases r with r | ⟨r1, r2⟩
        · exact r
        · have r1 : (nn == j) = true := r1
          have : nn = j := by simpa using r1
          refine absurd ?_ r2
          unfold tel
          rw [g3, g5]
          exact ⟨q.1, by omega⟩
      · obtain ⟨g2, hg, gr, gb⟩ := bt_or (g := wg (w.2 37) ((n : Int) * 9 + 4)) o4 n10
        refine lk_139g (g := wg (w.2 37) ((n : Int) * 9 + 4)) (g2 := g2) ⟨by omega, by omega⟩ (wg_w _ _ _) (by rw [hm]; exact hg) ?_
        rw [show ((n : Int) * 9 + 4).toNat = n * 9 + 4 by omega]
        refine go _ rfl (fun b hb => w_a_2ne w _ _ hb) (fun k k4 k5 => by rw [up, if_neg k4]) ⟨?_, fun h => ?_⟩
        · rw [if_neg Bool.false_ne_true, wg_0 (k := n * 9 + 5) (by omega), wg_0 (k := n * 9 + 5) (by omega), up, if_neg (by omega)]
        · have e4 : wg ((w_a w 37 (n * 9 + 4) g2).2 37) ((n : Int) * 9 + 4) = g2 := by
            rw [wg_0 (k := n * 9 + 4) (by omega), up, if_pos rfl]
          rw [e4]
          refine ⟨gr, fun j hj => ?_⟩
          rw [gb j hj]
          have t : ¬ tel a3 a5 (w.2 37) (n : Int) nn := fun r => by
            unfold tel at r
            rw [g3, g5] at r
            exact q ⟨r.1, by omega⟩
          constructor
          · rintro (r | rfl)
            · exact Or.inl r
            · exact Or.inr ⟨by simp, t⟩
          · rintro (r | ⟨r, -⟩)
            · exact Or.inl r
            · exact Or.inr (by simpa using r)
end
