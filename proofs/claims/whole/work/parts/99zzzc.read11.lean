/-! ===== reading a file: items ===== -/
section
variable {w0 : W_} {f z : Nat} {a46 : Nat → Int} {P : Option am_V → W_ → Prop} {n : Nat}
theorem lnk_ok {f p : Nat} {o x : Int} {wh : Bool} (f3 : f < 3) (ho : wh = true ∧ o = 180 + f ∨ wh = false ∧ 60 * (f : Int) ≤ o ∧ o < 60 * (f : Int) + p) (hx : x = 0 ∨ 60 * (f : Int) + 1 ≤ x ∧ x ≤ 60 * (f : Int) + p) : (lnk o x % 9 = 0 ∨ lnk o x % 9 = 3) ∧ (lnk o x < (60 * f + p) * 9 ∨ 1620 ≤ lnk o x) := by
  unfold lnk
  split
  · omega
  · omega
theorem lnk_id (id : Nat) : lnk (id : Int) 0 = id * 9 := by
  unfold lnk
  rw [if_pos rfl]
  omega
theorem lnk_nx (o : Int) (id : Nat) : lnk o ((id : Int) + 1) = id * 9 + 3 := by
  unfold lnk
  rw [if_neg (by omega)]
  omega
theorem rB_tail {wh fm hb : Bool} {p kn : Nat} {o x ib ar : Int} {st : List SE} {l : List Int} {w w1 w2 : W_} {i i2 : Int} {cs : List Int} {xx : T_ × Nat × List Int} (H0 : FI w0 f z) (h46 : a46 f ≠ 0) (hB : rB w0 f z a46 P n) (hn : z + 1 ≤ n + 1 + p) (c1 : p < z) (hkn : w0.2 3 (60 * f + p) = kn) (k5 : kn < 5) (hfm : fm = true → kn = 0 ∨ kn = 3) (ho : wh = true ∧ o = 180 + f ∨ wh = false ∧ 60 * (f : Int) ≤ o ∧ o < 60 * (f : Int) + p) (hx : x = 0 ∨ 60 * (f : Int) + 1 ≤ x ∧ x ≤ 60 * (f : Int) + p) (hz0 : ∀ s, s < 9 → w.2 37 ((60 * f + p) * 9 + s) = 0) (hc : cA (w.2 37) f p ar cs) (U1 : ∀ k, w1.2 37 k = if k = lnk o x then ((60 * f + p : Nat) : Int) + 1 else w.2 37 k) (X1 : RI w0 f z (((if fm = true then 1 else 0), o, ((60 * f + p : Nat) : Int) + 1, ib, ar) :: st) xx.2.1 (l ++ xx.2.2) w2) (X2 : pQ (w0.2 3) (w0.2 5) (w1.2 37) (w2.2 37) (rOut f (p + 1) xx.2.1 ((60 * f + p) * 9)) cs (e_imp xx.1) (e_nm xx.1)) (X3 : kn = 3 → w2.2 37 ((60 * f + p) * 9) = (e_id xx.1 : Int) + 1 ∧ eR (w0.2 3) (w0.2 5) (w2.2 37) a46 0 (!fm) xx.1) (X4 : kn = 4 → w2.2 37 ((60 * f + p) * 9) = it_id xx.1 + 1 ∧ eR (w0.2 3) (w0.2 5) (w2.2 37) a46 2 false xx.1) (X0 : kn ≠ 3 → kn ≠ 4 → xx.1 = .nil) (X5 : e_all (fun id => 60 * f + (p + 1) ≤ id ∧ id < 60 * f + xx.2.1) xx.1) (hp1 : p + 1 ≤ xx.2.1 ∧ xx.2.1 ≤ z) (hi : 0 ≤ i ∧ i + 4 * ((z : Int) - p) ≤ 900) (hi2 : i ≤ i2 ∧ i2 ≤ i + 4 * ((xx.2.1 : Int) - p)) (K : ∀ w' i', i ≤ i' → i' ≤ i + 4 * (((j_go n (tJ (w0.2 3) (w0.2 5) (w0.2 7) f) (some (wh, fm)) none xx.2.1).2.1 : Int) - p) + 1 → rO w0 f z a46 st p l (lnk o x) vI1 (if fm = true then 2 else 1) hb cs (ct kn (w0.2 5 (60 * f + p)) (60 * f + p) xx.1 (j_go n (tJ (w0.2 3) (w0.2 5) (w0.2 7) f) (some (wh, fm)) none xx.2.1).1, (j_go n (tJ (w0.2 3) (w0.2 5) (w0.2 7) f) (some (wh, fm)) none xx.2.1).2.1, xx.2.2 ++ (j_go n (tJ (w0.2 3) (w0.2 5) (w0.2 7) f) (some (wh, fm)) none xx.2.1).2.2) w w' → rl P f i' w') : rl P f i2 w2 := by
  obtain ⟨f3, z6, hz7⟩ := H0.2.1
  have hJz := tJ_z H0
  have kk := H0.2.2 (60 * f + p) (by omega)
  have hid : (60 * f + p) / 60 = f := by omega
  have h46' : a46 ((60 * f + p) / 60) ≠ 0 := by rw [hid]; exact h46
  obtain ⟨q9, qr⟩ := lnk_ok f3 ho hx
  have hcd : ∀ d, d ∈ cs → 60 * (f : Int) ≤ d ∧ d < ((60 * f + p : Nat) : Int) := fun d hd => by
    have := cA_mem hc hd
    omega
  have gz := j_go_sz n (tJ (w0.2 3) (w0.2 5) (w0.2 7) f) (some (wh, fm)) none xx.2.1
  have gn := j_go_na n (tJ (w0.2 3) (w0.2 5) (w0.2 7) f) (some (wh, fm)) none xx.2.1
  rw [hJz] at gz
  have gz2 := gz.2 hp1.2
  have T : ∀ p', pQ (w0.2 3) (w0.2 5) (w.2 37) (w1.2 37) (rOut f p p' (lnk o x)) cs false fun _ => false := fun p' => pQ_S (fun k hk => by rw [U1, if_neg fun e => hk (Or.inl e)]) fun d hd => by
    have := hcd d hd
    exact ⟨by omega, fun q => by omega, fun q => by omega⟩
  have hc1 : cA (w1.2 37) f (p + 1) ar cs := cA_pQ hc (T p) (fun d hd => by
    have := hcd d hd
    exact ⟨fun q => by omega, fun q => by omega⟩) (Nat.le_succ p)
  have hc2 : cA (w2.2 37) f xx.2.1 ar cs := cA_pQ hc1 X2 (fun d hd => by
    have := hcd d hd
    exact ⟨fun q => by omega, fun q => by omega⟩) hp1.1
  have FX : ∀ k, k % 9 ≠ 4 ∧ k % 9 ≠ 5 → k ≠ (60 * f + p) * 9 → ¬ ((60 * f + (p + 1)) * 9 ≤ k ∧ k < (60 * f + xx.2.1) * 9) → w2.2 37 k = w1.2 37 k := fun k hk h1 h2 => X2.1 k (fun q => by omega) fun d hd => by
    have := hcd d hd
    omega
  have z3 : w2.2 37 (lnk o (((60 * f + p : Nat) : Int) + 1)) = 0 := by
    rw [lnk_nx, FX _ (by omega) (by omega) (by omega), U1, if_neg (by omega)]
    exact hz0 3 (by decide)
  refine hB wh fm false xx.2.1 o _ ib ar st _ w2 i2 cs (by omega) X1 (ho.imp (fun h => h) fun h => ⟨h.1, h.2.1, by have := h.2.2; omega⟩) (Or.inr (by omega)) z3 hc2 ⟨by omega, by omega⟩ fun w3 i3 j1 j2 R => ?_
  generalize j_go n (tJ (w0.2 3) (w0.2 5) (w0.2 7) f) (some (wh, fm)) none xx.2.1 = r at *
  obtain ⟨R1, R2, R3, R4, R5⟩ := R
  rw [lnk_nx] at R2 R3
  have FR : ∀ k, k % 9 ≠ 4 ∧ k % 9 ≠ 5 → k ≠ (60 * f + p) * 9 + 3 → ¬ ((60 * f + xx.2.1) * 9 ≤ k ∧ k < (60 * f + r.2.1) * 9) → w3.2 37 k = w2.2 37 k := fun k hk h1 h2 => R2.1 k (fun q => by omega) fun d hd => by
    have := hcd d hd
    omega
  refine K w3 i3 (by omega) (by omega) ⟨?_, ?_, ?_, ?_, ?_⟩
  · show RI w0 f z st r.2.1 (l ++ (xx.2.2 ++ r.2.2)) w3
    rw [← List.append_assoc]
    exact R1
  · show pQ _ _ _ _ (rOut f p r.2.1 (lnk o x)) _ _ _
    refine pQ_eq (pQ_tr (pQ_tr (T r.2.1) (pQ_mono X2 (S' := rOut f p r.2.1 (lnk o x)) fun k q => by omega) fun d hd => ?_) (pQ_mono R2 fun k q => by omega) fun d hd => ?_) ?_ fun m => ?_
    · have := hcd d hd
      exact ⟨by omega, fun q => by omega⟩
    · have := hcd d hd
      exact ⟨by omega, fun q => by omega⟩
    · rw [e_imp_ct1 gn]
      rfl
    · rw [e_nm_ct1 gn]
      rfl
  · rw [FR _ (by omega) (by omega) (by omega), FX _ (by omega) (by omega) (by omega), U1, if_pos rfl]
    rfl
  · have e0 : w3.2 37 ((60 * f + p) * 9) = w2.2 37 ((60 * f + p) * 9) := FR _ (by omega) (by omega) (by omega)
    have pers : ∀ m b, eR (w0.2 3) (w0.2 5) (w2.2 37) a46 m b xx.1 → eR (w0.2 3) (w0.2 5) (w3.2 37) a46 m b xx.1 := fun m b h => eR_pQ h X5 R2 (fun k k1 k2 q => by omega) fun d hd => by
      have := hcd d hd
      omega
    cases fm with
    | true => exact eR_mkt (m := 1) ⟨by omega, hkn, rfl, kk.2.2.1, kk.2.2.2, by omega, h46'⟩ (fun _ => hfm rfl) X0 R3 (fun q => ⟨by rw [e0]; exact (X3 q).1, pers _ _ (X3 q).2⟩) (fun q => ⟨by rw [e0]; exact (X4 q).1, pers _ _ (X4 q).2⟩) R4
    | false => exact eR_mkt (m := 0) ⟨by omega, hkn, rfl, kk.2.2.1, kk.2.2.2, by omega, h46'⟩ (fun q => absurd q (by decide)) X0 R3 (fun q => ⟨by rw [e0]; exact (X3 q).1, pers _ _ (X3 q).2⟩) (fun q => ⟨by rw [e0]; exact (X4 q).1, pers _ _ (X4 q).2⟩) R4
  · rw [e_all_ct gn]
    exact ⟨⟨by omega, by show 60 * f + p < 60 * f + r.2.1; omega⟩, e_all_mono (fun _ q => ⟨by omega, by show _ < 60 * f + r.2.1; omega⟩) _ X5, e_all_mono (fun _ q => ⟨by omega, q.2⟩) _ R5⟩
theorem rB_succ (H0 : FI w0 f z) (h46 : a46 f ≠ 0) (hA : rA w0 f z a46 P n) (hB : rB w0 f z a46 P n) : rB w0 f z a46 P (n + 1) := by
  intro wh fm hb p o x ib ar st l w i cs hn H ho hx hlz hc hi K
  obtain ⟨f3, z6, hz7⟩ := H0.2.1
  have hpz := H.2.2.1.2.2
  have hJz := tJ_z H0
  obtain ⟨q9, qr⟩ := lnk_ok f3 ho hx
  have ht : ((if fm = true then 1 else 0) : Int) = 0 ∨ ((if fm = true then 1 else 0) : Int) = 1 := by
    split <;> omega
  have ho4 : 0 ≤ o ∧ o < 184 := by omega
  have hx4 : 0 ≤ x ∧ x < 184 := by omega
  have hcd : ∀ d, d ∈ cs → 60 * (f : Int) ≤ d ∧ d < ((60 * f + p : Nat) : Int) := fun d hd => by
    have := cA_mem hc hd
    omega
  have T0 : ∀ (w' : W_) p', w'.2 37 = w.2 37 → pQ (w0.2 3) (w0.2 5) (w.2 37) (w'.2 37) (rOut f p p' (lnk o x)) cs false fun _ => false := fun w' p' e => by
    rw [e]
    exact ⟨fun _ _ _ => rfl, fun _ _ => tD_refl⟩
  by_cases c1 : z ≤ p
  · rw [ji_end (by rw [hJz]; exact c1)] at K
    refine rt_item H0 H ht ⟨by omega, by omega⟩ (rd_i1 H0 H ht ho4 c1) fun w' h => ?_
    refine K w' (i + 1) (by omega) (by show i + 1 ≤ i + 4 * ((p : Int) - p) + 1; omega) ⟨?_, T0 w' p h.2, ?_, ?_, trivial⟩
    · have h1 := h.1
      rcases ho with ⟨rfl, ho⟩ | ⟨rfl, ho⟩
      · rw [if_pos (by omega)] at h1
        show RI w0 f z st p (l ++ []) w'
        rw [List.append_nil]
        exact h1
      · rw [if_neg (by omega)] at h1
        exact h1
    · rw [h.2]
      exact hlz
    · cases fm <;> trivial
  have c1 : p < z := by omega
  obtain ⟨kn, hkn, k32, hJk, ν0, ν1⟩ := tJ_k H0 c1
  have hJν : (tJ (w0.2 3) (w0.2 5) (w0.2 7) f).2.1 p = w0.2 5 (60 * f + p) := rfl
  have hJi : j_id (tJ (w0.2 3) (w0.2 5) (w0.2 7) f) p = 60 * f + p := rfl
  have hJp : p < (tJ (w0.2 3) (w0.2 5) (w0.2 7) f).2.2.1 := by rw [hJz]; exact c1
  by_cases c5 : kn = 5 ∧ wh = false
  · rw [ji_cl hJp (by rw [hJk]; exact c5)] at K
    obtain ⟨rfl, rfl⟩ := c5
    refine rt_item H0 H ht ⟨by omega, by omega⟩ (rd_i2 H0 H ht ?_ c1 hkn) fun w' h => ?_
    · rcases ho with ⟨q, -⟩ | ⟨-, ho⟩
      · cases q
      · omega
    refine K w' (i + 1) (by omega) (by show i + 1 ≤ i + 4 * (((p + 1 : Nat) : Int) - p) + 1; omega) ⟨?_, T0 w' (p + 1) h.2, ?_, ?_, trivial⟩
    · show RI w0 f z st (p + 1) (l ++ []) w'
      rw [List.append_nil]
      exact h.1
    · rw [h.2]
      exact hlz
    · cases fm <;> trivial
  have n5 : ¬ ((kn : Int) = 5 ∧ o < 180) := fun q => by
    rcases ho with ⟨-, ho⟩ | ⟨hw, -⟩
    · omega
    · exact c5 ⟨by omega, hw⟩
  have hz0 : ∀ s, s < 9 → w.2 37 ((60 * f + p) * 9 + s) = 0 := fun s hs => H.2.2.2 p s (Nat.le_refl _) c1 hs
  have tf : ((if fm = true then 1 else 0) : Int) = 0 ↔ fm = false := by
    cases fm
    · exact ⟨fun _ => rfl, fun _ => rfl⟩
    · exact ⟨fun q => absurd q (by decide), fun q => by cases q⟩
  by_cases ok : kn = 0 ∨ kn = 3 ∨ (fm = false ∧ kn < 5)
  · have hlk : lnk o x < (60 * f + p + 1) * 9 ∨ 1620 ≤ lnk o x := by omega
    have hfm : fm = true → kn = 0 ∨ kn = 3 := fun q => by
      rcases ok with ok | ok | ⟨ok, -⟩
      · exact Or.inl ok
      · exact Or.inr ok
      · rw [q] at ok; cases ok
    have k5 : kn < 5 := by omega
    have T1 : ∀ w1 : W_, (∀ k, w1.2 37 k = if k = lnk o x then ((60 * f + p : Nat) : Int) + 1 else w.2 37 k) → cA (w1.2 37) f (p + 1) ar cs := fun w1 U1 => cA_pQ hc (pQ_S (a3 := w0.2 3) (a5 := w0.2 5) (S := fun k => k = lnk o x) (fun k hk => by rw [U1, if_neg hk]) fun d hd => by
      have := hcd d hd
      exact ⟨by omega, by omega, by omega⟩) (fun d hd => by
      have := hcd d hd
      exact ⟨by omega, by omega⟩) (Nat.le_succ p)
    by_cases c3 : kn = 3
    · subst c3
      obtain ⟨xx, hxx⟩ : ∃ xx, j_go n (tJ (w0.2 3) (w0.2 5) (w0.2 7) f) none none (p + 1) = xx := ⟨_, rfl⟩
      have gz := j_go_sz n (tJ (w0.2 3) (w0.2 5) (w0.2 7) f) none none (p + 1)
      rw [hxx, hJz] at gz
      have gz2 := gz.2 (by omega)
      rw [ji_ok hJp (by rw [hJk]; exact c5) (by rw [hJk]; exact ok) (x := xx) (by rw [hJk, if_pos rfl]; exact hxx) rfl, hJk, hJi, hJν] at K
      refine rt_item H0 H ht ⟨by omega, by omega⟩ (rd_i5 H0 H ht ho4 hx4 hlk c1 hkn) fun w1 h1 => ?_
      have eb : (1 - (if fm = true then 1 else 0) : Int) = if (!fm) = true then 1 else 0 := by cases fm <;> rfl
      rw [eb] at h1
      refine hA none (p + 1) (60 * f + p) 0 (!fm) ar _ l w1 (i + 1) cs (by omega) h1.1 ⟨by omega, by omega⟩ (by decide) (by rw [hkn, if_neg (by decide)]) (T1 w1 h1.2) ⟨by omega, by omega⟩ fun w2 i2 j1 j2 R => ?_
      rw [hxx] at R j2
      obtain ⟨R1, R2, R3, R4, R5⟩ := R
      exact rB_tail H0 h46 hB hn c1 hkn k5 hfm ho hx hz0 hc h1.2 R1 R2 (fun _ => ⟨R3, R4⟩) (fun q => absurd q (by decide)) (fun q => absurd rfl q) R5 ⟨by omega, gz2⟩ hi ⟨by omega, by omega⟩ K
    · by_cases c4 : kn = 4
      · subst c4
        have fmf : fm = false := by
          rcases ok with ok | ok | ⟨ok, -⟩
          · cases ok
          · cases ok
          · exact ok
        subst fmf
        obtain ⟨xx, hxx⟩ : ∃ xx, j_go n (tJ (w0.2 3) (w0.2 5) (w0.2 7) f) (some (false, true)) none (p + 1) = xx := ⟨_, rfl⟩
        have gz := j_go_sz n (tJ (w0.2 3) (w0.2 5) (w0.2 7) f) (some (false, true)) none (p + 1)
        rw [hxx, hJz] at gz
        have gz2 := gz.2 (by omega)
        rw [ji_ok hJp (by rw [hJk]; exact c5) (by rw [hJk]; exact ok) (x := xx) (by rw [hJk, if_neg (by decide), if_pos rfl]; exact hxx) rfl, hJk, hJi, hJν] at K
        refine rt_item H0 H ht ⟨by omega, by omega⟩ (rd_i6 H0 H ho4 hx4 hlk c1 hkn) fun w1 h1 => ?_
        have zz : w1.2 37 (lnk ((60 * f + p : Nat) : Int) 0) = 0 := by
          rw [lnk_id, h1.2, if_neg (by omega)]
          exact hz0 0 (by decide)
        refine hB false true false (p + 1) _ 0 0 ar _ l w1 (i + 1) cs (by omega) h1.1 (Or.inr ⟨rfl, by omega, by omega⟩) (Or.inl rfl) zz (T1 w1 h1.2) ⟨by omega, by omega⟩ fun w2 i2 j1 j2 R => ?_
        rw [hxx] at R j2
        obtain ⟨R1, R2, R3, R4, R5⟩ := R
        rw [lnk_id] at R2 R3
        exact rB_tail H0 h46 hB hn c1 hkn k5 hfm ho hx hz0 hc h1.2 R1 R2 (fun q => absurd q (by decide)) (fun _ => ⟨R3, R4⟩) (fun _ q => absurd rfl q) R5 ⟨by omega, gz2⟩ hi ⟨by omega, by omega⟩ K
      · have hk' : (kn : Int) = 0 ∨ (((if fm = true then 1 else 0) : Int) = 0 ∧ (kn : Int) < 3) := by
          rcases ok with ok | ok | ⟨ok, ok2⟩
          · exact Or.inl (by omega)
          · exact absurd ok c3
          · exact Or.inr ⟨tf.2 ok, by omega⟩
        rw [ji_ok hJp (by rw [hJk]; exact c5) (by rw [hJk]; exact ok) (x := (.nil, p + 1, [])) (by rw [hJk, if_neg c3, if_neg c4]) rfl, hJk, hJi, hJν] at K
        refine rt_item H0 H ht ⟨by omega, by omega⟩ (rd_i4 H0 H ht ho4 hx4 hlk c1 hkn hk') fun w1 h1 => ?_
        refine rB_tail (xx := (.nil, p + 1, [])) H0 h46 hB hn c1 hkn k5 hfm ho hx hz0 hc h1.2 (by rw [List.append_nil]; exact h1.1) ⟨fun _ _ _ => rfl, fun _ _ => tD_refl⟩ (fun q => absurd q c3) (fun q => absurd q c4) (fun _ _ => rfl) trivial ⟨Nat.le_refl _, by show p + 1 ≤ z; omega⟩ hi ⟨by omega, by show i + 1 ≤ i + 4 * (((p + 1 : Nat) : Int) - p); omega⟩ K
  · rw [ji_bad hJp (by rw [hJk]; exact c5) (by rw [hJk]; exact ok) rfl] at K
    have nb : ¬ ((kn : Int) = 0 ∨ (kn : Int) = 3 ∨ (((if fm = true then 1 else 0) : Int) = 0 ∧ (kn : Int) < 5)) := fun q => by
      rcases q with q | q | ⟨q1, q2⟩
      · exact ok (Or.inl (by omega))
      · exact ok (Or.inr (Or.inl (by omega)))
      · exact ok (Or.inr (Or.inr ⟨tf.1 q1, by omega⟩))
    have gz := j_go_sz n (tJ (w0.2 3) (w0.2 5) (w0.2 7) f) (some (wh, fm)) none (p + 1)
    rw [hJz] at gz
    have gz2 := gz.2 (by omega)
    refine rt_item H0 H ht ⟨by omega, by omega⟩ (rd_i3 H0 H ht ho4 c1 hkn n5 nb) fun w1 h1 => ?_
    have hc1 : cA (w1.2 37) f (p + 1) ar cs := by
      rw [h1.2]
      exact ⟨chA_B (by omega) cs hc.1, hc.2⟩
    refine hB wh fm hb (p + 1) o x ib ar st _ w1 (i + 1) cs (by omega) h1.1 (ho.imp (fun h => h) fun h => ⟨h.1, h.2.1, by have := h.2.2; omega⟩) (by omega) (by rw [h1.2]; exact hlz) hc1 ⟨by omega, by omega⟩ fun w2 i2 j1 j2 R => ?_
    generalize j_go n (tJ (w0.2 3) (w0.2 5) (w0.2 7) f) (some (wh, fm)) none (p + 1) = r at *
    obtain ⟨R1, R2, R3, R4, R5⟩ := R
    rw [h1.2] at R2
    refine K w2 i2 (by omega) (by show i2 ≤ i + 4 * ((r.2.1 : Int) - p) + 1; omega) ⟨?_, pQ_mono (S' := rOut f p r.2.1 (lnk o x)) R2 fun k q => by omega, R3, R4, e_all_mono (fun _ q => ⟨by omega, q.2⟩) _ R5⟩
    show RI w0 f z st r.2.1 (l ++ (_ :: r.2.2)) w2
    rw [List.append_cons]
    exact R1
theorem rd_main (H0 : FI w0 f z) (h46 : a46 f ≠ 0) : ∀ n, rA w0 f z a46 P n ∧ rB w0 f z a46 P n := by
  intro n
  induction n with
  | zero =>
    refine ⟨fun own p on sn hb ar st l w i cs hn H => ?_, fun wh fm hb p o x ib ar st l w i cs hn H => ?_⟩
    · have := H.2.2.1.2.2
      omega
    · have := H.2.2.1.2.2
      omega
  | succ n ih => exact ⟨rA_succ H0 h46 ih.1 ih.2, rB_succ H0 h46 ih.1 ih.2⟩
end
/-- a file is read: the tree, the faults -/
theorem lk_135 {w : W_} {f z : Nat} {a46 : Nat → Int} (H0 : FI w f z) (h46 : a46 f ≠ 0) : ww_Ct 135 10 [.inr (.inr (.inl 36)), .inl (f : Int)] w fun r w' => r = none ∧ (tE (w_nts w (j_go 200 (tJ (w.2 3) (w.2 5) (w.2 7) f) (some (true, false)) none 0).2.2) w' ∧ eR (w.2 3) (w.2 5) (w'.2 37) a46 1 false (j_go 200 (tJ (w.2 3) (w.2 5) (w.2 7) f) (some (true, false)) none 0).1 ∧ w'.2 37 ((180 + f) * 9) = it_id (j_go 200 (tJ (w.2 3) (w.2 5) (w.2 7) f) (some (true, false)) none 0).1 + 1 ∧ ∀ k : Nat, ¬ (540 * f ≤ k ∧ k < 540 * f + 540) → ¬ ((180 + f) * 9 ≤ k ∧ k < (180 + f) * 9 + 9) → w'.2 37 k = w.2 37 k) := by
  have H0' := H0
  obtain ⟨kn, ⟨f3, z6, hz7⟩, k3⟩ := H0'
  have ez : w_g w 7 (f : Int) = (z : Int) := (w_g_0 w 7 rfl).trans hz7
  refine lk_135a (z := z) ⟨by omega, by omega⟩ ez ⟨by omega, by omega⟩ ?_
  have F : ∀ k, (w_fill (w_fill (w_f (w_f (w_f w 36 5 (f : Int)) 36 6 0) 36 4 0) 37 ((f : Int) * 60 * 9).toNat ((f : Int) * 60 * 9 + z * 9).toNat 0) 37 ((180 + (f : Int)) * 9).toNat ((180 + (f : Int)) * 9 + 9).toNat 0).2 37 k = if (180 + f) * 9 ≤ k ∧ k < (180 + f) * 9 + 9 then 0 else if 540 * f ≤ k ∧ k < 540 * f + z * 9 then 0 else w.2 37 k := fun k => by
    show (if 37 = 37 ∧ _ ≤ k ∧ k < _ then (0 : Int) else if 37 = 37 ∧ _ ≤ k ∧ k < _ then 0 else w.2 37 k) = _
    rw [show ((180 + (f : Int)) * 9).toNat = (180 + f) * 9 by omega, show ((180 + (f : Int)) * 9 + 9).toNat = (180 + f) * 9 + 9 by omega, show ((f : Int) * 60 * 9).toNat = 540 * f by omega, show ((f : Int) * 60 * 9 + z * 9).toNat = 540 * f + z * 9 by omega]
    simp only [true_and]
  have E : tE w (w_fill (w_fill (w_f (w_f (w_f w 36 5 (f : Int)) 36 6 0) 36 4 0) 37 ((f : Int) * 60 * 9).toNat ((f : Int) * 60 * 9 + z * 9).toNat 0) 37 ((180 + (f : Int)) * 9).toNat ((180 + (f : Int)) * 9 + 9).toNat 0) := tE_tr (tE_tr (tE_tr (tE_tr tE_f tE_f) tE_f) tE_fill) tE_fill
  have e4 : (w_fill (w_fill (w_f (w_f (w_f w 36 5 (f : Int)) 36 6 0) 36 4 0) 37 ((f : Int) * 60 * 9).toNat ((f : Int) * 60 * 9 + z * 9).toNat 0) 37 ((180 + (f : Int)) * 9).toNat ((180 + (f : Int)) * 9 + 9).toNat 0).1 36 4 = 0 := rfl
  have e5 : (w_fill (w_fill (w_f (w_f (w_f w 36 5 (f : Int)) 36 6 0) 36 4 0) 37 ((f : Int) * 60 * 9).toNat ((f : Int) * 60 * 9 + z * 9).toNat 0) 37 ((180 + (f : Int)) * 9).toNat ((180 + (f : Int)) * 9 + 9).toNat 0).1 36 5 = f := rfl
  have e6 : (w_fill (w_fill (w_f (w_f (w_f w 36 5 (f : Int)) 36 6 0) 36 4 0) 37 ((f : Int) * 60 * 9).toNat ((f : Int) * 60 * 9 + z * 9).toNat 0) 37 ((180 + (f : Int)) * 9).toNat ((180 + (f : Int)) * 9 + 9).toNat 0).1 36 6 = 0 := rfl
  generalize w_fill (w_fill (w_f (w_f (w_f w 36 5 (f : Int)) 36 6 0) 36 4 0) 37 ((f : Int) * 60 * 9).toNat ((f : Int) * 60 * 9 + z * 9).toNat 0) 37 ((180 + (f : Int)) * 9).toNat ((180 + (f : Int)) * 9 + 9).toNat 0 = W at *
  refine lk_135b ⟨by omega, by omega⟩ e5 e4 ?_
  have H : RI w f z [] 0 [] W := ⟨E, ⟨by rw [e4]; rfl, e5, by rw [e6]; rfl⟩, ⟨trivial, by show 0 ≤ 3 * 0 + 1; omega, by omega⟩, fun q s q1 q2 q3 => by
    rw [F]
    split
    · rfl
    · rw [if_pos (by omega)]⟩
  have H1 := RI_ex (x0 := 0) (x1 := 180 + (f : Int)) (x2 := 0) (x3 := 1) (x4 := 0) H (by show 0 ≤ 3 * 0; omega)
  have el : lnk (180 + (f : Int)) 0 = (180 + f) * 9 := by
    unfold lnk
    rw [if_pos rfl]
    omega
  refine (rd_main H0 h46 200).2 true false false 0 (180 + (f : Int)) 0 1 0 [] [] _ 0 [] (by omega) H1 (Or.inl ⟨rfl, rfl⟩) (Or.inl rfl) ?_ ⟨rfl, fun d hd => by cases hd⟩ ⟨by omega, by omega⟩ fun w' i' j1 j2 R => ?_
  · rw [el, ex_37, F, if_pos ⟨by omega, by omega⟩]
  have gz := j_go_sz 200 (tJ (w.2 3) (w.2 5) (w.2 7) f) (some (true, false)) none 0
  rw [tJ_z H0] at gz
  have gz2 := gz.2 (Nat.zero_le _)
  obtain ⟨R1, R2, R3, R4, R5⟩ := R
  rw [el] at R2 R3
  have hl := R1.2.1.1
  refine rl_end ⟨by omega, by omega⟩ hl ⟨rfl, R1.1, R4, R3, fun k h1 h2 => ?_⟩
  refine (R2.1 k (fun q => by omega) fun d hd => by cases hd).trans ?_
  rw [ex_37, F, if_neg h2, if_neg (by omega)]
