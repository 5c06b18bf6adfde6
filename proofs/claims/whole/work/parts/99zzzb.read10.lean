/-! ===== reading a file: two parts, three parts ===== -/
section
variable {w0 : W_} {f z : Nat} {a46 : Nat → Int} {P : Option am_V → W_ → Prop} {n : Nat}
theorem rA_2 {own : Option Nat} {p on sn kn : Nat} {hb : Bool} {ar : Int} {st : List SE} {l : List Int} {w : W_} {i : Int} {cs : List Int} (H0 : FI w0 f z) (h46 : a46 f ≠ 0) (hA : rA w0 f z a46 P n) (hn : z + 1 ≤ n + 1 + p) (H : RI w0 f z ((2, (on : Int), (sn : Int), (if hb = true then 1 else 0), ar) :: st) p l w) (ho : 60 * f ≤ on ∧ on < 60 * f + p) (hs : sn < 3) (hc : cA (w.2 37) f p ar cs) (hi : 0 ≤ i ∧ i + 4 * ((z : Int) - p) ≤ 900) (c1 : p < z) (hkn : w0.2 3 (60 * f + p) = kn) (k6 : 6 ≤ kn) (c8 : kn ≠ 8) (jp : j_par kn = 2) (nF : ¬ (kn = 16 ∨ kn = 22)) (K : ∀ w' i', i ≤ i' → i' ≤ i + 4 * (((j_go (n + 1) (tJ (w0.2 3) (w0.2 5) (w0.2 7) f) none own p).2.1 : Int) - p) + 1 → rO w0 f z a46 st p l (on * 9 + sn) vE1 0 hb cs (j_go (n + 1) (tJ (w0.2 3) (w0.2 5) (w0.2 7) f) none own p) w w' → rl P f i' w') : rl P f i w := by
  obtain ⟨f3, z6, hz7⟩ := H0.2.1
  have hJz := tJ_z H0
  obtain ⟨kn', hkn', k32, hJk, ν0, ν1⟩ := tJ_k H0 c1
  have : kn' = kn := by omega
  subst this
  have hJν : (tJ (w0.2 3) (w0.2 5) (w0.2 7) f).2.1 p = w0.2 5 (60 * f + p) := rfl
  have hJi : j_id (tJ (w0.2 3) (w0.2 5) (w0.2 7) f) p = 60 * f + p := rfl
  have hJp : p < (tJ (w0.2 3) (w0.2 5) (w0.2 7) f).2.2.1 := by rw [hJz]; exact c1
  have hid : (60 * f + p) / 60 = f := by omega
  have h46' : a46 ((60 * f + p) / 60) ≠ 0 := by rw [hid]; exact h46
  have k15 : kn' ≠ 15 := fun q => by rw [q] at jp; exact absurd jp (by decide)
  have hcd : ∀ d, d ∈ cs → 0 ≤ d ∧ d < ((60 * f + p : Nat) : Int) := fun d hd => by
    have := cA_mem hc hd
    omega
  obtain ⟨r, hr⟩ : ∃ r, j_go n (tJ (w0.2 3) (w0.2 5) (w0.2 7) f) none none (p + 1) = r := ⟨_, rfl⟩
  have gz := j_go_sz n (tJ (w0.2 3) (w0.2 5) (w0.2 7) f) none none (p + 1)
  rw [hr, hJz] at gz
  have gz2 := gz.2 (by omega)
  obtain ⟨r', hr'⟩ : ∃ r', j_go n (tJ (w0.2 3) (w0.2 5) (w0.2 7) f) none none r.2.1 = r' := ⟨_, rfl⟩
  have gy := j_go_sz n (tJ (w0.2 3) (w0.2 5) (w0.2 7) f) none none r.2.1
  rw [hr', hJz] at gy
  have gy2 := gy.2 gz2
  rw [jg_2 hJp (by rw [hJk]; exact k6) (by rw [hJk]; exact c8) (by rw [hJk]; exact jp) hr hr', hJk, hJi, hJν] at K
  refine rA_own H0 H ho hs hc ⟨by omega, by omega⟩ c1 hkn k6 c8 fun w1 h1 T t0 t6 t7 t8 ts hc1 => ?_
  rw [if_neg nF, if_neg nF, jp] at h1
  refine hA none (p + 1) (60 * f + p) 0 hb ar _ l w1 (i + 1) cs (by omega) h1 ⟨by omega, by omega⟩ (by decide) (by rw [hkn, if_neg (by omega)]) hc1 ⟨by omega, by omega⟩ fun w2 i2 j1 j2 R => ?_
  rw [hr] at R j2
  obtain ⟨R1, R2, R3, R4, R5⟩ := R
  have R3 : w2.2 37 ((60 * f + p) * 9) = (e_id r.1 : Int) + 1 := R3
  have hc2 : cA (w2.2 37) f r.2.1 ar cs := cA_pQ hc1 R2 (fun d hd => by
    have := hcd d hd
    exact ⟨fun q => by omega, fun q => by omega⟩) (by omega)
  have FR : ∀ k, k % 9 ≠ 4 ∧ k % 9 ≠ 5 ∨ (60 * f + p) * 9 ≤ k → k ≠ (60 * f + p) * 9 → ¬ ((60 * f + (p + 1)) * 9 ≤ k ∧ k < (60 * f + r.2.1) * 9) → w2.2 37 k = w1.2 37 k := fun k hk h1 h2 => R2.1 k (fun q => by omega) fun d hd => by
    have := hcd d hd
    omega
  refine hA none r.2.1 (60 * f + p) 1 hb ar _ _ w2 i2 cs (by omega) R1 ⟨by omega, by omega⟩ (by decide) (by rw [hkn, if_neg (by omega)]) hc2 ⟨by omega, by omega⟩ fun w3 i3 j3 j4 R' => ?_
  rw [hr'] at R' j4
  obtain ⟨U1, U2, U3, U4, U5⟩ := R'
  have FU : ∀ k, k % 9 ≠ 4 ∧ k % 9 ≠ 5 ∨ (60 * f + p) * 9 ≤ k → k ≠ (60 * f + p) * 9 + 1 → ¬ ((60 * f + r.2.1) * 9 ≤ k ∧ k < (60 * f + r'.2.1) * 9) → w3.2 37 k = w2.2 37 k := fun k hk h1 h2 => U2.1 k (fun q => by omega) fun d hd => by
    have := hcd d hd
    omega
  refine K w3 i3 (by omega) (by show i3 ≤ i + 4 * ((r'.2.1 : Int) - p) + 1; omega) ⟨?_, ?_, ?_, ?_, ?_⟩
  · show RI w0 f z st r'.2.1 (l ++ (r.2.2 ++ r'.2.2)) w3
    rw [← List.append_assoc]
    exact U1
  · show pQ _ _ _ _ (rOut f p r'.2.1 (on * 9 + sn)) _ _ _
    refine pQ_eq (pQ_tr (pQ_tr (pQ_mono T (S' := rOut f p r'.2.1 (on * 9 + sn)) fun k q => by omega) (pQ_mono R2 fun k q => by omega) fun d hd => ⟨(hcd d hd).1, fun q => by
      have := hcd d hd
      omega⟩) (pQ_mono U2 fun k q => by omega) fun d hd => ⟨(hcd d hd).1, fun q => by
      have := hcd d hd
      omega⟩) ?_ fun m => ?_
    · rw [e_imp_ce1]
      show _ = (kn' == 29 || e_imp r.1 || e_imp r'.1 || false)
      rw [Bool.or_false]
    · rw [e_nm_ce1]
      show _ = ((kn' == 7 && (w0.2 5 (60 * f + p) % 10).toNat == m) || e_nm r.1 m || e_nm r'.1 m || false)
      rw [Bool.or_false]
  · rw [FU _ (by omega) (by omega) (by omega), FR _ (by omega) (by omega) (by omega)]
    exact t0
  · refine eR_mk ⟨by omega, hkn, rfl, ν0, ν1, k6, by omega, h46'⟩ (by rw [FU _ (by omega) (by omega) (by omega), FR _ (by omega) (by omega) (by omega)]; exact t6) (fun q => absurd q c8) (fun _ => ⟨by rw [FU _ (by omega) (by omega) (by omega)]; exact R3, ?_⟩) (fun _ => ⟨U3, U4⟩) (fun q => by omega) (fun q => absurd q nF) (fun q => by omega) (fun q => by omega) fun _ => rfl
    rw [if_neg nF]
    exact eR_pQ R4 R5 U2 (fun k k1 k2 q => by omega) fun d hd => by
      have := hcd d hd
      omega
  · rw [e_all_ce1]
    exact ⟨⟨by omega, by show 60 * f + p < 60 * f + r'.2.1; omega⟩, e_all_mono (fun _ q => ⟨by omega, by show _ < 60 * f + r'.2.1; omega⟩) _ R5, e_all_mono (fun _ q => ⟨by omega, q.2⟩) _ U5, trivial⟩
theorem rA_3 {own : Option Nat} {p on sn kn : Nat} {hb : Bool} {ar : Int} {st : List SE} {l : List Int} {w : W_} {i : Int} {cs : List Int} (H0 : FI w0 f z) (h46 : a46 f ≠ 0) (hA : rA w0 f z a46 P n) (hn : z + 1 ≤ n + 1 + p) (H : RI w0 f z ((2, (on : Int), (sn : Int), (if hb = true then 1 else 0), ar) :: st) p l w) (ho : 60 * f ≤ on ∧ on < 60 * f + p) (hs : sn < 3) (hc : cA (w.2 37) f p ar cs) (hi : 0 ≤ i ∧ i + 4 * ((z : Int) - p) ≤ 900) (c1 : p < z) (hkn : w0.2 3 (60 * f + p) = kn) (k6 : 6 ≤ kn) (c8 : kn ≠ 8) (jp : j_par kn = 3) (nF : ¬ (kn = 16 ∨ kn = 22)) (K : ∀ w' i', i ≤ i' → i' ≤ i + 4 * (((j_go (n + 1) (tJ (w0.2 3) (w0.2 5) (w0.2 7) f) none own p).2.1 : Int) - p) + 1 → rO w0 f z a46 st p l (on * 9 + sn) vE1 0 hb cs (j_go (n + 1) (tJ (w0.2 3) (w0.2 5) (w0.2 7) f) none own p) w w' → rl P f i' w') : rl P f i w := by
  obtain ⟨f3, z6, hz7⟩ := H0.2.1
  have hJz := tJ_z H0
  obtain ⟨kn', hkn', k32, hJk, ν0, ν1⟩ := tJ_k H0 c1
  have : kn' = kn := by omega
  subst this
  have hJν : (tJ (w0.2 3) (w0.2 5) (w0.2 7) f).2.1 p = w0.2 5 (60 * f + p) := rfl
  have hJi : j_id (tJ (w0.2 3) (w0.2 5) (w0.2 7) f) p = 60 * f + p := rfl
  have hJp : p < (tJ (w0.2 3) (w0.2 5) (w0.2 7) f).2.2.1 := by rw [hJz]; exact c1
  have hid : (60 * f + p) / 60 = f := by omega
  have h46' : a46 ((60 * f + p) / 60) ≠ 0 := by rw [hid]; exact h46
  have k15 : kn' ≠ 15 := fun q => by rw [q] at jp; exact absurd jp (by decide)
  have hcd : ∀ d, d ∈ cs → 0 ≤ d ∧ d < ((60 * f + p : Nat) : Int) := fun d hd => by
    have := cA_mem hc hd
    omega
  obtain ⟨r, hr⟩ : ∃ r, j_go n (tJ (w0.2 3) (w0.2 5) (w0.2 7) f) none none (p + 1) = r := ⟨_, rfl⟩
  have gz := j_go_sz n (tJ (w0.2 3) (w0.2 5) (w0.2 7) f) none none (p + 1)
  rw [hr, hJz] at gz
  have gz2 := gz.2 (by omega)
  obtain ⟨r', hr'⟩ : ∃ r', j_go n (tJ (w0.2 3) (w0.2 5) (w0.2 7) f) none none r.2.1 = r' := ⟨_, rfl⟩
  have gy := j_go_sz n (tJ (w0.2 3) (w0.2 5) (w0.2 7) f) none none r.2.1
  rw [hr', hJz] at gy
  have gy2 := gy.2 gz2
  obtain ⟨r'', hr''⟩ : ∃ r'', j_go n (tJ (w0.2 3) (w0.2 5) (w0.2 7) f) none none r'.2.1 = r'' := ⟨_, rfl⟩
  have gx := j_go_sz n (tJ (w0.2 3) (w0.2 5) (w0.2 7) f) none none r'.2.1
  rw [hr'', hJz] at gx
  have gx2 := gx.2 gy2
  rw [jg_3 hJp (by rw [hJk]; exact k6) (by rw [hJk]; exact c8) (by rw [hJk]; exact jp) hr hr' hr'', hJk, hJi, hJν] at K
  refine rA_own H0 H ho hs hc ⟨by omega, by omega⟩ c1 hkn k6 c8 fun w1 h1 T t0 t6 t7 t8 ts hc1 => ?_
  rw [if_neg nF, if_neg nF, jp] at h1
  refine hA none (p + 1) (60 * f + p) 0 hb ar _ l w1 (i + 1) cs (by omega) h1 ⟨by omega, by omega⟩ (by decide) (by rw [hkn, if_neg (by omega)]) hc1 ⟨by omega, by omega⟩ fun w2 i2 j1 j2 R => ?_
  rw [hr] at R j2
  obtain ⟨R1, R2, R3, R4, R5⟩ := R
  have R3 : w2.2 37 ((60 * f + p) * 9) = (e_id r.1 : Int) + 1 := R3
  have hc2 : cA (w2.2 37) f r.2.1 ar cs := cA_pQ hc1 R2 (fun d hd => by
    have := hcd d hd
    exact ⟨fun q => by omega, fun q => by omega⟩) (by omega)
  have FR : ∀ k, k % 9 ≠ 4 ∧ k % 9 ≠ 5 ∨ (60 * f + p) * 9 ≤ k → k ≠ (60 * f + p) * 9 → ¬ ((60 * f + (p + 1)) * 9 ≤ k ∧ k < (60 * f + r.2.1) * 9) → w2.2 37 k = w1.2 37 k := fun k hk h1 h2 => R2.1 k (fun q => by omega) fun d hd => by
    have := hcd d hd
    omega
  refine hA none r.2.1 (60 * f + p) 1 hb ar _ _ w2 i2 cs (by omega) R1 ⟨by omega, by omega⟩ (by decide) (by rw [hkn, if_neg (by omega)]) hc2 ⟨by omega, by omega⟩ fun w3 i3 j3 j4 R' => ?_
  rw [hr'] at R' j4
  obtain ⟨U1, U2, U3, U4, U5⟩ := R'
  have FU : ∀ k, k % 9 ≠ 4 ∧ k % 9 ≠ 5 ∨ (60 * f + p) * 9 ≤ k → k ≠ (60 * f + p) * 9 + 1 → ¬ ((60 * f + r.2.1) * 9 ≤ k ∧ k < (60 * f + r'.2.1) * 9) → w3.2 37 k = w2.2 37 k := fun k hk h1 h2 => U2.1 k (fun q => by omega) fun d hd => by
    have := hcd d hd
    omega
  have hc3 : cA (w3.2 37) f r'.2.1 ar cs := cA_pQ hc2 U2 (fun d hd => by
    have := hcd d hd
    exact ⟨fun q => by omega, fun q => by omega⟩) (by omega)
  refine hA none r'.2.1 (60 * f + p) 2 hb ar _ _ w3 i3 cs (by omega) U1 ⟨by omega, by omega⟩ (by decide) (by rw [hkn, if_neg (by omega)]) hc3 ⟨by omega, by omega⟩ fun w4 i4 j5 j6 R'' => ?_
  rw [hr''] at R'' j6
  obtain ⟨V1, V2, V3, V4, V5⟩ := R''
  have FV : ∀ k, k % 9 ≠ 4 ∧ k % 9 ≠ 5 ∨ (60 * f + p) * 9 ≤ k → k ≠ (60 * f + p) * 9 + 2 → ¬ ((60 * f + r'.2.1) * 9 ≤ k ∧ k < (60 * f + r''.2.1) * 9) → w4.2 37 k = w3.2 37 k := fun k hk h1 h2 => V2.1 k (fun q => by omega) fun d hd => by
    have := hcd d hd
    omega
  refine K w4 i4 (by omega) (by show i4 ≤ i + 4 * ((r''.2.1 : Int) - p) + 1; omega) ⟨?_, ?_, ?_, ?_, ?_⟩
  · show RI w0 f z st r''.2.1 (l ++ (r.2.2 ++ (r'.2.2 ++ r''.2.2))) w4
    rw [← List.append_assoc, ← List.append_assoc]
    exact V1
  · show pQ _ _ _ _ (rOut f p r''.2.1 (on * 9 + sn)) _ _ _
    refine pQ_eq (pQ_tr (pQ_tr (pQ_tr (pQ_mono T (S' := rOut f p r''.2.1 (on * 9 + sn)) fun k q => by omega) (pQ_mono R2 fun k q => by omega) fun d hd => ⟨(hcd d hd).1, fun q => by
      have := hcd d hd
      omega⟩) (pQ_mono U2 fun k q => by omega) fun d hd => ⟨(hcd d hd).1, fun q => by
      have := hcd d hd
      omega⟩) (pQ_mono V2 fun k q => by omega) fun d hd => ⟨(hcd d hd).1, fun q => by
      have := hcd d hd
      omega⟩) ?_ fun m => ?_
    · rw [e_imp_ce1]
    · rw [e_nm_ce1]
  · rw [FV _ (by omega) (by omega) (by omega), FU _ (by omega) (by omega) (by omega), FR _ (by omega) (by omega) (by omega)]
    exact t0
  · refine eR_mk ⟨by omega, hkn, rfl, ν0, ν1, k6, by omega, h46'⟩ (by rw [FV _ (by omega) (by omega) (by omega), FU _ (by omega) (by omega) (by omega), FR _ (by omega) (by omega) (by omega)]; exact t6) (fun q => absurd q c8) (fun _ => ⟨by rw [FV _ (by omega) (by omega) (by omega), FU _ (by omega) (by omega) (by omega)]; exact R3, ?_⟩) (fun _ => ⟨by rw [FV _ (by omega) (by omega) (by omega)]; exact U3, ?_⟩) (fun q => ⟨V3, V4⟩) (fun q => absurd q nF) (fun q => by omega) (fun q => by omega) fun q => by omega
    · rw [if_neg nF]
      refine eR_pQ (eR_pQ R4 R5 U2 (fun k k1 k2 q => by omega) fun d hd => ?_) R5 V2 (fun k k1 k2 q => by omega) fun d hd => ?_
      · have := hcd d hd
        omega
      · have := hcd d hd
        omega
    · exact eR_pQ U4 U5 V2 (fun k k1 k2 q => by omega) fun d hd => by
        have := hcd d hd
        omega
  · rw [e_all_ce1]
    exact ⟨⟨by omega, by show 60 * f + p < 60 * f + r''.2.1; omega⟩, e_all_mono (fun _ q => ⟨by omega, by show _ < 60 * f + r''.2.1; omega⟩) _ R5, e_all_mono (fun _ q => ⟨by omega, by show _ < 60 * f + r''.2.1; omega⟩) _ U5, e_all_mono (fun _ q => ⟨by omega, q.2⟩) _ V5⟩
theorem rA_succ (H0 : FI w0 f z) (h46 : a46 f ≠ 0) (hA : rA w0 f z a46 P n) (hB : rB w0 f z a46 P n) : rA w0 f z a46 P (n + 1) := by
  intro own p on sn hb ar st l w i cs hn H ho hs hown hc hi K
  obtain ⟨f3, z6, hz7⟩ := H0.2.1
  have hpz := H.2.2.1.2.2
  have hJz := tJ_z H0
  have hcs : ∀ d, d ∈ cs → 60 * (f : Int) ≤ d ∧ d < 60 * (f : Int) + p := fun d hd => cA_mem hc hd
  have hq : (on * 9 + sn) % 9 < 4 ∧ on * 9 + sn < (60 * f + p) * 9 := by omega
  have hS : ∀ p' : Nat, ∀ d, d ∈ cs → 0 ≤ d ∧ ¬ rOut f p p' (on * 9 + sn) (d * 9 + 4).toNat ∧ ¬ rOut f p p' (on * 9 + sn) (d * 9 + 5).toNat ∧ ¬ rOut f p p' (on * 9 + sn) (d * 9 + 7).toNat ∧ ¬ rOut f p p' (on * 9 + sn) (d * 9 + 8).toNat := fun p' d hd => by
    have := hcs d hd
    refine ⟨by omega, ?_, ?_, ?_, ?_⟩ <;> (intro q; omega)
  by_cases c1 : z ≤ p
  · rw [jg_end (by rw [hJz]; exact c1)] at K
    refine rt_part H0 H ⟨by omega, by omega⟩ (rd_p1 H0 H ho hs c1) fun w' h => ?_
    refine K w' (i + 1) (by omega) (by show i + 1 ≤ i + 4 * ((p : Int) - p) + 1; omega) ⟨h.1, ?_, ?_, trivial, trivial⟩
    · exact pQ_S (fun k hk => by rw [h.2, if_neg fun e => hk (Or.inl e)]) fun d hd => ⟨(hS p d hd).1, (hS p d hd).2.1, (hS p d hd).2.2.1⟩
    · rw [h.2, if_pos rfl]; rfl
  have c1 : p < z := by omega
  obtain ⟨kn, hkn, k32, hJk, ν0, ν1⟩ := tJ_k H0 c1
  have hJν : (tJ (w0.2 3) (w0.2 5) (w0.2 7) f).2.1 p = w0.2 5 (60 * f + p) := rfl
  have hJi : j_id (tJ (w0.2 3) (w0.2 5) (w0.2 7) f) p = 60 * f + p := rfl
  have hJp : p < (tJ (w0.2 3) (w0.2 5) (w0.2 7) f).2.2.1 := by rw [hJz]; exact c1
  by_cases c2 : kn < 6
  · rw [jg_bad hJp (by rw [hJk]; omega), hJk] at K
    have hp' : (if (kn : Int) = 5 then p else p + 1) = (if kn = 5 then p else p + 1) := by
      by_cases c : kn = 5
      · rw [if_pos (by omega), if_pos c]
      · rw [if_neg (by omega), if_neg c]
    refine rt_part H0 H ⟨by omega, by omega⟩ (rd_p2 H0 H ho hs c1 hkn (by omega)) fun w' h => ?_
    rw [hp'] at h
    refine K w' (i + 1) (by omega) ?_ ⟨h.1, ?_, ?_, trivial, trivial⟩
    · show i + 1 ≤ i + 4 * (((if kn = 5 then p else p + 1 : Nat) : Int) - p) + 1
      split <;> omega
    · exact pQ_S (fun k hk => by rw [h.2, if_neg fun e => hk (Or.inl e)]) fun d hd => ⟨(hS p d hd).1, (hS (if kn = 5 then p else p + 1) d hd).2.1, (hS (if kn = 5 then p else p + 1) d hd).2.2.1⟩
    · rw [h.2, if_pos rfl]; rfl
  have hz0 : ∀ s, s < 9 → w.2 37 ((60 * f + p) * 9 + s) = 0 := fun s hs => H.2.2.2 p s (Nat.le_refl _) c1 hs
  have hcd : ∀ d, d ∈ cs → 0 ≤ d ∧ d < ((60 * f + p : Nat) : Int) := fun d hd => by
    have := hcs d hd
    omega
  have hid : (60 * f + p) / 60 = f := by omega
  have h46' : a46 ((60 * f + p) / 60) ≠ 0 := by rw [hid]; exact h46
  by_cases c8 : kn = 8
  · subst c8
    rw [jg_8 hJp hJk rfl] at K
    have gz := j_go_sz n (tJ (w0.2 3) (w0.2 5) (w0.2 7) f) (some (false, false)) none (p + 1)
    have gz2 := gz.2 (by rw [hJz]; omega)
    rw [hJz] at gz2
    refine rt_part H0 H ⟨by omega, by omega⟩ (rd_f8 H0 H ho hs c1 hkn rfl rfl hc) fun w1 h1 => ?_
    obtain ⟨T, t0, t6, t7, t8, ts⟩ := own_step h1.2 hcd hq hz0
    have hc1 : cA (w1.2 37) f (p + 1) ar cs := cA_pQ hc T (fun d hd => by
      have := hcd d hd
      exact ⟨by omega, by omega⟩) (Nat.le_succ p)
    have e0 : w1.2 37 (lnk ((60 * f + p : Nat) : Int) 0) = 0 := by
      have e : lnk ((60 * f + p : Nat) : Int) 0 = (60 * f + p) * 9 + 0 := by
        unfold lnk
        rw [if_pos rfl]
        omega
      rw [e]
      exact ts 0 (by decide)
    have el : lnk ((60 * f + p : Nat) : Int) 0 = (60 * f + p) * 9 := by
      unfold lnk
      rw [if_pos rfl]
      omega
    refine hB false false true (p + 1) _ 0 1 ar st l w1 (i + 1) cs (by omega) h1.1 (Or.inr ⟨rfl, by omega, by omega⟩) (Or.inl rfl) e0 hc1 ⟨by omega, by omega⟩ fun w2 i2 j1 j2 R => ?_
    generalize j_go n (tJ (w0.2 3) (w0.2 5) (w0.2 7) f) (some (false, false)) none (p + 1) = r at *
    obtain ⟨R1, R2, R3, R4, R5⟩ := R
    rw [el] at R2 R3
    have FR : ∀ k, k % 9 ≠ 4 ∧ k % 9 ≠ 5 ∨ (60 * f + p) * 9 ≤ k → k ≠ (60 * f + p) * 9 → ¬ ((60 * f + (p + 1)) * 9 ≤ k ∧ k < (60 * f + r.2.1) * 9) → w2.2 37 k = w1.2 37 k := fun k hk h1 h2 => R2.1 k (fun q => by omega) fun d hd => by
      have := hcd d hd
      omega
    refine K w2 i2 (by omega) (by show i2 ≤ i + 4 * ((r.2.1 : Int) - p) + 1; omega) ⟨R1, ?_, ?_, ?_, ?_⟩
    · show pQ _ _ _ _ (rOut f p r.2.1 (on * 9 + sn)) _ _ _
      refine pQ_eq (pQ_tr (pQ_mono T (S' := rOut f p r.2.1 (on * 9 + sn)) fun k q => by omega) (pQ_mono R2 fun k q => by omega) fun d hd => ⟨(hS r.2.1 d hd).1, (hS r.2.1 d hd).2.2.2.1⟩) ?_ fun m => ?_
      · rw [e_imp_ce1]
        show (false || e_imp r.1) = (false || e_imp r.1 || false || false)
        rw [Bool.or_false, Bool.or_false]
      · rw [e_nm_ce1]
        show (false || e_nm r.1 m) = (false || e_nm r.1 m || false || false)
        rw [Bool.or_false, Bool.or_false]
    · rw [FR _ (by omega) (by omega) (by omega)]
      exact t0
    · refine eR_mk (k := 8) ⟨by rw [hJi]; omega, by rw [hJi]; exact hkn, by rw [hJi, hJν], by rw [hJν]; exact ν0, by rw [hJν]; exact ν1, by decide, by decide, by rw [hJi]; exact h46'⟩ ?_ (fun _ => ⟨by rw [hJi]; exact R3, R4⟩) (fun q => absurd q (by decide)) (fun q => absurd q (by decide)) (fun q => absurd q (by decide)) (fun q => absurd q (by decide)) (fun _ q => absurd rfl q) (fun _ => Or.inl rfl) fun _ => rfl
      rw [hJi, FR _ (by omega) (by omega) (by omega)]
      exact t6
    · rw [e_all_ce1, hJi]
      exact ⟨⟨by omega, by show 60 * f + p < 60 * f + r.2.1; omega⟩, e_all_mono (fun _ q => ⟨by omega, q.2⟩) _ R5, trivial, trivial⟩
  by_cases F : kn = 16 ∨ kn = 22
  · exact rA_F H0 h46 hA hn H ho hs hown hc hi c1 hkn F K
  have j3 := jp_3 kn
  rcases (show j_par kn = 0 ∨ j_par kn = 1 ∨ j_par kn = 2 ∨ j_par kn = 3 by omega) with jp | jp | jp | jp
  · exact rA_0 H0 h46 H ho hs hc ⟨by omega, by omega⟩ c1 hkn (by omega) c8 jp K
  · exact rA_1 H0 h46 hA hn H ho hs hc hi c1 hkn (by omega) c8 jp F K
  · exact rA_2 H0 h46 hA hn H ho hs hc hi c1 hkn (by omega) c8 jp F K
  · exact rA_3 H0 h46 hA hn H ho hs hc hi c1 hkn (by omega) c8 jp F K
end
