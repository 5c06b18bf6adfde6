/-! ===== reading a file: all that follows of a part; the pure reading, case by case ===== -/
/-- the parts of an expression are still to come -/
def pa (id : Nat) (ib ar : Int) : Nat → List SE → List SE
  | 0, st => st
  | j + 1, st => pa id ib ar j ((2, (id : Int), (j : Int), ib, ar) :: st)
section
variable {w0 : W_} {f z : Nat} {st : List SE} {p : Nat} {l : List Int} {w : W_} {ib ar i : Int} {P : Option am_V → W_ → Prop}
theorem rd_pu {on sn id : Nat} {kn la : Int} (H0 : FI w0 f z) (hid : id < 180) (hla : la = 0 ∨ la = 1) : ∀ (j : Nat) (st : List SE) (W : W_), j ≤ 3 → RI w0 f z st p l W → st.length + j ≤ 3 * p + 1 → (∀ W', RI w0 f z (pa id (if la = 1 then 0 else ib) (if la = 1 then (id : Int) + 1 else ar) j st) p l W' → W'.2 37 = W.2 37 → P none W') → ww_Z 10 10 8 0 cX10_readPart none P 347 [.inr (.inr (.inl 36)), .inl (on : Int), .inl (sn : Int), .inl ib, .inl ar, .inl (id : Int), .inl 0, .inl kn, .inl la, .inl ((j : Int) - 1)] [] W := by
  intro j
  induction j with
  | zero =>
    intro st W _ H _ K
    exact lk_138q (by unfold am_rg; omega) (by omega) (K W H rfl)
  | succ j ih =>
    intro st W hj H hl K
    have hz := H0.2.1
    obtain ⟨h4, -, -⟩ := H.2.1
    have hp := H.2.2.1.2.2
    rw [show (((j + 1 : Nat) : Int) - 1) = (j : Int) by omega]
    rcases hla with rfl | rfl
    · refine lk_138r0 ⟨by omega, by omega⟩ ⟨by omega, by omega⟩ ⟨by omega, by omega⟩ ?_
      refine ih _ _ (by omega) (RI_ex H (by omega)) (by rw [List.length_cons]; omega) fun W' h1 h2 => K W' h1 (h2.trans ex_37)
    · refine lk_138r1 ⟨by omega, by omega⟩ ⟨by omega, by omega⟩ ⟨by omega, by omega⟩ ?_
      refine ih _ _ (by omega) (RI_ex H (by omega)) (by rw [List.length_cons]; omega) fun W' h1 h2 => K W' h1 (h2.trans ex_37)
/-- an expression but a block -/
theorem rd_fk {on sn kn : Nat} {κo ν : Int} {cs : List Int} (H0 : FI w0 f z) (H : RI w0 f z ((2, (on : Int), (sn : Int), ib, ar) :: st) p l w) (ho : 60 * f ≤ on ∧ on < 60 * f + p) (hs : sn < 3) (hp : p < z) (hk : w0.2 3 (60 * f + p) = kn) (k6 : 6 ≤ kn) (k8 : kn ≠ 8) (hko : w0.2 3 on = κo) (hν : w0.2 5 on = ν) (hc : cA (w.2 37) f p ar cs) : ww_Ct 138 8 [.inr (.inr (.inl 36))] w fun r w' => r = none ∧ RI w0 f z (pa (60 * f + p) (if kn = 16 ∨ kn = 22 then 0 else ib) (if kn = 16 ∨ kn = 22 then ((60 * f + p : Nat) : Int) + 1 else ar) (j_par kn) st) (p + 1) l w' ∧ pQ (w0.2 3) (w0.2 5) (uP (w.2 37) (on * 9 + sn) (60 * f + p) ib ar (if (kn : Int) = 16 ∧ κo = 15 then some (ν % 10 + 1) else none)) (w'.2 37) (fun _ => False) cs (kn == 29) fun j => kn == 7 && (w0.2 5 (60 * f + p) % 10).toNat == j := by
  obtain ⟨f3, z6, -⟩ := H0.2.1
  have kk := H0.2.2 (60 * f + p) (by omega)
  rw [hk] at kk
  have hl := H.2.2.1.2.1
  rw [List.length_cons] at hl
  refine rd_p298 H0 H ho hs hp hk k6 hko hν hc fun W HW hW => ?_
  have hz := HW.2.2.1
  obtain ⟨h4, -, -⟩ := HW.2.1
  have h3 := jp_3 kn
  refine rd_p347 ⟨k6, by omega⟩ k8 ⟨by omega, by omega⟩ ?_
  have hla : ((if kn = 16 ∨ kn = 22 then 1 else 0) : Int) = 0 ∨ ((if kn = 16 ∨ kn = 22 then 1 else 0) : Int) = 1 := by
    split <;> omega
  refine rd_pu H0 (by omega) hla (j_par kn) st W h3 HW (by omega) fun W' h1 h2 => ?_
  refine ⟨rfl, ?_, by rw [h2]; exact hW⟩
  by_cases c : kn = 16 ∨ kn = 22
  · rw [if_pos c, if_pos rfl, if_pos rfl] at h1
    rw [if_pos c, if_pos c]
    exact h1
  · rw [if_neg c, if_neg (by decide), if_neg (by decide)] at h1
    rw [if_neg c, if_neg c]
    exact h1
/-- a block -/
theorem rd_f8 {on sn : Nat} {κo ν : Int} {cs : List Int} (H0 : FI w0 f z) (H : RI w0 f z ((2, (on : Int), (sn : Int), ib, ar) :: st) p l w) (ho : 60 * f ≤ on ∧ on < 60 * f + p) (hs : sn < 3) (hp : p < z) (hk : w0.2 3 (60 * f + p) = (8 : Nat)) (hko : w0.2 3 on = κo) (hν : w0.2 5 on = ν) (hc : cA (w.2 37) f p ar cs) : ww_Ct 138 8 [.inr (.inr (.inl 36))] w fun r w' => r = none ∧ RI w0 f z ((0, ((60 * f + p : Nat) : Int), 0, 1, ar) :: st) (p + 1) l w' ∧ pQ (w0.2 3) (w0.2 5) (uP (w.2 37) (on * 9 + sn) (60 * f + p) ib ar none) (w'.2 37) (fun _ => False) cs false fun _ => false := by
  obtain ⟨f3, z6, -⟩ := H0.2.1
  have hl := H.2.2.1.2.1
  rw [List.length_cons] at hl
  refine rd_p298 H0 H ho hs hp hk (by decide) hko hν hc fun W HW hW => ?_
  have hz := HW.2.2.1
  obtain ⟨h4, -, -⟩ := HW.2.1
  rw [if_neg (by omega)] at hW
  exact lk_138n (by unfold am_rg; omega) ⟨by omega, by omega⟩ (fun _ => ⟨rfl, RI_ex HW (by omega), by rw [ex_37]; exact hW⟩) fun q => absurd rfl q
/-- a turn -/
theorem rt_part {s o : Int} {R : W_ → Prop} (H0 : FI w0 f z) (H : RI w0 f z ((2, o, s, ib, ar) :: st) p l w) (i0 : 0 ≤ i ∧ i ≤ 1000) (hc : ww_Ct 138 8 [.inr (.inr (.inl 36))] w fun r w' => r = none ∧ R w') (L : ∀ w', R w' → rl P f (i + 1) w') : rl P f i w := by
  obtain ⟨c, m, g0, -⟩ := RI_top H0 H
  exact rl_part i0 ⟨by omega, by omega⟩ m g0 (by unfold am_rg; omega) rfl hc L
theorem rt_item {t s o : Int} {R : W_ → Prop} (H0 : FI w0 f z) (H : RI w0 f z ((t, o, s, ib, ar) :: st) p l w) (ht : t = 0 ∨ t = 1) (i0 : 0 ≤ i ∧ i ≤ 1000) (hc : ww_Ct 136 8 [.inr (.inr (.inl 36))] w fun r w' => r = none ∧ R w') (L : ∀ w', R w' → rl P f (i + 1) w') : rl P f i w := by
  obtain ⟨c, m, g0, -⟩ := RI_top H0 H
  exact rl_item i0 ⟨by omega, by omega⟩ m g0 (by unfold am_rg; omega) (by omega) hc L
end
section
variable {n : Nat} {J : J_} {own : Option Nat} {p : Nat} {wh fm : Bool}
theorem jg_end (h : J.2.2.1 ≤ p) : j_go (n + 1) J none own p = (.nil, p, [j_flt J 2 p]) := by
  unfold j_go
  rw [if_pos h]
theorem jg_bad (h : p < J.2.2.1) (k5 : J.1 p ≤ 5) : j_go (n + 1) J none own p = (.nil, if J.1 p = 5 then p else p + 1, [j_flt J 1 p]) := by
  unfold j_go
  rw [if_neg (by omega), if_pos k5]
theorem jg_8 (h : p < J.2.2.1) (k8 : J.1 p = 8) {r : T_ × Nat × List Int} (hr : j_go n J (some (false, false)) none (p + 1) = r) : j_go (n + 1) J none own p = (ce 8 (J.2.1 p) (j_id J p) r.1 .nil .nil, r.2) := by
  unfold j_go
  rw [if_neg (by omega), if_neg (by omega), if_pos k8, hr]
theorem jg_0 (h : p < J.2.2.1) (k6 : 6 ≤ J.1 p) (k8 : J.1 p ≠ 8) (k0 : j_par (J.1 p) = 0) : j_go (n + 1) J none own p = (ce (J.1 p) (J.2.1 p) (j_id J p) .nil .nil .nil, p + 1, []) := by
  unfold j_go
  rw [if_neg (by omega), if_neg (by omega), if_neg k8, if_pos k0]
theorem jg_1 (h : p < J.2.2.1) (k6 : 6 ≤ J.1 p) (k8 : J.1 p ≠ 8) (k1 : j_par (J.1 p) = 1) {a : T_ × Nat × List Int} (ha : j_go n J none (if J.1 p = 15 then some (J.2.1 p % 10).toNat else none) (p + 1) = a) : j_go (n + 1) J none own p = (ce (J.1 p) (J.2.1 p) (j_id J p) a.1 (j_own (J.1 p) own) .nil, a.2) := by
  unfold j_go
  rw [if_neg (by omega), if_neg (by omega), if_neg k8, if_neg (by omega)]
  dsimp only
  rw [if_pos k1, ha]
theorem jg_2 (h : p < J.2.2.1) (k6 : 6 ≤ J.1 p) (k8 : J.1 p ≠ 8) (k2 : j_par (J.1 p) = 2) {a b : T_ × Nat × List Int} (ha : j_go n J none none (p + 1) = a) (hb : j_go n J none none a.2.1 = b) : j_go (n + 1) J none own p = (ce (J.1 p) (J.2.1 p) (j_id J p) a.1 b.1 .nil, b.2.1, a.2.2 ++ b.2.2) := by
  have k15 : J.1 p ≠ 15 := fun q => by rw [q] at k2; exact absurd k2 (by decide)
  unfold j_go
  rw [if_neg (by omega), if_neg (by omega), if_neg k8, if_neg (by omega)]
  dsimp only
  rw [if_neg (by omega), if_pos k2, if_neg k15, ha, hb]
theorem jg_3 (h : p < J.2.2.1) (k6 : 6 ≤ J.1 p) (k8 : J.1 p ≠ 8) (k3 : j_par (J.1 p) = 3) {a b c : T_ × Nat × List Int} (ha : j_go n J none none (p + 1) = a) (hb : j_go n J none none a.2.1 = b) (hc : j_go n J none none b.2.1 = c) : j_go (n + 1) J none own p = (ce (J.1 p) (J.2.1 p) (j_id J p) a.1 b.1 c.1, c.2.1, a.2.2 ++ (b.2.2 ++ c.2.2)) := by
  have k15 : J.1 p ≠ 15 := fun q => by rw [q] at k3; exact absurd k3 (by decide)
  unfold j_go
  rw [if_neg (by omega), if_neg (by omega), if_neg k8, if_neg (by omega)]
  dsimp only
  rw [if_neg (by omega), if_neg (by omega), if_neg k15, ha, hb, hc]
theorem ji_end (h : J.2.2.1 ≤ p) : j_go (n + 1) J (some (wh, fm)) own p = (.nil, p, if wh = true then [] else [j_flt J 2 p]) := by
  unfold j_go
  rw [if_pos h]
theorem ji_cl (h : p < J.2.2.1) (k5 : J.1 p = 5 ∧ wh = false) : j_go (n + 1) J (some (wh, fm)) own p = (.nil, p + 1, []) := by
  unfold j_go
  rw [if_neg (by omega), if_pos k5]
theorem ji_bad (h : p < J.2.2.1) (k5 : ¬ (J.1 p = 5 ∧ wh = false)) (kb : ¬ (J.1 p = 0 ∨ J.1 p = 3 ∨ (fm = false ∧ J.1 p < 5))) {r : T_ × Nat × List Int} (hr : j_go n J (some (wh, fm)) none (p + 1) = r) : j_go (n + 1) J (some (wh, fm)) own p = (r.1, r.2.1, j_flt J 1 p :: r.2.2) := by
  unfold j_go
  rw [if_neg (by omega), if_neg k5, if_neg kb]
  dsimp only
  rw [hr]
theorem ji_ok (h : p < J.2.2.1) (k5 : ¬ (J.1 p = 5 ∧ wh = false)) (kb : J.1 p = 0 ∨ J.1 p = 3 ∨ (fm = false ∧ J.1 p < 5)) {x r : T_ × Nat × List Int} (hx : (if J.1 p = 3 then j_go n J none none (p + 1) else if J.1 p = 4 then j_go n J (some (false, true)) none (p + 1) else (.nil, p + 1, [])) = x) (hr : j_go n J (some (wh, fm)) none x.2.1 = r) : j_go (n + 1) J (some (wh, fm)) own p = (ct (J.1 p) (J.2.1 p) (j_id J p) x.1 r.1, r.2.1, x.2.2 ++ r.2.2) := by
  unfold j_go
  rw [if_neg (by omega), if_neg k5, if_pos kb]
  dsimp only
  rw [hx, hr]
end
/-- what is told of an expression, out of the tree's slots -/
theorem eR_mk {a3 a5 a37 a46 : Nat → Int} {k id : Nat} {n : Int} {a b c : T_} {hb : Bool} (h1 : id < 180 ∧ a3 id = k ∧ a5 id = n ∧ 0 ≤ n ∧ n < 100 ∧ 6 ≤ k ∧ k ≤ 31 ∧ a46 (id / 60) ≠ 0) (h6 : a37 (id * 9 + 6) = if hb = true then 1 else 0) (h8 : k = 8 → a37 (id * 9) = it_id a + 1 ∧ eR a3 a5 a37 a46 1 true a) (p1 : 1 ≤ j_par k → a37 (id * 9) = (e_id a : Int) + 1 ∧ eR a3 a5 a37 a46 0 (if k = 16 ∨ k = 22 then false else hb) a) (p2 : 2 ≤ j_par k → a37 (id * 9 + 1) = (e_id b : Int) + 1 ∧ eR a3 a5 a37 a46 0 hb b) (p3 : 3 ≤ j_par k → a37 (id * 9 + 2) = (e_id c : Int) + 1 ∧ eR a3 a5 a37 a46 0 hb c) (hf : k = 16 ∨ k = 22 → (0 ≤ a37 (id * 9 + 4) ∧ a37 (id * 9 + 4) < 1024 ∧ ∀ m, m < 10 → (bt (a37 (id * 9 + 4)) m ↔ e_use (ce k n id a b c) m = true)) ∧ a37 (id * 9 + 5) = (if e_imp a = true then 1 else 0) ∧ (k = 16 → a37 (id * 9 + 7) - 1 = match e_own (ce k n id a b c) with
      | some m => (m : Int)
      | none => -1)) (s0 : j_par k = 0 → k ≠ 8 → a = .nil) (s1 : j_par k ≤ 1 → b = .nil ∨ ∃ y, b = .nest y .nil ∧ 0 ≤ y ∧ y < 10) (s2 : j_par k ≤ 2 → c = .nil) : eR a3 a5 a37 a46 0 hb (ce k n id a b c) := by
  have E : ∀ s : Nat, wg a37 ((id : Int) * 9 + (s : Int)) = a37 (id * 9 + s) := fun s => wg_0 (by omega)
  have e : wg a37 ((id : Int) * 9) = a37 (id * 9) := wg_0 (by omega)
  have E0 : wg a37 ((id : Int) * 9 + 0) = a37 (id * 9) := E 0
  have E1 : wg a37 ((id : Int) * 9 + 1) = a37 (id * 9 + 1) := E 1
  have E2 : wg a37 ((id : Int) * 9 + 2) = a37 (id * 9 + 2) := E 2
  have E4 : wg a37 ((id : Int) * 9 + 4) = a37 (id * 9 + 4) := E 4
  have E5 : wg a37 ((id : Int) * 9 + 5) = a37 (id * 9 + 5) := E 5
  have E6 : wg a37 ((id : Int) * 9 + 6) = a37 (id * 9 + 6) := E 6
  have E7 : wg a37 ((id : Int) * 9 + 7) = a37 (id * 9 + 7) := E 7
  obtain ⟨g1, g2, g3, g4, g5, g6, g7, g8⟩ := h1
  refine ⟨⟨g1, (wg_0 rfl).trans g2, (wg_0 rfl).trans g3, g4, g5, g6, g7, g8⟩, fun _ => by rw [E6]; exact h6, fun q => ⟨by rw [e, (h8 q).1]; omega, (h8 q).2⟩, fun q => ⟨by rw [E0, (p1 q).1]; omega, (p1 q).2⟩, fun q => ⟨by rw [E1, (p2 q).1]; omega, (p2 q).2⟩, fun q => ⟨by rw [E2, (p3 q).1]; omega, (p3 q).2⟩, fun q => ?_, s0, s1, s2⟩
  rw [E4, E5, E7]
  exact hf q
theorem eR_mkt {a3 a5 a37 a46 : Nat → Int} {m k id : Nat} {n : Int} {x r : T_} {hb : Bool} (h1 : id < 180 ∧ a3 id = k ∧ a5 id = n ∧ 0 ≤ n ∧ n < 100 ∧ k ≤ 4 ∧ a46 (id / 60) ≠ 0) (h2 : m + 1 = 2 → k = 0 ∨ k = 3) (hx : k ≠ 3 → k ≠ 4 → x = .nil) (h3 : a37 (id * 9 + 3) = it_id r + 1) (p3 : k = 3 → a37 (id * 9) = (e_id x : Int) + 1 ∧ eR a3 a5 a37 a46 0 (m + 1 == 1) x) (p4 : k = 4 → a37 (id * 9) = it_id x + 1 ∧ eR a3 a5 a37 a46 2 false x) (hr : eR a3 a5 a37 a46 (m + 1) false r) : eR a3 a5 a37 a46 (m + 1) hb (ct k n id x r) := by
  have E : ∀ s : Nat, wg a37 ((id : Int) * 9 + (s : Int)) = a37 (id * 9 + s) := fun s => wg_0 (by omega)
  have e : wg a37 ((id : Int) * 9) = a37 (id * 9) := wg_0 (by omega)
  have E0 : wg a37 ((id : Int) * 9 + 0) = a37 (id * 9) := E 0
  have E3 : wg a37 ((id : Int) * 9 + 3) = a37 (id * 9 + 3) := E 3
  obtain ⟨g1, g2, g3, g4, g5, g6, g7⟩ := h1
  exact ⟨⟨g1, (wg_0 rfl).trans g2, (wg_0 rfl).trans g3, g4, g5, g6, g7⟩, ⟨h2, hx⟩, by rw [E3, h3]; omega, fun q => ⟨by rw [E0, (p3 q).1]; omega, (p3 q).2⟩, fun q => ⟨by rw [e, (p4 q).1]; omega, (p4 q).2⟩, hr⟩
