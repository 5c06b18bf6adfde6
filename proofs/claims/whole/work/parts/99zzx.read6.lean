/-! ===== reading a file: the rest of a part's turn ===== -/
/-- those around, and their slots -/
def cA (a : Nat → Int) (f p : Nat) (ar : Int) (cs : List Int) : Prop := chA a f (ar - 1) (60 * f + p) cs ∧ ∀ d, d ∈ cs → cO a d
theorem cA_mem {a : Nat → Int} {f p : Nat} {ar : Int} {cs : List Int} (h : cA a f p ar cs) {d : Int} (hd : d ∈ cs) : 60 * (f : Int) ≤ d ∧ d < 60 * (f : Int) + p := by
  have := chA_mem cs h.1 d hd
  omega
theorem cA_ar {a : Nat → Int} {f p : Nat} {ar : Int} {cs : List Int} (h : cA a f p ar cs) : 0 ≤ ar ∧ ar ≤ 60 * (f : Int) + p := by
  cases cs with
  | nil =>
    have := h.1
    have : ar - 1 = -1 := this
    omega
  | cons d l =>
    obtain ⟨h1, h2, h3, -⟩ := h.1
    omega
theorem cA_pQ {a3 a5 a a' : Nat → Int} {f p p' : Nat} {ar : Int} {cs : List Int} {S : Nat → Prop} {im : Bool} {nm : Nat → Bool} (h : cA a f p ar cs) (g : pQ a3 a5 a a' S cs im nm) (hS : ∀ d, d ∈ cs → ¬ S (d * 9 + 7).toNat ∧ ¬ S (d * 9 + 8).toNat) (hp : p ≤ p') : cA a' f p' ar cs := by
  have e : ∀ d, d ∈ cs → ∀ s : Nat, s = 7 ∨ s = 8 → ¬ S (d * 9 + s).toNat → wg a' (d * 9 + s) = wg a (d * 9 + s) := fun d hd s hs hn => by
    have := cA_mem h hd
    rw [wg_0 (k := (d * 9 + s).toNat) (by omega), wg_0 (k := (d * 9 + s).toNat) (by omega)]
    exact g.1 _ hn fun d' _ => by omega
  refine ⟨chA_B (by omega) cs (chA_a cs (fun d hd => e d hd 8 (Or.inr rfl) (hS d hd).2) h.1), fun d hd => ?_⟩
  obtain ⟨h4, h7⟩ := h.2 d hd
  have e7 : wg a' (d * 9 + 7) = wg a (d * 9 + 7) := e d hd 7 (Or.inl rfl) (hS d hd).1
  unfold cO
  rw [e7]
  exact ⟨((g.2 d hd).2 h4).1, h7⟩
theorem uP_ne {a : Nat → Int} {q id : Nat} {ib ar : Int} {g : Option Int} {k : Nat} (h : k ≠ id * 9 + 6 ∧ k ≠ id * 9 + 7 ∧ k ≠ id * 9 + 8) (hq : k ≠ q) : uP a q id ib ar g k = a k := by
  unfold uP
  rw [if_neg h.2.1, if_neg h.2.2, if_neg h.1, if_neg hq]
theorem uP_pQ {a3 a5 a : Nat → Int} {q id : Nat} {ib ar : Int} {g : Option Int} {cs : List Int} (hc : ∀ d, d ∈ cs → 0 ≤ d ∧ d < id) (hq : q % 9 < 4) : pQ a3 a5 a (uP a q id ib ar g) (fun k => k = q ∨ (id * 9 ≤ k ∧ k < (id + 1) * 9)) cs false fun _ => false := by
  refine pQ_S (fun k hk => uP_ne (by omega) (by omega)) fun d hd => ?_
  have := hc d hd
  exact ⟨this.1, by omega, by omega⟩
section
variable {w0 : W_} {f z : Nat} {st : List SE} {p : Nat} {l : List Int} {w : W_} {ib ar i : Int} {P : Option am_V → W_ → Prop}
theorem lk_139t {id : Nat} {k : Int} {bi : Bool} {B : Int} {cs : List Int} (hk : k = if bi = true then 29 else 7) (hid : id < 180) (k3 : ∀ j : Nat, j < 181 → 0 ≤ w.2 3 j ∧ w.2 3 j < 32 ∧ 0 ≤ w.2 5 j ∧ w.2 5 j < 100) (ha : w.2 37 (id * 9 + 8) = ar) (hc : chA (w.2 37) f (ar - 1) B cs) (hB : B ≤ 180 ∧ 60 * (f : Int) ≤ B ∧ B ≤ 60 * (f : Int) + 60) (ho : ∀ d, d ∈ cs → cO (w.2 37) d) : ww_Ct 139 5 [.inr (.inr (.inl 36)), .inl (id : Int), .inl k] w fun r w' => r = none ∧ (w'.1 = w.1 ∧ (∀ b, b ≠ 37 → w'.2 b = w.2 b) ∧ pQ (w.2 3) (w.2 5) (w.2 37) (w'.2 37) (fun _ => False) cs bi fun j => !bi && (w.2 5 id % 10).toNat == j) := by
  have kn := k3 id (by omega)
  have a0 : 0 ≤ ar ∧ ar ≤ 184 := by
    cases cs with
    | nil =>
      have : ar - 1 = -1 := hc
      omega
    | cons d l =>
      obtain ⟨h1, h2, h3, -⟩ := hc
      omega
  refine lk_139a (nu := w.2 5 id) (m := ((w.2 5 id % 10).toNat : Int)) (ar := ar) ⟨by omega, by omega⟩ (w_g_0 w 5 rfl) ⟨kn.2.2.1, kn.2.2.2⟩ (by omega) (by rw [w_g_0 w 37 (k := id * 9 + 8) (by omega)]; exact ha) a0 ?_
  exact tl_loop hk rfl (by omega) k3 cs (ar - 1) B 60 _ w rfl rfl hc hB.1 (by have := chA_len cs hB.2.1 hc; omega) (Int.le_refl _) ho fun w' h1 h2 h3 => ⟨rfl, h1, h2, h3⟩
theorem RI_T {a3 a5 : Nat → Int} {w' : W_} {cs : List Int} {im : Bool} {nm : Nat → Bool} (H : RI w0 f z st p l w) (h1 : w'.1 = w.1) (h2 : ∀ b, b ≠ 37 → w'.2 b = w.2 b) (g : pQ a3 a5 (w.2 37) (w'.2 37) (fun _ => False) cs im nm) (hc : ∀ d, d ∈ cs → d < 60 * (f : Int) + p) : RI w0 f z st p l w' := by
  obtain ⟨h, h3, h4, hz⟩ := H
  refine ⟨tE_tr h ⟨fun a j _ => by rw [h1], fun b q _ => h2 b q⟩, by rw [h1]; exact h3, by rw [h2 39 (by decide)]; exact h4, fun q s q1 q2 q3 => ?_⟩
  refine (g.1 _ (fun y => y) fun d hd => ?_).trans (hz q s q1 q2 q3)
  have := hc d hd
  omega
/-- a part, up to what follows of it -/
theorem rd_p298 {on sn kn : Nat} {κo ν : Int} {cs : List Int} (H0 : FI w0 f z) (H : RI w0 f z ((2, (on : Int), (sn : Int), ib, ar) :: st) p l w) (ho : 60 * f ≤ on ∧ on < 60 * f + p) (hs : sn < 3) (hp : p < z) (hk : w0.2 3 (60 * f + p) = kn) (k6 : 6 ≤ kn) (hko : w0.2 3 on = κo) (hν : w0.2 5 on = ν) (hc : cA (w.2 37) f p ar cs) (L : ∀ W, RI w0 f z st (p + 1) l W → pQ (w0.2 3) (w0.2 5) (uP (w.2 37) (on * 9 + sn) (60 * f + p) ib ar (if (kn : Int) = 16 ∧ κo = 15 then some (ν % 10 + 1) else none)) (W.2 37) (fun _ => False) cs (kn == 29) (fun j => kn == 7 && (w0.2 5 (60 * f + p) % 10).toNat == j) → ww_Z 10 10 8 0 cX10_readPart none P 298 [.inr (.inr (.inl 36)), .inl (on : Int), .inl (sn : Int), .inl ib, .inl ar, .inl ((60 * f + p : Nat) : Int), .inl 0, .inl (kn : Int), am_X, am_X] [] W) : ww_Ct 138 8 [.inr (.inr (.inl 36))] w P := by
  obtain ⟨f3, z6, -⟩ := H0.2.1
  have kk := H0.2.2 (60 * f + p) (by omega)
  rw [hk] at kk
  refine rd_p276 H0 H ho hs hp hk (by omega) hko hν fun W HW eW => ?_
  rw [← eW] at L
  have hcW : cA (W.2 37) f (p + 1) ar cs := by
    rw [eW]
    refine cA_pQ hc (uP_pQ (a3 := w0.2 3) (a5 := w0.2 5) (fun d hd => ?_) (by omega)) (fun d hd => ?_) (Nat.le_succ p)
    · have := cA_mem hc hd
      omega
    · have := cA_mem hc hd
      exact ⟨by omega, by omega⟩
  by_cases c : kn = 7 ∨ kn = 29
  · obtain ⟨-, e3, e5, -⟩ := RI_fl H0 HW
    have e8 : W.2 37 ((60 * f + p) * 9 + 8) = ar := by
      rw [eW]
      unfold uP
      rw [if_neg (by omega), if_pos rfl]
    have hmem : ∀ d, d ∈ cs → d < 60 * (f : Int) + (p + 1 : Nat) := fun d hd => (cA_mem hcW hd).2
    refine lk_138m (by omega) (lk_139t (bi := kn == 29) (f := f) (B := 60 * (f : Int) + (p + 1 : Nat)) (cs := cs) ?_ (by omega) (by rw [e3, e5]; exact H0.2.2) e8 hcW.1 ⟨by omega, by omega, by omega⟩ hcW.2) fun w' hw => ?_
    · rcases c with rfl | rfl <;> rfl
    · rw [e3, e5] at hw
      refine L w' (RI_T HW hw.1 hw.2.1 hw.2.2 hmem) ?_
      have e : (fun j => kn == 7 && (w0.2 5 (60 * f + p) % 10).toNat == j) = fun j => !(kn == 29) && (w0.2 5 (60 * f + p) % 10).toNat == j := by
        funext j
        rcases c with rfl | rfl <;> rfl
      rw [e]
      exact hw.2.2
  · refine lk_138m0 (by unfold am_rg; omega) (by omega) (L W HW ?_)
    have e1 : (kn == 29) = false := by
      rw [beq_eq_false_iff_ne]
      omega
    have e2 : (kn == 7) = false := by
      rw [beq_eq_false_iff_ne]
      omega
    rw [e1, e2]
    exact ⟨fun _ _ _ => rfl, fun d hd => tD_refl⟩
theorem jp_i (k : Nat) : (if (k : Int) = 14 then (3 : Int) else if (9 ≤ (k : Int) ∧ (k : Int) ≤ 13) ∨ (k : Int) = 17 ∨ (k : Int) = 30 then 2 else if (k : Int) = 15 ∨ (k : Int) = 16 ∨ (18 ≤ (k : Int) ∧ (k : Int) ≤ 22) ∨ (k : Int) = 28 ∨ (k : Int) = 31 then 1 else 0) = (j_par k : Nat) := by
  unfold j_par
  by_cases a : k = 14
  · rw [if_pos (show (k : Int) = 14 by omega), if_pos a]; rfl
  · rw [if_neg (show ¬ (k : Int) = 14 by omega), if_neg a]
    by_cases b : (9 ≤ k ∧ k ≤ 13) ∨ k = 17 ∨ k = 30
    · rw [if_pos (show (9 ≤ (k : Int) ∧ (k : Int) ≤ 13) ∨ (k : Int) = 17 ∨ (k : Int) = 30 by omega), if_pos b]; rfl
    · rw [if_neg (show ¬ ((9 ≤ (k : Int) ∧ (k : Int) ≤ 13) ∨ (k : Int) = 17 ∨ (k : Int) = 30) by omega), if_neg b]
      by_cases c : k = 15 ∨ k = 16 ∨ (18 ≤ k ∧ k ≤ 22) ∨ k = 28 ∨ k = 31
      · rw [if_pos (show (k : Int) = 15 ∨ (k : Int) = 16 ∨ (18 ≤ (k : Int) ∧ (k : Int) ≤ 22) ∨ (k : Int) = 28 ∨ (k : Int) = 31 by omega), if_pos c]; rfl
      · rw [if_neg (show ¬ ((k : Int) = 15 ∨ (k : Int) = 16 ∨ (18 ≤ (k : Int) ∧ (k : Int) ≤ 22) ∨ (k : Int) = 28 ∨ (k : Int) = 31) by omega), if_neg c]; rfl
theorem jp_3 (k : Nat) : j_par k ≤ 3 := by
  unfold j_par
  split
  · omega
  · split
    · omega
    · split <;> omega
theorem jp_la {k : Nat} (h : k = 16 ∨ k = 22) : j_par k = 1 := by
  rcases h with rfl | rfl <;> rfl
/-- behind a block's kind -/
theorem rd_p347 {on sn id kn : Nat} {W : W_} (kk : 6 ≤ kn ∧ kn < 32) (k8 : kn ≠ 8) (nW : 0 ≤ W.1 36 4 ∧ W.1 36 4 < 230) (L : ww_Z 10 10 8 0 cX10_readPart none P 347 [.inr (.inr (.inl 36)), .inl (on : Int), .inl (sn : Int), .inl ib, .inl ar, .inl (id : Int), .inl 0, .inl (kn : Int), .inl (if kn = 16 ∨ kn = 22 then 1 else 0), .inl ((j_par kn : Nat) - 1)] [] W) : ww_Z 10 10 8 0 cX10_readPart none P 298 [.inr (.inr (.inl 36)), .inl (on : Int), .inl (sn : Int), .inl ib, .inl ar, .inl (id : Int), .inl 0, .inl (kn : Int), am_X, am_X] [] W := by
  refine lk_138n (by unfold am_rg; omega) nW (fun q => absurd q (by omega)) fun _ => ?_
  refine lk_138o (by unfold am_rg; omega) fun la hla => ?_
  have hla : la = if kn = 16 ∨ kn = 22 then 1 else 0 := by
    rw [hla]
    split <;> split <;> omega
  rw [hla]
  have := jp_3 kn
  exact lk_138p (np := (j_par kn : Nat)) (by unfold am_rg; omega) (jp_i kn) ⟨by omega, by omega⟩ L
end
