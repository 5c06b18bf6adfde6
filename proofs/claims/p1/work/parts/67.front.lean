/-! ===== what both sides show, and keep alike ===== -/
/-- all but what a call's end leaves: what was thrown, the page, the law's out -/
def nf (w : W_) : W_ := (fun a j => if (a = 73 ∧ (j = 93 ∨ j = 3 ∨ j = 4)) ∨ (a = 0 ∧ j = 0) ∨ (a = 50 ∧ (j = 15 ∨ j = 16)) then 0 else w.1 a j, fun a i => if a = 127 then 0 else w.2 a i)
/-- what was laid and noted, and what was told of the files, is the same -/
def FF (w : W_) : Prop :=
  (∀ f : Nat, f < 3 → w.2 7 f = w.2 76 f ∧ 0 ≤ w.2 7 f ∧ w.2 7 f ≤ 60) ∧
  (∀ f p : Nat, f < 3 → (p : Int) < w.2 7 f → (w.2 3 (60 * f + p) = w.2 74 (60 * f + p) ∧ 0 ≤ w.2 3 (60 * f + p) ∧ w.2 3 (60 * f + p) ≤ 31) ∧ w.2 5 (60 * f + p) = w.2 75 (60 * f + p) ∧ 0 ≤ w.2 5 (60 * f + p) ∧ w.2 5 (60 * f + p) ≤ 99) ∧
  (w.1 1 4 = w.1 73 85 ∧ (w.1 1 4 = 0 ∨ w.1 1 4 = 1)) ∧
  ((w.1 55 9 = 0 ∨ w.1 55 9 = 1) ∧ (w.1 73 86 = 0 ∨ w.1 73 86 = 1) ∧ (w.1 1 4 = 1 → w.1 55 9 = w.1 73 86)) ∧
  (w.1 55 7 = w.1 73 80 ∧ am_rg (w.1 55 7)) ∧ (w.1 55 8 = w.1 73 81 ∧ am_rg (w.1 55 8)) ∧
  (w.1 10 1 = w.1 73 70 ∧ 0 ≤ w.1 10 1 ∧ w.1 10 1 ≤ 60) ∧
  (w.1 55 4 = w.1 73 87 ∧ 0 ≤ w.1 55 4 ∧ w.1 55 4 ≤ 200) ∧
  (∀ i : Nat, (i : Int) < 6 * w.1 55 4 → w.2 56 i = w.2 123 i ∧ am_rg (w.2 56 i)) ∧
  (w.1 55 5 = w.1 73 89 ∧ 0 ≤ w.1 55 5 ∧ w.1 55 5 ≤ 60) ∧
  (∀ i : Nat, (i : Int) < w.1 55 5 → w.2 58 i = w.2 124 i ∧ am_rg (w.2 58 i)) ∧
  (∀ i : Nat, i < 42 → w.2 60 i = w.2 125 i ∧ am_rg (w.2 60 i)) ∧
  (∀ i : Nat, i < 10 → (if w.1 1 4 = 0 then 20005 else w.2 62 i) = w.2 126 i ∧ am_rg (w.2 126 i))
def PG (w : W_) : Prop := (w.1 50 15 = w.1 73 3 ∧ 3 ≤ w.1 50 15 ∧ w.1 50 15 ≤ 30) ∧ w.1 50 16 = w.1 73 4 ∧ 1 ≤ w.1 50 16 ∧ w.1 50 16 ≤ 10
/-- both sides, k calls behind the start; M: what they keep of calls -/
def Inv (M : W_ → Prop) : lw_I := fun k w => (FF (nf w) ∧ M (nf w)) ∧ PG w ∧ 0 ≤ w.1 0 0 ∧ w.1 0 0 ≤ k
theorem nf_a (w : W_) (x : Int) : nf (w_a w 127 0 x) = nf w := by
  refine Prod.ext rfl ?_
  funext a i
  show (if a = 127 then 0 else if a = 127 ∧ i = 0 then x else w.2 a i) = if a = 127 then 0 else w.2 a i
  by_cases c : a = 127
  · rw [if_pos c, if_pos c]
  · rw [if_neg c, if_neg c, if_neg (fun q => c q.1)]
theorem nf_f (w : W_) {b k : Nat} (x : Int) (h : (b = 73 ∧ (k = 93 ∨ k = 3 ∨ k = 4)) ∨ (b = 0 ∧ k = 0) ∨ (b = 50 ∧ (k = 15 ∨ k = 16))) : nf (w_f w b k x) = nf w := by
  refine Prod.ext ?_ rfl
  funext a j
  show (if (a = 73 ∧ (j = 93 ∨ j = 3 ∨ j = 4)) ∨ (a = 0 ∧ j = 0) ∨ (a = 50 ∧ (j = 15 ∨ j = 16)) then 0 else if a = b ∧ j = k then x else w.1 a j) = if (a = 73 ∧ (j = 93 ∨ j = 3 ∨ j = 4)) ∨ (a = 0 ∧ j = 0) ∨ (a = 50 ∧ (j = 15 ∨ j = 16)) then 0 else w.1 a j
  by_cases c : (a = 73 ∧ (j = 93 ∨ j = 3 ∨ j = 4)) ∨ (a = 0 ∧ j = 0) ∨ (a = 50 ∧ (j = 15 ∨ j = 16))
  · rw [if_pos c, if_pos c]
  · rw [if_neg c, if_neg c, if_neg (fun q => c (by obtain ⟨rfl, rfl⟩ := q; exact h))]
section FR
variable {M : W_ → Prop} {k : Nat} {w : W_}
theorem Inv.next (h : Inv M k w) : Inv M (k + 1) w := ⟨h.1, h.2.1, h.2.2.1, by have := h.2.2.2; omega⟩
theorem Inv.out (h : Inv M k w) (x : Int) : Inv M k (w_a w 127 0 x) := ⟨by rw [nf_a]; exact h.1, h.2.1, h.2.2.1, h.2.2.2⟩
theorem Inv.thr (h : Inv M k w) (x : Int) : Inv M k (w_f w 73 93 x) := ⟨by rw [nf_f w x (by decide)]; exact h.1, h.2.1, h.2.2.1, h.2.2.2⟩
theorem Inv.waste (h : Inv M k w) : Inv M (k + 1) (w_f w 0 0 (w.1 0 0 + 1)) := ⟨by rw [nf_f w _ (by decide)]; exact h.1, h.2.1, by show 0 ≤ w.1 0 0 + 1; have := h.2.2.1; omega, by show w.1 0 0 + 1 ≤ ((k + 1 : Nat) : Int); have := h.2.2.2; omega⟩
theorem Inv.FF (h : Inv M k w) : FF (nf w) := h.1.1
-- getters
theorem inv_ran : lw_C0 (Inv M) 151 240 := fun k w _ h => ⟨w.1 55 7, w, w_f w 73 93 0, 0, 0, ⟨by decide, by decide⟩, h.FF.2.2.2.2.1.2, lk_151 trivial, by
  have e : w.1 55 7 = w.1 73 80 := h.FF.2.2.2.2.1.1
  rw [e]
  exact lk_240 trivial, (h.thr 0).next⟩
theorem inv_taken : lw_C0 (Inv M) 152 241 := fun k w _ h => ⟨w.1 55 8, w, w_f w 73 93 0, 0, 0, ⟨by decide, by decide⟩, h.FF.2.2.2.2.2.1.2, lk_152 trivial, by
  have e : w.1 55 8 = w.1 73 81 := h.FF.2.2.2.2.2.1.1
  rw [e]
  exact lk_241 trivial, (h.thr 0).next⟩
theorem inv_kept : lw_C0 (Inv M) 153 242 := fun k w _ h => by
  obtain ⟨e, h0, h1⟩ := h.FF.2.2.2.2.2.2.1
  have e : w.1 10 1 = w.1 73 70 := e
  have h0 : 0 ≤ w.1 10 1 := h0
  have h1 : w.1 10 1 ≤ 60 := h1
  refine ⟨w.1 10 1, w, w_f w 73 93 0, 2, 0, ⟨by decide, by decide⟩, ⟨by omega, by omega⟩, lk_153 trivial, ?_, (h.thr 0).next⟩
  rw [e]
  exact lk_242 trivial
theorem inv_laid : lw_C0 (Inv M) 154 243 := fun k w _ h => by
  obtain ⟨e, h0, h1⟩ := h.FF.2.2.2.2.2.2.2.1
  have e : w.1 55 4 = w.1 73 87 := e
  have h0 : 0 ≤ w.1 55 4 := h0
  have h1 : w.1 55 4 ≤ 200 := h1
  refine ⟨w.1 55 4, w, w_f w 73 93 0, 0, 0, ⟨by decide, by decide⟩, ⟨by omega, by omega⟩, lk_154 trivial, ?_, (h.thr 0).next⟩
  rw [e]
  exact lk_243 trivial
theorem inv_faults : lw_C0 (Inv M) 156 245 := fun k w _ h => by
  obtain ⟨e, h0, h1⟩ := h.FF.2.2.2.2.2.2.2.2.2.1
  have e : w.1 55 5 = w.1 73 89 := e
  have h0 : 0 ≤ w.1 55 5 := h0
  have h1 : w.1 55 5 ≤ 60 := h1
  refine ⟨w.1 55 5, w, w_f w 73 93 0, 0, 0, ⟨by decide, by decide⟩, ⟨by omega, by omega⟩, lk_156 trivial, ?_, (h.thr 0).next⟩
  rw [e]
  exact lk_245 trivial
theorem inv_settled : lw_C0 (Inv M) 150 239 := fun k w _ h => by
  obtain ⟨e1, e2⟩ := h.FF.2.2.1
  obtain ⟨s1, s2, s3⟩ := h.FF.2.2.2.1
  have e1 : w.1 1 4 = w.1 73 85 := e1
  have e2 : w.1 1 4 = 0 ∨ w.1 1 4 = 1 := e2
  have s1 : w.1 55 9 = 0 ∨ w.1 55 9 = 1 := s1
  have s2 : w.1 73 86 = 0 ∨ w.1 73 86 = 1 := s2
  have s3 : w.1 1 4 = 1 → w.1 55 9 = w.1 73 86 := s3
  refine ⟨if w.1 1 4 = 1 ∧ w.1 55 9 = 1 then 1 else 0, w, w_f w 73 93 0, 0, 0, ⟨by decide, by decide⟩, ?_, lk_150 ⟨e2, s1⟩, ?_, (h.thr 0).next⟩
  · split <;> exact ⟨by decide, by decide⟩
  · have e : (if w.1 1 4 = 1 ∧ w.1 55 9 = 1 then (1 : Int) else 0) = if w.1 73 85 = 1 ∧ w.1 73 86 = 1 then 1 else 0 := by
      by_cases c : w.1 1 4 = 1
      · rw [← s3 c, ← e1]
      · rw [if_neg (fun q => c q.1), if_neg (fun q => c (e1.trans q.1))]
    rw [e]
    exact lk_239 ⟨by omega, s2⟩
-- what throws
theorem inv_token : lw_T0 (Inv M) 256 wh_token 173 2 := fun k w xs _ h hl hx => by
  obtain ⟨x0, x1, rfl⟩ : ∃ a b, xs = [a, b] := by
    match xs, hl with
    | [a, b], _ => exact ⟨a, b, rfl⟩
  have r0 := hx x0 (by simp)
  have r1 := hx x1 (by simp)
  have hF := h.FF
  have sz : ∀ f : Nat, f < 3 → w.2 7 f = w.2 76 f ∧ 0 ≤ w.2 7 f ∧ w.2 7 f ≤ 60 := hF.1
  have tk : ∀ f p : Nat, f < 3 → (p : Int) < w.2 7 f → (w.2 3 (60 * f + p) = w.2 74 (60 * f + p) ∧ 0 ≤ w.2 3 (60 * f + p) ∧ w.2 3 (60 * f + p) ≤ 31) ∧ w.2 5 (60 * f + p) = w.2 75 (60 * f + p) ∧ 0 ≤ w.2 5 (60 * f + p) ∧ w.2 5 (60 * f + p) ≤ 99 := hF.2.1
  by_cases c : (0 ≤ x0 ∧ x0 < 3) ∧ 0 ≤ x1
  · obtain ⟨f, rfl⟩ := Int.eq_ofNat_of_zero_le c.1.1
    have s := sz f (by omega)
    have g7 : w_g w 7 (f : Int) = w.2 7 f := w_g_pos (by omega)
    have hr : am_rg (if x1 < w_g w 7 (f : Int) then 100 * w_g w 3 ((f : Int) * 60 + x1) + w_g w 5 ((f : Int) * 60 + x1) else -1) ∧ (if x1 < w_g w 7 (f : Int) then 100 * w_g w 3 ((f : Int) * 60 + x1) + w_g w 5 ((f : Int) * 60 + x1) else -1) = (if (0 ≤ (f : Int) ∧ (f : Int) ≤ 2) ∧ 0 ≤ x1 then (if x1 < w.2 76 (f : Int).toNat then 100 * w.2 74 (60 * (f : Int) + x1).toNat + w.2 75 (60 * (f : Int) + x1).toNat else -1) else 0) := by
      rw [if_pos (c := (0 ≤ (f : Int) ∧ (f : Int) ≤ 2) ∧ 0 ≤ x1) ⟨⟨by omega, by omega⟩, c.2⟩, g7, Int.toNat_natCast, ← s.1]
      by_cases d : x1 < w.2 7 f
      · obtain ⟨p, rfl⟩ := Int.eq_ofNat_of_zero_le c.2
        have t := tk f p (by omega) d
        have e1 : ((f : Int) * 60 + p).toNat = 60 * f + p := by omega
        have e2 : (60 * (f : Int) + p).toNat = 60 * f + p := by omega
        rw [if_pos d, if_pos d, w_g_pos (by omega), w_g_pos (by omega), e1, e2, t.1.1, t.2.1]
        exact ⟨⟨by omega, by omega⟩, rfl⟩
      · rw [if_neg d, if_neg d]
        exact ⟨⟨by decide, by decide⟩, rfl⟩
    refine ⟨0, _, _, _, _, 3, ⟨?_, by decide⟩, ⟨by decide, by decide⟩, ?_, wr_token hr.1 (lk_146 ⟨c.1, ⟨c.2, r1⟩, ⟨by rw [g7]; exact s.2.1, by rw [g7]; exact s.2.2⟩⟩), lk_173 ⟨⟨r0, r1⟩, fun _ => ?_⟩, ?_, fun _ => ?_, ((h.out _).thr _).next⟩
    · decide
    · show am_rg (if (0 ≤ (f : Int) ∧ (f : Int) ≤ 2) ∧ 0 ≤ x1 then (if x1 < w.2 76 (f : Int).toNat then 100 * w.2 74 (60 * (f : Int) + x1).toNat + w.2 75 (60 * (f : Int) + x1).toNat else -1) else 0)
      rw [← hr.2]
      exact hr.1
    · show 0 ≤ w.2 76 (f : Int).toNat ∧ w.2 76 (f : Int).toNat ≤ 60
      rw [Int.toNat_natCast, ← s.1]
      exact s.2
    · show (if (0 ≤ (f : Int) ∧ (f : Int) ≤ 2) ∧ 0 ≤ x1 then (0 : Int) else 1) = 0
      rw [if_pos ⟨⟨by omega, by omega⟩, c.2⟩]
    · exact hr.2
  · refine ⟨1, _, _, _, _, 3, ⟨?_, by decide⟩, ⟨by decide, by decide⟩, ?_, wx_token_0 h.2.2.1 (xt_146_11 ⟨⟨r0, r1⟩, by omega⟩), lk_173 ⟨⟨r0, r1⟩, fun q => ?_⟩, ?_, fun q => absurd q (by decide), (h.waste.thr _)⟩
    · decide
    · show am_rg (if (0 ≤ x0 ∧ x0 ≤ 2) ∧ 0 ≤ x1 then (if x1 < w.2 76 x0.toNat then 100 * w.2 74 (60 * x0 + x1).toNat + w.2 75 (60 * x0 + x1).toNat else -1) else 0)
      rw [if_neg (by omega)]
      exact ⟨by decide, by decide⟩
    · have s := sz x0.toNat (by omega)
      show 0 ≤ w.2 76 x0.toNat ∧ w.2 76 x0.toNat ≤ 60
      rw [← s.1]
      exact s.2
    · show (if (0 ≤ x0 ∧ x0 ≤ 2) ∧ 0 ≤ x1 then (0 : Int) else 1) = 1
      rw [if_neg (by omega)]
theorem inv_thing : lw_T0 (Inv M) 258 wh_thing 244 2 := fun k w xs _ h hl hx => by
  obtain ⟨x0, x1, rfl⟩ : ∃ a b, xs = [a, b] := by
    match xs, hl with
    | [a, b], _ => exact ⟨a, b, rfl⟩
  have r0 := hx x0 (by simp)
  have r1 := hx x1 (by simp)
  obtain ⟨e, h0, h1⟩ := h.FF.2.2.2.2.2.2.2.1
  have e : w.1 55 4 = w.1 73 87 := e
  have h0 : 0 ≤ w.1 55 4 := h0
  have h1 : w.1 55 4 ≤ 200 := h1
  have th : ∀ i : Nat, (i : Int) < 6 * w.1 55 4 → w.2 56 i = w.2 123 i ∧ am_rg (w.2 56 i) := h.FF.2.2.2.2.2.2.2.2.1
  by_cases c : (0 ≤ x0 ∧ x0 < w.1 55 4) ∧ 0 ≤ x1 ∧ x1 < 6
  · have t := th (x0 * 6 + x1).toNat (by omega)
    have e2 : (6 * x0 + x1).toNat = (x0 * 6 + x1).toNat := by omega
    have g : w_g w 56 (x0 * 6 + x1) = w.2 56 (x0 * 6 + x1).toNat := w_g_pos (by omega)
    have hb : w.2 56 (x0 * 6 + x1).toNat = if (0 ≤ x0 ∧ x0 < w.1 73 87) ∧ 0 ≤ x1 ∧ x1 ≤ 5 then w.2 123 (6 * x0 + x1).toNat else 0 := by
      rw [if_pos ⟨⟨c.1.1, by omega⟩, c.2.1, by omega⟩, e2, t.1]
    refine ⟨0, _, _, _, _, 2, ⟨?_, by decide⟩, ⟨by decide, by decide⟩, ?_, wr_thing (by rw [g]; exact t.2) (lk_155 ⟨⟨c.1.1, c.1.2, h1⟩, c.2⟩), lk_244 ⟨⟨r0, r1⟩, ?_, ?_⟩, ?_, fun _ => ?_, ((h.out _).thr _).next⟩
    · decide
    · show am_rg (if (0 ≤ x0 ∧ x0 < w.1 73 87) ∧ 0 ≤ x1 ∧ x1 ≤ 5 then w.2 123 (6 * x0 + x1).toNat else 0)
      rw [← hb]
      exact t.2
    · show 0 ≤ w.1 73 87
      omega
    · show w.1 73 87 ≤ 200
      omega
    · show (if 0 ≤ x0 ∧ x0 < w.1 73 87 then (if 0 ≤ x1 ∧ x1 ≤ 5 then (0 : Int) else 2) else 1) = 0
      rw [if_pos ⟨c.1.1, by omega⟩, if_pos ⟨c.2.1, by omega⟩]
    · show w_g w 56 (x0 * 6 + x1) = _
      rw [g]
      exact hb
  · have hb : (if (0 ≤ x0 ∧ x0 < w.1 73 87) ∧ 0 ≤ x1 ∧ x1 ≤ 5 then w.2 123 (6 * x0 + x1).toNat else 0) = 0 := if_neg (by omega)
    by_cases d : 0 ≤ x0 ∧ x0 < w.1 55 4
    · refine ⟨2, _, _, _, _, 2, ⟨?_, by decide⟩, ⟨by decide, by decide⟩, ?_, wx_thing_1 h.2.2.1 (xt_155_33 ⟨⟨r0, r1⟩, d, ⟨by omega, by omega⟩, by omega⟩), lk_244 ⟨⟨r0, r1⟩, ?_, ?_⟩, ?_, fun q => absurd q (by decide), (h.waste.thr _)⟩
      · decide
      · show am_rg (if (0 ≤ x0 ∧ x0 < w.1 73 87) ∧ 0 ≤ x1 ∧ x1 ≤ 5 then w.2 123 (6 * x0 + x1).toNat else 0)
        rw [hb]
        exact ⟨by decide, by decide⟩
      · show 0 ≤ w.1 73 87
        omega
      · show w.1 73 87 ≤ 200
        omega
      · show (if 0 ≤ x0 ∧ x0 < w.1 73 87 then (if 0 ≤ x1 ∧ x1 ≤ 5 then (0 : Int) else 2) else 1) = 2
        rw [if_pos ⟨d.1, by omega⟩, if_neg (by omega)]
    · refine ⟨1, _, _, _, _, 2, ⟨?_, by decide⟩, ⟨by decide, by decide⟩, ?_, wx_thing_0 h.2.2.1 (xt_155_15 ⟨⟨r0, r1⟩, d, ⟨by omega, by omega⟩⟩), lk_244 ⟨⟨r0, r1⟩, ?_, ?_⟩, ?_, fun q => absurd q (by decide), (h.waste.thr _)⟩
      · decide
      · show am_rg (if (0 ≤ x0 ∧ x0 < w.1 73 87) ∧ 0 ≤ x1 ∧ x1 ≤ 5 then w.2 123 (6 * x0 + x1).toNat else 0)
        rw [hb]
        exact ⟨by decide, by decide⟩
      · show 0 ≤ w.1 73 87
        omega
      · show w.1 73 87 ≤ 200
        omega
      · show (if 0 ≤ x0 ∧ x0 < w.1 73 87 then (if 0 ≤ x1 ∧ x1 ≤ 5 then (0 : Int) else 2) else 1) = 1
        rw [if_neg (by omega)]
theorem inv_fault : lw_T0 (Inv M) 259 wh_fault 246 1 := fun k w xs _ h hl hx => by
  obtain ⟨x0, rfl⟩ : ∃ a, xs = [a] := by
    match xs, hl with
    | [a], _ => exact ⟨a, rfl⟩
  have r0 := hx x0 (by simp)
  obtain ⟨e, h0, h1⟩ := h.FF.2.2.2.2.2.2.2.2.2.1
  have e : w.1 55 5 = w.1 73 89 := e
  have h0 : 0 ≤ w.1 55 5 := h0
  have h1 : w.1 55 5 ≤ 60 := h1
  have th : ∀ i : Nat, (i : Int) < w.1 55 5 → w.2 58 i = w.2 124 i ∧ am_rg (w.2 58 i) := h.FF.2.2.2.2.2.2.2.2.2.2.1
  by_cases c : 0 ≤ x0 ∧ x0 < w.1 55 5
  · have t := th x0.toNat (by omega)
    have g : w_g w 58 x0 = w.2 58 x0.toNat := w_g_pos c.1
    have hb : w.2 58 x0.toNat = if 0 ≤ x0 ∧ x0 < w.1 73 89 then w.2 124 x0.toNat else 0 := by
      rw [if_pos ⟨c.1, by omega⟩, t.1]
    refine ⟨0, _, _, _, _, 2, ⟨?_, by decide⟩, ⟨by decide, by decide⟩, ?_, wr_fault (by rw [g]; exact t.2) (lk_157 ⟨c.1, c.2, h1⟩), lk_246 ⟨r0, ?_, ?_⟩, ?_, fun _ => ?_, ((h.out _).thr _).next⟩
    · decide
    · show am_rg (if 0 ≤ x0 ∧ x0 < w.1 73 89 then w.2 124 x0.toNat else 0)
      rw [← hb]
      exact t.2
    · show 0 ≤ w.1 73 89
      omega
    · show w.1 73 89 ≤ 60
      omega
    · show (if 0 ≤ x0 ∧ x0 < w.1 73 89 then (0 : Int) else 1) = 0
      rw [if_pos ⟨c.1, by omega⟩]
    · show w_g w 58 x0 = _
      rw [g]
      exact hb
  · refine ⟨1, _, _, _, _, 2, ⟨?_, by decide⟩, ⟨by decide, by decide⟩, ?_, wx_fault_0 h.2.2.1 (xt_157_15 ⟨r0, c, ⟨by omega, by omega⟩⟩), lk_246 ⟨r0, ?_, ?_⟩, ?_, fun q => absurd q (by decide), (h.waste.thr _)⟩
    · decide
    · show am_rg (if 0 ≤ x0 ∧ x0 < w.1 73 89 then w.2 124 x0.toNat else 0)
      rw [if_neg (by omega)]
      exact ⟨by decide, by decide⟩
    · show 0 ≤ w.1 73 89
      omega
    · show w.1 73 89 ≤ 60
      omega
    · show (if 0 ≤ x0 ∧ x0 < w.1 73 89 then (0 : Int) else 1) = 1
      rw [if_neg (by omega)]
theorem inv_answer : lw_T0 (Inv M) 260 wh_answer 247 3 := fun k w xs _ h hl hx => by
  obtain ⟨x0, x1, x2, rfl⟩ : ∃ a b c, xs = [a, b, c] := by
    match xs, hl with
    | [a, b, c], _ => exact ⟨a, b, c, rfl⟩
  have r0 := hx x0 (by simp)
  have r1 := hx x1 (by simp)
  have r2 := hx x2 (by simp)
  have th : ∀ i : Nat, i < 42 → w.2 60 i = w.2 125 i ∧ am_rg (w.2 60 i) := h.FF.2.2.2.2.2.2.2.2.2.2.2.1
  by_cases c : r_ans x0 x1 x2
  · have e : (if x0 = 24 then x1 * 3 + x2 else if x0 = 25 then 30 + x1 else if x0 = 26 then 40 else if x0 = 27 then 41 else 42 + x2) = (if x0 = 24 then 3 * x1 + x2 else if x0 = 25 then 30 + x1 else if x0 = 26 then 40 else 41) := by
      unfold r_ans at c
      (repeat' split) <;> omega
    have hi : 0 ≤ (if x0 = 24 then 3 * x1 + x2 else if x0 = 25 then 30 + x1 else if x0 = 26 then 40 else 41) ∧ (if x0 = 24 then 3 * x1 + x2 else if x0 = 25 then 30 + x1 else if x0 = 26 then 40 else 41) < 42 := by
      unfold r_ans at c
      (repeat' split) <;> omega
    have t := th (if x0 = 24 then 3 * x1 + x2 else if x0 = 25 then 30 + x1 else if x0 = 26 then 40 else 41).toNat (by omega)
    have g := w_g_pos (w := w) (b := 60) hi.1
    refine ⟨0, _, _, _, _, 2, ⟨?_, by decide⟩, ⟨by decide, by decide⟩, ?_, wr_answer (by rw [e, g]; exact t.2) (lk_158 ⟨c.1, fun q => ⟨(c.2.1 q).1, by have := (c.2.1 q).2; omega⟩, fun q => ⟨(c.2.2 q).1, by have := (c.2.2 q).2; omega⟩⟩), lk_247 ⟨r0, r1, r2⟩, ?_, fun _ => ?_, ((h.out _).thr _).next⟩
    · decide
    · show am_rg (if r_ans x0 x1 x2 then w.2 125 (if x0 = 24 then 3 * x1 + x2 else if x0 = 25 then 30 + x1 else if x0 = 26 then 40 else 41).toNat else 0)
      rw [if_pos c, ← t.1]
      exact t.2
    · show (if r_ans x0 x1 x2 then (0 : Int) else 1) = 0
      rw [if_pos c]
    · show w_g w 60 _ = if r_ans x0 x1 x2 then w.2 125 (if x0 = 24 then 3 * x1 + x2 else if x0 = 25 then 30 + x1 else if x0 = 26 then 40 else 41).toNat else 0
      rw [if_pos c, e, g]
      exact t.1
  · have hX : ww_XT 158 8 [.inr (.inr (.inl 1)), .inl x0, .inl x1, .inl x2] w 1 := by
      by_cases d1 : 24 ≤ x0 ∧ x0 ≤ 27
      · by_cases d2 : x0 < 26 → 0 ≤ x1 ∧ x1 ≤ 9
        · have d3 : x0 = 24 ∧ ¬ (0 ≤ x2 ∧ x2 ≤ 2) := by
            apply Classical.byContradiction
            intro q
            exact c ⟨d1, d2, fun z => Classical.not_not.mp fun y => q ⟨z, y⟩⟩
          exact xt_158_77 ⟨⟨r1, r2⟩, d3.1, by have := d2 (by omega); omega, by omega⟩
        · exact xt_158_54 ⟨⟨r0, r1⟩, by omega, by omega⟩
      · exact xt_158_24 ⟨r0, d1⟩
    refine ⟨1, _, _, _, _, 2, ⟨?_, by decide⟩, ⟨by decide, by decide⟩, ?_, wx_answer_1 h.2.2.1 hX, lk_247 ⟨r0, r1, r2⟩, ?_, fun q => absurd q (by decide), (h.waste.thr _)⟩
    · decide
    · show am_rg (if r_ans x0 x1 x2 then w.2 125 (if x0 = 24 then 3 * x1 + x2 else if x0 = 25 then 30 + x1 else if x0 = 26 then 40 else 41).toNat else 0)
      rw [if_neg c]
      exact ⟨by decide, by decide⟩
    · show (if r_ans x0 x1 x2 then (0 : Int) else 1) = 1
      rw [if_neg c]
theorem inv_valueOf : lw_T0 (Inv M) 261 wh_valueOf 248 1 := fun k w xs _ h hl hx => by
  obtain ⟨x0, rfl⟩ : ∃ a, xs = [a] := by
    match xs, hl with
    | [a], _ => exact ⟨a, rfl⟩
  have r0 := hx x0 (by simp)
  have hc : w.1 1 4 = 0 ∨ w.1 1 4 = 1 := h.FF.2.2.1.2
  have th : ∀ i : Nat, i < 10 → (if w.1 1 4 = 0 then 20005 else w.2 62 i) = w.2 126 i ∧ am_rg (w.2 126 i) := h.FF.2.2.2.2.2.2.2.2.2.2.2.2
  by_cases c : 0 ≤ x0 ∧ x0 < 10
  · have t := th x0.toNat (by omega)
    have g : w_g w 62 x0 = w.2 62 x0.toNat := w_g_pos c.1
    refine ⟨0, _, _, _, _, 2, ⟨?_, by decide⟩, ⟨by decide, by decide⟩, ?_, wr_valueOf (by rw [g, t.1]; exact t.2) (lk_159 ⟨c, by rcases hc with q | q <;> rw [q] <;> exact ⟨by decide, by decide⟩⟩), lk_248 r0, ?_, fun _ => ?_, ((h.out _).thr _).next⟩
    · decide
    · show am_rg (if 0 ≤ x0 ∧ x0 ≤ 9 then w.2 126 x0.toNat else 0)
      rw [if_pos ⟨c.1, by omega⟩]
      exact t.2
    · show (if 0 ≤ x0 ∧ x0 ≤ 9 then (0 : Int) else 1) = 0
      rw [if_pos ⟨c.1, by omega⟩]
    · show (if w.1 1 4 = 0 then 20005 else w_g w 62 x0) = if 0 ≤ x0 ∧ x0 ≤ 9 then w.2 126 x0.toNat else 0
      rw [if_pos (c := 0 ≤ x0 ∧ x0 ≤ 9) ⟨c.1, by omega⟩, g]
      exact t.1
  · refine ⟨1, _, _, _, _, 2, ⟨?_, by decide⟩, ⟨by decide, by decide⟩, ?_, wx_valueOf_1 h.2.2.1 (xt_159_10 ⟨r0, c⟩), lk_248 r0, ?_, fun q => absurd q (by decide), (h.waste.thr _)⟩
    · decide
    · show am_rg (if 0 ≤ x0 ∧ x0 ≤ 9 then w.2 126 x0.toNat else 0)
      rw [if_neg (by omega)]
      exact ⟨by decide, by decide⟩
    · show (if 0 ≤ x0 ∧ x0 ≤ 9 then (0 : Int) else 1) = 1
      rw [if_neg (by omega)]
theorem inv_setPage : lw_T0 (Inv M) 257 wh_setPage 174 2 := fun k w xs _ h hl hx => by
  obtain ⟨x0, x1, rfl⟩ : ∃ a b, xs = [a, b] := by
    match xs, hl with
    | [a, b], _ => exact ⟨a, b, rfl⟩
  have r0 := hx x0 (by simp)
  have r1 := hx x1 (by simp)
  obtain ⟨⟨p1, p2, p3⟩, p4, p5, p6⟩ := h.2.1
  by_cases c : (3 ≤ x0 ∧ x0 ≤ 30) ∧ 1 ≤ x1 ∧ x1 ≤ 10
  · have hI : Inv M k (w_f (w_f (w_f (w_a (w_f (w_f w 50 15 x0) 50 16 x1) 127 0 (w.1 50 15)) 73 93 0) 73 3 x0) 73 4 x1) := by
      refine ⟨?_, ?_, h.2.2.1, h.2.2.2⟩
      · rw [nf_f _ _ (by decide), nf_f _ _ (by decide), nf_f _ _ (by decide), nf_a, nf_f _ _ (by decide), nf_f _ _ (by decide)]
        exact h.1
      · exact ⟨⟨rfl, c.1⟩, rfl, c.2⟩
    refine ⟨0, _, _, _, _, 2, ⟨?_, by decide⟩, ⟨by decide, by decide⟩, ?_, wr_setPage (r := w.1 50 15) ⟨by omega, by omega⟩ (lk_147 c), lk_174 ⟨r0, r1⟩, ?_, fun _ => ?_, ?_⟩
    · decide
    · show am_rg (if (3 ≤ x0 ∧ x0 ≤ 30) ∧ 1 ≤ x1 ∧ x1 ≤ 10 then w.1 73 3 else 0)
      rw [if_pos c]
      exact ⟨by omega, by omega⟩
    · rw [if_pos c]
      rfl
    · rw [if_pos c, if_pos c]
      exact p1
    · rw [if_pos c]
      exact hI.next
  · refine ⟨1, _, _, _, _, 2, ⟨?_, by decide⟩, ⟨by decide, by decide⟩, ?_, wx_setPage_1 h.2.2.1 (xt_147_22 ⟨⟨r0, r1⟩, c⟩), lk_174 ⟨r0, r1⟩, ?_, fun q => absurd q (by decide), ?_⟩
    · decide
    · rw [if_neg c]
      exact ⟨by decide, by decide⟩
    · rw [if_neg c]
      rfl
    · rw [if_neg c]
      exact h.waste.thr _
end FR
