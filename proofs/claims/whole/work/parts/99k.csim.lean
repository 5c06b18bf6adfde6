/-! ===== the class runs as the evaluator: what stays ===== -/
theorem cR_lt {n : Int} {a : Nat → Int} {F : T_ → Prop} {v : T_} {x : Int} (h0 : 0 ≤ n) (h : cR n a F v x) : -9999 ≤ x ∧ x < 30000 + n := by
  unfold cR at h
  split at h
  all_goals first | (have := h.1.1; omega) | (have := h.1; omega) | omega | (exact h.elim)
theorem vR_mono {n n' : Int} {a a' : Nat → Int} {F F' : T_ → Prop} (h0 : 0 ≤ n) (hn : n ≤ n') (ha : ∀ k : Nat, (k : Int) < 8 * n → a' k = a k) (hF : ∀ e, F e → F' e) {v : T_} {x : Int} (h : vR n a F v x) : vR n' a' F' v x := by
  refine ⟨cR_mono hn ha hF v x h.1, ?_⟩
  have hx := (cR_lt h0 h.1).2
  have hp : ∀ f : Nat, f < 8 → pH a' x f = pH a x f := fun f hf => by
    unfold pH
    by_cases c : x < 30000
    · rw [if_pos c, if_pos c]
    · rw [if_neg c, if_neg c]
      exact ha _ (by omega)
  unfold hW
  rw [hp 5 (by decide), hp 6 (by decide), hp 7 (by decide)]
  exact h.2
/-- all that is neither the runner's nor the round's is as it was -/
def rQ (w w' : W_) : Prop := (∀ a j, a ≠ 10 → a ≠ 13 → a ≠ 17 → a ≠ 33 → a ≠ 36 → a ≠ 41 → ¬ (a = w_o w ∧ (j = 5 ∨ j = 7 ∨ j = 8)) → w'.1 a j = w.1 a j) ∧ ∀ b, b ≠ 11 → b ≠ 13 → b ≠ 22 → b ≠ 34 → b ≠ 37 → b ≠ 39 → b ≠ 42 → b ≠ 44 → b ≠ 46 → b ≠ 48 → b ≠ w_o w + 3 → w'.2 b = w.2 b
theorem rQ_tr {w w1 w2 : W_} (eo : w_o w1 = w_o w) (h : rQ w w1) (g : rQ w1 w2) : rQ w w2 := by
  unfold rQ at g
  rw [eo] at g
  exact ⟨fun a j q1 q2 q3 q4 q5 q6 q7 => (g.1 a j q1 q2 q3 q4 q5 q6 q7).trans (h.1 a j q1 q2 q3 q4 q5 q6 q7), fun b q1 q2 q3 q4 q5 q6 q7 q8 q9 qa qb => (g.2 b q1 q2 q3 q4 q5 q6 q7 q8 q9 qa qb).trans (h.2 b q1 q2 q3 q4 q5 q6 q7 q8 q9 qa qb)⟩
theorem rQ_1 {w w' : W_} (h1 : ∀ a j, a ≠ 10 ∧ a ≠ 13 ∧ a ≠ 17 ∧ a ≠ 33 ∧ a ≠ 36 ∧ a ≠ 41 ∧ ¬ (a = w_o w ∧ (j = 5 ∨ j = 7 ∨ j = 8)) → w'.1 a j = w.1 a j) (h2 : ∀ b, b ≠ 11 ∧ b ≠ 13 ∧ b ≠ 22 ∧ b ≠ 34 ∧ b ≠ 37 ∧ b ≠ 39 ∧ b ≠ 42 ∧ b ≠ 44 ∧ b ≠ 46 ∧ b ≠ 48 ∧ b ≠ w_o w + 3 → w'.2 b = w.2 b) : rQ w w' := ⟨fun a j q1 q2 q3 q4 q5 q6 q7 => h1 a j ⟨q1, q2, q3, q4, q5, q6, q7⟩, fun b q1 q2 q3 q4 q5 q6 q7 q8 q9 qa qb => h2 b ⟨q1, q2, q3, q4, q5, q6, q7, q8, q9, qa, qb⟩⟩
/-- what was asked stays -/
def aQ (w w' : W_) : Prop := w.1 17 3 ≤ w'.1 17 3 ∧ (∀ k : Nat, (k : Int) < w.1 17 3 → w'.2 22 k = w.2 22 k) ∧ rQ w w'
/-- what running doesn't touch, or only adds to -/
def xP (w w' : W_) : Prop := (w.1 13 2 ≤ w'.1 13 2 ∧ ∀ k : Nat, (k : Int) < 8 * w.1 13 2 → w'.2 13 k = w.2 13 k) ∧ (∀ j, w'.1 50 j = w.1 50 j) ∧ (w'.2 51 = w.2 51 ∧ w'.2 53 = w.2 53 ∧ w'.2 20 = w.2 20 ∧ w'.2 3 = w.2 3 ∧ w'.2 5 = w.2 5 ∧ w'.2 7 = w.2 7 ∧ aQ w w') ∧ (w'.1 17 7 = w.1 17 7 ∧ w'.2 (w_o w + 1) = w.2 (w_o w + 1) ∧ w'.1 (w_o w) 4 = w.1 (w_o w) 4) ∧ ∀ m hb t, eW0 w m hb t → eW0 w' m hb t
theorem xP_tr {w w1 w2 : W_} (h : xP w w1) (g : xP w1 w2) : xP w w2 := by
  obtain ⟨⟨a1, a2⟩, a3, ⟨a4, a5, a6, a7, a8, a9, a0, a0', ar⟩, ⟨a10, a11, a12⟩, a13⟩ := h
  obtain ⟨⟨b1, b2⟩, b3, ⟨b4, b5, b6, b7, b8, b9, b0, b0', br⟩, ⟨b10, b11, b12⟩, b13⟩ := g
  have eo : w_o w1 = w_o w := by unfold w_o; rw [a10]
  rw [eo] at b11 b12
  exact ⟨⟨by omega, fun k hk => (b2 k (by omega)).trans (a2 k hk)⟩, fun j => (b3 j).trans (a3 j), ⟨b4.trans a4, b5.trans a5, b6.trans a6, b7.trans a7, b8.trans a8, b9.trans a9, by omega, fun k hk => (b0' k (by omega)).trans (a0' k hk), rQ_tr eo ar br⟩, ⟨b10.trans a10, b11.trans a11, b12.trans a12⟩, fun m hb t q => b13 m hb t (a13 m hb t q)⟩
theorem xP_S {w w' : W_} (h : wS w w') (ho : w_o w = 24 ∨ w_o w = 55 ∨ w_o w = 64) : xP w w' := by
  obtain ⟨k1, k2, k3, k4, k5, k6⟩ := wS_fW h
  exact ⟨⟨by omega, fun k _ => by rw [k2]⟩, fun j => h.1 50 j (by decide) (by decide), ⟨h.2.2 51 (by decide) (by decide), h.2.2 53 (by decide) (by decide), h.2.2 20 (by decide) (by decide), k3, k4, h.2.2 7 (by decide) (by decide), by rw [h.1 17 3 (by decide) (by decide)]; exact Int.le_refl _, fun k _ => by rw [h.2.2 22 (by decide) (by decide)], rQ_1 (fun a j q => h.1 a j (by omega) (by omega)) (fun b q => h.2.2 b (by omega) (by omega))⟩, ⟨h.1 17 7 (by decide) (by decide), h.2.2 _ (by omega) (by omega), h.1 _ 4 (by omega) (by omega)⟩, fun m hb t q => eW0_S h q⟩
theorem eW_x {w w' : W_} (h : xP w w') {m : Nat} {hb : Bool} {t : T_} (H : eW w m hb t) : eW w' m hb t := by
  refine ⟨(h.2.2.2.2 m hb t ⟨H.1, tI_0 H.2⟩).1, ?_⟩
  have z := H.2
  rw [h.2.2.1.2.2.2.1, h.2.2.1.2.2.2.2.1, h.2.2.1.2.2.2.2.2.1]
  exact z
theorem fW_x {w w' : W_} (h : xP w w') (e : T_) (H : fW w e) : fW w' e := by
  cases e with
  | nest x t =>
    show 30000 ≤ x → gA (w'.2 7) x
    rw [h.2.2.1.2.2.2.2.2.1]
    exact H
  | tag j e =>
    obtain ⟨⟨k, n, id, a, b, c, hb, q1, q2, q3⟩, q4⟩ := H
    have z := eW_x h (m := 0) (hb := hb) (t := e) ⟨q3, q4⟩
    exact ⟨⟨k, n, id, a, b, c, hb, q1, q2, z.1⟩, z.2⟩
  | nil => exact H
  | line => exact H
  | align _ => exact H
  | text _ => exact H
  | group _ _ => exact H
  | append _ _ => exact H
theorem fW0_x {w w' : W_} (h : xP w w') (e : T_) (H : fW0 w e) : fW0 w' e := by
  cases e with
  | nest x t => trivial
  | tag j e =>
    obtain ⟨⟨k, n, id, a, b, c, hb, q1, q2, q3⟩, q4⟩ := H
    have z := h.2.2.2.2 0 hb e ⟨q3, q4⟩
    exact ⟨⟨k, n, id, a, b, c, hb, q1, q2, z.1⟩, z.2⟩
  | nil => exact H
  | line => exact H
  | align _ => exact H
  | text _ => exact H
  | group _ _ => exact H
  | append _ _ => exact H
theorem fW_0 {w : W_} (e : T_) (H : fW w e) : fW0 w e := by
  cases e with
  | nest x t => trivial
  | tag j e => exact ⟨H.1, tI_0 H.2⟩
  | nil => exact H
  | line => exact H
  | align _ => exact H
  | text _ => exact H
  | group _ _ => exact H
  | append _ _ => exact H
theorem fW_g0 {w : W_} (g : g0 (w.2 7)) (e : T_) (H : fW0 w e) : fW w e := by
  cases e with
  | nest x t => exact fun _ => g _ (by omega)
  | tag j e => exact ⟨H.1, tI_g0 g H.2⟩
  | nil => exact H
  | line => exact H
  | align _ => exact H
  | text _ => exact H
  | group _ _ => exact H
  | append _ _ => exact H
theorem vW_x {w w' : W_} (h : xP w w') (h0 : 0 ≤ w.1 13 2) {v : T_} {x : Int} (H : vW_ w v x) : vW_ w' v x := vR_mono h0 h.1.1 h.1.2 (fW_x h) H
theorem v0_x {w w' : W_} (h : xP w w') (h0 : 0 ≤ w.1 13 2) {v : T_} {x : Int} (H : vR (w.1 13 2) (w.2 13) (fW0 w) v x) : vR (w'.1 13 2) (w'.2 13) (fW0 w') v x := vR_mono h0 h.1.1 h.1.2 (fW0_x h) H
theorem cW_x {w w' : W_} (h : xP w w') {v : T_} {x : Int} (H : cR (w.1 13 2) (w.2 13) (fW w) v x) : cR (w'.1 13 2) (w'.2 13) (fW w') v x := cR_mono h.1.1 h.1.2 (fW_x h) v x H
/-- frames below n but for marks, names below the scope -/
def fQ (n : Int) (hb : Bool) (w w' : W_) : Prop := (w'.1 41 12 = w.1 41 12 ∧ w'.1 41 13 = w.1 41 13) ∧ (∀ k : Nat, (k : Int) < 13 * n → (hb = true ∧ ((k : Int) = w.1 41 13 * 13 + 5 ∨ (k : Int) = w.1 41 13 * 13 + 8)) ∨ w'.2 34 k = w.2 34 k) ∧ (∀ k : Nat, (k : Int) < 10 * w.1 41 12 → w'.2 42 k = w.2 42 k) ∧ xP w w'
theorem fQ_tr {n : Int} {hb : Bool} {w w1 w2 : W_} (h : fQ n hb w w1) (g : fQ n hb w1 w2) : fQ n hb w w2 := by
  obtain ⟨⟨a1, a2⟩, a3, a4, a5⟩ := h
  obtain ⟨⟨b1, b2⟩, b3, b4, b5⟩ := g
  refine ⟨⟨b1.trans a1, b2.trans a2⟩, fun k hk => ?_, fun k hk => (b4 k (by omega)).trans (a4 k hk), xP_tr a5 b5⟩
  rcases a3 k hk with q | q
  · exact Or.inl q
  · rcases b3 k hk with r | r
    · exact Or.inl (by rw [← a2]; exact r)
    · exact Or.inr (r.trans q)
theorem fQ_le {n m : Int} {hb : Bool} {w w' : W_} (h : fQ n hb w w') (hm : m ≤ n) : fQ m hb w w' := ⟨h.1, fun k hk => h.2.1 k (by omega), h.2.2⟩
/-- .. and names too -/
def oQ (n : Int) (w w' : W_) : Prop := (w'.1 41 12 = w.1 41 12 ∧ w'.1 41 13 = w.1 41 13) ∧ (∀ k : Nat, (k : Int) < 13 * n → w'.2 34 k = w.2 34 k) ∧ w'.2 42 = w.2 42 ∧ xP w w'
theorem oQ_fQ {n : Int} {hb : Bool} {w w' : W_} (h : oQ n w w') : fQ n hb w w' := ⟨h.1, fun k hk => Or.inr (h.2.1 k hk), fun k _ => by rw [h.2.2.1], h.2.2.2⟩
theorem oQ_tr {n : Int} {w w1 w2 : W_} (h : oQ n w w1) (g : oQ n w1 w2) : oQ n w w2 := ⟨⟨g.1.1.trans h.1.1, g.1.2.trans h.1.2⟩, fun k hk => (g.2.1 k hk).trans (h.2.1 k hk), g.2.2.1.trans h.2.2.1, xP_tr h.2.2.2 g.2.2.2⟩
abbrev oK (w : W_) : Prop := w_o w = 24 ∨ w_o w = 55 ∨ w_o w = 64
theorem oQ_val {n : Int} {w : W_} {j : Nat} {x : Int} (ho : oK w) (hj : j = 10 ∨ j = 11) : oQ n w (w_f w 41 j x) := ⟨⟨by rw [w_f1, w_u_at, if_neg (by omega)], by rw [w_f1, w_u_at, if_neg (by omega)]⟩, fun _ _ => rfl, rfl, xP_S (wS_f (Or.inr ⟨rfl, by omega⟩)) ho⟩
theorem oQ_po {n : Int} {w : W_} (ho : oK w) : oQ n w (w_po w) := ⟨⟨by rw [w_po1, if_neg (by decide)], by rw [w_po1, if_neg (by decide)]⟩, fun _ _ => rfl, rfl, xP_S (wS_po w) ho⟩
theorem oQ_fs {n : Int} {w : W_} {f x : Int} (ho : oK w) (hn : n ≤ w.1 33 1 - 1) (h0 : 0 ≤ w.1 33 1 - 1) (hf : 0 ≤ f) : oQ n w (w_fs w f x) := by
  refine ⟨⟨rfl, rfl⟩, fun k hk => ?_, w_fs2 w f x (by decide), xP_S (wS_fs w f x) ho⟩
  show w_u w.2 34 _ x 34 k = _
  rw [w_u_at, if_neg (by omega)]
theorem oQ_pu {n : Int} {w : W_} {x y : Int} (ho : oK w) (hn : n ≤ w.1 33 1) (h0 : 0 ≤ w.1 33 1) : oQ n w (w_pu w x y) := by
  refine ⟨⟨by rw [w_pu1, if_neg (by decide)], by rw [w_pu1, if_neg (by decide)]⟩, fun k hk => ?_, w_pu2 w x y (by decide), xP_S (wS_pu w x y) ho⟩
  show w_u (w_u (w_fill w 34 _ _ 0).2 34 _ x) 34 _ y 34 k = _
  rw [w_u_at, if_neg (by omega), w_u_at, if_neg (by omega)]
  show (if 34 = 34 ∧ _ ≤ k ∧ k < _ then (0 : Int) else w.2 34 k) = _
  rw [if_neg (by omega)]
theorem oQ_bg {n : Int} {w : W_} (ho : oK w) : oQ n w (w_bg w) := by
  have e : ∀ a j, ¬ (a = 17 ∧ j = 4) → ¬ (a = 41 ∧ j = 10) → (w_bg w).1 a j = w.1 a j := fun a j h1 h2 => by rw [w_bg1, if_neg h1, if_neg h2]
  refine ⟨⟨e _ _ (by decide) (by decide), e _ _ (by decide) (by decide)⟩, fun _ _ => rfl, rfl, ⟨by rw [e _ _ (by decide) (by decide)]; omega, fun _ _ => rfl⟩, fun j => e _ _ (by omega) (by omega), ⟨rfl, rfl, rfl, rfl, rfl, rfl, by rw [e _ _ (by decide) (by decide)]; exact Int.le_refl _, fun _ _ => rfl, rQ_1 (fun a j q => e _ _ (by omega) (by omega)) (fun _ _ => rfl)⟩, ⟨e _ _ (by decide) (by decide), rfl, e _ _ (by omega) (by omega)⟩, fun m hb t q => q⟩
theorem oQ_nt {n : Int} {w : W_} {x : Int} (ho : oK w) : oQ n w (w_nt w x) := by
  have e : ∀ a j, ¬ (a = 17 ∧ j = 5) → ¬ (a = w_o w ∧ j = 5) → (w_nt w x).1 a j = w.1 a j := fun a j h1 h2 => by
    unfold w_nt
    rw [w_f1, w_u_at, if_neg h2, w_f1, w_u_at, if_neg h1]
    rfl
  have e2 : ∀ b, b ≠ w_o w + 3 → (w_nt w x).2 b = w.2 b := fun b h => w_a_2ne w _ _ h
  refine ⟨⟨e _ _ (by decide) (by omega), e _ _ (by decide) (by omega)⟩, fun k _ => by rw [e2 34 (by omega)], e2 42 (by omega), ⟨by rw [e _ _ (by decide) (by omega)]; omega, fun k _ => by rw [e2 13 (by omega)]⟩, fun j => e _ _ (by omega) (by omega), ⟨e2 _ (by omega), e2 _ (by omega), e2 _ (by omega), e2 _ (by omega), e2 _ (by omega), e2 _ (by omega), by rw [e _ _ (by decide) (by omega)]; exact Int.le_refl _, fun k _ => by rw [e2 22 (by omega)], rQ_1 (fun a j q => e _ _ (by omega) (by omega)) (fun b q => e2 _ (by omega))⟩, ⟨e _ _ (by decide) (by omega), e2 _ (by omega), e _ _ (by omega) (by omega)⟩, fun m hb t q => ?_⟩
  unfold eW0 at q ⊢
  rw [e2 3 (by omega), e2 5 (by omega), e2 37 (by omega), e2 46 (by omega), e2 7 (by omega)]
  exact q
theorem oK_x {w w' : W_} (h : xP w w') (ho : oK w) : oK w' := by
  have e : w_o w' = w_o w := by unfold w_o; rw [h.2.2.2.1.1]
  unfold oK
  rw [e]
  exact ho
/-- the innermost frame's own fields stay -/
theorem f_t_Q {hb : Bool} {w w' : W_} (h : fQ (w.1 33 1) hb w w') (hc : w'.1 33 1 = w.1 33 1) (h1 : 1 ≤ w.1 33 1) (ht : hb = true → w.1 41 13 < w.1 33 1 - 1) {g : Int} (g0 : 0 ≤ g ∧ g < 13) : f_t w' g = f_t w g := by
  unfold f_t w_g
  rw [hc, if_neg (by omega), if_neg (by omega)]
  rcases h.2.1 ((w.1 33 1 - 1) * 13 + g).toNat (by omega) with ⟨q, r⟩ | q
  · have := ht q
    omega
  · exact q
/-- marks and sizes of the text that an expression is in -/
def mkR (hb : Bool) (s : S_) (w : W_) : Prop := hb = true → (0 ≤ w.1 41 13 ∧ w.1 41 13 < w.1 33 1) ∧ cR (w.1 13 2) (w.2 13) (fW w) (s_tl s) (wg (w.2 34) (w.1 41 13 * 13 + 5)) ∧ (0 ≤ wg (w.2 34) (w.1 41 13 * 13 + 7) ∧ wg (w.2 34) (w.1 41 13 * 13 + 7) ≤ 3) ∧ (0 ≤ wg (w.2 34) (w.1 41 13 * 13 + 8) ∧ wg (w.2 34) (w.1 41 13 * 13 + 8) ≤ 3) ∧ ∀ k : Nat, 1 ≤ k → k ≤ 3 → ((v_wq (s_tl s) (if wg (w.2 34) (w.1 41 13 * 13 + 7) = 0 then k else (wg (w.2 34) (w.1 41 13 * 13 + 7)).toNat)).2 : Int) = if wg (w.2 34) (w.1 41 13 * 13 + 8) = 0 then (k : Int) else wg (w.2 34) (w.1 41 13 * 13 + 8)
theorem mkR_o {hb : Bool} {s s' : S_} {w w' : W_} {n : Int} (h : mkR hb s w) (hs : s_tl s' = s_tl s) (g : oQ n w w') (hn : w.1 33 1 ≤ n) (hc : w.1 33 1 ≤ w'.1 33 1) : mkR hb s' w' := fun q => by
  obtain ⟨a1, a2, a3, a4, a5⟩ := h q
  have e : ∀ f : Int, 0 ≤ f → f < 13 → wg (w'.2 34) (w'.1 41 13 * 13 + f) = wg (w.2 34) (w.1 41 13 * 13 + f) := fun f f0 f1 => by
    unfold wg
    rw [g.1.2, if_neg (by omega), if_neg (by omega), g.2.1 _ (by omega)]
  rw [hs, e 5 (by decide) (by decide), e 7 (by decide) (by decide), e 8 (by decide) (by decide), g.1.2]
  exact ⟨by omega, cW_x g.2.2.2 a2, a3, a4, a5⟩
theorem nW_o {w w' : W_} {E : N_} {n : Int} (h : nW w E) (g : oQ n w w') (h0 : 0 ≤ w.1 13 2) : nW w' E := fun m hm => by
  have h1 := h m hm
  rw [g.2.2.1, g.1.1]
  cases q : E m with
  | none => rw [q] at h1; exact h1
  | some v => rw [q] at h1; exact vW_x g.2.2.2 h0 h1
/-- the files, and what the evaluator has of them -/
def flO (C : C_) (a3 a5 a7 : Nat → Int) : Prop := a5 183 = 0 ∧ (∀ k : Nat, k < 181 → 0 ≤ a3 k ∧ a3 k < 32 ∧ 0 ≤ a5 k ∧ a5 k < 100) ∧ ∀ f : Nat, f < 3 → (0 ≤ a7 f ∧ a7 f ≤ 60) ∧ C.2.2.1 f = tx a3 a5 a7 f ∧ C.2.2.2 f = (j_go 200 (tJ a3 a5 a7 f) (some (true, false)) none 0).2.2
/-- all that holds ahead of an expression -/
def RD (C : C_) (sil : Bool) (o a0 : Nat) (D : Prop) (K0 : Int) (hb : Bool) (s : S_) (E : N_) (w : W_) : Prop := CR C sil o a0 D K0 s w ∧ nW w E ∧ mkR hb s w ∧ (0 ≤ w.1 33 1 ∧ w.1 33 1 ≤ 19990 + 2 * s_tb s) ∧ (0 ≤ w.1 41 12 ∧ w.1 41 12 ≤ s_rw s) ∧ s_lt s ≤ s_b s ∧ w.2 3 183 = 0 ∧ flO C (w.2 3) (w.2 5) (w.2 7) ∧ (D ∨ g0 (w.2 7))
theorem RD_o {C : C_} {sil : Bool} {o a0 : Nat} {D : Prop} {K0 : Int} {hb : Bool} {s s' : S_} {E : N_} {w w' : W_} (H : RD C sil o a0 D K0 hb s E w) (hC : CR C sil o a0 D K0 s' w') (g : oQ (w.1 33 1) w w') (hs : s_tl s' = s_tl s) (hr : s_rw s ≤ s_rw s') (hl : s_lt s' ≤ s_b s') (hc : w.1 33 1 ≤ w'.1 33 1 ∧ w'.1 33 1 ≤ 19990 + 2 * s_tb s') : RD C sil o a0 D K0 hb s' E w' := by
  obtain ⟨h1, h2, h3, h4, h5, h6, h7, h8⟩ := H
  have h0 := h1.2.2.1.2.2.2.1.1
  refine ⟨hC, nW_o h2 g h0, mkR_o h3 hs g (Int.le_refl _) hc.1, ⟨by omega, hc.2⟩, ?_, hl, ?_, ?_⟩
  · rw [g.1.1]; omega
  · rw [g.2.2.2.2.2.1.2.2.2.1]; exact h7
  · rw [g.2.2.2.2.2.1.2.2.2.1, g.2.2.2.2.2.1.2.2.2.2.1, g.2.2.2.2.2.1.2.2.2.2.2.1]; exact h8
theorem RD_oK {C : C_} {sil : Bool} {o a0 : Nat} {D : Prop} {K0 : Int} {s : S_} {w : W_} (H : CR C sil o a0 D K0 s w) : oK w := by
  unfold oK
  rw [(CR_o H).1]
  exact H.1.1.1
/-- the class runs an expression as the evaluator does -/
def cSK (C : C_) (sil : Bool) (o : Nat) (K0 : Int) (K : K_) : Prop := ∀ e E hb s v E1 s1, K sil e E hb s = some (v, E1, s1) → ∀ (a0 : Nat) (D : Prop) (w : W_) (fr : Nat) (Q : Option am_V → W_ → Prop) (i : Int), RD C sil o a0 D K0 hb s E w → eW w 0 hb e → w.1 41 10 = e_id e → (D → e_imp e = false ∧ n_ni E) → 20 ≤ fr → 0 ≤ i → i + 12 * (s_b s1 : Int) ≤ 900000 + 12 * (s_b s : Int) → s_b s1 ≤ 90000 ∧ s_nt s1 ≤ 900000 →
  (∀ i' w', i ≤ i' → i' + 12 * (s_b s : Int) ≤ i + 12 * (s_b s1 : Int) → RD C sil o a0 D K0 hb s1 E1 w' → w'.1 33 1 = w.1 33 1 → fQ (w.1 33 1) hb w w' → vW_ w' v (w'.1 41 11) → w'.1 41 10 = -1 → dr fr Q i' w') → dr fr Q i w
theorem vW_N {w : W_} {x : Int} (h : -9999 ≤ x ∧ x ≤ 9999) : vW_ w (vN x) x := by
  refine ⟨⟨rfl, h⟩, ?_⟩
  unfold hW
  rw [if_pos h, if_pos h, if_pos h]
  exact ⟨rfl, rfl, rfl, fun _ => rfl⟩
theorem vW_W {w : W_} : vW_ w vW 20004 := by
  refine ⟨rfl, ?_⟩
  unfold hW pH
  exact ⟨rfl, rfl, rfl, fun _ => rfl⟩
theorem vW_0 {w : W_} : vW_ w v0 20003 := by
  refine ⟨rfl, ?_⟩
  unfold hW pH
  exact ⟨rfl, rfl, rfl, fun _ => rfl⟩
