/-! ===== reading a file: what stays, what is still to come ===== -/
/-- nothing but the tree's own numbers is another -/
def tE (w w' : W_) : Prop := (∀ a j, a ≠ 36 → w'.1 a j = w.1 a j) ∧ ∀ b, b ≠ 37 → b ≠ 39 → w'.2 b = w.2 b
theorem tE_refl (w : W_) : tE w w := ⟨fun _ _ _ => rfl, fun _ _ _ => rfl⟩
theorem tE_tr {w w1 w2 : W_} (h : tE w w1) (g : tE w1 w2) : tE w w2 := ⟨fun a j q => (g.1 a j q).trans (h.1 a j q), fun b q r => (g.2 b q r).trans (h.2 b q r)⟩
theorem tE_f {w : W_} {j : Nat} {x : Int} : tE w (w_f w 36 j x) := ⟨fun a k q => by rw [w_f1, w_u_at, if_neg (fun z => q z.1)], fun _ _ _ => rfl⟩
theorem tE_a {w : W_} {a i : Nat} {x : Int} (h : a = 37 ∨ a = 39) : tE w (w_a w a i x) := ⟨fun _ _ _ => rfl, fun b h1 h2 => w_a_2ne w i x (by omega)⟩
theorem tE_fill {w : W_} {i j : Nat} {x : Int} : tE w (w_fill w 37 i j x) := ⟨fun _ _ _ => rfl, fun b h1 _ => w_fill_2ne w i j x h1⟩
theorem tE_ex {w : W_} {x0 x1 x2 x3 x4 : Int} : tE w (w_ex w x0 x1 x2 x3 x4) := by
  unfold w_ex
  exact tE_tr (tE_tr (tE_tr (tE_tr (tE_tr (tE_a (Or.inr rfl)) (tE_a (Or.inr rfl))) (tE_a (Or.inr rfl))) (tE_a (Or.inr rfl))) (tE_a (Or.inr rfl))) tE_f
theorem tE_o {w w' : W_} (h : tE w w') : w_o w' = w_o w := by unfold w_o; rw [h.1 17 7 (by decide)]
theorem kn_o {w : W_} (k : w_kn w) : w_o w = 24 ∨ w_o w = 55 ∨ w_o w = 64 := by
  have := k.2
  unfold w_o
  omega
theorem tE_kn {w w' : W_} (h : tE w w') (k : w_kn w) : w_kn w' := by
  have ho := kn_o k
  have e1 := h.1 (w_o w) 5 (by omega)
  unfold w_kn
  rw [tE_o h, h.1 17 7 (by decide), e1]
  exact k
theorem tE_nt {w w' : W_} {x : Int} (h : tE w w') (k : w_kn w) : tE (w_nt w x) (w_nt w' x) := by
  have ho := kn_o k
  have e1 := h.1 (w_o w) 5 (by omega)
  have e4 := h.2 (w_o w + 3) (by omega) (by omega)
  unfold w_nt
  rw [tE_o h, e1, h.1 17 5 (by decide), h.1 17 6 (by decide), e4]
  refine ⟨fun a j q => ?_, fun b q r => ?_⟩
  · simp only [w_f1, w_f2, w_a1, w_a2, w_u_at]
    rw [h.1 a j q]
  · funext i
    simp only [w_f1, w_f2, w_a1, w_a2, w_u_at]
    rw [h.2 b q r]
def w_nts (w : W_) (l : List Int) : W_ := l.foldl w_nt w
theorem w_nts_1 (w : W_) (l : List Int) (x : Int) : w_nts w (l ++ [x]) = w_nt (w_nts w l) x := by
  unfold w_nts
  rw [List.foldl_append]
  rfl
theorem w_kn_nts : ∀ (l : List Int) {w : W_}, w_kn w → w_kn (w_nts w l)
  | [], _, k => k
  | x :: l, w, k => w_kn_nts l (w := w_nt w x) (w_kn_nt k)
theorem w_nts_2 {b : Nat} (hb : b ≠ 27 ∧ b ≠ 58 ∧ b ≠ 67) : ∀ (l : List Int) {w : W_}, w_kn w → (w_nts w l).2 b = w.2 b
  | [], _, _ => rfl
  | x :: l, w, k => by
    have ho := kn_o k
    refine (w_nts_2 hb l (w := w_nt w x) (w_kn_nt k)).trans ?_
    exact w_a_2ne w _ _ (by omega)
theorem w_nt_1 {w : W_} {x : Int} (k : w_kn w) {a j : Nat} (ha : a ≠ 17 ∧ a ≠ 24 ∧ a ≠ 55 ∧ a ≠ 64) : (w_nt w x).1 a j = w.1 a j := by
  have ho := kn_o k
  unfold w_nt
  rw [w_f1, w_u_at, if_neg (by omega), w_f1, w_u_at, if_neg (by omega)]
  rfl
theorem w_nt_2 {w : W_} {x : Int} (k : w_kn w) {b : Nat} (hb : b ≠ 27 ∧ b ≠ 58 ∧ b ≠ 67) : (w_nt w x).2 b = w.2 b := by
  have ho := kn_o k
  exact w_a_2ne w _ _ (by omega)
/-- what is still to come: what, owner, slot, in a block, around -/
abbrev SE : Type := Int × Int × Int × Int × Int
def stR : List SE → (Nat → Int) → Prop
  | [], _ => True
  | (x0, x1, x2, x3, x4) :: st, b => (b (5 * st.length) = x0 ∧ b (5 * st.length + 1) = x1 ∧ b (5 * st.length + 2) = x2 ∧ b (5 * st.length + 3) = x3 ∧ b (5 * st.length + 4) = x4) ∧ stR st b
theorem stR_ne {b b' : Nat → Int} : ∀ st : List SE, (∀ k, k < 5 * st.length → b' k = b k) → stR st b → stR st b'
  | [], _, _ => trivial
  | (x0, x1, x2, x3, x4) :: st, h, ⟨⟨h0, h1, h2, h3, h4⟩, g⟩ => by
    rw [List.length_cons] at h
    exact ⟨⟨(h _ (by omega)).trans h0, (h _ (by omega)).trans h1, (h _ (by omega)).trans h2, (h _ (by omega)).trans h3, (h _ (by omega)).trans h4⟩, stR_ne st (fun k hk => h k (by omega)) g⟩
/-- a file that is read, ahead of it -/
def FI (w0 : W_) (f z : Nat) : Prop := w_kn w0 ∧ (f < 3 ∧ z ≤ 60 ∧ w0.2 7 f = z) ∧ ∀ k : Nat, k < 181 → 0 ≤ w0.2 3 k ∧ w0.2 3 k < 32 ∧ 0 ≤ w0.2 5 k ∧ w0.2 5 k < 100
/-- while it is read: what is still to come, the place, the faults so far -/
def RI (w0 : W_) (f z : Nat) (st : List SE) (p : Nat) (l : List Int) (w : W_) : Prop := tE (w_nts w0 l) w ∧ (w.1 36 4 = st.length ∧ w.1 36 5 = f ∧ w.1 36 6 = p) ∧ (stR st (w.2 39) ∧ st.length ≤ 3 * p + 1 ∧ p ≤ z) ∧ ∀ q s : Nat, p ≤ q → q < z → s < 9 → w.2 37 ((60 * f + q) * 9 + s) = 0
section
variable {w0 : W_} {f z : Nat} {st : List SE} {p : Nat} {l : List Int} {w : W_} {x0 x1 x2 x3 x4 : Int}
theorem RI_fl (H0 : FI w0 f z) (H : RI w0 f z st p l w) : w_kn w ∧ w.2 3 = w0.2 3 ∧ w.2 5 = w0.2 5 ∧ w.2 7 = w0.2 7 ∧ w.2 46 = w0.2 46 := by
  obtain ⟨k, -, -⟩ := H0
  have e : ∀ b : Nat, b ≠ 27 ∧ b ≠ 58 ∧ b ≠ 67 → b ≠ 37 → b ≠ 39 → w.2 b = w0.2 b := fun b h1 h2 h3 => (H.1.2 b h2 h3).trans (w_nts_2 h1 l k)
  exact ⟨tE_kn H.1 (w_kn_nts l k), e 3 (by decide) (by decide) (by decide), e 5 (by decide) (by decide) (by decide), e 7 (by decide) (by decide) (by decide), e 46 (by decide) (by decide) (by decide)⟩
theorem w_g_0 (w : W_) (b : Nat) {i : Int} {k : Nat} (h : i = k) : w_g w b i = w.2 b k := by
  unfold w_g
  rw [if_neg (by omega), h]
  rfl
theorem RI_top (H0 : FI w0 f z) (H : RI w0 f z ((x0, x1, x2, x3, x4) :: st) p l w) : (1 ≤ w.1 36 4 ∧ w.1 36 4 < 230) ∧ (w.1 36 4 - 1) * 5 = ((5 * st.length : Nat) : Int) ∧ w_g w 39 (((5 * st.length : Nat) : Int) + 0) = x0 ∧ w_g w 39 (((5 * st.length : Nat) : Int) + 1) = x1 ∧ w_g w 39 (((5 * st.length : Nat) : Int) + 2) = x2 ∧ w_g w 39 (((5 * st.length : Nat) : Int) + 3) = x3 ∧ w_g w 39 (((5 * st.length : Nat) : Int) + 4) = x4 := by
  obtain ⟨-, ⟨h4, -, -⟩, ⟨⟨⟨g0, g1, g2, g3, g4⟩, -⟩, hl, hp⟩, -⟩ := H
  have hz := H0.2.1
  rw [List.length_cons] at h4 hl
  exact ⟨by omega, by omega, by rw [w_g_0 w 39 (k := 5 * st.length) (by omega)]; exact g0, by rw [w_g_0 w 39 (k := 5 * st.length + 1) (by omega)]; exact g1, by rw [w_g_0 w 39 (k := 5 * st.length + 2) (by omega)]; exact g2, by rw [w_g_0 w 39 (k := 5 * st.length + 3) (by omega)]; exact g3, by rw [w_g_0 w 39 (k := 5 * st.length + 4) (by omega)]; exact g4⟩
theorem RI_4 {e : SE} {n : Int} (H : RI w0 f z (e :: st) p l w) (hn : n = w.1 36 4 - 1) : RI w0 f z st p l (w_f w 36 4 n) := by
  obtain ⟨h, ⟨h4, h5, h6⟩, ⟨⟨-, hs⟩, hl, hp⟩, hz⟩ := H
  rw [List.length_cons] at h4 hl
  refine ⟨tE_tr h tE_f, ⟨?_, ?_, ?_⟩, ⟨hs, by omega, hp⟩, hz⟩
  · rw [w_f1, w_u_at, if_pos ⟨rfl, rfl⟩, hn]; omega
  · rw [w_f1, w_u_at, if_neg (by decide)]; exact h5
  · rw [w_f1, w_u_at, if_neg (by decide)]; exact h6
theorem RI_6 {n : Int} (H : RI w0 f z st p l w) (hn : n = (p : Int) + 1) (hp : p < z) : RI w0 f z st (p + 1) l (w_f w 36 6 n) := by
  obtain ⟨h, ⟨h4, h5, h6⟩, ⟨hs, hl, -⟩, hz⟩ := H
  refine ⟨tE_tr h tE_f, ⟨?_, ?_, ?_⟩, ⟨hs, by omega, hp⟩, fun q s h1 h2 h3 => hz q s (by omega) h2 h3⟩
  · rw [w_f1, w_u_at, if_neg (by decide)]; exact h4
  · rw [w_f1, w_u_at, if_neg (by decide)]; exact h5
  · rw [w_f1, w_u_at, if_pos ⟨rfl, rfl⟩, hn]; rfl
theorem RI_37 {i : Nat} {x : Int} (H : RI w0 f z st p l w) (hi : ∀ q s : Nat, p ≤ q → q < z → s < 9 → (60 * f + q) * 9 + s ≠ i) : RI w0 f z st p l (w_a w 37 i x) := by
  obtain ⟨h, h1, h2, hz⟩ := H
  refine ⟨tE_tr h (tE_a (Or.inl rfl)), h1, h2, fun q s q1 q2 q3 => ?_⟩
  rw [w_a2, w_u_at, if_neg (fun y => hi q s q1 q2 q3 y.2)]
  exact hz q s q1 q2 q3
theorem RI_nt {x : Int} (H0 : FI w0 f z) (H : RI w0 f z st p l w) : RI w0 f z st p (l ++ [x]) (w_nt w x) := by
  have kn := (RI_fl H0 H).1
  obtain ⟨h, ⟨h4, h5, h6⟩, h2, hz⟩ := H
  refine ⟨by rw [w_nts_1]; exact tE_nt h (w_kn_nts l H0.1), ⟨(w_nt_1 kn (by decide)).trans h4, (w_nt_1 kn (by decide)).trans h5, (w_nt_1 kn (by decide)).trans h6⟩, ?_, ?_⟩
  · rw [w_nt_2 kn (by decide)]; exact h2
  · rw [w_nt_2 kn (by decide)]; exact hz
theorem ex_39 {n : Nat} (h4 : w.1 36 4 = n) : (∀ k, k < 5 * n → (w_ex w x0 x1 x2 x3 x4).2 39 k = w.2 39 k) ∧ (w_ex w x0 x1 x2 x3 x4).2 39 (5 * n) = x0 ∧ (w_ex w x0 x1 x2 x3 x4).2 39 (5 * n + 1) = x1 ∧ (w_ex w x0 x1 x2 x3 x4).2 39 (5 * n + 2) = x2 ∧ (w_ex w x0 x1 x2 x3 x4).2 39 (5 * n + 3) = x3 ∧ (w_ex w x0 x1 x2 x3 x4).2 39 (5 * n + 4) = x4 := by
  have e : ∀ k, (w_ex w x0 x1 x2 x3 x4).2 39 k = if k = 5 * n + 4 then x4 else if k = 5 * n + 3 then x3 else if k = 5 * n + 2 then x2 else if k = 5 * n + 1 then x1 else if k = 5 * n then x0 else w.2 39 k := fun k => by
    unfold w_ex
    rw [h4, show ((n : Int) * 5 + 0).toNat = 5 * n by omega, show ((n : Int) * 5 + 1).toNat = 5 * n + 1 by omega, show ((n : Int) * 5 + 2).toNat = 5 * n + 2 by omega, show ((n : Int) * 5 + 3).toNat = 5 * n + 3 by omega, show ((n : Int) * 5 + 4).toNat = 5 * n + 4 by omega]
    simp only [w_f2, w_a2, w_u_at, true_and]
  refine ⟨fun k hk => ?_, ?_, ?_, ?_, ?_, ?_⟩
  · rw [e, if_neg (by omega), if_neg (by omega), if_neg (by omega), if_neg (by omega), if_neg (by omega)]
  · rw [e, if_neg (by omega), if_neg (by omega), if_neg (by omega), if_neg (by omega), if_pos rfl]
  · rw [e, if_neg (by omega), if_neg (by omega), if_neg (by omega), if_pos rfl]
  · rw [e, if_neg (by omega), if_neg (by omega), if_pos rfl]
  · rw [e, if_neg (by omega), if_pos rfl]
  · rw [e, if_pos rfl]
theorem ex_37 : (w_ex w x0 x1 x2 x3 x4).2 37 = w.2 37 := by
  unfold w_ex
  rw [w_f2, w_a_2ne _ _ _ (by decide), w_a_2ne _ _ _ (by decide), w_a_2ne _ _ _ (by decide), w_a_2ne _ _ _ (by decide), w_a_2ne _ _ _ (by decide)]
theorem ex_1 {j : Nat} : (w_ex w x0 x1 x2 x3 x4).1 36 j = if j = 4 then w.1 36 4 + 1 else w.1 36 j := by
  unfold w_ex
  rw [w_f1, w_u_at]
  by_cases c : j = 4
  · rw [if_pos ⟨rfl, c⟩, if_pos c]
  · rw [if_neg (fun q => c q.2), if_neg c, w_a1, w_a1, w_a1, w_a1, w_a1]
theorem RI_ex (H : RI w0 f z st p l w) (hl : st.length ≤ 3 * p) : RI w0 f z ((x0, x1, x2, x3, x4) :: st) p l (w_ex w x0 x1 x2 x3 x4) := by
  obtain ⟨h, ⟨h4, h5, h6⟩, ⟨hs, -, hp⟩, hz⟩ := H
  obtain ⟨e, e0, e1, e2, e3, e4⟩ := ex_39 (w := w) (x0 := x0) (x1 := x1) (x2 := x2) (x3 := x3) (x4 := x4) h4
  refine ⟨tE_tr h tE_ex, ⟨?_, ?_, ?_⟩, ⟨⟨⟨e0, e1, e2, e3, e4⟩, stR_ne st e hs⟩, by rw [List.length_cons]; omega, hp⟩, by rw [ex_37]; exact hz⟩
  · rw [ex_1, if_pos rfl, h4, List.length_cons]; rfl
  · rw [ex_1, if_neg (by decide)]; exact h5
  · rw [ex_1, if_neg (by decide)]; exact h6
theorem RI_39 {i : Nat} {y : Int} (H : RI w0 f z ((x0, x1, x2, x3, x4) :: st) p l w) (hi : i = 5 * st.length + 2) : RI w0 f z ((x0, x1, y, x3, x4) :: st) p l (w_a w 39 i y) := by
  obtain ⟨h, h1, ⟨⟨⟨g0, g1, g2, g3, g4⟩, hs⟩, hl, hp⟩, hz⟩ := H
  have e : ∀ k, (w_a w 39 i y).2 39 k = if k = i then y else w.2 39 k := fun k => by rw [w_a2, w_u_at]; simp only [true_and]
  refine ⟨tE_tr h (tE_a (Or.inr rfl)), h1, ⟨⟨⟨?_, ?_, ?_, ?_, ?_⟩, stR_ne st (fun k hk => ?_) hs⟩, hl, hp⟩, ?_⟩
  · rw [e, if_neg (by omega)]; exact g0
  · rw [e, if_neg (by omega)]; exact g1
  · rw [e, if_pos hi.symm]
  · rw [e, if_neg (by omega)]; exact g3
  · rw [e, if_neg (by omega)]; exact g4
  · rw [e, if_neg (by omega)]
  · rw [w_a_2ne w _ _ (by decide)]; exact hz
end
/-! ===== reading a file: code and its slots ===== -/
/-- all places in a code -/
def e_all (S : Nat → Prop) : T_ → Prop
  | .tag _ (.nest _ (.tag id (.append a (.append b c)))) => S id ∧ e_all S a ∧ e_all S b ∧ e_all S c
  | .tag _ (.nest _ (.tag id (.append x r))) => S id ∧ e_all S x ∧ e_all S r
  | _ => True
theorem e_all_ct {S : Nat → Prop} {k : Nat} {n : Int} {id : Nat} {x r : T_} (hn : ∀ b c, r ≠ .append b c) : e_all S (ct k n id x r) = (S id ∧ e_all S x ∧ e_all S r) := by
  unfold ct
  rw [e_all]
  exact hn
theorem e_all_oth {S : Nat → Prop} {e : T_} (h1 : ∀ k n id a b c, e ≠ ce k n id a b c) (h2 : ∀ k n id x r, e ≠ ct k n id x r) : e_all S e = True := by
  rw [e_all]
  · exact h1
  · exact h2
theorem e_all_mono {S S' : Nat → Prop} (h : ∀ i, S i → S' i) : ∀ t, e_all S t → e_all S' t := by
  intro t
  induction t using c_sz.induct with
  | case1 k n id a b c ia ib ic => exact fun ⟨q0, q1, q2, q3⟩ => ⟨h _ q0, ia q1, ib q2, ic q3⟩
  | case2 k n id x r hn ix ir =>
    have hn' : ∀ b c, r ≠ .append b c := fun b c q => hn b c q
    intro q
    have q : e_all S (ct k n id x r) := q
    rw [e_all_ct hn'] at q
    show e_all S' (ct k n id x r)
    rw [e_all_ct hn']
    exact ⟨h _ q.1, ix q.2.1, ir q.2.2⟩
  | case3 e h1 h2 =>
    intro _
    rw [e_all_oth (fun _ _ _ _ _ _ => h1 _ _ _ _ _ _) (fun _ _ _ _ _ => h2 _ _ _ _ _)]
    trivial
theorem e_all_T : ∀ t, e_all (fun _ => True) t := by
  intro t
  induction t using c_sz.induct with
  | case1 k n id a b c ia ib ic => exact ⟨trivial, ia, ib, ic⟩
  | case2 k n id x r hn ix ir =>
    show e_all _ (ct k n id x r)
    rw [e_all_ct fun b c q => hn b c q]
    exact ⟨trivial, ix, ir⟩
  | case3 e h1 h2 =>
    rw [e_all_oth (fun _ _ _ _ _ _ => h1 _ _ _ _ _ _) (fun _ _ _ _ _ => h2 _ _ _ _ _)]
    trivial
/-- the tree's slots of a code's places stay: so does what is told of it -/
theorem eR_ch {a3 a5 a37 a37' a46 a46' : Nat → Int} {S : Nat → Prop} (h : ∀ id, S id → id < 180 → a46 (id / 60) ≠ 0 → a46' (id / 60) ≠ 0 ∧ ∀ s : Nat, s < 9 → a37' (id * 9 + s) = a37 (id * 9 + s)) : ∀ (t : T_) (m : Nat) (hb : Bool), e_all S t → eR a3 a5 a37 a46 m hb t → eR a3 a5 a37' a46' m hb t := by
  have hw : ∀ {id : Nat}, S id → id < 180 → a46 (id / 60) ≠ 0 → ∀ s : Nat, s < 9 → wg a37' ((id : Int) * 9 + (s : Int)) = wg a37 ((id : Int) * 9 + (s : Int)) := fun {id} h1 h2 h3 s hs => by
    unfold wg
    rw [if_neg (by omega), if_neg (by omega), show ((id : Int) * 9 + (s : Int)).toNat = id * 9 + s by omega]
    exact (h id h1 h2 h3).2 s hs
  intro t
  induction t using c_sz.induct with
  | case1 k n id a b c ia ib ic =>
    intro m hb S0 q
    obtain ⟨S0, Sa, Sb, Sc⟩ := S0
    cases m with
    | zero =>
      obtain ⟨⟨h1, h2, h3, h4, h5, h6, h7, h8⟩, g6, g8, p1, p2, p3, gf, r⟩ := q
      have z := h id S0 h1 h8
      have e0 : wg a37' ((id : Int) * 9) = wg a37 ((id : Int) * 9) := by
        have := hw S0 h1 h8 0 (by decide)
        rw [show (id : Int) * 9 + ((0 : Nat) : Int) = (id : Int) * 9 by omega] at this
        exact this
      have E : ∀ s : Nat, s < 9 → wg a37' ((id : Int) * 9 + (s : Int)) = wg a37 ((id : Int) * 9 + (s : Int)) := hw S0 h1 h8
      have E0 : wg a37' ((id : Int) * 9 + 0) = wg a37 ((id : Int) * 9 + 0) := E 0 (by decide)
      have E1 : wg a37' ((id : Int) * 9 + 1) = wg a37 ((id : Int) * 9 + 1) := E 1 (by decide)
      have E2 : wg a37' ((id : Int) * 9 + 2) = wg a37 ((id : Int) * 9 + 2) := E 2 (by decide)
      have E4 : wg a37' ((id : Int) * 9 + 4) = wg a37 ((id : Int) * 9 + 4) := E 4 (by decide)
      have E5 : wg a37' ((id : Int) * 9 + 5) = wg a37 ((id : Int) * 9 + 5) := E 5 (by decide)
      have E6 : wg a37' ((id : Int) * 9 + 6) = wg a37 ((id : Int) * 9 + 6) := E 6 (by decide)
      have E7 : wg a37' ((id : Int) * 9 + 7) = wg a37 ((id : Int) * 9 + 7) := E 7 (by decide)
      refine ⟨⟨h1, h2, h3, h4, h5, h6, h7, z.1⟩, fun c => by rw [E6]; exact g6 c, fun c => ⟨by rw [e0]; exact (g8 c).1, ia _ _ Sa (g8 c).2⟩, fun c => ⟨by rw [E0]; exact (p1 c).1, ia _ _ Sa (p1 c).2⟩, fun c => ⟨by rw [E1]; exact (p2 c).1, ib _ _ Sb (p2 c).2⟩, fun c => ⟨by rw [E2]; exact (p3 c).1, ic _ _ Sc (p3 c).2⟩, fun c => ?_, r⟩
      rw [E4, E5, E7]
      exact gf c
    | succ m =>
      obtain ⟨-, -, -, -, -, q⟩ := q
      exact q.elim
  | case2 k n id x r hn ix ir =>
    have hn' : ∀ b c, r ≠ .append b c := fun b c q => hn b c q
    intro m hb S0 q
    have S0 : e_all S (ct k n id x r) := S0
    rw [e_all_ct hn'] at S0
    obtain ⟨S0, Sx, Sr⟩ := S0
    cases m with
    | zero =>
      cases r with
      | append b c => exact absurd rfl (hn' b c)
      | _ => exact q.elim
    | succ m =>
      obtain ⟨⟨h1, h2, h3, h4, h5, h6, h8⟩, hx, g3, p3, p4, hr⟩ := q
      have z := h id S0 h1 h8
      have E : ∀ s : Nat, s < 9 → wg a37' ((id : Int) * 9 + (s : Int)) = wg a37 ((id : Int) * 9 + (s : Int)) := hw S0 h1 h8
      have E0 : wg a37' ((id : Int) * 9 + 0) = wg a37 ((id : Int) * 9 + 0) := E 0 (by decide)
      have e0 : wg a37' ((id : Int) * 9) = wg a37 ((id : Int) * 9) := by
        have := E0
        rw [Int.add_zero] at this
        exact this
      have E3 : wg a37' ((id : Int) * 9 + 3) = wg a37 ((id : Int) * 9 + 3) := E 3 (by decide)
      exact ⟨⟨h1, h2, h3, h4, h5, h6, z.1⟩, hx, by rw [E3]; exact g3, fun c => ⟨by rw [E0]; exact (p3 c).1, ix _ _ Sx (p3 c).2⟩, fun c => ⟨by rw [e0]; exact (p4 c).1, ix _ _ Sx (p4 c).2⟩, ir _ _ Sr hr⟩
  | case3 e h1 h2 =>
    intro m hb _ q
    unfold eR at q ⊢
    split at q
    · exact absurd rfl (h1 _ _ _ _ _ _)
    · trivial
    · exact q.elim
    · exact absurd rfl (h2 _ _ _ _ _)
    · trivial
    · exact q.elim
/-- who tells a name itself -/
def tel (a3 a5 a : Nat → Int) (d : Int) (m : Nat) : Prop := wg a3 d = 16 ∧ (wg a5 d % 10 = m ∨ wg a (d * 9 + 7) = (m : Int) + 1)
def bt (x : Int) (m : Nat) : Prop := x.toNat >>> m % 2 = 1
/-- what a FUNC or LATE around comes to know -/
def tD (a3 a5 a a' : Nat → Int) (d : Int) (im : Bool) (nm : Nat → Bool) : Prop := wg a' (d * 9 + 5) = (if im = true then 1 else wg a (d * 9 + 5)) ∧ (0 ≤ wg a (d * 9 + 4) ∧ wg a (d * 9 + 4) < 1024 → (0 ≤ wg a' (d * 9 + 4) ∧ wg a' (d * 9 + 4) < 1024) ∧ ∀ m, m < 10 → (bt (wg a' (d * 9 + 4)) m ↔ bt (wg a (d * 9 + 4)) m ∨ (nm m = true ∧ ¬ tel a3 a5 a d m)))
/-- those around, from inside out -/
def chA (a : Nat → Int) (f : Nat) : Int → Int → List Int → Prop
  | c, _, [] => c = -1
  | c, B, d :: l => c = d ∧ 60 * (f : Int) ≤ d ∧ d < B ∧ chA a f (wg a (d * 9 + 8) - 1) d l
theorem chA_mem {a : Nat → Int} {f : Nat} : ∀ (l : List Int) {c B : Int}, chA a f c B l → ∀ x, x ∈ l → 60 * (f : Int) ≤ x ∧ x < B
  | [], _, _, _, _, hx => by cases hx
  | d :: l, c, B, ⟨_, h1, h2, h3⟩, x, hx => by
    rcases List.mem_cons.mp hx with rfl | hx
    · exact ⟨h1, h2⟩
    · have := chA_mem l h3 x hx
      exact ⟨this.1, by omega⟩
theorem chA_B {a : Nat → Int} {f : Nat} {c B B' : Int} (hB : B ≤ B') : ∀ (l : List Int), chA a f c B l → chA a f c B' l
  | [], h => h
  | _ :: _, ⟨h0, h1, h2, h3⟩ => ⟨h0, h1, by omega, h3⟩
theorem chA_a {a a' : Nat → Int} {f : Nat} : ∀ (l : List Int) {c B : Int}, (∀ d, d ∈ l → wg a' (d * 9 + 8) = wg a (d * 9 + 8)) → chA a f c B l → chA a' f c B l
  | [], _, _, _, h => h
  | d :: l, c, B, he, ⟨h0, h1, h2, h3⟩ => ⟨h0, h1, h2, by rw [he d (List.mem_cons_self ..)]; exact chA_a l (fun x hx => he x (List.mem_cons_of_mem _ hx)) h3⟩
theorem chA_len {a : Nat → Int} {f : Nat} : ∀ (l : List Int) {c B : Int}, 60 * (f : Int) ≤ B → chA a f c B l → (l.length : Int) ≤ B - 60 * f
  | [], _, _, h, _ => by
    show (0 : Int) ≤ _
    omega
  | d :: l, c, B, h, ⟨_, h1, h2, h3⟩ => by
    have := chA_len l h1 h3
    rw [List.length_cons]
    omega
/-- what reading a code does to the tree -/
def pQ (a3 a5 a a' : Nat → Int) (S : Nat → Prop) (cs : List Int) (im : Bool) (nm : Nat → Bool) : Prop := (∀ k : Nat, ¬ S k → (∀ d, d ∈ cs → (k : Int) ≠ d * 9 + 4 ∧ (k : Int) ≠ d * 9 + 5) → a' k = a k) ∧ ∀ d, d ∈ cs → tD a3 a5 a a' d im nm
theorem wg_0 {a : Nat → Int} {i : Int} {k : Nat} (h : i = k) : wg a i = a k := by
  unfold wg
  rw [if_neg (by omega), h]
  rfl
theorem tD_refl {a3 a5 a : Nat → Int} {d : Int} : tD a3 a5 a a d false fun _ => false := ⟨by rw [if_neg Bool.false_ne_true], fun h => ⟨h, fun m _ => ⟨Or.inl, fun q => by
  rcases q with q | ⟨q, -⟩
  · exact q
  · cases q⟩⟩⟩
theorem pQ_S {a3 a5 a a' : Nat → Int} {S : Nat → Prop} {cs : List Int} (h : ∀ k, ¬ S k → a' k = a k) (hd : ∀ d, d ∈ cs → 0 ≤ d ∧ ¬ S (d * 9 + 4).toNat ∧ ¬ S (d * 9 + 5).toNat) : pQ a3 a5 a a' S cs false fun _ => false := by
  refine ⟨fun k hk _ => h k hk, fun d hx => ?_⟩
  obtain ⟨d0, d1, d2⟩ := hd d hx
  have e4 : wg a' (d * 9 + 4) = wg a (d * 9 + 4) := by
    rw [wg_0 (k := (d * 9 + 4).toNat) (by omega), wg_0 (k := (d * 9 + 4).toNat) (by omega)]
    exact h _ d1
  have e5 : wg a' (d * 9 + 5) = wg a (d * 9 + 5) := by
    rw [wg_0 (k := (d * 9 + 5).toNat) (by omega), wg_0 (k := (d * 9 + 5).toNat) (by omega)]
    exact h _ d2
  have := tD_refl (a3 := a3) (a5 := a5) (a := a) (d := d)
  unfold tD at this ⊢
  rw [e4, e5]
  exact this
theorem pQ_mono {a3 a5 a a' : Nat → Int} {S S' : Nat → Prop} {cs : List Int} {im : Bool} {nm : Nat → Bool} (h : pQ a3 a5 a a' S cs im nm) (hS : ∀ k, S k → S' k) : pQ a3 a5 a a' S' cs im nm := ⟨fun k hk => h.1 k fun q => hk (hS k q), h.2⟩
theorem pQ_tr {a3 a5 a a1 a2 : Nat → Int} {S : Nat → Prop} {cs : List Int} {im1 im2 : Bool} {nm1 nm2 : Nat → Bool} (h : pQ a3 a5 a a1 S cs im1 nm1) (g : pQ a3 a5 a1 a2 S cs im2 nm2) (hd : ∀ d, d ∈ cs → 0 ≤ d ∧ ¬ S (d * 9 + 7).toNat) : pQ a3 a5 a a2 S cs (im1 || im2) (fun m => nm1 m || nm2 m) := by
  refine ⟨fun k hk hc => (g.1 k hk hc).trans (h.1 k hk hc), fun d hx => ?_⟩
  obtain ⟨d0, d7⟩ := hd d hx
  have e7 : wg a1 (d * 9 + 7) = wg a (d * 9 + 7) := by
    rw [wg_0 (k := (d * 9 + 7).toNat) (by omega), wg_0 (k := (d * 9 + 7).toNat) (by omega)]
    exact h.1 _ d7 fun d' _ => by omega
  obtain ⟨h1, h2⟩ := h.2 d hx
  obtain ⟨g1, g2⟩ := g.2 d hx
  refine ⟨?_, fun r => ?_⟩
  · rw [g1, h1]
    cases im1 <;> cases im2 <;> rfl
  · obtain ⟨r1, h3⟩ := h2 r
    obtain ⟨r2, g3⟩ := g2 r1
    refine ⟨r2, fun m hm => ?_⟩
    have t : tel a3 a5 a1 d m ↔ tel a3 a5 a d m := by
      unfold tel
      rw [e7]
    rw [g3 m hm, h3 m hm, t, Bool.or_eq_true]
    constructor
    · rintro ((q | q) | q)
      · exact Or.inl q
      · exact Or.inr ⟨Or.inl q.1, q.2⟩
      · exact Or.inr ⟨Or.inr q.1, q.2⟩
    · rintro (q | ⟨q | q, r⟩)
      · exact Or.inl (Or.inl q)
      · exact Or.inl (Or.inr ⟨q, r⟩)
      · exact Or.inr ⟨q, r⟩
