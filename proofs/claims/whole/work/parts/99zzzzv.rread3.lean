/-! ===== the reference reads as j_go does ===== -/
/-- a node of the reference: where, what -/
def rEP (w : W_) (lo hi x : Int) (k : Nat) (n : Int) (id : Nat) : Prop := ((lo ≤ x ∧ x < hi) ∧ id < 1000) ∧ w.2 77 x.toNat = k ∧ w.2 78 x.toNat = n ∧ w.2 79 x.toNat = ((id / 60 : Nat) : Int) ∧ w.2 80 x.toNat = ((id % 60 : Nat) : Int)
/-- in a formula there are signs and CODE alone -/
def r_fO : T_ → Prop
  | .tag k (.nest _ (.tag _ (.append _ r))) => (k = 0 ∨ k = 3) ∧ r_fO r
  | _ => True
/-- node x is that code: an expression (some own: the name of the LET whose part it is), or items (none) -/
def rEN (w : W_) (lo hi : Int) : T_ → Option (Option Nat) → Int → Prop
  | .tag k (.nest n (.tag id (.append a (.append b c)))), some own, x => rEP w lo hi x k n id ∧ ((6 ≤ k ∧ k ≤ 31) ∧ 0 ≤ n ∧ n < 100) ∧ (k = 8 → rEN w lo hi a none (w.2 82 x.toNat)) ∧ (k ≠ 8 → w.2 82 x.toNat = -1) ∧ (1 ≤ j_par k → rEN w lo hi a (some (if k = 15 then some (n % 10).toNat else none)) (w.2 81 (3 * x.toNat))) ∧ (2 ≤ j_par k → rEN w lo hi b (some none) (w.2 81 (3 * x.toNat + 1))) ∧ (3 ≤ j_par k → rEN w lo hi c (some none) (w.2 81 (3 * x.toNat + 2))) ∧ (k ≠ 8 → j_par k = 0 → a = .nil) ∧ (j_par k < 2 → b = j_own k own) ∧ (j_par k < 3 → c = .nil)
  | .tag k (.nest n (.tag id (.append y r))), none, x => rEP w lo hi x k n id ∧ (k ≤ 4 ∧ 0 ≤ n ∧ n < 100) ∧ (k = 3 → rEN w lo hi y (some none) (w.2 81 (3 * x.toNat))) ∧ (k = 4 → rEN w lo hi y none (w.2 82 x.toNat) ∧ r_fO y) ∧ (k ≠ 4 → w.2 82 x.toNat = -1) ∧ (k ≠ 3 → k ≠ 4 → y = .nil) ∧ rEN w lo hi r none (w.2 83 x.toNat)
  | .nil, some _, x => (lo ≤ x ∧ x < hi) ∧ w.2 77 x.toNat = 40 ∧ w.2 82 x.toNat = -1
  | .nil, none, x => x = -1
  | _, _, _ => False
theorem rEN_it {w : W_} {lo hi : Int} {k : Nat} {n : Int} {id : Nat} {y r : T_} {x : Int} : rEN w lo hi (.tag k (.nest n (.tag id (.append y r)))) none x = (rEP w lo hi x k n id ∧ (k ≤ 4 ∧ 0 ≤ n ∧ n < 100) ∧ (k = 3 → rEN w lo hi y (some none) (w.2 81 (3 * x.toNat))) ∧ (k = 4 → rEN w lo hi y none (w.2 82 x.toNat) ∧ r_fO y) ∧ (k ≠ 4 → w.2 82 x.toNat = -1) ∧ (k ≠ 3 → k ≠ 4 → y = .nil) ∧ rEN w lo hi r none (w.2 83 x.toNat)) := by
  cases r <;> rfl
/-- nodes that stay -/
def rAN (w w' : W_) (lo hi : Int) : Prop := ∀ i : Nat, lo ≤ i → (i : Int) < hi → (w'.2 77 i = w.2 77 i ∧ w'.2 78 i = w.2 78 i ∧ w'.2 79 i = w.2 79 i ∧ w'.2 80 i = w.2 80 i) ∧ (w'.2 82 i = w.2 82 i ∧ w'.2 83 i = w.2 83 i) ∧ w'.2 81 (3 * i) = w.2 81 (3 * i) ∧ w'.2 81 (3 * i + 1) = w.2 81 (3 * i + 1) ∧ w'.2 81 (3 * i + 2) = w.2 81 (3 * i + 2)
theorem rEP_mono {w w' : W_} {lo hi lo' hi' : Int} (h0 : 0 ≤ lo) (hA : rAN w w' lo hi) (hl : lo' ≤ lo) (hh : hi ≤ hi') {x : Int} {k : Nat} {n : Int} {id : Nat} (h : rEP w lo hi x k n id) : rEP w' lo' hi' x k n id := by
  obtain ⟨⟨h1, h2⟩, h3, h4, h5, h6⟩ := h
  have A := hA x.toNat (by omega) (by omega)
  exact ⟨⟨by omega, by omega⟩, by rw [A.1.1]; exact h3, by rw [A.1.2.1]; exact h4, by rw [A.1.2.2.1]; exact h5, by rw [A.1.2.2.2]; exact h6⟩
theorem rEN_mono {w w' : W_} {lo hi lo' hi' : Int} (h0 : 0 ≤ lo) (hA : rAN w w' lo hi) (hl : lo' ≤ lo) (hh : hi ≤ hi') (e : T_) (m : Option (Option Nat)) (x : Int) : rEN w lo hi e m x → rEN w' lo' hi' e m x := by
  induction e, m, x using rEN.induct (w := w) with
  | case1 k n id a b c own x i1 i2 i3 i4 =>
    intro h
    unfold rEN at h ⊢
    obtain ⟨h1, h2, h3, h4, h5, h6, h7, h8⟩ := h
    have A := hA x.toNat (by have := h1.1; omega) (by have := h1.1; omega)
    refine ⟨rEP_mono h0 hA hl hh h1, h2, fun q => ?_, fun q => ?_, fun q => ?_, fun q => ?_, fun q => ?_, h8⟩
    · rw [A.2.1.1]; exact i1 (h3 q)
    · rw [A.2.1.1]; exact h4 q
    · rw [A.2.2.1]; exact i2 (h5 q)
    · rw [A.2.2.2.1]; exact i3 (h6 q)
    · rw [A.2.2.2.2]; exact i4 (h7 q)
  | case2 k n id y r x i1 i2 i3 =>
    intro h
    rw [rEN_it] at h ⊢
    obtain ⟨h1, h2, h3, h4, h5, h6, h7⟩ := h
    have A := hA x.toNat (by have := h1.1; omega) (by have := h1.1; omega)
    refine ⟨rEP_mono h0 hA hl hh h1, h2, fun q => ?_, fun q => ?_, fun q => ?_, h6, ?_⟩
    · rw [A.2.2.1]; exact i1 (h3 q)
    · rw [A.2.1.1]; exact ⟨i2 (h4 q).1, (h4 q).2⟩
    · rw [A.2.1.1]; exact h5 q
    · rw [A.2.1.2]; exact i3 h7
  | case3 own x =>
    intro h
    unfold rEN at h ⊢
    have A := hA x.toNat (by omega) (by omega)
    exact ⟨⟨by omega, by omega⟩, by rw [A.1.1]; exact h.2.1, by rw [A.2.1.1]; exact h.2.2⟩
  | case4 x => intro h; exact h
  | case5 e m x q1 q2 q3 q4 =>
    intro h
    unfold rEN at h
    split at h <;> first | (exact h.elim) | (exfalso; first | exact q1 _ _ _ _ _ _ _ rfl rfl | exact q2 _ _ _ _ _ rfl rfl | exact q3 _ rfl rfl | exact q4 rfl rfl)
theorem rAN_rfl (w : W_) (lo hi : Int) : rAN w w lo hi := fun i _ _ => ⟨⟨rfl, rfl, rfl, rfl⟩, ⟨rfl, rfl⟩, rfl, rfl, rfl⟩
/-- faults as E has them -/
def rFR (s : S_) (w : W_) : Prop := (w.1 73 41 = ((s_fl s).length : Nat) ∧ (s_fl s).length ≤ 60) ∧ (∀ i : Nat, i < (s_fl s).length → w.2 102 i = (s_fl s).getD i 0) ∧ (s_nt s : Int) ≤ w.1 73 40 ∧ w.1 73 40 ≤ 2 * (s_nt s : Int)
theorem f_list_app (C : C_) : ∀ (l1 l2 : List Int) (s : S_), f_list C (l1 ++ l2) s = f_list C l2 (f_list C l1 s) := by
  intro l1
  induction l1 with
  | nil => intro l2 s; rfl
  | cons f l ih => intro l2 s; exact ih l2 _
theorem rFR_nt {s : S_} {w : W_} {C : C_} {c f p z : Int} (hu : C.2.1 = w.1 73 62) (h : rFR s w) (hz : z = 100000 * c + (10000 * f + 100 * p)) : rFR (f_note C z s) (r_nt w c f p) := by
  obtain ⟨⟨h1, h2⟩, h3, h4, h5⟩ := h
  unfold r_nt
  have e1 : s_fl (f_note C z s) = if (s_fl s).length < 60 then s_fl s ++ [z + C.2.1] else s_fl s := rfl
  have e2 : s_nt (f_note C z s) = s_nt s + 1 := rfl
  by_cases q : (s_fl s).length < 60
  · rw [if_pos (by omega)]
    rw [if_pos q] at e1
    unfold rFR
    rw [e1, e2, List.length_append, List.length_singleton]
    refine ⟨⟨?_, by omega⟩, fun i hi => ?_, ?_, ?_⟩
    · show w.1 73 41 + 1 = _
      omega
    · show (if 102 = 102 ∧ i = (w.1 73 41).toNat then _ else w.2 102 i) = _
      by_cases d : i = (s_fl s).length
      · rw [if_pos ⟨rfl, by omega⟩, d, List.getD_eq_getElem?_getD, List.getElem?_append_right (Nat.le_refl _), Nat.sub_self]
        show 100000 * c + 10000 * f + 100 * p + w.1 73 62 = z + C.2.1
        omega
      · rw [if_neg (by omega), h3 i (by omega), List.getD_eq_getElem?_getD, List.getD_eq_getElem?_getD, List.getElem?_append_left (by omega)]
    · show ((s_nt s + 1 : Nat) : Int) ≤ w.1 73 40 + 1
      omega
    · show w.1 73 40 + 1 ≤ 2 * ((s_nt s + 1 : Nat) : Int)
      omega
  · rw [if_neg (by omega)]
    rw [if_neg q] at e1
    unfold rFR
    rw [e1, e2]
    refine ⟨⟨h1, h2⟩, h3, ?_, ?_⟩
    · show ((s_nt s + 1 : Nat) : Int) ≤ w.1 73 40 + 1
      omega
    · show w.1 73 40 + 1 ≤ 2 * ((s_nt s + 1 : Nat) : Int)
      omega
theorem rFR_w {s : S_} {w w' : W_} (h : rFR s w) (e1 : w'.1 73 40 = w.1 73 40) (e2 : w'.1 73 41 = w.1 73 41) (e3 : w'.2 102 = w.2 102) : rFR s w' := by
  unfold rFR at h ⊢
  rw [e1, e2, e3]
  exact h
/-- what was read: the faults, nodes behind those that were there -/
def rRQ (w w' : W_) (l : List Int) : Prop := ((∀ a j, ¬ (a = 73 ∧ (j = 5 ∨ j = 14 ∨ j = 40 ∨ j = 41)) → w'.1 a j = w.1 a j) ∧ ∀ b, b < 77 ∨ 83 < b → b ≠ 102 → w'.2 b = w.2 b) ∧ (0 ≤ w.1 73 5 ∧ w.1 73 5 ≤ w'.1 73 5 ∧ rAN w w' 0 (w.1 73 5)) ∧ ((0 ≤ w.1 73 41 ∧ w.1 73 41 ≤ 60 → 0 ≤ w'.1 73 41 ∧ w'.1 73 41 ≤ 60) ∧ w'.1 73 40 = w.1 73 40 + ((l.length : Nat) : Int)) ∧ ∀ (C : C_) (s : S_), C.2.1 = w.1 73 62 → rFR s w → rFR (f_list C l s) w'
section
variable {w w1 w2 : W_} {l l1 l2 : List Int}
theorem rRQ_rfl (h : 0 ≤ w.1 73 5) : rRQ w w [] := ⟨⟨fun _ _ _ => rfl, fun _ _ _ => rfl⟩, ⟨h, Int.le_refl _, rAN_rfl _ _ _⟩, ⟨fun q => q, by show w.1 73 40 = w.1 73 40 + 0; omega⟩, fun _ _ _ q => q⟩
theorem rRQ_trans (h : rRQ w w1 l1) (g : rRQ w1 w2 l2) : rRQ w w2 (l1 ++ l2) := by
  obtain ⟨⟨a1, a2⟩, ⟨a3, a4, a5⟩, a6, a7⟩ := h
  obtain ⟨⟨b1, b2⟩, ⟨b3, b4, b5⟩, b6, b7⟩ := g
  refine ⟨⟨fun a j q => by rw [b1 a j q, a1 a j q], fun b q z => by rw [b2 b q z, a2 b q z]⟩, ⟨a3, by omega, fun i q0 q1 => ?_⟩, ⟨fun q => b6.1 (a6.1 q), by rw [b6.2, a6.2, List.length_append]; omega⟩, fun C s hu hs => ?_⟩
  · have x := a5 i q0 q1
    have y := b5 i q0 (by omega)
    exact ⟨⟨by rw [y.1.1, x.1.1], by rw [y.1.2.1, x.1.2.1], by rw [y.1.2.2.1, x.1.2.2.1], by rw [y.1.2.2.2, x.1.2.2.2]⟩, ⟨by rw [y.2.1.1, x.2.1.1], by rw [y.2.1.2, x.2.1.2]⟩, by rw [y.2.2.1, x.2.2.1], by rw [y.2.2.2.1, x.2.2.2.1], by rw [y.2.2.2.2, x.2.2.2.2]⟩
  · rw [f_list_app]
    exact b7 C _ (by rw [a1 73 62 (by omega)]; exact hu) (a7 C s hu hs)
theorem rRQ_nt {c f p z : Int} (h : 0 ≤ w.1 73 5) (hz : z = 100000 * c + (10000 * f + 100 * p)) : rRQ w (r_nt w c f p) [z] := by
  refine ⟨⟨fun a j q => r_nt_1 _ _ _ _ (by omega), fun b _ q => r_nt_2 _ _ _ _ q⟩, ⟨h, ?_, fun i _ _ => ?_⟩, ⟨fun q => ?_, ?_⟩, fun C s hu hs => rFR_nt hu hs hz⟩
  · rw [r_nt_1 _ _ _ _ (by omega)]; exact Int.le_refl _
  · rw [r_nt_2 _ _ _ _ (by decide), r_nt_2 _ _ _ _ (by decide), r_nt_2 _ _ _ _ (by decide), r_nt_2 _ _ _ _ (by decide), r_nt_2 _ _ _ _ (by decide), r_nt_2 _ _ _ _ (by decide), r_nt_2 _ _ _ _ (by decide)]
    exact ⟨⟨rfl, rfl, rfl, rfl⟩, ⟨rfl, rfl⟩, rfl, rfl, rfl⟩
  · unfold r_nt
    split
    · show 0 ≤ w.1 73 41 + 1 ∧ w.1 73 41 + 1 ≤ 60
      omega
    · exact q
  · unfold r_nt
    split
    · rw [w_f1, w_u_at, if_pos ⟨rfl, rfl⟩]; rfl
    · rw [w_f1, w_u_at, if_pos ⟨rfl, rfl⟩]; rfl
theorem rRQ_nd {k n p : Int} (h : 0 ≤ w.1 73 5) : rRQ w (r_nd w k n p) [] := by
  refine ⟨⟨fun a j q => ?_, fun b q z => ?_⟩, ⟨h, ?_, fun i _ hi => ?_⟩, ⟨fun q => q, by show w.1 73 40 = w.1 73 40 + 0; omega⟩, fun C s hu hs => rFR_w hs rfl rfl ?_⟩
  · show (if a = 73 ∧ j = 5 then _ else w.1 a j) = _
    rw [if_neg (by omega)]
  · unfold r_nd
    rw [w_f2, w_a_2ne _ _ _ (by omega), w_a_2ne _ _ _ (by omega), w_a_2ne _ _ _ (by omega), w_a_2ne _ _ _ (by omega), w_a_2ne _ _ _ (by omega), w_a_2ne _ _ _ (by omega)]
  · show _ ≤ w.1 73 5 + 1
    omega
  · refine ⟨⟨?_, ?_, ?_, ?_⟩, ⟨?_, ?_⟩, rfl, rfl, rfl⟩
    · show (if 77 = 77 ∧ i = (w.1 73 5).toNat then _ else w.2 77 i) = _
      rw [if_neg (by omega)]
    · show (if 78 = 78 ∧ i = (w.1 73 5).toNat then _ else w.2 78 i) = _
      rw [if_neg (by omega)]
    · show (if 79 = 79 ∧ i = (w.1 73 5).toNat then _ else w.2 79 i) = _
      rw [if_neg (by omega)]
    · show (if 80 = 80 ∧ i = (w.1 73 5).toNat then _ else w.2 80 i) = _
      rw [if_neg (by omega)]
    · show (if 82 = 82 ∧ i = (w.1 73 5).toNat then _ else w.2 82 i) = _
      rw [if_neg (by omega)]
    · show (if 83 = 83 ∧ i = (w.1 73 5).toNat then _ else w.2 83 i) = _
      rw [if_neg (by omega)]
  · unfold r_nd
    rw [w_f2, w_a_2ne _ _ _ (by omega), w_a_2ne _ _ _ (by omega), w_a_2ne _ _ _ (by omega), w_a_2ne _ _ _ (by omega), w_a_2ne _ _ _ (by omega), w_a_2ne _ _ _ (by omega)]
theorem rRQ_pos {x : Int} (h : 0 ≤ w.1 73 5) : rRQ w (w_f w 73 14 x) [] := by
  refine ⟨⟨fun a j q => ?_, fun b q z => rfl⟩, ⟨h, Int.le_refl _, fun i _ hi => ⟨⟨rfl, rfl, rfl, rfl⟩, ⟨rfl, rfl⟩, rfl, rfl, rfl⟩⟩, ⟨fun q => q, by show w.1 73 40 = w.1 73 40 + 0; omega⟩, fun C s hu hs => rFR_w hs rfl rfl rfl⟩
  show (if a = 73 ∧ j = 14 then _ else w.1 a j) = _
  rw [if_neg (by omega)]
/-- a part of a newer node is told -/
theorem rRQ_81 (h : rRQ w w1 l) {i : Nat} {x : Int} (hi : 3 * w.1 73 5 ≤ i) : rRQ w (w_a w1 81 i x) l := by
  obtain ⟨⟨a1, a2⟩, ⟨a3, a4, a5⟩, a6, a7⟩ := h
  refine ⟨⟨a1, fun b q z => by rw [w_a_2ne _ _ _ (by omega)]; exact a2 b q z⟩, ⟨a3, a4, fun k q0 q1 => ?_⟩, a6, fun C s hu hs => rFR_w (a7 C s hu hs) rfl rfl (w_a_2ne _ _ _ (by decide))⟩
  have A := a5 k q0 q1
  refine ⟨A.1, A.2.1, ?_, ?_, ?_⟩
  · show (if 81 = 81 ∧ 3 * k = i then _ else w1.2 81 (3 * k)) = _
    rw [if_neg (by omega)]; exact A.2.2.1
  · show (if 81 = 81 ∧ 3 * k + 1 = i then _ else w1.2 81 (3 * k + 1)) = _
    rw [if_neg (by omega)]; exact A.2.2.2.1
  · show (if 81 = 81 ∧ 3 * k + 2 = i then _ else w1.2 81 (3 * k + 2)) = _
    rw [if_neg (by omega)]; exact A.2.2.2.2
theorem rRQ_82 (h : rRQ w w1 l) {i : Nat} {x : Int} (hi : w.1 73 5 ≤ i) : rRQ w (w_a w1 82 i x) l := by
  obtain ⟨⟨a1, a2⟩, ⟨a3, a4, a5⟩, a6, a7⟩ := h
  refine ⟨⟨a1, fun b q z => by rw [w_a_2ne _ _ _ (by omega)]; exact a2 b q z⟩, ⟨a3, a4, fun k q0 q1 => ?_⟩, a6, fun C s hu hs => rFR_w (a7 C s hu hs) rfl rfl (w_a_2ne _ _ _ (by decide))⟩
  have A := a5 k q0 q1
  refine ⟨A.1, ⟨?_, A.2.1.2⟩, A.2.2⟩
  show (if 82 = 82 ∧ k = i then _ else w1.2 82 k) = _
  rw [if_neg (by omega)]; exact A.2.1.1
/-- children of a newer node stay when its parts are told -/
theorem rAN_81 {lo hi : Int} {m i : Nat} {x : Int} (h : (m : Int) < lo) (hi' : i ≤ 3 * m + 2) : rAN w (w_a w 81 i x) lo hi := by
  intro k q0 q1
  refine ⟨⟨rfl, rfl, rfl, rfl⟩, ⟨rfl, rfl⟩, ?_, ?_, ?_⟩
  · show (if 81 = 81 ∧ 3 * k = i then _ else w.2 81 (3 * k)) = _
    rw [if_neg (by omega)]
  · show (if 81 = 81 ∧ 3 * k + 1 = i then _ else w.2 81 (3 * k + 1)) = _
    rw [if_neg (by omega)]
  · show (if 81 = 81 ∧ 3 * k + 2 = i then _ else w.2 81 (3 * k + 2)) = _
    rw [if_neg (by omega)]
theorem rAN_82 {lo hi : Int} {m : Nat} {x : Int} (h : (m : Int) < lo) : rAN w (w_a w 82 m x) lo hi := by
  intro k q0 q1
  refine ⟨⟨rfl, rfl, rfl, rfl⟩, ⟨?_, rfl⟩, rfl, rfl, rfl⟩
  show (if 82 = 82 ∧ k = m then _ else w.2 82 k) = _
  rw [if_neg (by omega)]
theorem rAN_83 {lo hi : Int} {m : Nat} {x : Int} (h : (m : Int) < lo) : rAN w (w_a w 83 m x) lo hi := by
  intro k q0 q1
  refine ⟨⟨rfl, rfl, rfl, rfl⟩, ⟨rfl, ?_⟩, rfl, rfl, rfl⟩
  show (if 83 = 83 ∧ k = m then _ else w.2 83 k) = _
  rw [if_neg (by omega)]
/-- a node that was made -/
def rNM (w : W_) (m : Nat) (k n f p : Int) : Prop := (w.2 77 m = k ∧ w.2 78 m = n ∧ w.2 79 m = f ∧ w.2 80 m = p) ∧ w.2 82 m = -1 ∧ w.2 83 m = -1
theorem rNM_nd {k n p : Int} : rNM (r_nd w k n p) (w.1 73 5).toNat k n (w.1 73 13) p := by
  refine ⟨⟨?_, ?_, ?_, ?_⟩, ?_, ?_⟩
  · show (if 77 = 77 ∧ (w.1 73 5).toNat = (w.1 73 5).toNat then k else _) = k
    rw [if_pos ⟨rfl, rfl⟩]
  · show (if 78 = 78 ∧ (w.1 73 5).toNat = (w.1 73 5).toNat then n else _) = n
    rw [if_pos ⟨rfl, rfl⟩]
  · show (if 79 = 79 ∧ (w.1 73 5).toNat = (w.1 73 5).toNat then w.1 73 13 else _) = _
    rw [if_pos ⟨rfl, rfl⟩]
  · show (if 80 = 80 ∧ (w.1 73 5).toNat = (w.1 73 5).toNat then p else _) = _
    rw [if_pos ⟨rfl, rfl⟩]
  · show (if 82 = 82 ∧ (w.1 73 5).toNat = (w.1 73 5).toNat then (-1 : Int) else _) = _
    rw [if_pos ⟨rfl, rfl⟩]
  · show (if 83 = 83 ∧ (w.1 73 5).toNat = (w.1 73 5).toNat then (-1 : Int) else _) = _
    rw [if_pos ⟨rfl, rfl⟩]
theorem rNM_RQ {m : Nat} {k n f p : Int} (h : rRQ w w1 l) (hm : (m : Int) < w.1 73 5) (g : rNM w m k n f p) : rNM w1 m k n f p := by
  obtain ⟨⟨g1, g2, g3, g4⟩, g5, g6⟩ := g
  have A := h.2.1.2.2 m (by omega) hm
  exact ⟨⟨by rw [A.1.1]; exact g1, by rw [A.1.2.1]; exact g2, by rw [A.1.2.2.1]; exact g3, by rw [A.1.2.2.2]; exact g4⟩, by rw [A.2.1.1]; exact g5, by rw [A.2.1.2]; exact g6⟩
theorem rNM_81 {m i : Nat} {k n f p x : Int} (g : rNM w m k n f p) : rNM (w_a w 81 i x) m k n f p := g
end
