/-! ===== marks of ours: a kept call's own nodes ===== -/
def gW (w : W_) (g : Nat → Int) : W_ := (w.1, fun b k => if b = 7 ∧ 2147483648 ≤ k then g k else w.2 b k)
theorem gW_2 (w : W_) (g : Nat → Int) {b : Nat} (h : b ≠ 7) : (gW w g).2 b = w.2 b := by
  funext k
  show (if b = 7 ∧ 2147483648 ≤ k then g k else w.2 b k) = _
  rw [if_neg (fun q => h q.1)]
theorem gW_lo (w : W_) (g : Nat → Int) {k : Nat} (h : k < 2147483648) : (gW w g).2 7 k = w.2 7 k := if_neg (fun q => by omega)
theorem gW_hi (w : W_) (g : Nat → Int) {k : Nat} (h : 2147483648 ≤ k) : (gW w g).2 7 k = g k := if_pos ⟨rfl, h⟩
theorem w_R_gW {w : W_} {g : Nat → Int} {h : am_H} (R : w_R w h) : w_R (gW w g) h := by
  obtain ⟨P, L, h1, h2, h3, h4, h5, h6, h7⟩ := R
  refine ⟨P, L, h1, h2, fun a ha => ?_, fun a ha => ?_, h5, h6, h7⟩
  · have hne : a ≠ 7 := fun q => ha (by rw [q]; decide)
    rw [gW_2 _ _ hne]
    exact h3 a ha
  · obtain ⟨q1, q2, q3, q4, q5, q6, q7⟩ := h4 a ha
    have hcb : ∀ c ∈ w_keys, w_cap c < 2147483648 := by decide +kernel
    have hc := hcb a ha
    have e : ∀ k, k < 2147483648 → (gW w g).2 a k = w.2 a k := fun k hk => if_neg (fun q => by omega)
    exact ⟨q1, q2, q3, fun i hi => by rw [e i (by omega)]; exact q4 i hi, fun i hi hi2 => by rw [e i hi2]; exact q5 i hi hi2, q6, q7⟩
theorem dr_gW {fr : Nat} {Q : Option am_V → W_ → Prop} {i : Int} {w : W_} {g : Nat → Int} (h : dr fr Q i (gW w g)) : dr fr Q i w := fun hh R => h hh (w_R_gW R)
theorem tJ_eq {a3 a5 a7 a7' : Nat → Int} {f : Nat} (e : a7' f = a7 f) : tJ a3 a5 a7' f = tJ a3 a5 a7 f := by
  unfold tJ
  rw [e]
theorem tx_eq {a3 a5 a7 a7' : Nat → Int} {f : Nat} (e : a7' f = a7 f) : tx a3 a5 a7' f = tx a3 a5 a7 f := by
  unfold tx
  rw [tJ_eq e]
theorem tI0_eq {a3 a5 a7 a7' : Nat → Int} (e : ∀ f, f < 3 → a7' f = a7 f) {t : T_} (h : tI0 a3 a5 a7 t) : tI0 a3 a5 a7' t := by
  obtain ⟨f, ⟨f3, fz⟩, q⟩ := h
  exact ⟨f, ⟨f3, by rw [e f f3]; exact fz⟩, by rw [tx_eq (e f f3)]; exact q⟩
theorem flO_eq {C : C_} {a3 a5 a7 a7' : Nat → Int} (e : ∀ f, f < 3 → a7' f = a7 f) (h : flO C a3 a5 a7) : flO C a3 a5 a7' := by
  obtain ⟨h1, h2, h3⟩ := h
  refine ⟨h1, h2, fun f hf => ?_⟩
  rw [e f hf, tx_eq (e f hf), tJ_eq (e f hf)]
  exact h3 f hf
/-- the marks: nodes to come, LF and the file's own may be looked at -/
def gG1 (n : Int) (LF : List Int) (U : Nat → List Int) (f x j : Nat) : Int :=
  if j = 0 then (if x < 30000 then (if x = f then 0 else 1) else if 30000 + n ≤ (x : Int) ∨ (x : Int) ∈ LF ∨ (x : Int) ∈ U f then 0 else 1)
  else if j ≤ 3 then (if 30000 + n ≤ (x : Int) ∨ (j - 1 = f ∧ (x : Int) ∈ LF) ∨ (x : Int) ∈ U (j - 1) then 0 else 1)
  else if (x : Int) ∈ U (j - 4) then 1 else 0
def gG (n : Int) (LF : List Int) (U : Nat → List Int) (f k : Nat) : Int := gG1 n LF U f ((k - 2147483648) / 8) ((k - 2147483648) % 8)
section
variable {n : Int} {LF : List Int} {U : Nat → List Int} {f : Nat} {g : Nat → Int}
theorem gG_at (hg : ∀ k, 2147483648 ≤ k → g k = gG n LF U f k) {k x j : Nat} (hk : k = 2147483648 + 8 * x + j) (hj : j < 8) : g k = gG1 n LF U f x j := by
  rw [hg k (by omega)]
  unfold gG
  rw [show (k - 2147483648) / 8 = x by omega, show (k - 2147483648) % 8 = j by omega]
theorem gG_F (hg : ∀ k, 2147483648 ≤ k → g k = gG n LF U f k) {f' : Nat} (hf : f' < 3) : gF g f' ↔ f' = f := by
  unfold gF
  rw [gG_at hg (k := 2147483648 + 8 * f') (x := f') (j := 0) rfl (by decide)]
  unfold gG1
  rw [if_pos rfl, if_pos (by omega)]
  by_cases c : f' = f
  · rw [if_pos c]; exact ⟨fun _ => c, fun _ => rfl⟩
  · rw [if_neg c]; exact ⟨fun q => absurd q (by decide), fun q => absurd q c⟩
theorem gG_A (hg : ∀ k, 2147483648 ≤ k → g k = gG n LF U f k) {x : Int} (hx : 30000 ≤ x) : gA g x ↔ 30000 + n ≤ x ∨ x ∈ LF ∨ x ∈ U f := by
  have ex : ((x.toNat : Nat) : Int) = x := by omega
  unfold gA
  rw [gG_at hg (k := 2147483648 + 8 * x.toNat) (x := x.toNat) (j := 0) rfl (by decide)]
  unfold gG1
  rw [if_pos rfl, if_neg (by omega), ex]
  by_cases c : 30000 + n ≤ x ∨ x ∈ LF ∨ x ∈ U f
  · rw [if_pos c]; exact ⟨fun _ => c, fun _ => rfl⟩
  · rw [if_neg c]; exact ⟨fun q => absurd q (by decide), fun q => absurd q c⟩
theorem gG_R (hg : ∀ k, 2147483648 ≤ k → g k = gG n LF U f k) {x : Int} (hx : 30000 ≤ x) {f' : Nat} (hf : f' < 3) : gR g f' x ↔ 30000 + n ≤ x ∨ (f' = f ∧ x ∈ LF) ∨ x ∈ U f' := by
  have ex : ((x.toNat : Nat) : Int) = x := by omega
  unfold gR
  rw [gG_at hg (x := x.toNat) (j := 1 + f') (by omega) (by omega)]
  unfold gG1
  rw [if_neg (by omega), if_pos (by omega), ex, show 1 + f' - 1 = f' by omega]
  by_cases c : 30000 + n ≤ x ∨ (f' = f ∧ x ∈ LF) ∨ x ∈ U f'
  · rw [if_pos c]; exact ⟨fun _ => c, fun _ => rfl⟩
  · rw [if_neg c]; exact ⟨fun q => absurd q (by decide), fun q => absurd q c⟩
theorem gG_L (hg : ∀ k, 2147483648 ≤ k → g k = gG n LF U f k) {x : Int} (hx : 30000 ≤ x) {f' : Nat} (hf : f' < 3) : gL g f' x ↔ x ∈ U f' := by
  have ex : ((x.toNat : Nat) : Int) = x := by omega
  unfold gL
  rw [gG_at hg (x := x.toNat) (j := 4 + f') (by omega) (by omega)]
  unfold gG1
  rw [if_neg (by omega), if_neg (by omega), ex, show 4 + f' - 4 = f' by omega]
  by_cases c : x ∈ U f'
  · rw [if_pos c]; exact ⟨fun _ => c, fun _ => rfl⟩
  · rw [if_neg c]; exact ⟨fun q => absurd q (by decide), fun q => absurd q c⟩
end
/-- the nodes of a chain of numbers -/
theorem clos_ns {n : Int} {a : Nat → Int} {F : T_ → Prop} {E : N_} {u : Nat → Bool} : ∀ (k : Nat) (x : Int), cR n a F (n_clos E u k) x → (∀ m v, m < k → u m = true → E m = some v → ∃ z, v = vN z) → ∃ l : List Int, l.length ≤ k ∧ cl n a l ∧ (∀ y, y ∈ l → F (.nest y .nil)) ∧ (30000 ≤ x → x ∈ l) ∧ ∀ F' : T_ → Prop, (∀ y, y ∈ l → F' (.nest y .nil)) → cR n a F' (n_clos E u k) x := by
  intro k
  induction k with
  | zero =>
    intro x h _
    have h : x = 20003 := h
    exact ⟨[], Nat.le_refl _, (fun y hy => by cases hy), (fun y hy => by cases hy), fun q => by omega, fun _ _ => h⟩
  | succ k ih =>
    intro x h hn
    rw [n_clos] at h ⊢
    split at h
    · rename_i v hu hv
      obtain ⟨h1, h2, h3, h4, h5, h6⟩ := h
      obtain ⟨z, rfl⟩ := hn k v (Nat.lt_succ_self k) hu hv
      obtain ⟨l, l1, l2, l3, l4, l5⟩ := ih _ h6 fun m v hm => hn m v (by omega)
      have e1 : pH a x 1 = z ∧ -9999 ≤ z ∧ z ≤ 9999 := h4
      refine ⟨x :: l, by rw [List.length_cons]; omega, fun y hy => ?_, fun y hy => ?_, fun _ => List.mem_cons_self .., fun F' hF' => ?_⟩
      · rcases List.mem_cons.mp hy with rfl | hy
        · exact ⟨h1.1, fun q => by omega, fun q => List.mem_cons_of_mem _ (l4 q)⟩
        · obtain ⟨g1, g2, g3⟩ := l2 y hy
          exact ⟨g1, fun q => List.mem_cons_of_mem _ (g2 q), fun q => List.mem_cons_of_mem _ (g3 q)⟩
      · rcases List.mem_cons.mp hy with rfl | hy
        · exact h1.2.2.2.2
        · exact l3 y hy
      · exact ⟨⟨h1.1, h1.2.1, h1.2.2.1, h1.2.2.2.1, hF' x (List.mem_cons_self ..)⟩, h2, h3, h4, h5, l5 F' fun y hy => hF' y (List.mem_cons_of_mem _ hy)⟩
    · obtain ⟨l, l1, l2, l3, l4, l5⟩ := ih x h fun m v hm => hn m v (by omega)
      exact ⟨l, by omega, l2, l3, l4, l5⟩
/-- the nodes of a function whose names are numbers -/
theorem fn_ns {n : Int} {a g : Nat → Int} {F : T_ → Prop} {e : T_} {E0 : N_} {x : Int} (hI0 : hI n a g) (h : cR n a F (.tag 12 (.append e (n_clos E0 (e_use e) 10))) x) (cf : k_fit e (n_clos E0 (e_use e) 10) = true) : ∃ l : List Int, l.length ≤ 11 ∧ cl n a l ∧ (∀ y, y ∈ l → F (.nest y .nil)) ∧ ∀ F' : T_ → Prop, (∀ y, y ∈ l → F' (.nest y .nil)) → F' (.tag 0 e) → cR n a F' (.tag 12 (.append e (n_clos E0 (e_use e) 10))) x := by
  obtain ⟨h1, h2, h3, h4, h5, h6⟩ := h
  obtain ⟨l, l1, l2, l3, l4, l5⟩ := clos_ns 10 _ h4 fun m v hm hu hv => by
    have z := (k_fit_iff.mp cf).2 m hm hu
    cases q : k_nums e (n_clos E0 (e_use e) 10) m with
    | none => rw [q] at z; cases z
    | some x =>
      have y := k_num_E hm hu q
      rw [hv] at y
      injection y with y
      exact ⟨x, y⟩
  have x0 := h1.1
  have hr : pH a x 2 < 30000 := by
    have z := (hI0 (x - 30000).toNat (by omega)).2.1
    have e0 : a (8 * (x - 30000).toNat) = pH a x 0 := by
      unfold pH
      rw [if_neg (by omega)]
      exact congrArg a (by omega)
    have e2 : a (8 * (x - 30000).toNat + 2) = pH a x 2 := by
      unfold pH
      rw [if_neg (by omega)]
      exact congrArg a (by omega)
    rw [e0, e2] at z
    exact z h1.2.1
  refine ⟨x :: l, by rw [List.length_cons]; omega, fun y hy => ?_, fun y hy => ?_, fun F' hF' hFe => ?_⟩
  · rcases List.mem_cons.mp hy with rfl | hy
    · exact ⟨h1.1, fun q => List.mem_cons_of_mem _ (l4 q), fun q => by omega⟩
    · obtain ⟨g1, g2, g3⟩ := l2 y hy
      exact ⟨g1, fun q => List.mem_cons_of_mem _ (g2 q), fun q => List.mem_cons_of_mem _ (g3 q)⟩
  · rcases List.mem_cons.mp hy with rfl | hy
    · exact h1.2.2.2.2
    · exact l3 y hy
  · exact ⟨⟨h1.1, h1.2.1, h1.2.2.1, h1.2.2.2.1, hF' x (List.mem_cons_self ..)⟩, h2, hFe, l5 F' fun y hy => hF' y (List.mem_cons_of_mem _ hy), h5, h6⟩
/-- the nodes that the names of a kept call's body have -/
theorem body_ns {n : Int} {a g : Nat → Int} {F : T_ → Prop} {e y fn : T_} {E0 : N_} {yz : Int} {row : Nat → Int} {b : Nat} (hI0 : hI n a g) (hfn : fn = .tag 12 (.append e (n_clos E0 (e_use e) 10))) (hy : y = vN yz) (cf : k_fit e (n_clos E0 (e_use e) 10) = true) (h : nR n a F (n_body e (n_clos E0 (e_use e) 10) y fn) row b) : ∃ l : List Int, l.length ≤ 11 ∧ cl n a l ∧ (∀ y, y ∈ l → F (.nest y .nil)) ∧ ∀ F' : T_ → Prop, (∀ y, y ∈ l → F' (.nest y .nil)) → F' (.tag 0 e) → nR n a F' (n_body e (n_clos E0 (e_use e) 10) y fn) row b := by
  -- what is no function is a number
  have num : ∀ m v, n_get (n_clos E0 (e_use e) 10) m = some v → ∃ z, v = vN z := fun m v hv => by
    rw [n_get_clos] at hv
    by_cases c : m < 10 ∧ e_use e m = true
    · rw [if_pos c] at hv
      have z := (k_fit_iff.mp cf).2 m c.1 c.2
      cases q : k_nums e (n_clos E0 (e_use e) 10) m with
      | none => rw [q] at z; cases z
      | some x =>
        have y := k_num_E c.1 c.2 q
        rw [hv] at y
        injection y with y
        exact ⟨x, y⟩
    · rw [if_neg c] at hv; cases hv
  have vnum : ∀ (F' : T_ → Prop) (v : T_) (x : Int), (∃ z, v = vN z) → vR n a F v x → vR n a F' v x := fun F' v x hz hv => by
    obtain ⟨z, rfl⟩ := hz
    exact hv
  have body : ∀ m v, n_body e (n_clos E0 (e_use e) 10) y fn m = some v → (∃ z, v = vN z) ∨ e_own e = some m ∧ m ≠ e_par e ∧ v = fn := fun m v hv => by
    have eb : n_body e (n_clos E0 (e_use e) 10) y fn m = if m = e_par e then some y else (match e_own e with
      | some j => n_set (n_get (n_clos E0 (e_use e) 10)) j fn
      | none => n_get (n_clos E0 (e_use e) 10)) m := rfl
    rw [eb] at hv
    by_cases c : m = e_par e
    · rw [if_pos c] at hv
      injection hv with hv
      exact Or.inl ⟨yz, hv.symm.trans hy⟩
    · rw [if_neg c] at hv
      cases ow : e_own e with
      | none => rw [ow] at hv; exact Or.inl (num m v hv)
      | some j =>
        rw [ow] at hv
        have hv : (if m = j then some fn else n_get (n_clos E0 (e_use e) 10) m) = some v := hv
        by_cases c2 : m = j
        · rw [if_pos c2] at hv
          injection hv with hv
          exact Or.inr ⟨by rw [c2], c, hv.symm⟩
        · rw [if_neg c2] at hv
          exact Or.inl (num m v hv)
  by_cases ex : ∃ m, m < 10 ∧ e_own e = some m ∧ n_body e (n_clos E0 (e_use e) 10) y fn m = some fn ∧ m ≠ e_par e
  · obtain ⟨j, j10, ow, hj, jp⟩ := ex
    have hv := h j j10
    rw [hj] at hv
    have hv : vR n a F fn (row (b * 10 + j)) := hv
    have hv1 := hv.1
    rw [hfn] at hv1
    obtain ⟨l, l1, l2, l3, l4⟩ := fn_ns hI0 hv1 cf
    refine ⟨l, l1, l2, l3, fun F' hF' hFe m hm => ?_⟩
    have hm' := h m hm
    cases q : n_body e (n_clos E0 (e_use e) 10) y fn m with
    | none => rw [q] at hm'; exact hm'
    | some v =>
      rw [q] at hm'
      rcases body m v q with z | ⟨z1, z2, z3⟩
      · exact vnum F' v _ z hm'
      · have em : m = j := by
          rw [ow] at z1
          injection z1 with z1
          exact z1.symm
        subst em
        rw [z3]
        refine ⟨?_, hv.2⟩
        have := l4 F' hF' hFe
        rw [← hfn] at this
        exact this
  · refine ⟨[], Nat.zero_le _, (fun y hy => by cases hy), (fun y hy => by cases hy), fun F' _ _ m hm => ?_⟩
    have hm' := h m hm
    cases q : n_body e (n_clos E0 (e_use e) 10) y fn m with
    | none => rw [q] at hm'; exact hm'
    | some v =>
      rw [q] at hm'
      rcases body m v q with z | ⟨z1, z2, z3⟩
      · exact vnum F' v _ z hm'
      · exact absurd ⟨m, hm, z1, by rw [q, z3], z2⟩ ex
