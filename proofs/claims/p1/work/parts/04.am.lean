/-! ===== the abstract machine: values with cells by number, whole numbers for ints ===== -/
abbrev am_V : Type := Int ⊕ Int ⊕ Nat ⊕ Bool
abbrev am_X : am_V := Sum.inr (Sum.inr (Sum.inr false))
def am_c (α : Nat → Nat) : am_V → Value
  | .inl x => .int (Int32.ofInt x)
  | .inr (.inl x) => .long (Int64.ofInt x)
  | .inr (.inr (.inl a)) => .ref (α a)
  | .inr (.inr (.inr true)) => .ref (α 0)
  | .inr (.inr (.inr false)) => .null
def am_cat : am_V → Nat
  | .inr (.inl _) => 2
  | _ => 1
theorem am_c_cat (α : Nat → Nat) (v : am_V) : (am_c α v).category = am_cat v := by
  rcases v with x | x | a | b
  · rfl
  · rfl
  · rfl
  · cases b <;> rfl
/-- arrays (kind: 0 int, 1 boolean, 2 long; length; contents) and objects (class; fields) -/
abbrev am_C : Type := (Nat × Nat × (Nat → Int)) ⊕ (Nat × (Nat → am_V))
/-- cells 1 to N, N, how many slots were made -/
abbrev am_H : Type := (Nat → am_C) × Nat × Nat
def am_ok (n : Nat) : am_V → Prop
  | .inr (.inr (.inl a)) => 1 ≤ a ∧ a ≤ n
  | _ => True
theorem am_ok.mono {n m : Nat} (h : n ≤ m) {v : am_V} (hv : am_ok n v) : am_ok m v := by
  rcases v with x | x | a | b
  · trivial
  · trivial
  · exact ⟨hv.1, Nat.le_trans hv.2 h⟩
  · trivial
theorem am_c_ext {α β : Nat → Nat} {n : Nat} (h : ∀ i, i ≤ n → β i = α i) {v : am_V} (hv : am_ok n v) : am_c β v = am_c α v := by
  rcases v with x | x | a | b
  · rfl
  · rfl
  · show Value.ref (β a) = Value.ref (α a)
    rw [h a hv.2]
  · cases b
    · rfl
    · show Value.ref (β 0) = Value.ref (α 0)
      rw [h 0 (Nat.zero_le _)]
def am_up {β : Type} (f : Nat → β) (k : Nat) (v : β) : Nat → β := fun j => if j = k then v else f j
theorem am_up_same {β : Type} (f : Nat → β) (k : Nat) (v : β) : am_up f k v k = v := if_pos rfl
theorem am_up_ne {β : Type} (f : Nat → β) {k j : Nat} (v : β) (h : j ≠ k) : am_up f k v j = f j := if_neg h
def am_ar (kd n : Nat) (f : Nat → Int) : vp_A := (n, if kd = 2 then .inr (.inl fun j => Int64.ofInt (f j)) else .inl fun j => Int32.ofInt (f j))
def am_e (cA : Nat → ClassId) (α : Nat → Nat) : am_C → va_E
  | .inl (kd, n, f) => .inl (cA kd, am_ar kd n f)
  | .inr (ci, fs) => .inr (ci, (List.range (am_nf ci)).map fun j => am_c α (fs j))
def am_ws (cA : Nat → ClassId) (α : Nat → Nat) (h : am_H) : va_W := (List.range h.2.1).map fun i => (α (i + 1), am_e cA α (h.1 (i + 1)))
theorem am_ws_at (cA : Nat → ClassId) (α : Nat → Nat) (h : am_H) {a : Nat} (h1 : 1 ≤ a) (h2 : a ≤ h.2.1) : (am_ws cA α h)[a - 1]? = some (α a, am_e cA α (h.1 a)) := by
  obtain ⟨b, rfl⟩ : ∃ b, a = b + 1 := ⟨a - 1, by omega⟩
  unfold am_ws
  rw [List.getElem?_map, List.getElem?_range (by omega)]
  rfl
theorem am_ws_len (cA : Nat → ClassId) (α : Nat → Nat) (h : am_H) : (am_ws cA α h).length = h.2.1 := by
  unfold am_ws
  rw [List.length_map, List.length_range]
theorem am_ws_set (cA : Nat → ClassId) (α : Nat → Nat) (h : am_H) {a : Nat} (h1 : 1 ≤ a) (h2 : a ≤ h.2.1) (C : am_C) : (am_ws cA α h).set (a - 1) (α a, am_e cA α C) = am_ws cA α (am_up h.1 a C, h.2) := by
  apply List.ext_getElem?
  intro k
  by_cases hk : k < h.2.1
  · have e1 := am_ws_at cA α (am_up h.1 a C, h.2) (a := k + 1) (by omega) (by show k + 1 ≤ h.2.1; omega)
    have e0 := am_ws_at cA α h (a := k + 1) (by omega) (by omega)
    rw [Nat.add_sub_cancel] at e1 e0
    rw [e1]
    by_cases hka : k = a - 1
    · subst hka
      rw [List.getElem?_set_self (by rw [am_ws_len]; omega)]
      have : a - 1 + 1 = a := by omega
      rw [this]
      show some (α a, am_e cA α C) = some (α a, am_e cA α (am_up h.1 a C a))
      rw [am_up_same]
    · rw [List.getElem?_set_ne (Ne.symm hka), e0]
      show some (α (k + 1), am_e cA α (h.1 (k + 1))) = some (α (k + 1), am_e cA α (am_up h.1 a C (k + 1)))
      rw [am_up_ne _ _ (by omega)]
  · rw [List.getElem?_eq_none (by rw [List.length_set, am_ws_len]; omega), List.getElem?_eq_none (by rw [am_ws_len]; show h.2.1 ≤ k; omega)]
def am_tys (cA : Nat → ClassId) : List (ClassId × FieldType) := [(cA 0, .int), (cA 1, .boolean), (cA 2, .long)]
/-- the types of fields: 0 int, 1 boolean, 2 long, 3 a reference -/
def am_tv (n : Nat) : Nat → am_V → Prop
  | 0, v => ∃ x, v = .inl x
  | 1, v => ∃ x, v = .inl x
  | 2, v => ∃ x, v = .inr (.inl x)
  | _, v => v = am_X ∨ ∃ a, v = .inr (.inr (.inl a)) ∧ 1 ≤ a ∧ a ≤ n
theorem am_tv.ok {n t : Nat} {v : am_V} (h : am_tv n t v) : am_ok n v := by
  rcases t with _ | _ | _ | t
  · obtain ⟨x, rfl⟩ := h; trivial
  · obtain ⟨x, rfl⟩ := h; trivial
  · obtain ⟨x, rfl⟩ := h; trivial
  · rcases h with rfl | ⟨a, rfl, h⟩
    · trivial
    · exact h
theorem am_tv.mono {n m t : Nat} (hn : n ≤ m) {v : am_V} (h : am_tv n t v) : am_tv m t v := by
  rcases t with _ | _ | _ | t
  · exact h
  · exact h
  · exact h
  · rcases h with h | ⟨a, h1, h2, h3⟩
    · exact Or.inl h
    · exact Or.inr ⟨a, h1, h2, Nat.le_trans h3 hn⟩
def am_wf (n : Nat) : am_C → Prop
  | .inl (kd, _, _) => kd ≤ 2
  | .inr (ci, fs) => 3 ≤ ci ∧ ci ≤ 15 ∧ ∀ k, k < am_nf ci → am_tv n (am_tk ci k) (fs k)
theorem am_wf.mono {n m : Nat} (h : n ≤ m) {C : am_C} (hC : am_wf n C) : am_wf m C := by
  rcases C with ⟨kd, l, f⟩ | ⟨ci, fs⟩
  · exact hC
  · exact ⟨hC.1, hC.2.1, fun k hk => (hC.2.2 k hk).mono h⟩
theorem am_e_ext {cA : Nat → ClassId} {α β : Nat → Nat} {n : Nat} (h : ∀ i, i ≤ n → β i = α i) {C : am_C} (hC : am_wf n C) : am_e cA β C = am_e cA α C := by
  rcases C with ⟨kd, l, f⟩ | ⟨ci, fs⟩
  · rfl
  · show Sum.inr (ci, _) = Sum.inr (ci, _)
    congr 2
    apply List.map_congr_left
    intro k hk
    exact am_c_ext h (hC.2.2 k (List.mem_range.mp hk)).ok
/-- the machine's heap holds the abstract one, at addresses told by α; all of its cells are of the kind A -/
def am_Rep (D : va_G) (cA : Nat → ClassId) (A : Nat → Prop) (α : Nat → Nat) (h : am_H) (H : Heap) : Prop :=
  va_P D vwCl (am_ws cA α h) H ∧ va_D A (am_ws cA α h) ∧ ∀ a, 1 ≤ a → a ≤ h.2.1 → am_wf h.2.1 (h.1 a)
theorem am_ws_ext {cA : Nat → ClassId} {α β : Nat → Nat} {h : am_H} (e : ∀ i, i ≤ h.2.1 → β i = α i) (hw : ∀ a, 1 ≤ a → a ≤ h.2.1 → am_wf h.2.1 (h.1 a)) : am_ws cA β h = am_ws cA α h := by
  unfold am_ws
  apply List.map_congr_left
  intro k hk
  have hk := List.mem_range.mp hk
  rw [e (k + 1) (by omega), am_e_ext e (hw (k + 1) (by omega) (by omega))]
/-- one cell more -/
def am_add (h : am_H) (C : am_C) (n : Nat) : am_H := (am_up h.1 (h.2.1 + 1) C, h.2.1 + 1, h.2.2 + n)
theorem am_ws_add {cA : Nat → ClassId} {α : Nat → Nat} {h : am_H} (C : am_C) (n q : Nat) (hw : ∀ a, 1 ≤ a → a ≤ h.2.1 → am_wf h.2.1 (h.1 a)) (hC : am_wf h.2.1 C) :
    am_ws cA (am_up α (h.2.1 + 1) q) (am_add h C n) = am_ws cA α h ++ [(q, am_e cA α C)] := by
  have ex : ∀ i, i ≤ h.2.1 → am_up α (h.2.1 + 1) q i = α i := fun i hi => am_up_ne _ _ (by omega)
  unfold am_ws am_add
  dsimp only
  rw [List.range_succ, List.map_append]
  congr 1
  · apply List.map_congr_left
    intro k hk
    have hk := List.mem_range.mp hk
    rw [am_up_ne α q (by omega), am_up_ne h.1 C (by omega), am_e_ext ex (hw (k + 1) (by omega) (by omega))]
  · show [(_, _)] = [(_, _)]
    rw [am_up_same, am_up_same, am_e_ext ex hC]
theorem am_wf_add {h : am_H} {C : am_C} {n : Nat} (hw : ∀ a, 1 ≤ a → a ≤ h.2.1 → am_wf h.2.1 (h.1 a)) (hC : am_wf h.2.1 C) : ∀ a, 1 ≤ a → a ≤ (am_add h C n).2.1 → am_wf (am_add h C n).2.1 ((am_add h C n).1 a) := by
  intro a h1 h2
  have h2 : a ≤ h.2.1 + 1 := h2
  show am_wf (h.2.1 + 1) (am_up h.1 (h.2.1 + 1) C a)
  by_cases e : a = h.2.1 + 1
  · subst e
    rw [am_up_same]
    exact hC.mono (Nat.le_succ _)
  · rw [am_up_ne _ _ e]
    exact (hw a h1 (by omega)).mono (Nat.le_succ _)
theorem am_wf_set {h : am_H} {a : Nat} {C : am_C} (hw : ∀ a, 1 ≤ a → a ≤ h.2.1 → am_wf h.2.1 (h.1 a)) (hC : am_wf h.2.1 C) : ∀ b, 1 ≤ b → b ≤ h.2.1 → am_wf h.2.1 (am_up h.1 a C b) := by
  intro b h1 h2
  by_cases e : b = a
  · subst e
    rw [am_up_same]
    exact hC
  · rw [am_up_ne _ _ e]
    exact hw b h1 h2
-- locals
def am_gt : List am_V → Nat → am_V
  | [], _ => am_X
  | v :: _, 0 => v
  | _ :: ls, n + 1 => am_gt ls n
def am_st : List am_V → Nat → am_V → List am_V
  | [], _, _ => []
  | _ :: ls, 0, v => v :: ls
  | u :: ls, n + 1, v => u :: am_st ls n v
theorem am_gt_st_same : ∀ {ls : List am_V} {k : Nat} {v : am_V}, k < ls.length → am_gt (am_st ls k v) k = v := by
  intro ls
  induction ls with
  | nil => intro k v h; exact absurd h (Nat.not_lt_zero _)
  | cons a ls ih =>
    intro k v h
    cases k with
    | zero => rfl
    | succ k => exact ih (Nat.lt_of_succ_lt_succ h)
theorem am_gt_st_ne : ∀ {ls : List am_V} {k j : Nat} {v : am_V}, j ≠ k → am_gt (am_st ls k v) j = am_gt ls j := by
  intro ls
  induction ls with
  | nil => intro k j v h; rfl
  | cons a ls ih =>
    intro k j v h
    cases k with
    | zero => cases j with
      | zero => exact absurd rfl h
      | succ j => rfl
    | succ k => cases j with
      | zero => rfl
      | succ j => exact ih (fun e => h (by rw [e]))
theorem am_st_len : ∀ {ls : List am_V} {k : Nat} {v : am_V}, (am_st ls k v).length = ls.length := by
  intro ls
  induction ls with
  | nil => intro k v; rfl
  | cons a ls ih =>
    intro k v
    cases k with
    | zero => rfl
    | succ k => show _ + 1 = _ + 1; rw [ih]
def am_two : am_V → Bool
  | .inr (.inl _) => true
  | _ => false
/-- a store of one slot; of two -/
def am_s1 (ls : List am_V) (k : Nat) (v : am_V) : List am_V := am_st (match k with
  | 0 => ls
  | j + 1 => if am_two (am_gt ls j) = true then am_st ls j am_X else ls) k v
def am_s2 (ls : List am_V) (k : Nat) (v : am_V) : List am_V := am_st (am_s1 ls k v) (k + 1) am_X
def am_lok (α : Nat → Nat) (n : Nat) (ls : List am_V) (lsA : Array Slot) (nL : Nat) : Prop :=
  ls.length = nL ∧ lsA.size = nL ∧ lv_wf lsA ∧ ∀ k, am_gt ls k ≠ am_X → am_ok n (am_gt ls k) ∧ lsA[k]? = some (.val (am_c α (am_gt ls k)))
theorem am_lok.ext {α β : Nat → Nat} {n m : Nat} {ls : List am_V} {lsA : Array Slot} {nL : Nat} (h : am_lok α n ls lsA nL) (hn : n ≤ m) (e : ∀ i, i ≤ n → β i = α i) : am_lok β m ls lsA nL := by
  refine ⟨h.1, h.2.1, h.2.2.1, fun k hk => ?_⟩
  obtain ⟨h1, h2⟩ := h.2.2.2 k hk
  exact ⟨h1.mono hn, by rw [am_c_ext e h1]; exact h2⟩
/-- the listed locals, as the kit has them -/
def am_lv (α : Nat → Nat) (ls : List am_V) (nL : Nat) : List (Nat × Value) := (List.range nL).filterMap fun k => if am_gt ls k = am_X then none else some (k, am_c α (am_gt ls k))
theorem am_lok.has {α : Nat → Nat} {n : Nat} {ls : List am_V} {lsA : Array Slot} {nL : Nat} (h : am_lok α n ls lsA nL) : lv_has lsA nL (am_lv α ls nL) := by
  refine ⟨h.2.1, h.2.2.1, fun q hq => ?_⟩
  obtain ⟨k, -, hk⟩ := List.mem_filterMap.mp hq
  by_cases e : am_gt ls k = am_X
  · rw [if_pos e] at hk; cases hk
  · rw [if_neg e] at hk
    cases hk
    exact (h.2.2.2 k e).2
theorem am_gt_lt : ∀ {ls : List am_V} {k : Nat}, am_gt ls k ≠ am_X → k < ls.length := by
  intro ls
  induction ls with
  | nil => intro k h; exact absurd rfl h
  | cons a ls ih =>
    intro k h
    cases k with
    | zero => exact Nat.succ_pos _
    | succ k => exact Nat.succ_lt_succ (ih h)
theorem am_in_lv {α : Nat → Nat} {ls : List am_V} {nL k : Nat} (hl : ls.length = nL) (h : am_gt ls k ≠ am_X) : (k, am_c α (am_gt ls k)) ∈ am_lv α ls nL :=
  List.mem_filterMap.mpr ⟨k, List.mem_range.mpr (hl ▸ am_gt_lt h), by rw [if_neg h]⟩
theorem am_s1_len {ls : List am_V} {k : Nat} {v : am_V} : (am_s1 ls k v).length = ls.length := by
  unfold am_s1
  rw [am_st_len]
  cases k with
  | zero => rfl
  | succ j =>
    dsimp only
    split
    · exact am_st_len
    · rfl
theorem am_s1_ne {ls : List am_V} {k j : Nat} {v : am_V} (hj : j ≠ k) (hX : am_gt (am_s1 ls k v) j ≠ am_X) : am_gt (am_s1 ls k v) j = am_gt ls j ∧ ¬ (j + 1 = k ∧ am_two (am_gt ls j) = true) := by
  unfold am_s1 at hX ⊢
  rw [am_gt_st_ne hj] at hX ⊢
  cases k with
  | zero => exact ⟨rfl, fun h => by cases h.1⟩
  | succ i =>
    dsimp only at hX ⊢
    split at hX
    · rename_i h2
      by_cases hji : j = i
      · subst hji
        by_cases hl : j < ls.length
        · exact absurd (am_gt_st_same hl) hX
        · exfalso
          apply hX
          have : ¬ am_gt (am_st ls j am_X) j ≠ am_X := fun h => hl (by have := am_gt_lt h; rw [am_st_len] at this; exact this)
          exact Classical.not_not.mp this
      · rw [if_pos h2, am_gt_st_ne hji]
        exact ⟨rfl, fun h => hji (Nat.succ.inj h.1)⟩
    · rename_i h2
      rw [if_neg h2]
      exact ⟨rfl, fun h => h2 (by have := Nat.succ.inj h.1; rw [← this]; exact h.2)⟩
theorem am_two_cat (α : Nat → Nat) (v : am_V) : ((am_c α v).category == 2) = am_two v := by
  rcases v with x | x | a | b
  · rfl
  · rfl
  · rfl
  · cases b <;> rfl
/-- behind the kit's store of one slot -/
theorem am_lok.st1 {α : Nat → Nat} {n : Nat} {ls : List am_V} {lsA ls' : Array Slot} {nL k : Nat} {v : am_V} (h : am_lok α n ls lsA nL) (hk : k < nL) (hv : am_ok n v)
    (h' : lv_has ls' nL ((k, am_c α v) :: (am_lv α ls nL).filter (fun q => !(q.1 == k) && !(q.1 + 1 == k && q.2.category == 2)))) : am_lok α n (am_s1 ls k v) ls' nL := by
  refine ⟨am_s1_len.trans h.1, h'.1, h'.2.1, fun j hj => ?_⟩
  by_cases e : j = k
  · subst e
    have e1 : am_gt (am_s1 ls j v) j = v := by
      unfold am_s1
      apply am_gt_st_same
      have := @am_s1_len ls j v
      unfold am_s1 at this
      rw [am_st_len] at this
      rw [this, h.1]
      exact hk
    rw [e1]
    exact ⟨hv, h'.2.2 _ List.mem_cons_self⟩
  · obtain ⟨e1, e2⟩ := am_s1_ne e hj
    rw [e1] at hj ⊢
    refine ⟨(h.2.2.2 j hj).1, h'.2.2 (j, am_c α (am_gt ls j)) (List.mem_cons_of_mem _ (List.mem_filter.mpr ⟨am_in_lv h.1 hj, ?_⟩))⟩
    dsimp only
    rw [am_two_cat]
    have b1 : (j == k) = false := beq_eq_false_iff_ne.mpr e
    rw [b1]
    by_cases b2 : j + 1 = k
    · have : am_two (am_gt ls j) = false := by
        cases hq : am_two (am_gt ls j) with
        | false => rfl
        | true => exact absurd ⟨b2, hq⟩ e2
      rw [this]
      simp
    · have : (j + 1 == k) = false := beq_eq_false_iff_ne.mpr b2
      rw [this]
      rfl
theorem am_lok.st2 {α : Nat → Nat} {n : Nat} {ls : List am_V} {lsA ls' : Array Slot} {nL k : Nat} {x : Int} (h : am_lok α n ls lsA nL) (hk : k + 1 < nL)
    (h' : lv_has ls' nL ((k, Value.long (Int64.ofInt x)) :: (am_lv α ls nL).filter (fun q => !(q.1 == k) && (!(q.1 == k + 1) && !(q.1 + 1 == k && q.2.category == 2))))) : am_lok α n (am_s2 ls k (.inr (.inl x))) ls' nL := by
  refine ⟨am_st_len.trans (am_s1_len.trans h.1), h'.1, h'.2.1, fun j hj => ?_⟩
  unfold am_s2 at hj ⊢
  by_cases e0 : j = k + 1
  · subst e0
    exfalso
    apply hj
    by_cases hl : k + 1 < (am_s1 ls k (.inr (.inl x))).length
    · exact am_gt_st_same hl
    · rw [am_s1_len, h.1] at hl
      exact absurd hk hl
  rw [am_gt_st_ne e0] at hj ⊢
  by_cases e : j = k
  · subst e
    have e1 : am_gt (am_s1 ls j (.inr (.inl x))) j = .inr (.inl x) := by
      unfold am_s1
      apply am_gt_st_same
      have := @am_s1_len ls j (.inr (.inl x))
      unfold am_s1 at this
      rw [am_st_len] at this
      rw [this, h.1]
      omega
    rw [e1]
    exact ⟨trivial, h'.2.2 _ List.mem_cons_self⟩
  · obtain ⟨e1, e2⟩ := am_s1_ne e hj
    rw [e1] at hj ⊢
    refine ⟨(h.2.2.2 j hj).1, h'.2.2 (j, am_c α (am_gt ls j)) (List.mem_cons_of_mem _ (List.mem_filter.mpr ⟨am_in_lv h.1 hj, ?_⟩))⟩
    dsimp only
    rw [am_two_cat]
    have b1 : (j == k) = false := beq_eq_false_iff_ne.mpr e
    have b0 : (j == k + 1) = false := beq_eq_false_iff_ne.mpr e0
    rw [b1, b0]
    by_cases b2 : j + 1 = k
    · have : am_two (am_gt ls j) = false := by
        cases hq : am_two (am_gt ls j) with
        | false => rfl
        | true => exact absurd ⟨b2, hq⟩ e2
      rw [this]
      simp
    · have : (j + 1 == k) = false := beq_eq_false_iff_ne.mpr b2
      rw [this]
      rfl
