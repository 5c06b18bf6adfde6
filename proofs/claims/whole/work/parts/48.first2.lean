/-! ===== the first world: the objects' fields; the heap holds it ===== -/
def cx_eq : am_V → am_V → Bool
  | .inl x, .inl y => x == y
  | .inr (.inl x), .inr (.inl y) => x == y
  | .inr (.inr (.inl x)), .inr (.inr (.inl y)) => x == y
  | .inr (.inr (.inr x)), .inr (.inr (.inr y)) => x == y
  | _, _ => false
theorem cx_eq_ok {u v : am_V} (h : cx_eq u v = true) : u = v := by
  unfold cx_eq at h
  split at h
  · rw [beq_iff_eq.mp h]
  · rw [beq_iff_eq.mp h]
  · rw [beq_iff_eq.mp h]
  · rw [beq_iff_eq.mp h]
  · exact absurd h Bool.false_ne_true
theorem h_f_ocb : ((List.range 128).all fun a => w_ci a == 0 || (am_oc h_f a == w_ci a && (List.range (am_nf (w_ci a))).all fun j => cx_eq (am_fv h_f a j) (w_fv w_0 w_p0 a j))) = true := by decide +kernel
theorem h_f_oc (a : Nat) (h : w_ci a ≠ 0) : am_oc h_f a = w_ci a ∧ ∀ j, j < am_nf (w_ci a) → am_fv h_f a j = w_fv w_0 w_p0 a j := by
  have hl := w_ci_le h
  have hb := List.all_eq_true.mp h_f_ocb a (List.mem_range.mpr (by omega))
  rw [Bool.or_eq_true, beq_iff_eq, Bool.and_eq_true, beq_iff_eq] at hb
  rcases hb with hb | ⟨h1, h2⟩
  · exact absurd hb h
  · exact ⟨h1, fun j hj => cx_eq_ok (List.all_eq_true.mp h2 j (List.mem_range.mpr hj))⟩
theorem h_f_keyb : (w_keys.all fun a => decide (w_ci (w_p0 a) = 0 ∧ w_ak (w_p0 a) = 0 ∧ 1 ≤ w_p0 a ∧ w_p0 a ≤ 127 ∧ w_p0 a ≠ 126 ∧ am_ak h_f (w_p0 a) = 1 ∧ am_ln h_f (w_p0 a) = if a = 13 then 1024 else 16)) = true := by decide +kernel
theorem h_p0_inj : ∀ a, a ∈ w_keys → ∀ b, b ∈ w_keys → w_p0 a = w_p0 b → a = b := by decide +kernel
theorem h_f_126 : ((List.range 10).all fun i => am_el h_f 126 i == 20005) = true := by decide +kernel
theorem h_cap0 : ∀ a, a ∈ w_keys → (if a = 13 then 1024 else 16) ≤ w_cap a := by decide +kernel
theorem h_a_z : cx_z h_a := fun _ _ _ => rfl
theorem h_b_z : cx_z h_b := cx_z_add h_a_z (fun _ _ _ q => by cases q)
theorem h_c_ct (fr : Nat) (hf : fr = 20) : am_Ct 143 fr [.inr (.inr (.inl 1))] h_b fun r h1 => r = none ∧ h1 = h_c ∧ cx_z h_c := by
  subst hf
  have e : cx 3000 20 11 1 cX11_init 0 (am_loc0 1 [.inr (.inr (.inl 1))]) [] h_b = some h_c := by
    unfold h_c
    have := h_c_some
    generalize cx 3000 20 11 1 cX11_init 0 (am_loc0 1 [.inr (.inr (.inl 1))]) [] h_b = o at this ⊢
    cases o with
    | none => cases this
    | some v => rfl
  exact cx_ct rfl ml_143 (Nat.le_of_ble_eq_true rfl) h_b_z e
theorem h_c_z : cx_z h_c := by
  obtain ⟨_, _, ⟨_, _, h⟩, _⟩ := h_c_ct 20 rfl
  exact h
theorem h_d_z : cx_z h_d := cx_z_add h_c_z (fun _ _ _ q => by cases q)
theorem h_e_ct (fr : Nat) (hf : fr = 20) : am_Ct 165 fr [.inr (.inr (.inl 73))] h_d fun r h1 => r = none ∧ h1 = h_e ∧ cx_z h_e := by
  subst hf
  have e : cx 3000 20 12 2 cX12_init 0 (am_loc0 2 [.inr (.inr (.inl 73))]) [] h_d = some h_e := by
    unfold h_e
    have := h_e_some
    generalize cx 3000 20 12 2 cX12_init 0 (am_loc0 2 [.inr (.inr (.inl 73))]) [] h_d = o at this ⊢
    cases o with
    | none => cases this
    | some v => rfl
  exact cx_ct rfl ml_165 (Nat.le_of_ble_eq_true rfl) h_d_z e
theorem h_e_z : cx_z h_e := by
  obtain ⟨_, _, ⟨_, _, h⟩, _⟩ := h_e_ct 20 rfl
  exact h
theorem h_f_z : cx_z h_f := cx_z_add h_e_z (fun _ _ _ q => by cases q; intro _; rfl)
/-- the heap behind the constructors holds the first world -/
theorem w_R0 : w_R w_0 h_f := by
  have hn := h_f_n
  have hs : w_sum (fun a => if a = 13 then 1024 else 16) = 1488 := by decide +kernel
  refine ⟨w_p0, fun a => if a = 13 then 1024 else 16, ⟨by omega, by rw [hs]; omega, by rw [hs]; have e : (w_0.1 0 0).toNat = 0 := rfl; rw [e]; omega⟩, h_f_oc, fun a ha => ?_, fun a ha => ?_, h_p0_inj, Or.inl rfl, by decide, 0, rfl⟩
  · have hl := w_ak_le ha
    obtain ⟨h1, h2⟩ := h_f_ak a (by omega) ha
    refine ⟨h1, h2, fun i hi => ?_⟩
    show _ = if a = 126 ∧ i < 10 then (20005 : Int) else 0
    by_cases c : a = 126
    · subst c
      have hi : i < 10 := hi
      rw [if_pos ⟨rfl, hi⟩]
      exact beq_iff_eq.mp (List.all_eq_true.mp h_f_126 i (List.mem_range.mpr hi))
    · rw [if_neg (fun q => c q.1)]
      exact h_f_z a c i
  · have hb := of_decide_eq_true (List.all_eq_true.mp h_f_keyb a ha)
    obtain ⟨k1, k2, k3, k4, k5, k6, k7⟩ := hb
    have hak := w_key_ak a ha
    have hna : a ≠ 126 := fun q => by rw [q] at hak; exact absurd hak (by decide)
    refine ⟨⟨k1, k2, k3, by omega⟩, k6, k7, fun i _ => ?_, fun i _ _ => ?_, ?_, h_cap0 a ha⟩
    · rw [h_f_z _ k5 i]
      show _ = if a = 126 ∧ i < 10 then (20005 : Int) else 0
      rw [if_neg (fun q => hna q.1)]
    · show (if a = 126 ∧ i < 10 then (20005 : Int) else 0) = 0
      rw [if_neg (fun q => hna q.1)]
    · show 16 ≤ if a = 13 then 1024 else 16
      split <;> omega
