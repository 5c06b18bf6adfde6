/-! ===== tables of the abstract machine, printed by wip/whole/gen.py out of the names, the decode rows and the Statement ===== -/
def am_R : Nat → String
  | 0 => RX0
  | 1 => RX1
  | 2 => RX2
  | 3 => RX3
  | 4 => RX4
  | 5 => RX5
  | 6 => RX6
  | 7 => RX7
  | 8 => RX8
  | 9 => RX9
  | 10 => RX10
  | 11 => RX11
  | 12 => RX12
  | 13 => RL
  | 14 => RJ7
  | _ => RJ9
def am_at (q : Nat × Nat) : Option Cond := match q.1 with
  | 0 => (k2_sels lw_privs)[q.2]?
  | 1 => tables_1_1[q.2]?
  | 2 => tables_1_2[q.2]?
  | 3 => tables_1_3[q.2]?
  | 4 => tables_1_4[q.2]?
  | 5 => tables_1_5[q.2]?
  | 6 => tables_1_6[q.2]?
  | 7 => tables_1_7[q.2]?
  | 8 => tables_1_8[q.2]?
  | _ => tables_1_9[q.2]?
theorem am_at_in {q : Nat × Nat} {w : Cond} (h : am_at q = some w) : w ∈ lw_tbl := by
  obtain ⟨c, i⟩ := q
  have tl : ∀ {w : Cond}, w ∈ tables_1 → w ∈ lw_tbl := fun h => List.mem_append_right _ h
  unfold am_at at h
  dsimp only at h
  split at h <;> have h := List.mem_of_getElem? h
  · exact List.mem_append_left _ h
  · exact tl (List.mem_append_left _ h)
  · exact tl (List.mem_append_right _ (List.mem_append_left _ h))
  · exact tl (List.mem_append_right _ (List.mem_append_right _ (List.mem_append_left _ h)))
  · exact tl (List.mem_append_right _ (List.mem_append_right _ (List.mem_append_right _ (List.mem_append_left _ h))))
  · exact tl (List.mem_append_right _ (List.mem_append_right _ (List.mem_append_right _ (List.mem_append_right _ (List.mem_append_left _ h)))))
  · exact tl (List.mem_append_right _ (List.mem_append_right _ (List.mem_append_right _ (List.mem_append_right _ (List.mem_append_right _ (List.mem_append_left _ h))))))
  · exact tl (List.mem_append_right _ (List.mem_append_right _ (List.mem_append_right _ (List.mem_append_right _ (List.mem_append_right _ (List.mem_append_right _ (List.mem_append_left _ h)))))))
  · exact tl (List.mem_append_right _ (List.mem_append_right _ (List.mem_append_right _ (List.mem_append_right _ (List.mem_append_right _ (List.mem_append_right _ (List.mem_append_right _ (List.mem_append_left _ h))))))))
  · exact tl (List.mem_append_right _ (List.mem_append_right _ (List.mem_append_right _ (List.mem_append_right _ (List.mem_append_right _ (List.mem_append_right _ (List.mem_append_right _ (List.mem_append_right _ h))))))))
def am_G : List Cond := lw_tbl.filter goodWord
def am_has (q : Nat × Nat) (w : Cond) : Bool := decide (am_at q = some w) && goodWord w
theorem am_has_in {q : Nat × Nat} {w : Cond} (h : am_has q w = true) : w ∈ am_G := by
  unfold am_has at h
  rw [Bool.and_eq_true, decide_eq_true_eq] at h
  exact List.mem_filter.mpr ⟨am_at_in h.1, h.2⟩
def am_alls : List Cond → List (Nat × Nat) → Bool
  | [], _ => true
  | w :: ws, p :: ps => am_has p w && am_alls ws ps
  | _ :: _, [] => false
theorem am_alls_in : ∀ {ws : List Cond} {ps : List (Nat × Nat)}, am_alls ws ps = true → ∀ w ∈ ws, w ∈ am_G := by
  intro ws
  induction ws with
  | nil => intro ps _ w hw; cases hw
  | cons a ws ih =>
    intro ps h w hw
    cases ps with
    | nil => cases h
    | cons p ps =>
      unfold am_alls at h
      rw [Bool.and_eq_true] at h
      rcases List.mem_cons.mp hw with rfl | hw
      · exact am_has_in h.1
      · exact ih h.2 w hw
set_option maxRecDepth 100000 in
theorem am_l0 : ∀ w ∈ u_ws RX0 TX0 3, w ∈ am_G := am_alls_in (ps := [(1, 61), (1, 63), (1, 65)]) (by decide +kernel)
set_option maxRecDepth 100000 in
theorem am_l1 : ∀ w ∈ u_ws RX1 TX1 2, w ∈ am_G := am_alls_in (ps := [(1, 228), (1, 230)]) (by decide +kernel)
set_option maxRecDepth 100000 in
theorem am_l2 : ∀ w ∈ u_ws RX2 TX2 4, w ∈ am_G := am_alls_in (ps := [(1, 101), (1, 103), (1, 105), (1, 107)]) (by decide +kernel)
set_option maxRecDepth 100000 in
theorem am_l3 : ∀ w ∈ u_ws RX3 TX3 2, w ∈ am_G := am_alls_in (ps := [(1, 84), (1, 86)]) (by decide +kernel)
set_option maxRecDepth 100000 in
theorem am_l4 : ∀ w ∈ u_ws RX4 TX4 6, w ∈ am_G := am_alls_in (ps := [(2, 155), (2, 157), (2, 159), (2, 161), (2, 163), (2, 165)]) (by decide +kernel)
set_option maxRecDepth 100000 in
theorem am_l5 : ∀ w ∈ u_ws RX5 TX5 10, w ∈ am_G := am_alls_in (ps := [(1, 155), (1, 157), (1, 159), (1, 161), (1, 163), (1, 165), (1, 167), (1, 169), (1, 171), (1, 173)]) (by decide +kernel)
set_option maxRecDepth 100000 in
theorem am_l6 : ∀ w ∈ u_ws RX6 TX6 8, w ∈ am_G := am_alls_in (ps := [(1, 201), (1, 203), (1, 205), (1, 207), (1, 209), (1, 211), (1, 213), (1, 215)]) (by decide +kernel)
set_option maxRecDepth 100000 in
theorem am_l7 : ∀ w ∈ u_ws RX7 TX7 1, w ∈ am_G := am_alls_in (ps := [(1, 54)]) (by decide +kernel)
set_option maxRecDepth 100000 in
theorem am_l8 : ∀ w ∈ u_ws RX8 TX8 18, w ∈ am_G := am_alls_in (ps := [(2, 52), (2, 54), (2, 56), (2, 58), (2, 60), (2, 62), (2, 64), (2, 66), (2, 68), (2, 70), (2, 72), (2, 74), (2, 76), (2, 78), (2, 80), (2, 82), (2, 84), (2, 86)]) (by decide +kernel)
set_option maxRecDepth 100000 in
theorem am_l9 : ∀ w ∈ u_ws RX9 TX9 17, w ∈ am_G := am_alls_in (ps := [(2, 114), (2, 116), (2, 118), (2, 120), (2, 122), (2, 124), (2, 126), (2, 128), (2, 130), (2, 132), (2, 134), (2, 136), (2, 138), (2, 140), (2, 142), (2, 144), (2, 146)]) (by decide +kernel)
set_option maxRecDepth 100000 in
theorem am_l10 : ∀ w ∈ u_ws RX10 TX10 7, w ∈ am_G := am_alls_in (ps := [(2, 8), (2, 10), (2, 12), (2, 14), (2, 16), (2, 18), (2, 20)]) (by decide +kernel)
set_option maxRecDepth 100000 in
theorem am_l11 : ∀ w ∈ u_ws RX11 TX11 5, w ∈ am_G := am_alls_in (ps := [(2, 175), (2, 177), (2, 179), (2, 181), (2, 183)]) (by decide +kernel)
set_option maxRecDepth 100000 in
theorem am_l12 : ∀ w ∈ u_ws RX12 TX12 94, w ∈ am_G := am_alls_in (ps := [(7, 188), (7, 190), (7, 192), (7, 194), (7, 196), (7, 198), (7, 200), (7, 202), (7, 204), (7, 206), (7, 208), (7, 210), (7, 212), (7, 214), (7, 216), (7, 218), (7, 220), (7, 222), (7, 224), (7, 226), (7, 228), (7, 230), (7, 232), (7, 234), (7, 236), (7, 238), (8, 0), (8, 2), (8, 4), (8, 6), (8, 8), (8, 10), (8, 12), (8, 14), (8, 16), (8, 18), (8, 20), (8, 22), (8, 24), (8, 26), (8, 28), (8, 30), (8, 32), (8, 34), (8, 36), (8, 38), (8, 40), (8, 42), (8, 44), (8, 46), (8, 48), (8, 50), (8, 52), (8, 54), (8, 56), (8, 58), (8, 60), (8, 62), (8, 64), (8, 66), (8, 68), (8, 70), (8, 72), (8, 74), (8, 76), (8, 78), (8, 80), (8, 82), (8, 84), (8, 86), (8, 88), (8, 90), (8, 92), (8, 94), (8, 96), (8, 98), (8, 100), (8, 102), (8, 104), (8, 106), (8, 108), (8, 110), (8, 112), (8, 114), (8, 116), (8, 118), (8, 120), (8, 122), (8, 124), (8, 126), (8, 128), (8, 130), (8, 132), (8, 134)]) (by decide +kernel)
/-- what is known of a class: its place, its fields, their types; all fields its own -/
def am_cls (ci : Nat) (C : String) (T : u_T) (N : Nat) (ty : Nat → FieldType) : Prop :=
  vwCl[ci]? = some (C, T, N) ∧ (∀ w ∈ u_ws C T N, w ∈ am_G) ∧ (∀ k, k < N → parseFieldDescriptor (T k).2.2.1 = some (ty k)) ∧ (∀ a, a < N → ∀ b, b < N → a ≠ b → (T a).2.1 ≠ (T b).2.1) ∧ (∀ k, k < N → (T k).1 = C) ∧ C = am_R (ci - 3)
theorem am_k0 : am_cls 3 RX0 TX0 3 tyX0 := ⟨rfl, am_l0, tyX0_ok, nmX0, by decide +kernel, rfl⟩
theorem am_k1 : am_cls 4 RX1 TX1 2 tyX1 := ⟨rfl, am_l1, tyX1_ok, nmX1, by decide +kernel, rfl⟩
theorem am_k2 : am_cls 5 RX2 TX2 4 tyX2 := ⟨rfl, am_l2, tyX2_ok, nmX2, by decide +kernel, rfl⟩
theorem am_k3 : am_cls 6 RX3 TX3 2 tyX3 := ⟨rfl, am_l3, tyX3_ok, nmX3, by decide +kernel, rfl⟩
theorem am_k4 : am_cls 7 RX4 TX4 6 tyX4 := ⟨rfl, am_l4, tyX4_ok, nmX4, by decide +kernel, rfl⟩
theorem am_k5 : am_cls 8 RX5 TX5 10 tyX5 := ⟨rfl, am_l5, tyX5_ok, nmX5, by decide +kernel, rfl⟩
theorem am_k6 : am_cls 9 RX6 TX6 8 tyX6 := ⟨rfl, am_l6, tyX6_ok, nmX6, by decide +kernel, rfl⟩
theorem am_k7 : am_cls 10 RX7 TX7 1 tyX7 := ⟨rfl, am_l7, tyX7_ok, nmX7, by decide +kernel, rfl⟩
theorem am_k8 : am_cls 11 RX8 TX8 18 tyX8 := ⟨rfl, am_l8, tyX8_ok, nmX8, by decide +kernel, rfl⟩
theorem am_k9 : am_cls 12 RX9 TX9 17 tyX9 := ⟨rfl, am_l9, tyX9_ok, nmX9, by decide +kernel, rfl⟩
theorem am_k10 : am_cls 13 RX10 TX10 7 tyX10 := ⟨rfl, am_l10, tyX10_ok, nmX10, by decide +kernel, rfl⟩
theorem am_k11 : am_cls 14 RX11 TX11 5 tyX11 := ⟨rfl, am_l11, tyX11_ok, nmX11, by decide +kernel, rfl⟩
theorem am_k12 : am_cls 15 RX12 TX12 94 tyX12 := ⟨rfl, am_l12, tyX12_ok, nmX12, by decide +kernel, rfl⟩
theorem am_clsAt {ci : Nat} (h1 : 3 ≤ ci) (h2 : ci ≤ 15) : ∃ C T N ty, am_cls ci C T N ty := by
  have h : ci = 3 ∨ ci = 4 ∨ ci = 5 ∨ ci = 6 ∨ ci = 7 ∨ ci = 8 ∨ ci = 9 ∨ ci = 10 ∨ ci = 11 ∨ ci = 12 ∨ ci = 13 ∨ ci = 14 ∨ ci = 15 := by omega
  rcases h with rfl | rfl | rfl | rfl | rfl | rfl | rfl | rfl | rfl | rfl | rfl | rfl | rfl
  · exact ⟨_, _, _, _, am_k0⟩
  · exact ⟨_, _, _, _, am_k1⟩
  · exact ⟨_, _, _, _, am_k2⟩
  · exact ⟨_, _, _, _, am_k3⟩
  · exact ⟨_, _, _, _, am_k4⟩
  · exact ⟨_, _, _, _, am_k5⟩
  · exact ⟨_, _, _, _, am_k6⟩
  · exact ⟨_, _, _, _, am_k7⟩
  · exact ⟨_, _, _, _, am_k8⟩
  · exact ⟨_, _, _, _, am_k9⟩
  · exact ⟨_, _, _, _, am_k10⟩
  · exact ⟨_, _, _, _, am_k11⟩
  · exact ⟨_, _, _, _, am_k12⟩
def am_nfl : List Nat := [4, 4, 6, 3, 2, 4, 2, 6, 10, 8, 1, 18, 17, 7, 5, 94]
def am_nf (ci : Nat) : Nat := am_nfl.getD ci 0
theorem am_nf_eq {ci : Nat} {q : vw_C} (h : vwCl[ci]? = some q) : q.2.2 = am_nf ci := by
  rcases ci with _ | _ | _ | _ | _ | _ | _ | _ | _ | _ | _ | _ | _ | _ | _ | _ | ci <;>
    first
    | (cases h; rfl)
    | (exfalso; simp [vwCl] at h)
/-- kinds of fields: 0 int, 1 boolean, 2 long, 3 a reference -/
def am_tkl : List (List Nat) := [[], [], [], [3, 3, 3], [3, 0], [3, 3, 0, 0], [3, 0], [3, 3, 3, 3, 3, 3], [3, 3, 3, 3, 0, 0, 0, 0, 0, 1], [3, 3, 3, 0, 0, 0, 0, 3], [3], [3, 3, 3, 3, 3, 3, 3, 3, 3, 3, 0, 0, 0, 0, 0, 0, 0, 1], [3, 3, 3, 3, 3, 3, 3, 0, 0, 0, 0, 0, 0, 0, 0, 0, 0], [3, 3, 3, 3, 0, 0, 0], [3, 3, 3, 3, 1], [3, 3, 3, 0, 0, 0, 3, 3, 3, 3, 3, 3, 3, 0, 0, 0, 3, 0, 3, 3, 3, 0, 3, 3, 3, 3, 0, 3, 3, 3, 3, 3, 3, 0, 3, 0, 3, 3, 3, 0, 0, 0, 3, 0, 0, 0, 2, 1, 3, 3, 3, 3, 0, 3, 3, 3, 3, 0, 0, 0, 3, 0, 0, 3, 0, 0, 0, 0, 0, 3, 0, 3, 3, 3, 3, 3, 3, 3, 3, 0, 0, 0, 3, 1, 0, 1, 1, 0, 3, 0, 3, 3, 3, 0]]
def am_tk (ci k : Nat) : Nat := (am_tkl.getD ci []).getD k 3
def am_tyk (t : Nat) (ty : FieldType) : Bool := match ty with
  | .int => t == 0
  | .boolean => t == 1
  | .long => t == 2
  | .object _ => t == 3
  | .array _ => t == 3
  | _ => false
theorem am_t0 : ∀ k, k < 3 → am_tyk (am_tk 3 k) (tyX0 k) = true := by decide +kernel
theorem am_t1 : ∀ k, k < 2 → am_tyk (am_tk 4 k) (tyX1 k) = true := by decide +kernel
theorem am_t2 : ∀ k, k < 4 → am_tyk (am_tk 5 k) (tyX2 k) = true := by decide +kernel
theorem am_t3 : ∀ k, k < 2 → am_tyk (am_tk 6 k) (tyX3 k) = true := by decide +kernel
theorem am_t4 : ∀ k, k < 6 → am_tyk (am_tk 7 k) (tyX4 k) = true := by decide +kernel
theorem am_t5 : ∀ k, k < 10 → am_tyk (am_tk 8 k) (tyX5 k) = true := by decide +kernel
theorem am_t6 : ∀ k, k < 8 → am_tyk (am_tk 9 k) (tyX6 k) = true := by decide +kernel
theorem am_t7 : ∀ k, k < 1 → am_tyk (am_tk 10 k) (tyX7 k) = true := by decide +kernel
theorem am_t8 : ∀ k, k < 18 → am_tyk (am_tk 11 k) (tyX8 k) = true := by decide +kernel
theorem am_t9 : ∀ k, k < 17 → am_tyk (am_tk 12 k) (tyX9 k) = true := by decide +kernel
theorem am_t10 : ∀ k, k < 7 → am_tyk (am_tk 13 k) (tyX10 k) = true := by decide +kernel
theorem am_t11 : ∀ k, k < 5 → am_tyk (am_tk 14 k) (tyX11 k) = true := by decide +kernel
theorem am_t12 : ∀ k, k < 94 → am_tyk (am_tk 15 k) (tyX12 k) = true := by decide +kernel
theorem am_tkAt {ci : Nat} {C : String} {T : u_T} {N : Nat} {ty : Nat → FieldType} (h1 : 3 ≤ ci) (h2 : ci ≤ 15) (h : am_cls ci C T N ty) {k : Nat} (hk : k < N) : am_tyk (am_tk ci k) (ty k) = true := by
  have h0 := h
  obtain ⟨e, -, t, -⟩ := h0
  have hc : ci = 3 ∨ ci = 4 ∨ ci = 5 ∨ ci = 6 ∨ ci = 7 ∨ ci = 8 ∨ ci = 9 ∨ ci = 10 ∨ ci = 11 ∨ ci = 12 ∨ ci = 13 ∨ ci = 14 ∨ ci = 15 := by omega
  rcases hc with rfl | rfl | rfl | rfl | rfl | rfl | rfl | rfl | rfl | rfl | rfl | rfl | rfl
  · obtain ⟨rfl, rfl, rfl⟩ : C = RX0 ∧ T = TX0 ∧ N = 3 := by
      have e := Option.some.inj e
      exact ⟨(congrArg (fun q => q.1) e).symm, (congrArg (fun q => q.2.1) e).symm, (congrArg (fun q => q.2.2) e).symm⟩
    have := t k hk
    rw [tyX0_ok k hk] at this
    rw [← Option.some.inj this]
    exact am_t0 k hk
  · obtain ⟨rfl, rfl, rfl⟩ : C = RX1 ∧ T = TX1 ∧ N = 2 := by
      have e := Option.some.inj e
      exact ⟨(congrArg (fun q => q.1) e).symm, (congrArg (fun q => q.2.1) e).symm, (congrArg (fun q => q.2.2) e).symm⟩
    have := t k hk
    rw [tyX1_ok k hk] at this
    rw [← Option.some.inj this]
    exact am_t1 k hk
  · obtain ⟨rfl, rfl, rfl⟩ : C = RX2 ∧ T = TX2 ∧ N = 4 := by
      have e := Option.some.inj e
      exact ⟨(congrArg (fun q => q.1) e).symm, (congrArg (fun q => q.2.1) e).symm, (congrArg (fun q => q.2.2) e).symm⟩
    have := t k hk
    rw [tyX2_ok k hk] at this
    rw [← Option.some.inj this]
    exact am_t2 k hk
  · obtain ⟨rfl, rfl, rfl⟩ : C = RX3 ∧ T = TX3 ∧ N = 2 := by
      have e := Option.some.inj e
      exact ⟨(congrArg (fun q => q.1) e).symm, (congrArg (fun q => q.2.1) e).symm, (congrArg (fun q => q.2.2) e).symm⟩
    have := t k hk
    rw [tyX3_ok k hk] at this
    rw [← Option.some.inj this]
    exact am_t3 k hk
  · obtain ⟨rfl, rfl, rfl⟩ : C = RX4 ∧ T = TX4 ∧ N = 6 := by
      have e := Option.some.inj e
      exact ⟨(congrArg (fun q => q.1) e).symm, (congrArg (fun q => q.2.1) e).symm, (congrArg (fun q => q.2.2) e).symm⟩
    have := t k hk
    rw [tyX4_ok k hk] at this
    rw [← Option.some.inj this]
    exact am_t4 k hk
  · obtain ⟨rfl, rfl, rfl⟩ : C = RX5 ∧ T = TX5 ∧ N = 10 := by
      have e := Option.some.inj e
      exact ⟨(congrArg (fun q => q.1) e).symm, (congrArg (fun q => q.2.1) e).symm, (congrArg (fun q => q.2.2) e).symm⟩
    have := t k hk
    rw [tyX5_ok k hk] at this
    rw [← Option.some.inj this]
    exact am_t5 k hk
  · obtain ⟨rfl, rfl, rfl⟩ : C = RX6 ∧ T = TX6 ∧ N = 8 := by
      have e := Option.some.inj e
      exact ⟨(congrArg (fun q => q.1) e).symm, (congrArg (fun q => q.2.1) e).symm, (congrArg (fun q => q.2.2) e).symm⟩
    have := t k hk
    rw [tyX6_ok k hk] at this
    rw [← Option.some.inj this]
    exact am_t6 k hk
  · obtain ⟨rfl, rfl, rfl⟩ : C = RX7 ∧ T = TX7 ∧ N = 1 := by
      have e := Option.some.inj e
      exact ⟨(congrArg (fun q => q.1) e).symm, (congrArg (fun q => q.2.1) e).symm, (congrArg (fun q => q.2.2) e).symm⟩
    have := t k hk
    rw [tyX7_ok k hk] at this
    rw [← Option.some.inj this]
    exact am_t7 k hk
  · obtain ⟨rfl, rfl, rfl⟩ : C = RX8 ∧ T = TX8 ∧ N = 18 := by
      have e := Option.some.inj e
      exact ⟨(congrArg (fun q => q.1) e).symm, (congrArg (fun q => q.2.1) e).symm, (congrArg (fun q => q.2.2) e).symm⟩
    have := t k hk
    rw [tyX8_ok k hk] at this
    rw [← Option.some.inj this]
    exact am_t8 k hk
  · obtain ⟨rfl, rfl, rfl⟩ : C = RX9 ∧ T = TX9 ∧ N = 17 := by
      have e := Option.some.inj e
      exact ⟨(congrArg (fun q => q.1) e).symm, (congrArg (fun q => q.2.1) e).symm, (congrArg (fun q => q.2.2) e).symm⟩
    have := t k hk
    rw [tyX9_ok k hk] at this
    rw [← Option.some.inj this]
    exact am_t9 k hk
  · obtain ⟨rfl, rfl, rfl⟩ : C = RX10 ∧ T = TX10 ∧ N = 7 := by
      have e := Option.some.inj e
      exact ⟨(congrArg (fun q => q.1) e).symm, (congrArg (fun q => q.2.1) e).symm, (congrArg (fun q => q.2.2) e).symm⟩
    have := t k hk
    rw [tyX10_ok k hk] at this
    rw [← Option.some.inj this]
    exact am_t10 k hk
  · obtain ⟨rfl, rfl, rfl⟩ : C = RX11 ∧ T = TX11 ∧ N = 5 := by
      have e := Option.some.inj e
      exact ⟨(congrArg (fun q => q.1) e).symm, (congrArg (fun q => q.2.1) e).symm, (congrArg (fun q => q.2.2) e).symm⟩
    have := t k hk
    rw [tyX11_ok k hk] at this
    rw [← Option.some.inj this]
    exact am_t11 k hk
  · obtain ⟨rfl, rfl, rfl⟩ : C = RX12 ∧ T = TX12 ∧ N = 94 := by
      have e := Option.some.inj e
      exact ⟨(congrArg (fun q => q.1) e).symm, (congrArg (fun q => q.2.1) e).symm, (congrArg (fun q => q.2.2) e).symm⟩
    have := t k hk
    rw [tyX12_ok k hk] at this
    rw [← Option.some.inj this]
    exact am_t12 k hk
def am_fl : List (Nat × Nat × Nat × Nat × Bool × (Nat × Nat)) := [(0, 12, 3, 0, true, (1, 58)), (0, 18, 3, 1, true, (1, 59)), (0, 21, 3, 2, true, (1, 60)), (1, 10, 4, 0, true, (1, 226)), (1, 16, 4, 1, false, (1, 227)), (2, 12, 5, 0, true, (1, 97)), (2, 18, 5, 1, false, (1, 98)), (2, 22, 5, 2, false, (1, 99)), (2, 107, 5, 3, false, (1, 100)), (3, 14, 6, 0, true, (1, 82)), (3, 18, 6, 1, false, (1, 83)), (3, 41, 9, 4, false, (1, 190)), (3, 49, 9, 0, true, (1, 180)), (3, 56, 9, 3, false, (1, 187)), (3, 59, 9, 2, true, (1, 185)), (4, 12, 7, 0, true, (2, 149)), (4, 21, 7, 1, true, (2, 150)), (4, 28, 7, 2, true, (2, 151)), (4, 35, 7, 3, true, (2, 152)), (4, 49, 7, 4, true, (2, 153)), (4, 58, 7, 5, true, (2, 154)), (4, 78, 8, 7, false, (1, 147)), (4, 84, 8, 8, false, (1, 150)), (4, 87, 8, 9, false, (1, 153)), (4, 91, 8, 6, false, (1, 145)), (4, 94, 9, 7, false, (1, 198)), (4, 98, 9, 1, true, (1, 182)), (4, 117, 11, 11, false, (2, 44)), (4, 123, 9, 0, true, (1, 178)), (4, 130, 8, 3, true, (1, 136)), (4, 148, 8, 2, true, (1, 133)), (4, 156, 11, 10, false, (2, 42)), (5, 10, 8, 0, true, (1, 126)), (5, 16, 8, 1, true, (1, 129)), (5, 19, 8, 2, true, (1, 132)), (5, 22, 8, 3, true, (1, 135)), (5, 25, 8, 4, false, (1, 138)), (5, 29, 8, 5, false, (1, 142)), (6, 12, 9, 0, true, (1, 176)), (6, 18, 9, 1, true, (1, 181)), (6, 21, 9, 2, true, (1, 184)), (6, 27, 9, 7, false, (1, 197)), (6, 31, 9, 3, false, (1, 186)), (6, 35, 9, 4, false, (1, 189)), (6, 38, 9, 5, false, (1, 193)), (6, 41, 9, 6, false, (1, 195)), (6, 52, 8, 5, false, (1, 143)), (6, 53, 8, 4, false, (1, 139)), (6, 56, 8, 1, true, (1, 130)), (7, 7, 10, 0, false, (1, 53)), (8, 12, 11, 6, true, (2, 37)), (8, 18, 11, 7, true, (2, 38)), (8, 21, 11, 8, true, (2, 39)), (8, 24, 11, 9, true, (2, 40)), (8, 27, 11, 0, true, (2, 31)), (8, 31, 11, 1, true, (2, 32)), (8, 35, 11, 2, true, (2, 33)), (8, 39, 11, 3, true, (2, 34)), (8, 43, 11, 4, true, (2, 35)), (8, 47, 11, 5, true, (2, 36)), (8, 51, 11, 17, false, (2, 51)), (8, 55, 11, 10, false, (2, 41)), (8, 59, 11, 11, false, (2, 43)), (8, 62, 11, 12, false, (2, 46)), (8, 65, 11, 13, false, (2, 47)), (8, 68, 11, 14, false, (2, 48)), (8, 71, 11, 15, false, (2, 49)), (8, 74, 11, 16, false, (2, 50)), (8, 132, 9, 4, false, (1, 191)), (8, 162, 9, 0, true, (1, 179)), (8, 246, 9, 5, false, (1, 194)), (8, 279, 9, 7, false, (1, 200)), (8, 283, 8, 8, false, (1, 152)), (8, 292, 9, 3, false, (1, 188)), (8, 295, 8, 7, false, (1, 149)), (9, 12, 12, 5, true, (2, 102)), (9, 18, 12, 6, true, (2, 103)), (9, 21, 12, 15, false, (2, 112)), (9, 25, 12, 16, false, (2, 113)), (9, 28, 12, 0, true, (2, 97)), (9, 32, 12, 1, true, (2, 98)), (9, 36, 12, 2, true, (2, 99)), (9, 40, 12, 3, true, (2, 100)), (9, 44, 12, 4, true, (2, 101)), (9, 48, 12, 7, false, (2, 104)), (9, 51, 12, 8, false, (2, 105)), (9, 54, 12, 9, false, (2, 106)), (9, 57, 12, 10, false, (2, 107)), (9, 60, 12, 11, false, (2, 108)), (9, 63, 12, 12, false, (2, 109)), (9, 66, 12, 13, false, (2, 110)), (9, 69, 12, 14, false, (2, 111)), (9, 72, 9, 0, true, (1, 177)), (9, 138, 9, 1, true, (1, 183)), (9, 154, 9, 6, false, (1, 196)), (9, 157, 9, 7, false, (1, 199)), (9, 161, 8, 4, false, (1, 140)), (9, 166, 8, 0, true, (1, 127)), (9, 187, 11, 11, false, (2, 45)), (9, 201, 9, 4, false, (1, 192)), (10, 12, 13, 2, true, (2, 3)), (10, 18, 13, 3, true, (2, 4)), (10, 21, 13, 0, true, (2, 1)), (10, 25, 13, 1, true, (2, 2)), (10, 33, 13, 5, false, (2, 6)), (10, 37, 13, 6, false, (2, 7)), (10, 40, 13, 4, false, (2, 5)), (11, 12, 14, 0, true, (2, 170)), (11, 21, 14, 1, true, (2, 171)), (11, 28, 14, 2, true, (2, 172)), (11, 32, 14, 3, true, (2, 173)), (11, 75, 14, 4, false, (2, 174)), (11, 79, 8, 6, false, (1, 146)), (11, 87, 8, 9, false, (1, 154)), (11, 90, 8, 7, false, (1, 148)), (11, 93, 8, 8, false, (1, 151)), (11, 100, 8, 4, false, (1, 141)), (11, 103, 8, 0, true, (1, 128)), (11, 112, 8, 5, false, (1, 144)), (11, 115, 8, 1, true, (1, 131)), (11, 118, 8, 2, true, (1, 134)), (11, 125, 8, 3, true, (1, 137)), (12, 7, 15, 0, true, (7, 94)), (12, 13, 15, 1, true, (7, 95)), (12, 16, 15, 2, true, (7, 96)), (12, 19, 15, 3, false, (7, 97)), (12, 23, 15, 4, false, (7, 98)), (12, 26, 15, 6, true, (7, 100)), (12, 29, 15, 7, true, (7, 101)), (12, 32, 15, 8, true, (7, 102)), (12, 35, 15, 9, true, (7, 103)), (12, 38, 15, 10, true, (7, 104)), (12, 41, 15, 11, true, (7, 105)), (12, 44, 15, 12, true, (7, 106)), (12, 47, 15, 16, true, (7, 110)), (12, 50, 15, 18, true, (7, 112)), (12, 53, 15, 19, true, (7, 113)), (12, 56, 15, 20, true, (7, 114)), (12, 59, 15, 22, true, (7, 116)), (12, 62, 15, 23, true, (7, 117)), (12, 65, 15, 24, true, (7, 118)), (12, 68, 15, 25, true, (7, 119)), (12, 71, 15, 26, false, (7, 120)), (12, 74, 15, 27, true, (7, 121)), (12, 77, 15, 28, true, (7, 122)), (12, 80, 15, 29, true, (7, 123)), (12, 83, 15, 30, true, (7, 124)), (12, 86, 15, 31, true, (7, 125)), (12, 90, 15, 32, true, (7, 126)), (12, 93, 15, 34, true, (7, 128)), (12, 96, 15, 36, true, (7, 130)), (12, 99, 15, 37, true, (7, 131)), (12, 102, 15, 38, true, (7, 132)), (12, 105, 15, 42, true, (7, 136)), (12, 108, 15, 48, true, (7, 142)), (12, 111, 15, 49, true, (7, 143)), (12, 114, 15, 50, true, (7, 144)), (12, 117, 15, 51, true, (7, 145)), (12, 120, 15, 53, true, (7, 147)), (12, 123, 15, 54, true, (7, 148)), (12, 126, 15, 55, true, (7, 149)), (12, 129, 15, 56, true, (7, 150)), (12, 132, 15, 60, true, (7, 154)), (12, 135, 15, 63, true, (7, 157)), (12, 138, 15, 69, true, (7, 163)), (12, 141, 15, 71, true, (7, 165)), (12, 144, 15, 72, true, (7, 166)), (12, 147, 15, 73, true, (7, 167)), (12, 150, 15, 74, true, (7, 168)), (12, 153, 15, 75, true, (7, 169)), (12, 156, 15, 76, true, (7, 170)), (12, 159, 15, 77, true, (7, 171)), (12, 163, 15, 78, true, (7, 172)), (12, 166, 15, 82, true, (7, 176)), (12, 169, 15, 88, true, (7, 182)), (12, 172, 15, 90, true, (7, 184)), (12, 175, 15, 91, true, (7, 185)), (12, 178, 15, 92, true, (7, 186)), (12, 181, 15, 93, false, (7, 187)), (12, 188, 15, 70, false, (7, 164)), (12, 202, 15, 41, false, (7, 135)), (12, 206, 15, 62, false, (7, 156)), (12, 209, 15, 40, false, (7, 134)), (12, 212, 15, 5, false, (7, 99)), (12, 215, 15, 13, false, (7, 107)), (12, 218, 15, 14, false, (7, 108)), (12, 248, 15, 15, false, (7, 109)), (12, 273, 15, 33, false, (7, 127)), (12, 291, 15, 35, false, (7, 129)), (12, 294, 15, 39, false, (7, 133)), (12, 319, 15, 46, false, (7, 140)), (12, 323, 15, 47, false, (7, 141)), (12, 336, 15, 17, false, (7, 111)), (12, 364, 15, 21, false, (7, 115)), (12, 370, 15, 43, false, (7, 137)), (12, 376, 15, 79, false, (7, 173)), (12, 385, 15, 81, false, (7, 175)), (12, 388, 15, 80, false, (7, 174)), (12, 394, 15, 45, false, (7, 139)), (12, 397, 15, 44, false, (7, 138)), (12, 406, 15, 84, false, (7, 178)), (12, 409, 15, 83, false, (7, 177)), (12, 421, 15, 52, false, (7, 146)), (12, 424, 15, 66, false, (7, 160)), (12, 427, 15, 65, false, (7, 159)), (12, 430, 15, 58, false, (7, 152)), (12, 433, 15, 67, false, (7, 161)), (12, 439, 15, 68, false, (7, 162)), (12, 442, 15, 57, false, (7, 151)), (12, 445, 15, 59, false, (7, 153)), (12, 454, 15, 61, false, (7, 155)), (12, 461, 15, 64, false, (7, 158)), (12, 501, 15, 85, false, (7, 179)), (12, 504, 15, 86, false, (7, 180)), (12, 507, 15, 87, false, (7, 181)), (12, 510, 15, 89, false, (7, 183))]
def am_fd (own idx : Nat) : Option (Nat × Nat × Bool) := (am_fl.find? fun e => e.1 == own && e.2.1 == idx).map fun e => (e.2.2.1, e.2.2.2.1, e.2.2.2.2.1)
def am_fok (e : Nat × Nat × Nat × Nat × Bool × (Nat × Nat)) : Bool := match vwCl[e.2.2.1]? with
  | some q => decide (3 ≤ e.2.2.1 ∧ e.2.2.1 ≤ 15 ∧ e.2.2.2.1 < q.2.2 ∧ (q.2.1 e.2.2.2.1).2.2.2 = e.2.2.2.2.1) && am_has e.2.2.2.2.2 (.fieldLink (am_R e.1) e.2.1 (q.2.1 e.2.2.2.1).1 (q.2.1 e.2.2.2.1).2.1 (q.2.1 e.2.2.2.1).2.2.1)
  | none => false
set_option maxRecDepth 100000 in
theorem am_fl_ok : am_fl.all am_fok = true := by decide +kernel
theorem am_fd_ok {own idx ci k : Nat} {fin : Bool} (h : am_fd own idx = some (ci, k, fin)) : ∃ C T N ty, am_cls ci C T N ty ∧ 3 ≤ ci ∧ ci ≤ 15 ∧ k < N ∧ (T k).2.2.2 = fin ∧ Cond.fieldLink (am_R own) idx (T k).1 (T k).2.1 (T k).2.2.1 ∈ am_G := by
  unfold am_fd at h
  rw [Option.map_eq_some_iff] at h
  obtain ⟨⟨o, i, ci', k', fin', p⟩, h1, h2⟩ := h
  cases h2
  have hm := List.mem_of_find?_eq_some h1
  have hp := List.find?_some h1
  dsimp only at hp
  rw [Bool.and_eq_true, beq_iff_eq, beq_iff_eq] at hp
  obtain ⟨rfl, rfl⟩ := hp
  have hf := List.all_eq_true.mp am_fl_ok _ hm
  unfold am_fok at hf
  dsimp only at hf
  cases hq : vwCl[ci']? with
  | none => rw [hq] at hf; cases hf
  | some q =>
    rw [hq] at hf
    dsimp only at hf
    rw [Bool.and_eq_true, decide_eq_true_eq] at hf
    obtain ⟨⟨a1, a2, a3, a4⟩, hw⟩ := hf
    obtain ⟨C, T, N, ty, hc⟩ := am_clsAt a1 a2
    have e : q = (C, T, N) := Option.some.inj (hq.symm.trans hc.1)
    subst e
    exact ⟨C, T, N, ty, hc, a1, a2, a3, a4, am_has_in hw⟩
theorem fd_0_12 : am_fd 0 12 = some (3, 0, true) := by decide +kernel
theorem fd_0_18 : am_fd 0 18 = some (3, 1, true) := by decide +kernel
theorem fd_0_21 : am_fd 0 21 = some (3, 2, true) := by decide +kernel
theorem fd_1_10 : am_fd 1 10 = some (4, 0, true) := by decide +kernel
theorem fd_1_16 : am_fd 1 16 = some (4, 1, false) := by decide +kernel
theorem fd_2_12 : am_fd 2 12 = some (5, 0, true) := by decide +kernel
theorem fd_2_18 : am_fd 2 18 = some (5, 1, false) := by decide +kernel
theorem fd_2_22 : am_fd 2 22 = some (5, 2, false) := by decide +kernel
theorem fd_2_107 : am_fd 2 107 = some (5, 3, false) := by decide +kernel
theorem fd_3_14 : am_fd 3 14 = some (6, 0, true) := by decide +kernel
theorem fd_3_18 : am_fd 3 18 = some (6, 1, false) := by decide +kernel
theorem fd_3_41 : am_fd 3 41 = some (9, 4, false) := by decide +kernel
theorem fd_3_49 : am_fd 3 49 = some (9, 0, true) := by decide +kernel
theorem fd_3_56 : am_fd 3 56 = some (9, 3, false) := by decide +kernel
theorem fd_3_59 : am_fd 3 59 = some (9, 2, true) := by decide +kernel
theorem fd_4_12 : am_fd 4 12 = some (7, 0, true) := by decide +kernel
theorem fd_4_21 : am_fd 4 21 = some (7, 1, true) := by decide +kernel
theorem fd_4_28 : am_fd 4 28 = some (7, 2, true) := by decide +kernel
theorem fd_4_35 : am_fd 4 35 = some (7, 3, true) := by decide +kernel
theorem fd_4_49 : am_fd 4 49 = some (7, 4, true) := by decide +kernel
theorem fd_4_58 : am_fd 4 58 = some (7, 5, true) := by decide +kernel
theorem fd_4_78 : am_fd 4 78 = some (8, 7, false) := by decide +kernel
theorem fd_4_84 : am_fd 4 84 = some (8, 8, false) := by decide +kernel
theorem fd_4_87 : am_fd 4 87 = some (8, 9, false) := by decide +kernel
theorem fd_4_91 : am_fd 4 91 = some (8, 6, false) := by decide +kernel
theorem fd_4_94 : am_fd 4 94 = some (9, 7, false) := by decide +kernel
theorem fd_4_98 : am_fd 4 98 = some (9, 1, true) := by decide +kernel
theorem fd_4_117 : am_fd 4 117 = some (11, 11, false) := by decide +kernel
theorem fd_4_123 : am_fd 4 123 = some (9, 0, true) := by decide +kernel
theorem fd_4_130 : am_fd 4 130 = some (8, 3, true) := by decide +kernel
theorem fd_4_148 : am_fd 4 148 = some (8, 2, true) := by decide +kernel
theorem fd_4_156 : am_fd 4 156 = some (11, 10, false) := by decide +kernel
theorem fd_5_10 : am_fd 5 10 = some (8, 0, true) := by decide +kernel
theorem fd_5_16 : am_fd 5 16 = some (8, 1, true) := by decide +kernel
theorem fd_5_19 : am_fd 5 19 = some (8, 2, true) := by decide +kernel
theorem fd_5_22 : am_fd 5 22 = some (8, 3, true) := by decide +kernel
theorem fd_5_25 : am_fd 5 25 = some (8, 4, false) := by decide +kernel
theorem fd_5_29 : am_fd 5 29 = some (8, 5, false) := by decide +kernel
theorem fd_6_12 : am_fd 6 12 = some (9, 0, true) := by decide +kernel
theorem fd_6_18 : am_fd 6 18 = some (9, 1, true) := by decide +kernel
theorem fd_6_21 : am_fd 6 21 = some (9, 2, true) := by decide +kernel
theorem fd_6_27 : am_fd 6 27 = some (9, 7, false) := by decide +kernel
theorem fd_6_31 : am_fd 6 31 = some (9, 3, false) := by decide +kernel
theorem fd_6_35 : am_fd 6 35 = some (9, 4, false) := by decide +kernel
theorem fd_6_38 : am_fd 6 38 = some (9, 5, false) := by decide +kernel
theorem fd_6_41 : am_fd 6 41 = some (9, 6, false) := by decide +kernel
theorem fd_6_52 : am_fd 6 52 = some (8, 5, false) := by decide +kernel
theorem fd_6_53 : am_fd 6 53 = some (8, 4, false) := by decide +kernel
theorem fd_6_56 : am_fd 6 56 = some (8, 1, true) := by decide +kernel
theorem fd_7_7 : am_fd 7 7 = some (10, 0, false) := by decide +kernel
theorem fd_8_12 : am_fd 8 12 = some (11, 6, true) := by decide +kernel
theorem fd_8_18 : am_fd 8 18 = some (11, 7, true) := by decide +kernel
theorem fd_8_21 : am_fd 8 21 = some (11, 8, true) := by decide +kernel
theorem fd_8_24 : am_fd 8 24 = some (11, 9, true) := by decide +kernel
theorem fd_8_27 : am_fd 8 27 = some (11, 0, true) := by decide +kernel
theorem fd_8_31 : am_fd 8 31 = some (11, 1, true) := by decide +kernel
theorem fd_8_35 : am_fd 8 35 = some (11, 2, true) := by decide +kernel
theorem fd_8_39 : am_fd 8 39 = some (11, 3, true) := by decide +kernel
theorem fd_8_43 : am_fd 8 43 = some (11, 4, true) := by decide +kernel
theorem fd_8_47 : am_fd 8 47 = some (11, 5, true) := by decide +kernel
theorem fd_8_51 : am_fd 8 51 = some (11, 17, false) := by decide +kernel
theorem fd_8_55 : am_fd 8 55 = some (11, 10, false) := by decide +kernel
theorem fd_8_59 : am_fd 8 59 = some (11, 11, false) := by decide +kernel
theorem fd_8_62 : am_fd 8 62 = some (11, 12, false) := by decide +kernel
theorem fd_8_65 : am_fd 8 65 = some (11, 13, false) := by decide +kernel
theorem fd_8_68 : am_fd 8 68 = some (11, 14, false) := by decide +kernel
theorem fd_8_71 : am_fd 8 71 = some (11, 15, false) := by decide +kernel
theorem fd_8_74 : am_fd 8 74 = some (11, 16, false) := by decide +kernel
theorem fd_8_132 : am_fd 8 132 = some (9, 4, false) := by decide +kernel
theorem fd_8_162 : am_fd 8 162 = some (9, 0, true) := by decide +kernel
theorem fd_8_246 : am_fd 8 246 = some (9, 5, false) := by decide +kernel
theorem fd_8_279 : am_fd 8 279 = some (9, 7, false) := by decide +kernel
theorem fd_8_283 : am_fd 8 283 = some (8, 8, false) := by decide +kernel
theorem fd_8_292 : am_fd 8 292 = some (9, 3, false) := by decide +kernel
theorem fd_8_295 : am_fd 8 295 = some (8, 7, false) := by decide +kernel
theorem fd_9_12 : am_fd 9 12 = some (12, 5, true) := by decide +kernel
theorem fd_9_18 : am_fd 9 18 = some (12, 6, true) := by decide +kernel
theorem fd_9_21 : am_fd 9 21 = some (12, 15, false) := by decide +kernel
theorem fd_9_25 : am_fd 9 25 = some (12, 16, false) := by decide +kernel
theorem fd_9_28 : am_fd 9 28 = some (12, 0, true) := by decide +kernel
theorem fd_9_32 : am_fd 9 32 = some (12, 1, true) := by decide +kernel
theorem fd_9_36 : am_fd 9 36 = some (12, 2, true) := by decide +kernel
theorem fd_9_40 : am_fd 9 40 = some (12, 3, true) := by decide +kernel
theorem fd_9_44 : am_fd 9 44 = some (12, 4, true) := by decide +kernel
theorem fd_9_48 : am_fd 9 48 = some (12, 7, false) := by decide +kernel
theorem fd_9_51 : am_fd 9 51 = some (12, 8, false) := by decide +kernel
theorem fd_9_54 : am_fd 9 54 = some (12, 9, false) := by decide +kernel
theorem fd_9_57 : am_fd 9 57 = some (12, 10, false) := by decide +kernel
theorem fd_9_60 : am_fd 9 60 = some (12, 11, false) := by decide +kernel
theorem fd_9_63 : am_fd 9 63 = some (12, 12, false) := by decide +kernel
theorem fd_9_66 : am_fd 9 66 = some (12, 13, false) := by decide +kernel
theorem fd_9_69 : am_fd 9 69 = some (12, 14, false) := by decide +kernel
theorem fd_9_72 : am_fd 9 72 = some (9, 0, true) := by decide +kernel
theorem fd_9_138 : am_fd 9 138 = some (9, 1, true) := by decide +kernel
theorem fd_9_154 : am_fd 9 154 = some (9, 6, false) := by decide +kernel
theorem fd_9_157 : am_fd 9 157 = some (9, 7, false) := by decide +kernel
theorem fd_9_161 : am_fd 9 161 = some (8, 4, false) := by decide +kernel
theorem fd_9_166 : am_fd 9 166 = some (8, 0, true) := by decide +kernel
theorem fd_9_187 : am_fd 9 187 = some (11, 11, false) := by decide +kernel
theorem fd_9_201 : am_fd 9 201 = some (9, 4, false) := by decide +kernel
theorem fd_10_12 : am_fd 10 12 = some (13, 2, true) := by decide +kernel
theorem fd_10_18 : am_fd 10 18 = some (13, 3, true) := by decide +kernel
theorem fd_10_21 : am_fd 10 21 = some (13, 0, true) := by decide +kernel
theorem fd_10_25 : am_fd 10 25 = some (13, 1, true) := by decide +kernel
theorem fd_10_33 : am_fd 10 33 = some (13, 5, false) := by decide +kernel
theorem fd_10_37 : am_fd 10 37 = some (13, 6, false) := by decide +kernel
theorem fd_10_40 : am_fd 10 40 = some (13, 4, false) := by decide +kernel
theorem fd_11_12 : am_fd 11 12 = some (14, 0, true) := by decide +kernel
theorem fd_11_21 : am_fd 11 21 = some (14, 1, true) := by decide +kernel
theorem fd_11_28 : am_fd 11 28 = some (14, 2, true) := by decide +kernel
theorem fd_11_32 : am_fd 11 32 = some (14, 3, true) := by decide +kernel
theorem fd_11_75 : am_fd 11 75 = some (14, 4, false) := by decide +kernel
theorem fd_11_79 : am_fd 11 79 = some (8, 6, false) := by decide +kernel
theorem fd_11_87 : am_fd 11 87 = some (8, 9, false) := by decide +kernel
theorem fd_11_90 : am_fd 11 90 = some (8, 7, false) := by decide +kernel
theorem fd_11_93 : am_fd 11 93 = some (8, 8, false) := by decide +kernel
theorem fd_11_100 : am_fd 11 100 = some (8, 4, false) := by decide +kernel
theorem fd_11_103 : am_fd 11 103 = some (8, 0, true) := by decide +kernel
theorem fd_11_112 : am_fd 11 112 = some (8, 5, false) := by decide +kernel
theorem fd_11_115 : am_fd 11 115 = some (8, 1, true) := by decide +kernel
theorem fd_11_118 : am_fd 11 118 = some (8, 2, true) := by decide +kernel
theorem fd_11_125 : am_fd 11 125 = some (8, 3, true) := by decide +kernel
theorem fd_12_7 : am_fd 12 7 = some (15, 0, true) := by decide +kernel
theorem fd_12_13 : am_fd 12 13 = some (15, 1, true) := by decide +kernel
theorem fd_12_16 : am_fd 12 16 = some (15, 2, true) := by decide +kernel
theorem fd_12_19 : am_fd 12 19 = some (15, 3, false) := by decide +kernel
theorem fd_12_23 : am_fd 12 23 = some (15, 4, false) := by decide +kernel
theorem fd_12_26 : am_fd 12 26 = some (15, 6, true) := by decide +kernel
theorem fd_12_29 : am_fd 12 29 = some (15, 7, true) := by decide +kernel
theorem fd_12_32 : am_fd 12 32 = some (15, 8, true) := by decide +kernel
theorem fd_12_35 : am_fd 12 35 = some (15, 9, true) := by decide +kernel
theorem fd_12_38 : am_fd 12 38 = some (15, 10, true) := by decide +kernel
theorem fd_12_41 : am_fd 12 41 = some (15, 11, true) := by decide +kernel
theorem fd_12_44 : am_fd 12 44 = some (15, 12, true) := by decide +kernel
theorem fd_12_47 : am_fd 12 47 = some (15, 16, true) := by decide +kernel
theorem fd_12_50 : am_fd 12 50 = some (15, 18, true) := by decide +kernel
theorem fd_12_53 : am_fd 12 53 = some (15, 19, true) := by decide +kernel
theorem fd_12_56 : am_fd 12 56 = some (15, 20, true) := by decide +kernel
theorem fd_12_59 : am_fd 12 59 = some (15, 22, true) := by decide +kernel
theorem fd_12_62 : am_fd 12 62 = some (15, 23, true) := by decide +kernel
theorem fd_12_65 : am_fd 12 65 = some (15, 24, true) := by decide +kernel
theorem fd_12_68 : am_fd 12 68 = some (15, 25, true) := by decide +kernel
theorem fd_12_71 : am_fd 12 71 = some (15, 26, false) := by decide +kernel
theorem fd_12_74 : am_fd 12 74 = some (15, 27, true) := by decide +kernel
theorem fd_12_77 : am_fd 12 77 = some (15, 28, true) := by decide +kernel
theorem fd_12_80 : am_fd 12 80 = some (15, 29, true) := by decide +kernel
theorem fd_12_83 : am_fd 12 83 = some (15, 30, true) := by decide +kernel
theorem fd_12_86 : am_fd 12 86 = some (15, 31, true) := by decide +kernel
theorem fd_12_90 : am_fd 12 90 = some (15, 32, true) := by decide +kernel
theorem fd_12_93 : am_fd 12 93 = some (15, 34, true) := by decide +kernel
theorem fd_12_96 : am_fd 12 96 = some (15, 36, true) := by decide +kernel
theorem fd_12_99 : am_fd 12 99 = some (15, 37, true) := by decide +kernel
theorem fd_12_102 : am_fd 12 102 = some (15, 38, true) := by decide +kernel
theorem fd_12_105 : am_fd 12 105 = some (15, 42, true) := by decide +kernel
theorem fd_12_108 : am_fd 12 108 = some (15, 48, true) := by decide +kernel
theorem fd_12_111 : am_fd 12 111 = some (15, 49, true) := by decide +kernel
theorem fd_12_114 : am_fd 12 114 = some (15, 50, true) := by decide +kernel
theorem fd_12_117 : am_fd 12 117 = some (15, 51, true) := by decide +kernel
theorem fd_12_120 : am_fd 12 120 = some (15, 53, true) := by decide +kernel
theorem fd_12_123 : am_fd 12 123 = some (15, 54, true) := by decide +kernel
theorem fd_12_126 : am_fd 12 126 = some (15, 55, true) := by decide +kernel
theorem fd_12_129 : am_fd 12 129 = some (15, 56, true) := by decide +kernel
theorem fd_12_132 : am_fd 12 132 = some (15, 60, true) := by decide +kernel
theorem fd_12_135 : am_fd 12 135 = some (15, 63, true) := by decide +kernel
theorem fd_12_138 : am_fd 12 138 = some (15, 69, true) := by decide +kernel
theorem fd_12_141 : am_fd 12 141 = some (15, 71, true) := by decide +kernel
theorem fd_12_144 : am_fd 12 144 = some (15, 72, true) := by decide +kernel
theorem fd_12_147 : am_fd 12 147 = some (15, 73, true) := by decide +kernel
theorem fd_12_150 : am_fd 12 150 = some (15, 74, true) := by decide +kernel
theorem fd_12_153 : am_fd 12 153 = some (15, 75, true) := by decide +kernel
theorem fd_12_156 : am_fd 12 156 = some (15, 76, true) := by decide +kernel
theorem fd_12_159 : am_fd 12 159 = some (15, 77, true) := by decide +kernel
theorem fd_12_163 : am_fd 12 163 = some (15, 78, true) := by decide +kernel
theorem fd_12_166 : am_fd 12 166 = some (15, 82, true) := by decide +kernel
theorem fd_12_169 : am_fd 12 169 = some (15, 88, true) := by decide +kernel
theorem fd_12_172 : am_fd 12 172 = some (15, 90, true) := by decide +kernel
theorem fd_12_175 : am_fd 12 175 = some (15, 91, true) := by decide +kernel
theorem fd_12_178 : am_fd 12 178 = some (15, 92, true) := by decide +kernel
theorem fd_12_181 : am_fd 12 181 = some (15, 93, false) := by decide +kernel
theorem fd_12_188 : am_fd 12 188 = some (15, 70, false) := by decide +kernel
theorem fd_12_202 : am_fd 12 202 = some (15, 41, false) := by decide +kernel
theorem fd_12_206 : am_fd 12 206 = some (15, 62, false) := by decide +kernel
theorem fd_12_209 : am_fd 12 209 = some (15, 40, false) := by decide +kernel
theorem fd_12_212 : am_fd 12 212 = some (15, 5, false) := by decide +kernel
theorem fd_12_215 : am_fd 12 215 = some (15, 13, false) := by decide +kernel
theorem fd_12_218 : am_fd 12 218 = some (15, 14, false) := by decide +kernel
theorem fd_12_248 : am_fd 12 248 = some (15, 15, false) := by decide +kernel
theorem fd_12_273 : am_fd 12 273 = some (15, 33, false) := by decide +kernel
theorem fd_12_291 : am_fd 12 291 = some (15, 35, false) := by decide +kernel
theorem fd_12_294 : am_fd 12 294 = some (15, 39, false) := by decide +kernel
theorem fd_12_319 : am_fd 12 319 = some (15, 46, false) := by decide +kernel
theorem fd_12_323 : am_fd 12 323 = some (15, 47, false) := by decide +kernel
theorem fd_12_336 : am_fd 12 336 = some (15, 17, false) := by decide +kernel
theorem fd_12_364 : am_fd 12 364 = some (15, 21, false) := by decide +kernel
theorem fd_12_370 : am_fd 12 370 = some (15, 43, false) := by decide +kernel
theorem fd_12_376 : am_fd 12 376 = some (15, 79, false) := by decide +kernel
theorem fd_12_385 : am_fd 12 385 = some (15, 81, false) := by decide +kernel
theorem fd_12_388 : am_fd 12 388 = some (15, 80, false) := by decide +kernel
theorem fd_12_394 : am_fd 12 394 = some (15, 45, false) := by decide +kernel
theorem fd_12_397 : am_fd 12 397 = some (15, 44, false) := by decide +kernel
theorem fd_12_406 : am_fd 12 406 = some (15, 84, false) := by decide +kernel
theorem fd_12_409 : am_fd 12 409 = some (15, 83, false) := by decide +kernel
theorem fd_12_421 : am_fd 12 421 = some (15, 52, false) := by decide +kernel
theorem fd_12_424 : am_fd 12 424 = some (15, 66, false) := by decide +kernel
theorem fd_12_427 : am_fd 12 427 = some (15, 65, false) := by decide +kernel
theorem fd_12_430 : am_fd 12 430 = some (15, 58, false) := by decide +kernel
theorem fd_12_433 : am_fd 12 433 = some (15, 67, false) := by decide +kernel
theorem fd_12_439 : am_fd 12 439 = some (15, 68, false) := by decide +kernel
theorem fd_12_442 : am_fd 12 442 = some (15, 57, false) := by decide +kernel
theorem fd_12_445 : am_fd 12 445 = some (15, 59, false) := by decide +kernel
theorem fd_12_454 : am_fd 12 454 = some (15, 61, false) := by decide +kernel
theorem fd_12_461 : am_fd 12 461 = some (15, 64, false) := by decide +kernel
theorem fd_12_501 : am_fd 12 501 = some (15, 85, false) := by decide +kernel
theorem fd_12_504 : am_fd 12 504 = some (15, 86, false) := by decide +kernel
theorem fd_12_507 : am_fd 12 507 = some (15, 87, false) := by decide +kernel
theorem fd_12_510 : am_fd 12 510 = some (15, 89, false) := by decide +kernel
/-- methods: name, code, size of the locals, what it returns (a type, and a number: 0 nothing, 1 int, 2 boolean, 3 long, 4 an array), whose, a constructor?, the place of its row of the tables -/
abbrev am_M : Type := MethodName × ByteArray × Nat × Option FieldType × Nat × Nat × Bool × (Nat × Nat)
def am_ml : List am_M := [
  (yX0_init, cX0_init, 1, none, 0, 0, true, (1, 45)),
  (yX0_size, cX0_size, 2, some .int, 1, 0, false, (4, 100)),
  (yX0_kind, cX0_kind, 2, some .int, 1, 0, false, (4, 121)),
  (yX0_number, cX0_number, 2, some .int, 1, 0, false, (4, 131)),
  (yX0_told, cX0_told, 4, some .int, 1, 0, false, (7, 31)),
  (yX0_insert, cX0_insert, 7, none, 0, 0, false, (7, 3)),
  (yX0_remove, cX0_remove, 5, none, 0, 0, false, (7, 35)),
  (yX0_move, cX0_move, 3, none, 0, 0, false, (7, 8)),
  (yX1_init, cX1_init, 1, none, 0, 1, true, (1, 222)),
  (yX1_size, cX1_size, 1, some .int, 1, 1, false, (4, 180)),
  (yX1_clear, cX1_clear, 1, none, 0, 1, false, (4, 91)),
  (yX1_push, cX1_push, 4, none, 0, 1, false, (4, 166)),
  (yX1_pop, cX1_pop, 1, none, 0, 1, false, (5, 19)),
  (yX1_get, cX1_get, 2, some .int, 1, 1, false, (5, 5)),
  (yX1_set, cX1_set, 3, none, 0, 1, false, (4, 176)),
  (yX1_getAt, cX1_getAt, 3, some .int, 1, 1, false, (5, 95)),
  (yX1_setAt, cX1_setAt, 4, none, 0, 1, false, (5, 103)),
  (yX2_init, cX2_init, 1, none, 0, 2, true, (1, 93)),
  (yX2_get, cX2_get, 4, some .int, 1, 2, false, (4, 157)),
  (yX2_set, cX2_set, 5, none, 0, 2, false, (5, 58)),
  (yX2_make, cX2_make, 7, some .int, 1, 2, false, (4, 211)),
  (yX2_word, cX2_word, 2, some .int, 1, 2, false, (5, 234)),
  (yX2_formula, cX2_formula, 2, some .int, 1, 2, false, (6, 15)),
  (yX2_heading, cX2_heading, 3, some .int, 1, 2, false, (5, 111)),
  (yX2_withWidths, cX2_withWidths, 5, some .int, 1, 2, false, (5, 115)),
  (yX2_join, cX2_join, 5, some .int, 1, 2, false, (5, 33)),
  (yX2_pair, cX2_pair, 5, some .int, 1, 2, false, (5, 62)),
  (yX2_withBothWidths, cX2_withBothWidths, 5, some .int, 1, 2, false, (5, 49)),
  (yX2_chain, cX2_chain, 3, some .int, 1, 2, false, (5, 99)),
  (yX2_width, cX2_width, 3, some .int, 1, 2, false, (5, 53)),
  (yX2_functionsIn, cX2_functionsIn, 3, some .int, 1, 2, false, (5, 28)),
  (yX2_isContent, cX2_isContent, 3, some .boolean, 2, 2, false, (5, 44)),
  (yX2_isFilled, cX2_isFilled, 3, some .boolean, 2, 2, false, (5, 37)),
  (yX2_code, cX2_code, 3, some .int, 1, 2, false, (6, 112)),
  (yX2_sweep, cX2_sweep, 5, none, 0, 2, false, (6, 121)),
  (yX2_sweepNew, cX2_sweepNew, 2, none, 0, 2, false, (6, 117)),
  (yX2_mark, cX2_mark, 3, none, 0, 2, false, (6, 131)),
  (yX2_move, cX2_move, 6, none, 0, 2, false, (6, 137)),
  (yX2_moved, cX2_moved, 3, some .int, 1, 2, false, (6, 141)),
  (yX3_init, cX3_init, 1, none, 0, 3, true, (1, 78)),
  (yX3_size, cX3_size, 1, some .int, 1, 3, false, (6, 126)),
  (yX3_value, cX3_value, 2, some .int, 1, 3, false, (5, 165)),
  (yX3_setValue, cX3_setValue, 3, none, 0, 3, false, (6, 145)),
  (yX3_begun, cX3_begun, 2, some .int, 1, 3, false, (5, 171)),
  (yX3_nesting, cX3_nesting, 2, some .int, 1, 3, false, (5, 153)),
  (yX3_lastTurn, cX3_lastTurn, 2, some .int, 1, 3, false, (5, 157)),
  (yX3_isAsked, cX3_isAsked, 3, some .boolean, 2, 3, false, (5, 175)),
  (yX3_find, cX3_find, 8, some .int, 1, 3, false, (5, 140)),
  (yX3_hasNumbers, cX3_hasNumbers, 4, some .boolean, 2, 3, false, (5, 145)),
  (yX3_wouldAnswer, cX3_wouldAnswer, 5, some .boolean, 2, 3, false, (5, 149)),
  (yX3_add, cX3_add, 5, some .int, 1, 3, false, (5, 195)),
  (yX3_tellCourse, cX3_tellCourse, 6, none, 0, 3, false, (5, 200)),
  (yX3_tellNumbers, cX3_tellNumbers, 4, none, 0, 3, false, (5, 204)),
  (yX3_tellAnswers, cX3_tellAnswers, 7, none, 0, 3, false, (5, 208)),
  (yX3_forget, cX3_forget, 5, some .boolean, 2, 3, false, (7, 19)),
  (yX4_init, cX4_init, 3, none, 0, 4, true, (1, 72)),
  (yX4_turnPage, cX4_turnPage, 3, some .int, 1, 4, false, (7, 53)),
  (yX4_countKept, cX4_countKept, 1, some .int, 1, 4, false, (6, 175)),
  (yX4_forget, cX4_forget, 2, none, 0, 4, false, (7, 15)),
  (yX4_compileInto, cX4_compileInto, 4, none, 0, 4, false, (2, 193)),
  (yX4_drive, cX4_drive, 2, none, 0, 4, false, (4, 184)),
  (yX5_init, cX5_init, 1, none, 0, 5, true, (1, 122)),
  (yX5_looksLike, cX5_looksLike, 2, some .boolean, 2, 5, false, (6, 154)),
  (yX6_init, cX6_init, 1, none, 0, 6, true, (1, 114)),
  (yX6_start, cX6_start, 1, none, 0, 6, false, (4, 70)),
  (yX6_note, cX6_note, 3, none, 0, 6, false, (4, 125)),
  (yX6_ask, cX6_ask, 2, none, 0, 6, false, (4, 225)),
  (yX7_init, cX7_init, 1, none, 0, 7, true, (1, 51)),
  (yX7_get, cX7_get, 2, some .int, 1, 7, false, (4, 78)),
  (yX7_set, cX7_set, 4, none, 0, 7, false, (4, 82)),
  (yX7_fill, cX7_fill, 6, none, 0, 7, false, (2, 197)),
  (yX7_copyFrom, cX7_copyFrom, 4, none, 0, 7, false, (4, 74)),
  (yX7_startsLike, cX7_startsLike, 4, some .boolean, 2, 7, false, (6, 107)),
  (yX8_init, cX8_init, 7, none, 0, 8, true, (2, 27)),
  (yX8_start, cX8_start, 2, none, 0, 8, false, (4, 87)),
  (yX8_nameInFile, cX8_nameInFile, 3, some .int, 1, 8, false, (5, 217)),
  (yX8_wrong, cX8_wrong, 3, some .int, 1, 8, false, (4, 197)),
  (yX8_noteFunctions, cX8_noteFunctions, 4, none, 0, 8, false, (5, 24)),
  (yX8_openScope, cX8_openScope, 4, none, 0, 8, false, (4, 153)),
  (yX8_openInnerScope, cX8_openInnerScope, 2, none, 0, 8, false, (4, 229)),
  (yX8_setName, cX8_setName, 3, none, 0, 8, false, (4, 233)),
  (yX8_closeOver, cX8_closeOver, 6, some .int, 1, 8, false, (4, 203)),
  (yX8_begin, cX8_begin, 4, none, 0, 8, false, (4, 190)),
  (yX8_ask, cX8_ask, 3, none, 0, 8, false, (4, 221)),
  (yX8_beginParts, cX8_beginParts, 3, none, 0, 8, false, (4, 237)),
  (yX8_stepTwo, cX8_stepTwo, 6, none, 0, 8, false, (5, 10)),
  (yX8_reckon, cX8_reckon, 4, some .int, 1, 8, false, (5, 67)),
  (yX8_stepOne, cX8_stepOne, 3, none, 0, 8, false, (5, 77)),
  (yX8_mend, cX8_mend, 3, some .int, 1, 8, false, (5, 81)),
  (yX8_addSetting, cX8_addSetting, 3, none, 0, 8, false, (5, 85)),
  (yX8_addRule, cX8_addRule, 3, none, 0, 8, false, (5, 107)),
  (yX8_addMark, cX8_addMark, 2, none, 0, 8, false, (5, 91)),
  (yX8_stepChoice, cX8_stepChoice, 2, none, 0, 8, false, (5, 120)),
  (yX8_stepImport, cX8_stepImport, 5, none, 0, 8, false, (5, 213)),
  (yX8_stepCall, cX8_stepCall, 4, none, 0, 8, false, (5, 124)),
  (yX8_takeTurn, cX8_takeTurn, 5, none, 0, 8, false, (5, 128)),
  (yX8_findNumbers, cX8_findNumbers, 6, some .boolean, 2, 8, false, (5, 132)),
  (yX8_take, cX8_take, 3, none, 0, 8, false, (5, 161)),
  (yX8_enterBody, cX8_enterBody, 5, none, 0, 8, false, (5, 179)),
  (yX8_leaveBody, cX8_leaveBody, 2, some .int, 1, 8, false, (5, 187)),
  (yX8_keep, cX8_keep, 5, none, 0, 8, false, (5, 191)),
  (yX8_enterLate, cX8_enterLate, 2, none, 0, 8, false, (6, 93)),
  (yX8_leaveLate, cX8_leaveLate, 1, none, 0, 8, false, (6, 97)),
  (yX8_openText, cX8_openText, 2, none, 0, 8, false, (4, 162)),
  (yX8_stepText, cX8_stepText, 3, none, 0, 8, false, (5, 221)),
  (yX8_leaf, cX8_leaf, 3, some .int, 1, 8, false, (5, 230)),
  (yX8_append, cX8_append, 4, none, 0, 8, false, (5, 238)),
  (yX8_applyMarks, cX8_applyMarks, 2, none, 0, 8, false, (6, 3)),
  (yX8_closeText, cX8_closeText, 3, none, 0, 8, false, (5, 225)),
  (yX8_stepFormula, cX8_stepFormula, 4, none, 0, 8, false, (6, 11)),
  (yX9_init, cX9_init, 6, none, 0, 9, true, (2, 93)),
  (yX9_turnPage, cX9_turnPage, 4, some .int, 1, 9, false, (7, 57)),
  (yX9_start, cX9_start, 2, none, 0, 9, false, (6, 102)),
  (yX9_stepPiece, cX9_stepPiece, 3, none, 0, 9, false, (6, 19)),
  (yX9_pushBoth, cX9_pushBoth, 2, none, 0, 9, false, (6, 63)),
  (yX9_realize, cX9_realize, 5, none, 0, 9, false, (6, 26)),
  (yX9_markLabel, cX9_markLabel, 3, none, 0, 9, false, (6, 37)),
  (yX9_show, cX9_show, 5, none, 0, 9, false, (6, 45)),
  (yX9_findRule, cX9_findRule, 6, some .int, 1, 9, false, (6, 49)),
  (yX9_isUsed, cX9_isUsed, 3, some .boolean, 2, 9, false, (6, 53)),
  (yX9_lay, cX9_lay, 5, none, 0, 9, false, (6, 59)),
  (yX9_startLine, cX9_startLine, 1, none, 0, 9, false, (6, 33)),
  (yX9_stepScope, cX9_stepScope, 1, none, 0, 9, false, (6, 69)),
  (yX9_stepHeading, cX9_stepHeading, 2, none, 0, 9, false, (6, 73)),
  (yX9_stepRule, cX9_stepRule, 4, none, 0, 9, false, (6, 78)),
  (yX9_stepLater, cX9_stepLater, 4, none, 0, 9, false, (6, 89)),
  (yX9_mayCome, cX9_mayCome, 2, some .boolean, 2, 9, false, (6, 82)),
  (yX10_init, cX10_init, 3, none, 0, 10, true, (1, 237)),
  (yX10_part, cX10_part, 3, some .int, 1, 10, false, (5, 15)),
  (yX10_firstItem, cX10_firstItem, 2, some .int, 1, 10, false, (4, 172)),
  (yX10_nextItem, cX10_nextItem, 2, some .int, 1, 10, false, (6, 7)),
  (yX10_namesUsed, cX10_namesUsed, 2, some .int, 1, 10, false, (4, 207)),
  (yX10_imports, cX10_imports, 2, some .boolean, 2, 10, false, (5, 136)),
  (yX10_isInBlock, cX10_isInBlock, 2, some .boolean, 2, 10, false, (5, 1)),
  (yX10_letName, cX10_letName, 2, some .int, 1, 10, false, (5, 183)),
  (yX10_read, cX10_read, 3, none, 0, 10, false, (4, 96)),
  (yX10_readItem, cX10_readItem, 6, none, 0, 10, false, (4, 142)),
  (yX10_addItem, cX10_addItem, 5, none, 0, 10, false, (4, 149)),
  (yX10_readPart, cX10_readPart, 10, none, 0, 10, false, (4, 117)),
  (yX10_tellAround, cX10_tellAround, 7, none, 0, 10, false, (4, 135)),
  (yX10_partsOf, cX10_partsOf, 1, some .int, 1, 10, false, (4, 138)),
  (yX10_expect, cX10_expect, 7, none, 0, 10, false, (4, 106)),
  (yX10_top, cX10_top, 2, some .int, 1, 10, false, (4, 112)),
  (yX11_init, cX11_init, 1, none, 0, 11, true, (1, 37)),
  (yX11_put, cX11_put, 5, some .int, 1, 11, false, (6, 194)),
  (yX11_cut, cX11_cut, 4, some .int, 1, 11, false, (7, 27)),
  (yX11_token, cX11_token, 3, some .int, 1, 11, false, (7, 42)),
  (yX11_setPage, cX11_setPage, 3, some .int, 1, 11, false, (7, 49)),
  (yX11_compile, cX11_compile, 1, some .int, 1, 11, false, (2, 189)),
  (yX11_isAsAnew, cX11_isAsAnew, 1, some .boolean, 2, 11, false, (6, 150)),
  (yX11_isSettled, cX11_isSettled, 1, some .boolean, 2, 11, false, (6, 159)),
  (yX11_ran, cX11_ran, 1, some .int, 1, 11, false, (6, 163)),
  (yX11_taken, cX11_taken, 1, some .int, 1, 11, false, (6, 167)),
  (yX11_kept, cX11_kept, 1, some .int, 1, 11, false, (6, 171)),
  (yX11_laid, cX11_laid, 1, some .int, 1, 11, false, (6, 180)),
  (yX11_thing, cX11_thing, 3, some .int, 1, 11, false, (7, 64)),
  (yX11_faults, cX11_faults, 1, some .int, 1, 11, false, (6, 184)),
  (yX11_fault, cX11_fault, 2, some .int, 1, 11, false, (7, 72)),
  (yX11_answer, cX11_answer, 4, some .int, 1, 11, false, (7, 79)),
  (yX11_valueOf, cX11_valueOf, 2, some .int, 1, 11, false, (7, 87)),
  (yX11_isFile, cX11_isFile, 1, some .boolean, 2, 11, false, (6, 197)),
  (yX11_isNumber, cX11_isNumber, 1, some .boolean, 2, 11, false, (5, 40)),
  (yX11_bounded, cX11_bounded, 1, some .int, 1, 11, false, (5, 71)),
  (yX11_spot, cX11_spot, 1, some .int, 1, 11, false, (4, 145)),
  (yX11_question, cX11_question, 3, some .int, 1, 11, false, (4, 217)),
  (yX12_init, cX12_init, 2, none, 0, 12, true, (7, 92)),
  (yX12_thrown, cX12_thrown, 1, some .int, 1, 12, false, (8, 142)),
  (yX12_goes, cX12_goes, 2, some .boolean, 2, 12, false, (8, 156)),
  (yX12_isIn, cX12_isIn, 3, some .boolean, 2, 12, false, (8, 152)),
  (yX12_isFile, cX12_isFile, 1, some .boolean, 2, 12, false, (8, 149)),
  (yX12_forgets, cX12_forgets, 5, none, 0, 12, false, (8, 160)),
  (yX12_put, cX12_put, 8, some .int, 1, 12, false, (8, 146)),
  (yX12_cut, cX12_cut, 7, some .int, 1, 12, false, (8, 164)),
  (yX12_token, cX12_token, 3, some .int, 1, 12, false, (8, 168)),
  (yX12_setPage, cX12_setPage, 4, some .int, 1, 12, false, (8, 172)),
  (yX12_notes, cX12_notes, 4, none, 0, 12, false, (8, 204)),
  (yX12_node, cX12_node, 4, some .int, 1, 12, false, (8, 209)),
  (yX12_kindAt, cX12_kindAt, 2, some .int, 1, 12, false, (8, 200)),
  (yX12_parts, cX12_parts, 1, some .int, 1, 12, false, (8, 216)),
  (yX12_readExpression, cX12_readExpression, 5, some .int, 1, 12, false, (8, 213)),
  (yX12_readItems, cX12_readItems, 9, some .int, 1, 12, false, (8, 196)),
  (yX12_value, cX12_value, 2, some .int, 1, 12, false, (9, 3)),
  (yX12_tag, cX12_tag, 1, some .int, 1, 12, false, (9, 38)),
  (yX12_number, cX12_number, 1, some .int, 1, 12, false, (9, 41)),
  (yX12_bounded, cX12_bounded, 2, some .int, 1, 12, false, (9, 60)),
  (yX12_newNames, cX12_newNames, 2, some .int, 1, 12, false, (8, 220)),
  (yX12_copyOf, cX12_copyOf, 4, some .int, 1, 12, false, (9, 31)),
  (yX12_content, cX12_content, 7, some .int, 1, 12, false, (9, 45)),
  (yX12_wide, cX12_wide, 3, some .int, 1, 12, false, (9, 57)),
  (yX12_widthOf, cX12_widthOf, 5, some .int, 1, 12, false, (9, 49)),
  (yX12_groupWidth, cX12_groupWidth, 8, some .int, 1, 12, false, (9, 53)),
  (yX12_joined, cX12_joined, 3, some .int, 1, 12, false, (9, 114)),
  (yX12_gathered, cX12_gathered, 3, some .int, 1, 12, false, (9, 126)),
  (yX12_bare, cX12_bare, 5, some .int, 1, 12, false, (9, 110)),
  (yX12_functionsIn, cX12_functionsIn, 2, some .int, 1, 12, false, (9, 118)),
  (yX12_contentOf, cX12_contentOf, 6, some .int, 1, 12, false, (9, 106)),
  (yX12_wrong, cX12_wrong, 3, some .int, 1, 12, false, (9, 7)),
  (yX12_part, cX12_part, 3, some .int, 1, 12, false, (8, 232)),
  (yX12_runItems, cX12_runItems, 12, some .int, 1, 12, false, (8, 228)),
  (yX12_runBlock, cX12_runBlock, 4, some .int, 1, 12, false, (8, 224)),
  (yX12_twoNumbers, cX12_twoNumbers, 9, some .int, 1, 12, false, (9, 122)),
  (yX12_asks, cX12_asks, 3, some .int, 1, 12, false, (9, 15)),
  (yX12_runNow, cX12_runNow, 2, some .int, 1, 12, false, (9, 11)),
  (yX12_runSimple, cX12_runSimple, 6, some .int, 1, 12, false, (9, 0)),
  (yX12_newFunction, cX12_newFunction, 4, some .int, 1, 12, false, (9, 27)),
  (yX12_runLet, cX12_runLet, 7, some .int, 1, 12, false, (9, 23)),
  (yX12_runTelling, cX12_runTelling, 9, some .int, 1, 12, false, (9, 35)),
  (yX12_run, cX12_run, 6, some .int, 1, 12, false, (8, 236)),
  (yX12_runParts, cX12_runParts, 10, some .int, 1, 12, false, (9, 102)),
  (yX12_runImport, cX12_runImport, 5, some .int, 1, 12, false, (9, 19)),
  (yX12_runFile, cX12_runFile, 4, some .int, 1, 12, false, (8, 192)),
  (yX12_runBody, cX12_runBody, 5, some .int, 1, 12, false, (9, 94)),
  (yX12_runCall, cX12_runCall, 8, some .int, 1, 12, false, (9, 66)),
  (yX12_follows, cX12_follows, 11, some .int, 1, 12, false, (9, 90)),
  (yX12_looks, cX12_looks, 4, none, 0, 12, false, (9, 74)),
  (yX12_laysKey, cX12_laysKey, 8, some .boolean, 2, 12, false, (9, 70)),
  (yX12_answerTo, cX12_answerTo, 2, some .int, 1, 12, false, (9, 86)),
  (yX12_isSame, cX12_isSame, 6, some .boolean, 2, 12, false, (9, 82)),
  (yX12_found, cX12_found, 5, some .int, 1, 12, false, (9, 78)),
  (yX12_keeps, cX12_keeps, 5, none, 0, 12, false, (9, 98)),
  (yX12_waits, cX12_waits, 5, none, 0, 12, false, (9, 130)),
  (yX12_newLine, cX12_newLine, 1, none, 0, 12, false, (9, 166)),
  (yX12_lays, cX12_lays, 4, none, 0, 12, false, (9, 162)),
  (yX12_isUsed, cX12_isUsed, 4, some .boolean, 2, 12, false, (9, 154)),
  (yX12_showOf, cX12_showOf, 3, some .int, 1, 12, false, (9, 150)),
  (yX12_ruleFor, cX12_ruleFor, 4, some .int, 1, 12, false, (9, 146)),
  (yX12_usesRule, cX12_usesRule, 6, none, 0, 12, false, (9, 158)),
  (yX12_beginsHeading, cX12_beginsHeading, 2, none, 0, 12, false, (9, 170)),
  (yX12_runsLate, cX12_runsLate, 6, none, 0, 12, false, (9, 178)),
  (yX12_labels, cX12_labels, 3, none, 0, 12, false, (9, 174)),
  (yX12_realizes, cX12_realizes, 4, none, 0, 12, false, (9, 142)),
  (yX12_does, cX12_does, 3, none, 0, 12, false, (9, 138)),
  (yX12_goesOn, cX12_goesOn, 2, none, 0, 12, false, (9, 134)),
  (yX12_begins, cX12_begins, 2, none, 0, 12, false, (8, 188)),
  (yX12_round, cX12_round, 2, none, 0, 12, false, (8, 184)),
  (yX12_rounds, cX12_rounds, 4, some .int, 1, 12, false, (8, 180)),
  (yX12_shown, cX12_shown, 3, some .int, 1, 12, false, (9, 182)),
  (yX12_compile, cX12_compile, 3, some .int, 1, 12, false, (8, 176)),
  (yX12_isAsAnew, cX12_isAsAnew, 5, some .boolean, 2, 12, false, (9, 186)),
  (yX12_isSettled, cX12_isSettled, 1, some .boolean, 2, 12, false, (9, 190)),
  (yX12_ran, cX12_ran, 1, some .int, 1, 12, false, (9, 194)),
  (yX12_taken, cX12_taken, 1, some .int, 1, 12, false, (9, 198)),
  (yX12_kept, cX12_kept, 1, some .int, 1, 12, false, (9, 202)),
  (yX12_laid, cX12_laid, 1, some .int, 1, 12, false, (9, 206)),
  (yX12_thing, cX12_thing, 3, some .int, 1, 12, false, (9, 210)),
  (yX12_faults, cX12_faults, 1, some .int, 1, 12, false, (9, 214)),
  (yX12_fault, cX12_fault, 2, some .int, 1, 12, false, (9, 218)),
  (yX12_answer, cX12_answer, 6, some .int, 1, 12, false, (9, 222)),
  (yX12_valueOf, cX12_valueOf, 2, some .int, 1, 12, false, (9, 226)),
  (yJ9_max_7cf53, cJ9_max_7cf53, 2, some .int, 1, 15, false, (3, 80)),
  (yJ9_min_7cf53, cJ9_min_7cf53, 2, some .int, 1, 15, false, (2, 211)),
  (yJ7_rangeCheck_23922, cJ7_rangeCheck_23922, 3, none, 0, 14, false, (2, 220)),
  (yJ7_fill_fda19, cJ7_fill_fda19, 5, none, 0, 14, false, (2, 217)),
  (yJ7_copyOf_59c91, cJ7_copyOf_59c91, 3, some (.array .int), 4, 14, false, (2, 201)),
  (yL_put, cL_put, 7, some .int, 1, 13, false, (99, 0)),
  (yL_cut, cL_cut, 5, some .int, 1, 13, false, (99, 0)),
  (yL_token, cL_token, 5, some .int, 1, 13, false, (99, 0)),
  (yL_setPage, cL_setPage, 5, some .int, 1, 13, false, (99, 0)),
  (yL_thing, cL_thing, 5, some .int, 1, 13, false, (99, 0)),
  (yL_fault, cL_fault, 4, some .int, 1, 13, false, (99, 0)),
  (yL_answer, cL_answer, 6, some .int, 1, 13, false, (99, 0)),
  (yL_valueOf, cL_valueOf, 4, some .int, 1, 13, false, (99, 0))]
theorem mk_0 : Cond.code yX0_init cX0_init 1 none ∈ am_G := List.mem_filter.mpr ⟨am_at_in (q := (1, 45)) rfl, rfl⟩
theorem ml_0 : am_ml[0]? = some (yX0_init, cX0_init, 1, none, 0, 0, true, (1, 45)) := rfl
theorem mk_1 : Cond.code yX0_size cX0_size 2 (some .int) ∈ am_G := List.mem_filter.mpr ⟨am_at_in (q := (4, 100)) rfl, rfl⟩
theorem ml_1 : am_ml[1]? = some (yX0_size, cX0_size, 2, some .int, 1, 0, false, (4, 100)) := rfl
theorem mk_2 : Cond.code yX0_kind cX0_kind 2 (some .int) ∈ am_G := List.mem_filter.mpr ⟨am_at_in (q := (4, 121)) rfl, rfl⟩
theorem ml_2 : am_ml[2]? = some (yX0_kind, cX0_kind, 2, some .int, 1, 0, false, (4, 121)) := rfl
theorem mk_3 : Cond.code yX0_number cX0_number 2 (some .int) ∈ am_G := List.mem_filter.mpr ⟨am_at_in (q := (4, 131)) rfl, rfl⟩
theorem ml_3 : am_ml[3]? = some (yX0_number, cX0_number, 2, some .int, 1, 0, false, (4, 131)) := rfl
theorem mk_4 : Cond.code yX0_told cX0_told 4 (some .int) ∈ am_G := List.mem_filter.mpr ⟨am_at_in (q := (7, 31)) rfl, rfl⟩
theorem ml_4 : am_ml[4]? = some (yX0_told, cX0_told, 4, some .int, 1, 0, false, (7, 31)) := rfl
theorem mk_5 : Cond.code yX0_insert cX0_insert 7 none ∈ am_G := List.mem_filter.mpr ⟨am_at_in (q := (7, 3)) rfl, rfl⟩
theorem ml_5 : am_ml[5]? = some (yX0_insert, cX0_insert, 7, none, 0, 0, false, (7, 3)) := rfl
theorem mk_6 : Cond.code yX0_remove cX0_remove 5 none ∈ am_G := List.mem_filter.mpr ⟨am_at_in (q := (7, 35)) rfl, rfl⟩
theorem ml_6 : am_ml[6]? = some (yX0_remove, cX0_remove, 5, none, 0, 0, false, (7, 35)) := rfl
theorem mk_7 : Cond.code yX0_move cX0_move 3 none ∈ am_G := List.mem_filter.mpr ⟨am_at_in (q := (7, 8)) rfl, rfl⟩
theorem ml_7 : am_ml[7]? = some (yX0_move, cX0_move, 3, none, 0, 0, false, (7, 8)) := rfl
theorem mk_8 : Cond.code yX1_init cX1_init 1 none ∈ am_G := List.mem_filter.mpr ⟨am_at_in (q := (1, 222)) rfl, rfl⟩
theorem ml_8 : am_ml[8]? = some (yX1_init, cX1_init, 1, none, 0, 1, true, (1, 222)) := rfl
theorem mk_9 : Cond.code yX1_size cX1_size 1 (some .int) ∈ am_G := List.mem_filter.mpr ⟨am_at_in (q := (4, 180)) rfl, rfl⟩
theorem ml_9 : am_ml[9]? = some (yX1_size, cX1_size, 1, some .int, 1, 1, false, (4, 180)) := rfl
theorem mk_10 : Cond.code yX1_clear cX1_clear 1 none ∈ am_G := List.mem_filter.mpr ⟨am_at_in (q := (4, 91)) rfl, rfl⟩
theorem ml_10 : am_ml[10]? = some (yX1_clear, cX1_clear, 1, none, 0, 1, false, (4, 91)) := rfl
theorem mk_11 : Cond.code yX1_push cX1_push 4 none ∈ am_G := List.mem_filter.mpr ⟨am_at_in (q := (4, 166)) rfl, rfl⟩
theorem ml_11 : am_ml[11]? = some (yX1_push, cX1_push, 4, none, 0, 1, false, (4, 166)) := rfl
theorem mk_12 : Cond.code yX1_pop cX1_pop 1 none ∈ am_G := List.mem_filter.mpr ⟨am_at_in (q := (5, 19)) rfl, rfl⟩
theorem ml_12 : am_ml[12]? = some (yX1_pop, cX1_pop, 1, none, 0, 1, false, (5, 19)) := rfl
theorem mk_13 : Cond.code yX1_get cX1_get 2 (some .int) ∈ am_G := List.mem_filter.mpr ⟨am_at_in (q := (5, 5)) rfl, rfl⟩
theorem ml_13 : am_ml[13]? = some (yX1_get, cX1_get, 2, some .int, 1, 1, false, (5, 5)) := rfl
theorem mk_14 : Cond.code yX1_set cX1_set 3 none ∈ am_G := List.mem_filter.mpr ⟨am_at_in (q := (4, 176)) rfl, rfl⟩
theorem ml_14 : am_ml[14]? = some (yX1_set, cX1_set, 3, none, 0, 1, false, (4, 176)) := rfl
theorem mk_15 : Cond.code yX1_getAt cX1_getAt 3 (some .int) ∈ am_G := List.mem_filter.mpr ⟨am_at_in (q := (5, 95)) rfl, rfl⟩
theorem ml_15 : am_ml[15]? = some (yX1_getAt, cX1_getAt, 3, some .int, 1, 1, false, (5, 95)) := rfl
theorem mk_16 : Cond.code yX1_setAt cX1_setAt 4 none ∈ am_G := List.mem_filter.mpr ⟨am_at_in (q := (5, 103)) rfl, rfl⟩
theorem ml_16 : am_ml[16]? = some (yX1_setAt, cX1_setAt, 4, none, 0, 1, false, (5, 103)) := rfl
theorem mk_17 : Cond.code yX2_init cX2_init 1 none ∈ am_G := List.mem_filter.mpr ⟨am_at_in (q := (1, 93)) rfl, rfl⟩
theorem ml_17 : am_ml[17]? = some (yX2_init, cX2_init, 1, none, 0, 2, true, (1, 93)) := rfl
theorem mk_18 : Cond.code yX2_get cX2_get 4 (some .int) ∈ am_G := List.mem_filter.mpr ⟨am_at_in (q := (4, 157)) rfl, rfl⟩
theorem ml_18 : am_ml[18]? = some (yX2_get, cX2_get, 4, some .int, 1, 2, false, (4, 157)) := rfl
theorem mk_19 : Cond.code yX2_set cX2_set 5 none ∈ am_G := List.mem_filter.mpr ⟨am_at_in (q := (5, 58)) rfl, rfl⟩
theorem ml_19 : am_ml[19]? = some (yX2_set, cX2_set, 5, none, 0, 2, false, (5, 58)) := rfl
theorem mk_20 : Cond.code yX2_make cX2_make 7 (some .int) ∈ am_G := List.mem_filter.mpr ⟨am_at_in (q := (4, 211)) rfl, rfl⟩
theorem ml_20 : am_ml[20]? = some (yX2_make, cX2_make, 7, some .int, 1, 2, false, (4, 211)) := rfl
theorem mk_21 : Cond.code yX2_word cX2_word 2 (some .int) ∈ am_G := List.mem_filter.mpr ⟨am_at_in (q := (5, 234)) rfl, rfl⟩
theorem ml_21 : am_ml[21]? = some (yX2_word, cX2_word, 2, some .int, 1, 2, false, (5, 234)) := rfl
theorem mk_22 : Cond.code yX2_formula cX2_formula 2 (some .int) ∈ am_G := List.mem_filter.mpr ⟨am_at_in (q := (6, 15)) rfl, rfl⟩
theorem ml_22 : am_ml[22]? = some (yX2_formula, cX2_formula, 2, some .int, 1, 2, false, (6, 15)) := rfl
theorem mk_23 : Cond.code yX2_heading cX2_heading 3 (some .int) ∈ am_G := List.mem_filter.mpr ⟨am_at_in (q := (5, 111)) rfl, rfl⟩
theorem ml_23 : am_ml[23]? = some (yX2_heading, cX2_heading, 3, some .int, 1, 2, false, (5, 111)) := rfl
theorem mk_24 : Cond.code yX2_withWidths cX2_withWidths 5 (some .int) ∈ am_G := List.mem_filter.mpr ⟨am_at_in (q := (5, 115)) rfl, rfl⟩
theorem ml_24 : am_ml[24]? = some (yX2_withWidths, cX2_withWidths, 5, some .int, 1, 2, false, (5, 115)) := rfl
theorem mk_25 : Cond.code yX2_join cX2_join 5 (some .int) ∈ am_G := List.mem_filter.mpr ⟨am_at_in (q := (5, 33)) rfl, rfl⟩
theorem ml_25 : am_ml[25]? = some (yX2_join, cX2_join, 5, some .int, 1, 2, false, (5, 33)) := rfl
theorem mk_26 : Cond.code yX2_pair cX2_pair 5 (some .int) ∈ am_G := List.mem_filter.mpr ⟨am_at_in (q := (5, 62)) rfl, rfl⟩
theorem ml_26 : am_ml[26]? = some (yX2_pair, cX2_pair, 5, some .int, 1, 2, false, (5, 62)) := rfl
theorem mk_27 : Cond.code yX2_withBothWidths cX2_withBothWidths 5 (some .int) ∈ am_G := List.mem_filter.mpr ⟨am_at_in (q := (5, 49)) rfl, rfl⟩
theorem ml_27 : am_ml[27]? = some (yX2_withBothWidths, cX2_withBothWidths, 5, some .int, 1, 2, false, (5, 49)) := rfl
theorem mk_28 : Cond.code yX2_chain cX2_chain 3 (some .int) ∈ am_G := List.mem_filter.mpr ⟨am_at_in (q := (5, 99)) rfl, rfl⟩
theorem ml_28 : am_ml[28]? = some (yX2_chain, cX2_chain, 3, some .int, 1, 2, false, (5, 99)) := rfl
theorem mk_29 : Cond.code yX2_width cX2_width 3 (some .int) ∈ am_G := List.mem_filter.mpr ⟨am_at_in (q := (5, 53)) rfl, rfl⟩
theorem ml_29 : am_ml[29]? = some (yX2_width, cX2_width, 3, some .int, 1, 2, false, (5, 53)) := rfl
theorem mk_30 : Cond.code yX2_functionsIn cX2_functionsIn 3 (some .int) ∈ am_G := List.mem_filter.mpr ⟨am_at_in (q := (5, 28)) rfl, rfl⟩
theorem ml_30 : am_ml[30]? = some (yX2_functionsIn, cX2_functionsIn, 3, some .int, 1, 2, false, (5, 28)) := rfl
theorem mk_31 : Cond.code yX2_isContent cX2_isContent 3 (some .boolean) ∈ am_G := List.mem_filter.mpr ⟨am_at_in (q := (5, 44)) rfl, rfl⟩
theorem ml_31 : am_ml[31]? = some (yX2_isContent, cX2_isContent, 3, some .boolean, 2, 2, false, (5, 44)) := rfl
theorem mk_32 : Cond.code yX2_isFilled cX2_isFilled 3 (some .boolean) ∈ am_G := List.mem_filter.mpr ⟨am_at_in (q := (5, 37)) rfl, rfl⟩
theorem ml_32 : am_ml[32]? = some (yX2_isFilled, cX2_isFilled, 3, some .boolean, 2, 2, false, (5, 37)) := rfl
theorem mk_33 : Cond.code yX2_code cX2_code 3 (some .int) ∈ am_G := List.mem_filter.mpr ⟨am_at_in (q := (6, 112)) rfl, rfl⟩
theorem ml_33 : am_ml[33]? = some (yX2_code, cX2_code, 3, some .int, 1, 2, false, (6, 112)) := rfl
theorem mk_34 : Cond.code yX2_sweep cX2_sweep 5 none ∈ am_G := List.mem_filter.mpr ⟨am_at_in (q := (6, 121)) rfl, rfl⟩
theorem ml_34 : am_ml[34]? = some (yX2_sweep, cX2_sweep, 5, none, 0, 2, false, (6, 121)) := rfl
theorem mk_35 : Cond.code yX2_sweepNew cX2_sweepNew 2 none ∈ am_G := List.mem_filter.mpr ⟨am_at_in (q := (6, 117)) rfl, rfl⟩
theorem ml_35 : am_ml[35]? = some (yX2_sweepNew, cX2_sweepNew, 2, none, 0, 2, false, (6, 117)) := rfl
theorem mk_36 : Cond.code yX2_mark cX2_mark 3 none ∈ am_G := List.mem_filter.mpr ⟨am_at_in (q := (6, 131)) rfl, rfl⟩
theorem ml_36 : am_ml[36]? = some (yX2_mark, cX2_mark, 3, none, 0, 2, false, (6, 131)) := rfl
theorem mk_37 : Cond.code yX2_move cX2_move 6 none ∈ am_G := List.mem_filter.mpr ⟨am_at_in (q := (6, 137)) rfl, rfl⟩
theorem ml_37 : am_ml[37]? = some (yX2_move, cX2_move, 6, none, 0, 2, false, (6, 137)) := rfl
theorem mk_38 : Cond.code yX2_moved cX2_moved 3 (some .int) ∈ am_G := List.mem_filter.mpr ⟨am_at_in (q := (6, 141)) rfl, rfl⟩
theorem ml_38 : am_ml[38]? = some (yX2_moved, cX2_moved, 3, some .int, 1, 2, false, (6, 141)) := rfl
theorem mk_39 : Cond.code yX3_init cX3_init 1 none ∈ am_G := List.mem_filter.mpr ⟨am_at_in (q := (1, 78)) rfl, rfl⟩
theorem ml_39 : am_ml[39]? = some (yX3_init, cX3_init, 1, none, 0, 3, true, (1, 78)) := rfl
theorem mk_40 : Cond.code yX3_size cX3_size 1 (some .int) ∈ am_G := List.mem_filter.mpr ⟨am_at_in (q := (6, 126)) rfl, rfl⟩
theorem ml_40 : am_ml[40]? = some (yX3_size, cX3_size, 1, some .int, 1, 3, false, (6, 126)) := rfl
theorem mk_41 : Cond.code yX3_value cX3_value 2 (some .int) ∈ am_G := List.mem_filter.mpr ⟨am_at_in (q := (5, 165)) rfl, rfl⟩
theorem ml_41 : am_ml[41]? = some (yX3_value, cX3_value, 2, some .int, 1, 3, false, (5, 165)) := rfl
theorem mk_42 : Cond.code yX3_setValue cX3_setValue 3 none ∈ am_G := List.mem_filter.mpr ⟨am_at_in (q := (6, 145)) rfl, rfl⟩
theorem ml_42 : am_ml[42]? = some (yX3_setValue, cX3_setValue, 3, none, 0, 3, false, (6, 145)) := rfl
theorem mk_43 : Cond.code yX3_begun cX3_begun 2 (some .int) ∈ am_G := List.mem_filter.mpr ⟨am_at_in (q := (5, 171)) rfl, rfl⟩
theorem ml_43 : am_ml[43]? = some (yX3_begun, cX3_begun, 2, some .int, 1, 3, false, (5, 171)) := rfl
theorem mk_44 : Cond.code yX3_nesting cX3_nesting 2 (some .int) ∈ am_G := List.mem_filter.mpr ⟨am_at_in (q := (5, 153)) rfl, rfl⟩
theorem ml_44 : am_ml[44]? = some (yX3_nesting, cX3_nesting, 2, some .int, 1, 3, false, (5, 153)) := rfl
theorem mk_45 : Cond.code yX3_lastTurn cX3_lastTurn 2 (some .int) ∈ am_G := List.mem_filter.mpr ⟨am_at_in (q := (5, 157)) rfl, rfl⟩
theorem ml_45 : am_ml[45]? = some (yX3_lastTurn, cX3_lastTurn, 2, some .int, 1, 3, false, (5, 157)) := rfl
theorem mk_46 : Cond.code yX3_isAsked cX3_isAsked 3 (some .boolean) ∈ am_G := List.mem_filter.mpr ⟨am_at_in (q := (5, 175)) rfl, rfl⟩
theorem ml_46 : am_ml[46]? = some (yX3_isAsked, cX3_isAsked, 3, some .boolean, 2, 3, false, (5, 175)) := rfl
theorem mk_47 : Cond.code yX3_find cX3_find 8 (some .int) ∈ am_G := List.mem_filter.mpr ⟨am_at_in (q := (5, 140)) rfl, rfl⟩
theorem ml_47 : am_ml[47]? = some (yX3_find, cX3_find, 8, some .int, 1, 3, false, (5, 140)) := rfl
theorem mk_48 : Cond.code yX3_hasNumbers cX3_hasNumbers 4 (some .boolean) ∈ am_G := List.mem_filter.mpr ⟨am_at_in (q := (5, 145)) rfl, rfl⟩
theorem ml_48 : am_ml[48]? = some (yX3_hasNumbers, cX3_hasNumbers, 4, some .boolean, 2, 3, false, (5, 145)) := rfl
theorem mk_49 : Cond.code yX3_wouldAnswer cX3_wouldAnswer 5 (some .boolean) ∈ am_G := List.mem_filter.mpr ⟨am_at_in (q := (5, 149)) rfl, rfl⟩
theorem ml_49 : am_ml[49]? = some (yX3_wouldAnswer, cX3_wouldAnswer, 5, some .boolean, 2, 3, false, (5, 149)) := rfl
theorem mk_50 : Cond.code yX3_add cX3_add 5 (some .int) ∈ am_G := List.mem_filter.mpr ⟨am_at_in (q := (5, 195)) rfl, rfl⟩
theorem ml_50 : am_ml[50]? = some (yX3_add, cX3_add, 5, some .int, 1, 3, false, (5, 195)) := rfl
theorem mk_51 : Cond.code yX3_tellCourse cX3_tellCourse 6 none ∈ am_G := List.mem_filter.mpr ⟨am_at_in (q := (5, 200)) rfl, rfl⟩
theorem ml_51 : am_ml[51]? = some (yX3_tellCourse, cX3_tellCourse, 6, none, 0, 3, false, (5, 200)) := rfl
theorem mk_52 : Cond.code yX3_tellNumbers cX3_tellNumbers 4 none ∈ am_G := List.mem_filter.mpr ⟨am_at_in (q := (5, 204)) rfl, rfl⟩
theorem ml_52 : am_ml[52]? = some (yX3_tellNumbers, cX3_tellNumbers, 4, none, 0, 3, false, (5, 204)) := rfl
theorem mk_53 : Cond.code yX3_tellAnswers cX3_tellAnswers 7 none ∈ am_G := List.mem_filter.mpr ⟨am_at_in (q := (5, 208)) rfl, rfl⟩
theorem ml_53 : am_ml[53]? = some (yX3_tellAnswers, cX3_tellAnswers, 7, none, 0, 3, false, (5, 208)) := rfl
theorem mk_54 : Cond.code yX3_forget cX3_forget 5 (some .boolean) ∈ am_G := List.mem_filter.mpr ⟨am_at_in (q := (7, 19)) rfl, rfl⟩
theorem ml_54 : am_ml[54]? = some (yX3_forget, cX3_forget, 5, some .boolean, 2, 3, false, (7, 19)) := rfl
theorem mk_55 : Cond.code yX4_init cX4_init 3 none ∈ am_G := List.mem_filter.mpr ⟨am_at_in (q := (1, 72)) rfl, rfl⟩
theorem ml_55 : am_ml[55]? = some (yX4_init, cX4_init, 3, none, 0, 4, true, (1, 72)) := rfl
theorem mk_56 : Cond.code yX4_turnPage cX4_turnPage 3 (some .int) ∈ am_G := List.mem_filter.mpr ⟨am_at_in (q := (7, 53)) rfl, rfl⟩
theorem ml_56 : am_ml[56]? = some (yX4_turnPage, cX4_turnPage, 3, some .int, 1, 4, false, (7, 53)) := rfl
theorem mk_57 : Cond.code yX4_countKept cX4_countKept 1 (some .int) ∈ am_G := List.mem_filter.mpr ⟨am_at_in (q := (6, 175)) rfl, rfl⟩
theorem ml_57 : am_ml[57]? = some (yX4_countKept, cX4_countKept, 1, some .int, 1, 4, false, (6, 175)) := rfl
theorem mk_58 : Cond.code yX4_forget cX4_forget 2 none ∈ am_G := List.mem_filter.mpr ⟨am_at_in (q := (7, 15)) rfl, rfl⟩
theorem ml_58 : am_ml[58]? = some (yX4_forget, cX4_forget, 2, none, 0, 4, false, (7, 15)) := rfl
theorem mk_59 : Cond.code yX4_compileInto cX4_compileInto 4 none ∈ am_G := List.mem_filter.mpr ⟨am_at_in (q := (2, 193)) rfl, rfl⟩
theorem ml_59 : am_ml[59]? = some (yX4_compileInto, cX4_compileInto, 4, none, 0, 4, false, (2, 193)) := rfl
theorem mk_60 : Cond.code yX4_drive cX4_drive 2 none ∈ am_G := List.mem_filter.mpr ⟨am_at_in (q := (4, 184)) rfl, rfl⟩
theorem ml_60 : am_ml[60]? = some (yX4_drive, cX4_drive, 2, none, 0, 4, false, (4, 184)) := rfl
theorem mk_61 : Cond.code yX5_init cX5_init 1 none ∈ am_G := List.mem_filter.mpr ⟨am_at_in (q := (1, 122)) rfl, rfl⟩
theorem ml_61 : am_ml[61]? = some (yX5_init, cX5_init, 1, none, 0, 5, true, (1, 122)) := rfl
theorem mk_62 : Cond.code yX5_looksLike cX5_looksLike 2 (some .boolean) ∈ am_G := List.mem_filter.mpr ⟨am_at_in (q := (6, 154)) rfl, rfl⟩
theorem ml_62 : am_ml[62]? = some (yX5_looksLike, cX5_looksLike, 2, some .boolean, 2, 5, false, (6, 154)) := rfl
theorem mk_63 : Cond.code yX6_init cX6_init 1 none ∈ am_G := List.mem_filter.mpr ⟨am_at_in (q := (1, 114)) rfl, rfl⟩
theorem ml_63 : am_ml[63]? = some (yX6_init, cX6_init, 1, none, 0, 6, true, (1, 114)) := rfl
theorem mk_64 : Cond.code yX6_start cX6_start 1 none ∈ am_G := List.mem_filter.mpr ⟨am_at_in (q := (4, 70)) rfl, rfl⟩
theorem ml_64 : am_ml[64]? = some (yX6_start, cX6_start, 1, none, 0, 6, false, (4, 70)) := rfl
theorem mk_65 : Cond.code yX6_note cX6_note 3 none ∈ am_G := List.mem_filter.mpr ⟨am_at_in (q := (4, 125)) rfl, rfl⟩
theorem ml_65 : am_ml[65]? = some (yX6_note, cX6_note, 3, none, 0, 6, false, (4, 125)) := rfl
theorem mk_66 : Cond.code yX6_ask cX6_ask 2 none ∈ am_G := List.mem_filter.mpr ⟨am_at_in (q := (4, 225)) rfl, rfl⟩
theorem ml_66 : am_ml[66]? = some (yX6_ask, cX6_ask, 2, none, 0, 6, false, (4, 225)) := rfl
theorem mk_67 : Cond.code yX7_init cX7_init 1 none ∈ am_G := List.mem_filter.mpr ⟨am_at_in (q := (1, 51)) rfl, rfl⟩
theorem ml_67 : am_ml[67]? = some (yX7_init, cX7_init, 1, none, 0, 7, true, (1, 51)) := rfl
theorem mk_68 : Cond.code yX7_get cX7_get 2 (some .int) ∈ am_G := List.mem_filter.mpr ⟨am_at_in (q := (4, 78)) rfl, rfl⟩
theorem ml_68 : am_ml[68]? = some (yX7_get, cX7_get, 2, some .int, 1, 7, false, (4, 78)) := rfl
theorem mk_69 : Cond.code yX7_set cX7_set 4 none ∈ am_G := List.mem_filter.mpr ⟨am_at_in (q := (4, 82)) rfl, rfl⟩
theorem ml_69 : am_ml[69]? = some (yX7_set, cX7_set, 4, none, 0, 7, false, (4, 82)) := rfl
theorem mk_70 : Cond.code yX7_fill cX7_fill 6 none ∈ am_G := List.mem_filter.mpr ⟨am_at_in (q := (2, 197)) rfl, rfl⟩
theorem ml_70 : am_ml[70]? = some (yX7_fill, cX7_fill, 6, none, 0, 7, false, (2, 197)) := rfl
theorem mk_71 : Cond.code yX7_copyFrom cX7_copyFrom 4 none ∈ am_G := List.mem_filter.mpr ⟨am_at_in (q := (4, 74)) rfl, rfl⟩
theorem ml_71 : am_ml[71]? = some (yX7_copyFrom, cX7_copyFrom, 4, none, 0, 7, false, (4, 74)) := rfl
theorem mk_72 : Cond.code yX7_startsLike cX7_startsLike 4 (some .boolean) ∈ am_G := List.mem_filter.mpr ⟨am_at_in (q := (6, 107)) rfl, rfl⟩
theorem ml_72 : am_ml[72]? = some (yX7_startsLike, cX7_startsLike, 4, some .boolean, 2, 7, false, (6, 107)) := rfl
theorem mk_73 : Cond.code yX8_init cX8_init 7 none ∈ am_G := List.mem_filter.mpr ⟨am_at_in (q := (2, 27)) rfl, rfl⟩
theorem ml_73 : am_ml[73]? = some (yX8_init, cX8_init, 7, none, 0, 8, true, (2, 27)) := rfl
theorem mk_74 : Cond.code yX8_start cX8_start 2 none ∈ am_G := List.mem_filter.mpr ⟨am_at_in (q := (4, 87)) rfl, rfl⟩
theorem ml_74 : am_ml[74]? = some (yX8_start, cX8_start, 2, none, 0, 8, false, (4, 87)) := rfl
theorem mk_75 : Cond.code yX8_nameInFile cX8_nameInFile 3 (some .int) ∈ am_G := List.mem_filter.mpr ⟨am_at_in (q := (5, 217)) rfl, rfl⟩
theorem ml_75 : am_ml[75]? = some (yX8_nameInFile, cX8_nameInFile, 3, some .int, 1, 8, false, (5, 217)) := rfl
theorem mk_76 : Cond.code yX8_wrong cX8_wrong 3 (some .int) ∈ am_G := List.mem_filter.mpr ⟨am_at_in (q := (4, 197)) rfl, rfl⟩
theorem ml_76 : am_ml[76]? = some (yX8_wrong, cX8_wrong, 3, some .int, 1, 8, false, (4, 197)) := rfl
theorem mk_77 : Cond.code yX8_noteFunctions cX8_noteFunctions 4 none ∈ am_G := List.mem_filter.mpr ⟨am_at_in (q := (5, 24)) rfl, rfl⟩
theorem ml_77 : am_ml[77]? = some (yX8_noteFunctions, cX8_noteFunctions, 4, none, 0, 8, false, (5, 24)) := rfl
theorem mk_78 : Cond.code yX8_openScope cX8_openScope 4 none ∈ am_G := List.mem_filter.mpr ⟨am_at_in (q := (4, 153)) rfl, rfl⟩
theorem ml_78 : am_ml[78]? = some (yX8_openScope, cX8_openScope, 4, none, 0, 8, false, (4, 153)) := rfl
theorem mk_79 : Cond.code yX8_openInnerScope cX8_openInnerScope 2 none ∈ am_G := List.mem_filter.mpr ⟨am_at_in (q := (4, 229)) rfl, rfl⟩
theorem ml_79 : am_ml[79]? = some (yX8_openInnerScope, cX8_openInnerScope, 2, none, 0, 8, false, (4, 229)) := rfl
theorem mk_80 : Cond.code yX8_setName cX8_setName 3 none ∈ am_G := List.mem_filter.mpr ⟨am_at_in (q := (4, 233)) rfl, rfl⟩
theorem ml_80 : am_ml[80]? = some (yX8_setName, cX8_setName, 3, none, 0, 8, false, (4, 233)) := rfl
theorem mk_81 : Cond.code yX8_closeOver cX8_closeOver 6 (some .int) ∈ am_G := List.mem_filter.mpr ⟨am_at_in (q := (4, 203)) rfl, rfl⟩
theorem ml_81 : am_ml[81]? = some (yX8_closeOver, cX8_closeOver, 6, some .int, 1, 8, false, (4, 203)) := rfl
theorem mk_82 : Cond.code yX8_begin cX8_begin 4 none ∈ am_G := List.mem_filter.mpr ⟨am_at_in (q := (4, 190)) rfl, rfl⟩
theorem ml_82 : am_ml[82]? = some (yX8_begin, cX8_begin, 4, none, 0, 8, false, (4, 190)) := rfl
theorem mk_83 : Cond.code yX8_ask cX8_ask 3 none ∈ am_G := List.mem_filter.mpr ⟨am_at_in (q := (4, 221)) rfl, rfl⟩
theorem ml_83 : am_ml[83]? = some (yX8_ask, cX8_ask, 3, none, 0, 8, false, (4, 221)) := rfl
theorem mk_84 : Cond.code yX8_beginParts cX8_beginParts 3 none ∈ am_G := List.mem_filter.mpr ⟨am_at_in (q := (4, 237)) rfl, rfl⟩
theorem ml_84 : am_ml[84]? = some (yX8_beginParts, cX8_beginParts, 3, none, 0, 8, false, (4, 237)) := rfl
theorem mk_85 : Cond.code yX8_stepTwo cX8_stepTwo 6 none ∈ am_G := List.mem_filter.mpr ⟨am_at_in (q := (5, 10)) rfl, rfl⟩
theorem ml_85 : am_ml[85]? = some (yX8_stepTwo, cX8_stepTwo, 6, none, 0, 8, false, (5, 10)) := rfl
theorem mk_86 : Cond.code yX8_reckon cX8_reckon 4 (some .int) ∈ am_G := List.mem_filter.mpr ⟨am_at_in (q := (5, 67)) rfl, rfl⟩
theorem ml_86 : am_ml[86]? = some (yX8_reckon, cX8_reckon, 4, some .int, 1, 8, false, (5, 67)) := rfl
theorem mk_87 : Cond.code yX8_stepOne cX8_stepOne 3 none ∈ am_G := List.mem_filter.mpr ⟨am_at_in (q := (5, 77)) rfl, rfl⟩
theorem ml_87 : am_ml[87]? = some (yX8_stepOne, cX8_stepOne, 3, none, 0, 8, false, (5, 77)) := rfl
theorem mk_88 : Cond.code yX8_mend cX8_mend 3 (some .int) ∈ am_G := List.mem_filter.mpr ⟨am_at_in (q := (5, 81)) rfl, rfl⟩
theorem ml_88 : am_ml[88]? = some (yX8_mend, cX8_mend, 3, some .int, 1, 8, false, (5, 81)) := rfl
theorem mk_89 : Cond.code yX8_addSetting cX8_addSetting 3 none ∈ am_G := List.mem_filter.mpr ⟨am_at_in (q := (5, 85)) rfl, rfl⟩
theorem ml_89 : am_ml[89]? = some (yX8_addSetting, cX8_addSetting, 3, none, 0, 8, false, (5, 85)) := rfl
theorem mk_90 : Cond.code yX8_addRule cX8_addRule 3 none ∈ am_G := List.mem_filter.mpr ⟨am_at_in (q := (5, 107)) rfl, rfl⟩
theorem ml_90 : am_ml[90]? = some (yX8_addRule, cX8_addRule, 3, none, 0, 8, false, (5, 107)) := rfl
theorem mk_91 : Cond.code yX8_addMark cX8_addMark 2 none ∈ am_G := List.mem_filter.mpr ⟨am_at_in (q := (5, 91)) rfl, rfl⟩
theorem ml_91 : am_ml[91]? = some (yX8_addMark, cX8_addMark, 2, none, 0, 8, false, (5, 91)) := rfl
theorem mk_92 : Cond.code yX8_stepChoice cX8_stepChoice 2 none ∈ am_G := List.mem_filter.mpr ⟨am_at_in (q := (5, 120)) rfl, rfl⟩
theorem ml_92 : am_ml[92]? = some (yX8_stepChoice, cX8_stepChoice, 2, none, 0, 8, false, (5, 120)) := rfl
theorem mk_93 : Cond.code yX8_stepImport cX8_stepImport 5 none ∈ am_G := List.mem_filter.mpr ⟨am_at_in (q := (5, 213)) rfl, rfl⟩
theorem ml_93 : am_ml[93]? = some (yX8_stepImport, cX8_stepImport, 5, none, 0, 8, false, (5, 213)) := rfl
theorem mk_94 : Cond.code yX8_stepCall cX8_stepCall 4 none ∈ am_G := List.mem_filter.mpr ⟨am_at_in (q := (5, 124)) rfl, rfl⟩
theorem ml_94 : am_ml[94]? = some (yX8_stepCall, cX8_stepCall, 4, none, 0, 8, false, (5, 124)) := rfl
theorem mk_95 : Cond.code yX8_takeTurn cX8_takeTurn 5 none ∈ am_G := List.mem_filter.mpr ⟨am_at_in (q := (5, 128)) rfl, rfl⟩
theorem ml_95 : am_ml[95]? = some (yX8_takeTurn, cX8_takeTurn, 5, none, 0, 8, false, (5, 128)) := rfl
theorem mk_96 : Cond.code yX8_findNumbers cX8_findNumbers 6 (some .boolean) ∈ am_G := List.mem_filter.mpr ⟨am_at_in (q := (5, 132)) rfl, rfl⟩
theorem ml_96 : am_ml[96]? = some (yX8_findNumbers, cX8_findNumbers, 6, some .boolean, 2, 8, false, (5, 132)) := rfl
theorem mk_97 : Cond.code yX8_take cX8_take 3 none ∈ am_G := List.mem_filter.mpr ⟨am_at_in (q := (5, 161)) rfl, rfl⟩
theorem ml_97 : am_ml[97]? = some (yX8_take, cX8_take, 3, none, 0, 8, false, (5, 161)) := rfl
theorem mk_98 : Cond.code yX8_enterBody cX8_enterBody 5 none ∈ am_G := List.mem_filter.mpr ⟨am_at_in (q := (5, 179)) rfl, rfl⟩
theorem ml_98 : am_ml[98]? = some (yX8_enterBody, cX8_enterBody, 5, none, 0, 8, false, (5, 179)) := rfl
theorem mk_99 : Cond.code yX8_leaveBody cX8_leaveBody 2 (some .int) ∈ am_G := List.mem_filter.mpr ⟨am_at_in (q := (5, 187)) rfl, rfl⟩
theorem ml_99 : am_ml[99]? = some (yX8_leaveBody, cX8_leaveBody, 2, some .int, 1, 8, false, (5, 187)) := rfl
theorem mk_100 : Cond.code yX8_keep cX8_keep 5 none ∈ am_G := List.mem_filter.mpr ⟨am_at_in (q := (5, 191)) rfl, rfl⟩
theorem ml_100 : am_ml[100]? = some (yX8_keep, cX8_keep, 5, none, 0, 8, false, (5, 191)) := rfl
theorem mk_101 : Cond.code yX8_enterLate cX8_enterLate 2 none ∈ am_G := List.mem_filter.mpr ⟨am_at_in (q := (6, 93)) rfl, rfl⟩
theorem ml_101 : am_ml[101]? = some (yX8_enterLate, cX8_enterLate, 2, none, 0, 8, false, (6, 93)) := rfl
theorem mk_102 : Cond.code yX8_leaveLate cX8_leaveLate 1 none ∈ am_G := List.mem_filter.mpr ⟨am_at_in (q := (6, 97)) rfl, rfl⟩
theorem ml_102 : am_ml[102]? = some (yX8_leaveLate, cX8_leaveLate, 1, none, 0, 8, false, (6, 97)) := rfl
theorem mk_103 : Cond.code yX8_openText cX8_openText 2 none ∈ am_G := List.mem_filter.mpr ⟨am_at_in (q := (4, 162)) rfl, rfl⟩
theorem ml_103 : am_ml[103]? = some (yX8_openText, cX8_openText, 2, none, 0, 8, false, (4, 162)) := rfl
theorem mk_104 : Cond.code yX8_stepText cX8_stepText 3 none ∈ am_G := List.mem_filter.mpr ⟨am_at_in (q := (5, 221)) rfl, rfl⟩
theorem ml_104 : am_ml[104]? = some (yX8_stepText, cX8_stepText, 3, none, 0, 8, false, (5, 221)) := rfl
theorem mk_105 : Cond.code yX8_leaf cX8_leaf 3 (some .int) ∈ am_G := List.mem_filter.mpr ⟨am_at_in (q := (5, 230)) rfl, rfl⟩
theorem ml_105 : am_ml[105]? = some (yX8_leaf, cX8_leaf, 3, some .int, 1, 8, false, (5, 230)) := rfl
theorem mk_106 : Cond.code yX8_append cX8_append 4 none ∈ am_G := List.mem_filter.mpr ⟨am_at_in (q := (5, 238)) rfl, rfl⟩
theorem ml_106 : am_ml[106]? = some (yX8_append, cX8_append, 4, none, 0, 8, false, (5, 238)) := rfl
theorem mk_107 : Cond.code yX8_applyMarks cX8_applyMarks 2 none ∈ am_G := List.mem_filter.mpr ⟨am_at_in (q := (6, 3)) rfl, rfl⟩
theorem ml_107 : am_ml[107]? = some (yX8_applyMarks, cX8_applyMarks, 2, none, 0, 8, false, (6, 3)) := rfl
theorem mk_108 : Cond.code yX8_closeText cX8_closeText 3 none ∈ am_G := List.mem_filter.mpr ⟨am_at_in (q := (5, 225)) rfl, rfl⟩
theorem ml_108 : am_ml[108]? = some (yX8_closeText, cX8_closeText, 3, none, 0, 8, false, (5, 225)) := rfl
theorem mk_109 : Cond.code yX8_stepFormula cX8_stepFormula 4 none ∈ am_G := List.mem_filter.mpr ⟨am_at_in (q := (6, 11)) rfl, rfl⟩
theorem ml_109 : am_ml[109]? = some (yX8_stepFormula, cX8_stepFormula, 4, none, 0, 8, false, (6, 11)) := rfl
theorem mk_110 : Cond.code yX9_init cX9_init 6 none ∈ am_G := List.mem_filter.mpr ⟨am_at_in (q := (2, 93)) rfl, rfl⟩
theorem ml_110 : am_ml[110]? = some (yX9_init, cX9_init, 6, none, 0, 9, true, (2, 93)) := rfl
theorem mk_111 : Cond.code yX9_turnPage cX9_turnPage 4 (some .int) ∈ am_G := List.mem_filter.mpr ⟨am_at_in (q := (7, 57)) rfl, rfl⟩
theorem ml_111 : am_ml[111]? = some (yX9_turnPage, cX9_turnPage, 4, some .int, 1, 9, false, (7, 57)) := rfl
theorem mk_112 : Cond.code yX9_start cX9_start 2 none ∈ am_G := List.mem_filter.mpr ⟨am_at_in (q := (6, 102)) rfl, rfl⟩
theorem ml_112 : am_ml[112]? = some (yX9_start, cX9_start, 2, none, 0, 9, false, (6, 102)) := rfl
theorem mk_113 : Cond.code yX9_stepPiece cX9_stepPiece 3 none ∈ am_G := List.mem_filter.mpr ⟨am_at_in (q := (6, 19)) rfl, rfl⟩
theorem ml_113 : am_ml[113]? = some (yX9_stepPiece, cX9_stepPiece, 3, none, 0, 9, false, (6, 19)) := rfl
theorem mk_114 : Cond.code yX9_pushBoth cX9_pushBoth 2 none ∈ am_G := List.mem_filter.mpr ⟨am_at_in (q := (6, 63)) rfl, rfl⟩
theorem ml_114 : am_ml[114]? = some (yX9_pushBoth, cX9_pushBoth, 2, none, 0, 9, false, (6, 63)) := rfl
theorem mk_115 : Cond.code yX9_realize cX9_realize 5 none ∈ am_G := List.mem_filter.mpr ⟨am_at_in (q := (6, 26)) rfl, rfl⟩
theorem ml_115 : am_ml[115]? = some (yX9_realize, cX9_realize, 5, none, 0, 9, false, (6, 26)) := rfl
theorem mk_116 : Cond.code yX9_markLabel cX9_markLabel 3 none ∈ am_G := List.mem_filter.mpr ⟨am_at_in (q := (6, 37)) rfl, rfl⟩
theorem ml_116 : am_ml[116]? = some (yX9_markLabel, cX9_markLabel, 3, none, 0, 9, false, (6, 37)) := rfl
theorem mk_117 : Cond.code yX9_show cX9_show 5 none ∈ am_G := List.mem_filter.mpr ⟨am_at_in (q := (6, 45)) rfl, rfl⟩
theorem ml_117 : am_ml[117]? = some (yX9_show, cX9_show, 5, none, 0, 9, false, (6, 45)) := rfl
theorem mk_118 : Cond.code yX9_findRule cX9_findRule 6 (some .int) ∈ am_G := List.mem_filter.mpr ⟨am_at_in (q := (6, 49)) rfl, rfl⟩
theorem ml_118 : am_ml[118]? = some (yX9_findRule, cX9_findRule, 6, some .int, 1, 9, false, (6, 49)) := rfl
theorem mk_119 : Cond.code yX9_isUsed cX9_isUsed 3 (some .boolean) ∈ am_G := List.mem_filter.mpr ⟨am_at_in (q := (6, 53)) rfl, rfl⟩
theorem ml_119 : am_ml[119]? = some (yX9_isUsed, cX9_isUsed, 3, some .boolean, 2, 9, false, (6, 53)) := rfl
theorem mk_120 : Cond.code yX9_lay cX9_lay 5 none ∈ am_G := List.mem_filter.mpr ⟨am_at_in (q := (6, 59)) rfl, rfl⟩
theorem ml_120 : am_ml[120]? = some (yX9_lay, cX9_lay, 5, none, 0, 9, false, (6, 59)) := rfl
theorem mk_121 : Cond.code yX9_startLine cX9_startLine 1 none ∈ am_G := List.mem_filter.mpr ⟨am_at_in (q := (6, 33)) rfl, rfl⟩
theorem ml_121 : am_ml[121]? = some (yX9_startLine, cX9_startLine, 1, none, 0, 9, false, (6, 33)) := rfl
theorem mk_122 : Cond.code yX9_stepScope cX9_stepScope 1 none ∈ am_G := List.mem_filter.mpr ⟨am_at_in (q := (6, 69)) rfl, rfl⟩
theorem ml_122 : am_ml[122]? = some (yX9_stepScope, cX9_stepScope, 1, none, 0, 9, false, (6, 69)) := rfl
theorem mk_123 : Cond.code yX9_stepHeading cX9_stepHeading 2 none ∈ am_G := List.mem_filter.mpr ⟨am_at_in (q := (6, 73)) rfl, rfl⟩
theorem ml_123 : am_ml[123]? = some (yX9_stepHeading, cX9_stepHeading, 2, none, 0, 9, false, (6, 73)) := rfl
theorem mk_124 : Cond.code yX9_stepRule cX9_stepRule 4 none ∈ am_G := List.mem_filter.mpr ⟨am_at_in (q := (6, 78)) rfl, rfl⟩
theorem ml_124 : am_ml[124]? = some (yX9_stepRule, cX9_stepRule, 4, none, 0, 9, false, (6, 78)) := rfl
theorem mk_125 : Cond.code yX9_stepLater cX9_stepLater 4 none ∈ am_G := List.mem_filter.mpr ⟨am_at_in (q := (6, 89)) rfl, rfl⟩
theorem ml_125 : am_ml[125]? = some (yX9_stepLater, cX9_stepLater, 4, none, 0, 9, false, (6, 89)) := rfl
theorem mk_126 : Cond.code yX9_mayCome cX9_mayCome 2 (some .boolean) ∈ am_G := List.mem_filter.mpr ⟨am_at_in (q := (6, 82)) rfl, rfl⟩
theorem ml_126 : am_ml[126]? = some (yX9_mayCome, cX9_mayCome, 2, some .boolean, 2, 9, false, (6, 82)) := rfl
theorem mk_127 : Cond.code yX10_init cX10_init 3 none ∈ am_G := List.mem_filter.mpr ⟨am_at_in (q := (1, 237)) rfl, rfl⟩
theorem ml_127 : am_ml[127]? = some (yX10_init, cX10_init, 3, none, 0, 10, true, (1, 237)) := rfl
theorem mk_128 : Cond.code yX10_part cX10_part 3 (some .int) ∈ am_G := List.mem_filter.mpr ⟨am_at_in (q := (5, 15)) rfl, rfl⟩
theorem ml_128 : am_ml[128]? = some (yX10_part, cX10_part, 3, some .int, 1, 10, false, (5, 15)) := rfl
theorem mk_129 : Cond.code yX10_firstItem cX10_firstItem 2 (some .int) ∈ am_G := List.mem_filter.mpr ⟨am_at_in (q := (4, 172)) rfl, rfl⟩
theorem ml_129 : am_ml[129]? = some (yX10_firstItem, cX10_firstItem, 2, some .int, 1, 10, false, (4, 172)) := rfl
theorem mk_130 : Cond.code yX10_nextItem cX10_nextItem 2 (some .int) ∈ am_G := List.mem_filter.mpr ⟨am_at_in (q := (6, 7)) rfl, rfl⟩
theorem ml_130 : am_ml[130]? = some (yX10_nextItem, cX10_nextItem, 2, some .int, 1, 10, false, (6, 7)) := rfl
theorem mk_131 : Cond.code yX10_namesUsed cX10_namesUsed 2 (some .int) ∈ am_G := List.mem_filter.mpr ⟨am_at_in (q := (4, 207)) rfl, rfl⟩
theorem ml_131 : am_ml[131]? = some (yX10_namesUsed, cX10_namesUsed, 2, some .int, 1, 10, false, (4, 207)) := rfl
theorem mk_132 : Cond.code yX10_imports cX10_imports 2 (some .boolean) ∈ am_G := List.mem_filter.mpr ⟨am_at_in (q := (5, 136)) rfl, rfl⟩
theorem ml_132 : am_ml[132]? = some (yX10_imports, cX10_imports, 2, some .boolean, 2, 10, false, (5, 136)) := rfl
theorem mk_133 : Cond.code yX10_isInBlock cX10_isInBlock 2 (some .boolean) ∈ am_G := List.mem_filter.mpr ⟨am_at_in (q := (5, 1)) rfl, rfl⟩
theorem ml_133 : am_ml[133]? = some (yX10_isInBlock, cX10_isInBlock, 2, some .boolean, 2, 10, false, (5, 1)) := rfl
theorem mk_134 : Cond.code yX10_letName cX10_letName 2 (some .int) ∈ am_G := List.mem_filter.mpr ⟨am_at_in (q := (5, 183)) rfl, rfl⟩
theorem ml_134 : am_ml[134]? = some (yX10_letName, cX10_letName, 2, some .int, 1, 10, false, (5, 183)) := rfl
theorem mk_135 : Cond.code yX10_read cX10_read 3 none ∈ am_G := List.mem_filter.mpr ⟨am_at_in (q := (4, 96)) rfl, rfl⟩
theorem ml_135 : am_ml[135]? = some (yX10_read, cX10_read, 3, none, 0, 10, false, (4, 96)) := rfl
theorem mk_136 : Cond.code yX10_readItem cX10_readItem 6 none ∈ am_G := List.mem_filter.mpr ⟨am_at_in (q := (4, 142)) rfl, rfl⟩
theorem ml_136 : am_ml[136]? = some (yX10_readItem, cX10_readItem, 6, none, 0, 10, false, (4, 142)) := rfl
theorem mk_137 : Cond.code yX10_addItem cX10_addItem 5 none ∈ am_G := List.mem_filter.mpr ⟨am_at_in (q := (4, 149)) rfl, rfl⟩
theorem ml_137 : am_ml[137]? = some (yX10_addItem, cX10_addItem, 5, none, 0, 10, false, (4, 149)) := rfl
theorem mk_138 : Cond.code yX10_readPart cX10_readPart 10 none ∈ am_G := List.mem_filter.mpr ⟨am_at_in (q := (4, 117)) rfl, rfl⟩
theorem ml_138 : am_ml[138]? = some (yX10_readPart, cX10_readPart, 10, none, 0, 10, false, (4, 117)) := rfl
theorem mk_139 : Cond.code yX10_tellAround cX10_tellAround 7 none ∈ am_G := List.mem_filter.mpr ⟨am_at_in (q := (4, 135)) rfl, rfl⟩
theorem ml_139 : am_ml[139]? = some (yX10_tellAround, cX10_tellAround, 7, none, 0, 10, false, (4, 135)) := rfl
theorem mk_140 : Cond.code yX10_partsOf cX10_partsOf 1 (some .int) ∈ am_G := List.mem_filter.mpr ⟨am_at_in (q := (4, 138)) rfl, rfl⟩
theorem ml_140 : am_ml[140]? = some (yX10_partsOf, cX10_partsOf, 1, some .int, 1, 10, false, (4, 138)) := rfl
theorem mk_141 : Cond.code yX10_expect cX10_expect 7 none ∈ am_G := List.mem_filter.mpr ⟨am_at_in (q := (4, 106)) rfl, rfl⟩
theorem ml_141 : am_ml[141]? = some (yX10_expect, cX10_expect, 7, none, 0, 10, false, (4, 106)) := rfl
theorem mk_142 : Cond.code yX10_top cX10_top 2 (some .int) ∈ am_G := List.mem_filter.mpr ⟨am_at_in (q := (4, 112)) rfl, rfl⟩
theorem ml_142 : am_ml[142]? = some (yX10_top, cX10_top, 2, some .int, 1, 10, false, (4, 112)) := rfl
theorem mk_143 : Cond.code yX11_init cX11_init 1 none ∈ am_G := List.mem_filter.mpr ⟨am_at_in (q := (1, 37)) rfl, rfl⟩
theorem ml_143 : am_ml[143]? = some (yX11_init, cX11_init, 1, none, 0, 11, true, (1, 37)) := rfl
theorem mk_144 : Cond.code yX11_put cX11_put 5 (some .int) ∈ am_G := List.mem_filter.mpr ⟨am_at_in (q := (6, 194)) rfl, rfl⟩
theorem ml_144 : am_ml[144]? = some (yX11_put, cX11_put, 5, some .int, 1, 11, false, (6, 194)) := rfl
theorem mk_145 : Cond.code yX11_cut cX11_cut 4 (some .int) ∈ am_G := List.mem_filter.mpr ⟨am_at_in (q := (7, 27)) rfl, rfl⟩
theorem ml_145 : am_ml[145]? = some (yX11_cut, cX11_cut, 4, some .int, 1, 11, false, (7, 27)) := rfl
theorem mk_146 : Cond.code yX11_token cX11_token 3 (some .int) ∈ am_G := List.mem_filter.mpr ⟨am_at_in (q := (7, 42)) rfl, rfl⟩
theorem ml_146 : am_ml[146]? = some (yX11_token, cX11_token, 3, some .int, 1, 11, false, (7, 42)) := rfl
theorem mk_147 : Cond.code yX11_setPage cX11_setPage 3 (some .int) ∈ am_G := List.mem_filter.mpr ⟨am_at_in (q := (7, 49)) rfl, rfl⟩
theorem ml_147 : am_ml[147]? = some (yX11_setPage, cX11_setPage, 3, some .int, 1, 11, false, (7, 49)) := rfl
theorem mk_148 : Cond.code yX11_compile cX11_compile 1 (some .int) ∈ am_G := List.mem_filter.mpr ⟨am_at_in (q := (2, 189)) rfl, rfl⟩
theorem ml_148 : am_ml[148]? = some (yX11_compile, cX11_compile, 1, some .int, 1, 11, false, (2, 189)) := rfl
theorem mk_149 : Cond.code yX11_isAsAnew cX11_isAsAnew 1 (some .boolean) ∈ am_G := List.mem_filter.mpr ⟨am_at_in (q := (6, 150)) rfl, rfl⟩
theorem ml_149 : am_ml[149]? = some (yX11_isAsAnew, cX11_isAsAnew, 1, some .boolean, 2, 11, false, (6, 150)) := rfl
theorem mk_150 : Cond.code yX11_isSettled cX11_isSettled 1 (some .boolean) ∈ am_G := List.mem_filter.mpr ⟨am_at_in (q := (6, 159)) rfl, rfl⟩
theorem ml_150 : am_ml[150]? = some (yX11_isSettled, cX11_isSettled, 1, some .boolean, 2, 11, false, (6, 159)) := rfl
theorem mk_151 : Cond.code yX11_ran cX11_ran 1 (some .int) ∈ am_G := List.mem_filter.mpr ⟨am_at_in (q := (6, 163)) rfl, rfl⟩
set_option maxRecDepth 100000 in
theorem ml_151 : am_ml[151]? = some (yX11_ran, cX11_ran, 1, some .int, 1, 11, false, (6, 163)) := rfl
theorem mk_152 : Cond.code yX11_taken cX11_taken 1 (some .int) ∈ am_G := List.mem_filter.mpr ⟨am_at_in (q := (6, 167)) rfl, rfl⟩
set_option maxRecDepth 100000 in
theorem ml_152 : am_ml[152]? = some (yX11_taken, cX11_taken, 1, some .int, 1, 11, false, (6, 167)) := rfl
theorem mk_153 : Cond.code yX11_kept cX11_kept 1 (some .int) ∈ am_G := List.mem_filter.mpr ⟨am_at_in (q := (6, 171)) rfl, rfl⟩
set_option maxRecDepth 100000 in
theorem ml_153 : am_ml[153]? = some (yX11_kept, cX11_kept, 1, some .int, 1, 11, false, (6, 171)) := rfl
theorem mk_154 : Cond.code yX11_laid cX11_laid 1 (some .int) ∈ am_G := List.mem_filter.mpr ⟨am_at_in (q := (6, 180)) rfl, rfl⟩
set_option maxRecDepth 100000 in
theorem ml_154 : am_ml[154]? = some (yX11_laid, cX11_laid, 1, some .int, 1, 11, false, (6, 180)) := rfl
theorem mk_155 : Cond.code yX11_thing cX11_thing 3 (some .int) ∈ am_G := List.mem_filter.mpr ⟨am_at_in (q := (7, 64)) rfl, rfl⟩
set_option maxRecDepth 100000 in
theorem ml_155 : am_ml[155]? = some (yX11_thing, cX11_thing, 3, some .int, 1, 11, false, (7, 64)) := rfl
theorem mk_156 : Cond.code yX11_faults cX11_faults 1 (some .int) ∈ am_G := List.mem_filter.mpr ⟨am_at_in (q := (6, 184)) rfl, rfl⟩
set_option maxRecDepth 100000 in
theorem ml_156 : am_ml[156]? = some (yX11_faults, cX11_faults, 1, some .int, 1, 11, false, (6, 184)) := rfl
theorem mk_157 : Cond.code yX11_fault cX11_fault 2 (some .int) ∈ am_G := List.mem_filter.mpr ⟨am_at_in (q := (7, 72)) rfl, rfl⟩
set_option maxRecDepth 100000 in
theorem ml_157 : am_ml[157]? = some (yX11_fault, cX11_fault, 2, some .int, 1, 11, false, (7, 72)) := rfl
theorem mk_158 : Cond.code yX11_answer cX11_answer 4 (some .int) ∈ am_G := List.mem_filter.mpr ⟨am_at_in (q := (7, 79)) rfl, rfl⟩
set_option maxRecDepth 100000 in
theorem ml_158 : am_ml[158]? = some (yX11_answer, cX11_answer, 4, some .int, 1, 11, false, (7, 79)) := rfl
theorem mk_159 : Cond.code yX11_valueOf cX11_valueOf 2 (some .int) ∈ am_G := List.mem_filter.mpr ⟨am_at_in (q := (7, 87)) rfl, rfl⟩
set_option maxRecDepth 100000 in
theorem ml_159 : am_ml[159]? = some (yX11_valueOf, cX11_valueOf, 2, some .int, 1, 11, false, (7, 87)) := rfl
theorem mk_160 : Cond.code yX11_isFile cX11_isFile 1 (some .boolean) ∈ am_G := List.mem_filter.mpr ⟨am_at_in (q := (6, 197)) rfl, rfl⟩
set_option maxRecDepth 100000 in
theorem ml_160 : am_ml[160]? = some (yX11_isFile, cX11_isFile, 1, some .boolean, 2, 11, false, (6, 197)) := rfl
theorem mk_161 : Cond.code yX11_isNumber cX11_isNumber 1 (some .boolean) ∈ am_G := List.mem_filter.mpr ⟨am_at_in (q := (5, 40)) rfl, rfl⟩
set_option maxRecDepth 100000 in
theorem ml_161 : am_ml[161]? = some (yX11_isNumber, cX11_isNumber, 1, some .boolean, 2, 11, false, (5, 40)) := rfl
theorem mk_162 : Cond.code yX11_bounded cX11_bounded 1 (some .int) ∈ am_G := List.mem_filter.mpr ⟨am_at_in (q := (5, 71)) rfl, rfl⟩
set_option maxRecDepth 100000 in
theorem ml_162 : am_ml[162]? = some (yX11_bounded, cX11_bounded, 1, some .int, 1, 11, false, (5, 71)) := rfl
theorem mk_163 : Cond.code yX11_spot cX11_spot 1 (some .int) ∈ am_G := List.mem_filter.mpr ⟨am_at_in (q := (4, 145)) rfl, rfl⟩
set_option maxRecDepth 100000 in
theorem ml_163 : am_ml[163]? = some (yX11_spot, cX11_spot, 1, some .int, 1, 11, false, (4, 145)) := rfl
theorem mk_164 : Cond.code yX11_question cX11_question 3 (some .int) ∈ am_G := List.mem_filter.mpr ⟨am_at_in (q := (4, 217)) rfl, rfl⟩
set_option maxRecDepth 100000 in
theorem ml_164 : am_ml[164]? = some (yX11_question, cX11_question, 3, some .int, 1, 11, false, (4, 217)) := rfl
theorem mk_165 : Cond.code yX12_init cX12_init 2 none ∈ am_G := List.mem_filter.mpr ⟨am_at_in (q := (7, 92)) rfl, rfl⟩
set_option maxRecDepth 100000 in
theorem ml_165 : am_ml[165]? = some (yX12_init, cX12_init, 2, none, 0, 12, true, (7, 92)) := rfl
theorem mk_166 : Cond.code yX12_thrown cX12_thrown 1 (some .int) ∈ am_G := List.mem_filter.mpr ⟨am_at_in (q := (8, 142)) rfl, rfl⟩
set_option maxRecDepth 100000 in
theorem ml_166 : am_ml[166]? = some (yX12_thrown, cX12_thrown, 1, some .int, 1, 12, false, (8, 142)) := rfl
theorem mk_167 : Cond.code yX12_goes cX12_goes 2 (some .boolean) ∈ am_G := List.mem_filter.mpr ⟨am_at_in (q := (8, 156)) rfl, rfl⟩
set_option maxRecDepth 100000 in
theorem ml_167 : am_ml[167]? = some (yX12_goes, cX12_goes, 2, some .boolean, 2, 12, false, (8, 156)) := rfl
theorem mk_168 : Cond.code yX12_isIn cX12_isIn 3 (some .boolean) ∈ am_G := List.mem_filter.mpr ⟨am_at_in (q := (8, 152)) rfl, rfl⟩
set_option maxRecDepth 100000 in
theorem ml_168 : am_ml[168]? = some (yX12_isIn, cX12_isIn, 3, some .boolean, 2, 12, false, (8, 152)) := rfl
theorem mk_169 : Cond.code yX12_isFile cX12_isFile 1 (some .boolean) ∈ am_G := List.mem_filter.mpr ⟨am_at_in (q := (8, 149)) rfl, rfl⟩
set_option maxRecDepth 100000 in
theorem ml_169 : am_ml[169]? = some (yX12_isFile, cX12_isFile, 1, some .boolean, 2, 12, false, (8, 149)) := rfl
theorem mk_170 : Cond.code yX12_forgets cX12_forgets 5 none ∈ am_G := List.mem_filter.mpr ⟨am_at_in (q := (8, 160)) rfl, rfl⟩
set_option maxRecDepth 100000 in
theorem ml_170 : am_ml[170]? = some (yX12_forgets, cX12_forgets, 5, none, 0, 12, false, (8, 160)) := rfl
theorem mk_171 : Cond.code yX12_put cX12_put 8 (some .int) ∈ am_G := List.mem_filter.mpr ⟨am_at_in (q := (8, 146)) rfl, rfl⟩
set_option maxRecDepth 100000 in
theorem ml_171 : am_ml[171]? = some (yX12_put, cX12_put, 8, some .int, 1, 12, false, (8, 146)) := rfl
theorem mk_172 : Cond.code yX12_cut cX12_cut 7 (some .int) ∈ am_G := List.mem_filter.mpr ⟨am_at_in (q := (8, 164)) rfl, rfl⟩
set_option maxRecDepth 100000 in
theorem ml_172 : am_ml[172]? = some (yX12_cut, cX12_cut, 7, some .int, 1, 12, false, (8, 164)) := rfl
theorem mk_173 : Cond.code yX12_token cX12_token 3 (some .int) ∈ am_G := List.mem_filter.mpr ⟨am_at_in (q := (8, 168)) rfl, rfl⟩
set_option maxRecDepth 100000 in
theorem ml_173 : am_ml[173]? = some (yX12_token, cX12_token, 3, some .int, 1, 12, false, (8, 168)) := rfl
theorem mk_174 : Cond.code yX12_setPage cX12_setPage 4 (some .int) ∈ am_G := List.mem_filter.mpr ⟨am_at_in (q := (8, 172)) rfl, rfl⟩
set_option maxRecDepth 100000 in
theorem ml_174 : am_ml[174]? = some (yX12_setPage, cX12_setPage, 4, some .int, 1, 12, false, (8, 172)) := rfl
theorem mk_175 : Cond.code yX12_notes cX12_notes 4 none ∈ am_G := List.mem_filter.mpr ⟨am_at_in (q := (8, 204)) rfl, rfl⟩
set_option maxRecDepth 100000 in
theorem ml_175 : am_ml[175]? = some (yX12_notes, cX12_notes, 4, none, 0, 12, false, (8, 204)) := rfl
theorem mk_176 : Cond.code yX12_node cX12_node 4 (some .int) ∈ am_G := List.mem_filter.mpr ⟨am_at_in (q := (8, 209)) rfl, rfl⟩
set_option maxRecDepth 100000 in
theorem ml_176 : am_ml[176]? = some (yX12_node, cX12_node, 4, some .int, 1, 12, false, (8, 209)) := rfl
theorem mk_177 : Cond.code yX12_kindAt cX12_kindAt 2 (some .int) ∈ am_G := List.mem_filter.mpr ⟨am_at_in (q := (8, 200)) rfl, rfl⟩
set_option maxRecDepth 100000 in
theorem ml_177 : am_ml[177]? = some (yX12_kindAt, cX12_kindAt, 2, some .int, 1, 12, false, (8, 200)) := rfl
theorem mk_178 : Cond.code yX12_parts cX12_parts 1 (some .int) ∈ am_G := List.mem_filter.mpr ⟨am_at_in (q := (8, 216)) rfl, rfl⟩
set_option maxRecDepth 100000 in
theorem ml_178 : am_ml[178]? = some (yX12_parts, cX12_parts, 1, some .int, 1, 12, false, (8, 216)) := rfl
theorem mk_179 : Cond.code yX12_readExpression cX12_readExpression 5 (some .int) ∈ am_G := List.mem_filter.mpr ⟨am_at_in (q := (8, 213)) rfl, rfl⟩
set_option maxRecDepth 100000 in
theorem ml_179 : am_ml[179]? = some (yX12_readExpression, cX12_readExpression, 5, some .int, 1, 12, false, (8, 213)) := rfl
theorem mk_180 : Cond.code yX12_readItems cX12_readItems 9 (some .int) ∈ am_G := List.mem_filter.mpr ⟨am_at_in (q := (8, 196)) rfl, rfl⟩
set_option maxRecDepth 100000 in
theorem ml_180 : am_ml[180]? = some (yX12_readItems, cX12_readItems, 9, some .int, 1, 12, false, (8, 196)) := rfl
theorem mk_181 : Cond.code yX12_value cX12_value 2 (some .int) ∈ am_G := List.mem_filter.mpr ⟨am_at_in (q := (9, 3)) rfl, rfl⟩
set_option maxRecDepth 100000 in
theorem ml_181 : am_ml[181]? = some (yX12_value, cX12_value, 2, some .int, 1, 12, false, (9, 3)) := rfl
theorem mk_182 : Cond.code yX12_tag cX12_tag 1 (some .int) ∈ am_G := List.mem_filter.mpr ⟨am_at_in (q := (9, 38)) rfl, rfl⟩
set_option maxRecDepth 100000 in
theorem ml_182 : am_ml[182]? = some (yX12_tag, cX12_tag, 1, some .int, 1, 12, false, (9, 38)) := rfl
theorem mk_183 : Cond.code yX12_number cX12_number 1 (some .int) ∈ am_G := List.mem_filter.mpr ⟨am_at_in (q := (9, 41)) rfl, rfl⟩
set_option maxRecDepth 100000 in
theorem ml_183 : am_ml[183]? = some (yX12_number, cX12_number, 1, some .int, 1, 12, false, (9, 41)) := rfl
theorem mk_184 : Cond.code yX12_bounded cX12_bounded 2 (some .int) ∈ am_G := List.mem_filter.mpr ⟨am_at_in (q := (9, 60)) rfl, rfl⟩
set_option maxRecDepth 100000 in
theorem ml_184 : am_ml[184]? = some (yX12_bounded, cX12_bounded, 2, some .int, 1, 12, false, (9, 60)) := rfl
theorem mk_185 : Cond.code yX12_newNames cX12_newNames 2 (some .int) ∈ am_G := List.mem_filter.mpr ⟨am_at_in (q := (8, 220)) rfl, rfl⟩
set_option maxRecDepth 100000 in
theorem ml_185 : am_ml[185]? = some (yX12_newNames, cX12_newNames, 2, some .int, 1, 12, false, (8, 220)) := rfl
theorem mk_186 : Cond.code yX12_copyOf cX12_copyOf 4 (some .int) ∈ am_G := List.mem_filter.mpr ⟨am_at_in (q := (9, 31)) rfl, rfl⟩
set_option maxRecDepth 100000 in
theorem ml_186 : am_ml[186]? = some (yX12_copyOf, cX12_copyOf, 4, some .int, 1, 12, false, (9, 31)) := rfl
theorem mk_187 : Cond.code yX12_content cX12_content 7 (some .int) ∈ am_G := List.mem_filter.mpr ⟨am_at_in (q := (9, 45)) rfl, rfl⟩
set_option maxRecDepth 100000 in
theorem ml_187 : am_ml[187]? = some (yX12_content, cX12_content, 7, some .int, 1, 12, false, (9, 45)) := rfl
theorem mk_188 : Cond.code yX12_wide cX12_wide 3 (some .int) ∈ am_G := List.mem_filter.mpr ⟨am_at_in (q := (9, 57)) rfl, rfl⟩
set_option maxRecDepth 100000 in
theorem ml_188 : am_ml[188]? = some (yX12_wide, cX12_wide, 3, some .int, 1, 12, false, (9, 57)) := rfl
theorem mk_189 : Cond.code yX12_widthOf cX12_widthOf 5 (some .int) ∈ am_G := List.mem_filter.mpr ⟨am_at_in (q := (9, 49)) rfl, rfl⟩
set_option maxRecDepth 100000 in
theorem ml_189 : am_ml[189]? = some (yX12_widthOf, cX12_widthOf, 5, some .int, 1, 12, false, (9, 49)) := rfl
theorem mk_190 : Cond.code yX12_groupWidth cX12_groupWidth 8 (some .int) ∈ am_G := List.mem_filter.mpr ⟨am_at_in (q := (9, 53)) rfl, rfl⟩
set_option maxRecDepth 100000 in
theorem ml_190 : am_ml[190]? = some (yX12_groupWidth, cX12_groupWidth, 8, some .int, 1, 12, false, (9, 53)) := rfl
theorem mk_191 : Cond.code yX12_joined cX12_joined 3 (some .int) ∈ am_G := List.mem_filter.mpr ⟨am_at_in (q := (9, 114)) rfl, rfl⟩
set_option maxRecDepth 100000 in
theorem ml_191 : am_ml[191]? = some (yX12_joined, cX12_joined, 3, some .int, 1, 12, false, (9, 114)) := rfl
theorem mk_192 : Cond.code yX12_gathered cX12_gathered 3 (some .int) ∈ am_G := List.mem_filter.mpr ⟨am_at_in (q := (9, 126)) rfl, rfl⟩
set_option maxRecDepth 100000 in
theorem ml_192 : am_ml[192]? = some (yX12_gathered, cX12_gathered, 3, some .int, 1, 12, false, (9, 126)) := rfl
theorem mk_193 : Cond.code yX12_bare cX12_bare 5 (some .int) ∈ am_G := List.mem_filter.mpr ⟨am_at_in (q := (9, 110)) rfl, rfl⟩
set_option maxRecDepth 100000 in
theorem ml_193 : am_ml[193]? = some (yX12_bare, cX12_bare, 5, some .int, 1, 12, false, (9, 110)) := rfl
theorem mk_194 : Cond.code yX12_functionsIn cX12_functionsIn 2 (some .int) ∈ am_G := List.mem_filter.mpr ⟨am_at_in (q := (9, 118)) rfl, rfl⟩
set_option maxRecDepth 100000 in
theorem ml_194 : am_ml[194]? = some (yX12_functionsIn, cX12_functionsIn, 2, some .int, 1, 12, false, (9, 118)) := rfl
theorem mk_195 : Cond.code yX12_contentOf cX12_contentOf 6 (some .int) ∈ am_G := List.mem_filter.mpr ⟨am_at_in (q := (9, 106)) rfl, rfl⟩
set_option maxRecDepth 100000 in
theorem ml_195 : am_ml[195]? = some (yX12_contentOf, cX12_contentOf, 6, some .int, 1, 12, false, (9, 106)) := rfl
theorem mk_196 : Cond.code yX12_wrong cX12_wrong 3 (some .int) ∈ am_G := List.mem_filter.mpr ⟨am_at_in (q := (9, 7)) rfl, rfl⟩
set_option maxRecDepth 100000 in
theorem ml_196 : am_ml[196]? = some (yX12_wrong, cX12_wrong, 3, some .int, 1, 12, false, (9, 7)) := rfl
theorem mk_197 : Cond.code yX12_part cX12_part 3 (some .int) ∈ am_G := List.mem_filter.mpr ⟨am_at_in (q := (8, 232)) rfl, rfl⟩
set_option maxRecDepth 100000 in
theorem ml_197 : am_ml[197]? = some (yX12_part, cX12_part, 3, some .int, 1, 12, false, (8, 232)) := rfl
theorem mk_198 : Cond.code yX12_runItems cX12_runItems 12 (some .int) ∈ am_G := List.mem_filter.mpr ⟨am_at_in (q := (8, 228)) rfl, rfl⟩
set_option maxRecDepth 100000 in
theorem ml_198 : am_ml[198]? = some (yX12_runItems, cX12_runItems, 12, some .int, 1, 12, false, (8, 228)) := rfl
theorem mk_199 : Cond.code yX12_runBlock cX12_runBlock 4 (some .int) ∈ am_G := List.mem_filter.mpr ⟨am_at_in (q := (8, 224)) rfl, rfl⟩
set_option maxRecDepth 100000 in
theorem ml_199 : am_ml[199]? = some (yX12_runBlock, cX12_runBlock, 4, some .int, 1, 12, false, (8, 224)) := rfl
theorem mk_200 : Cond.code yX12_twoNumbers cX12_twoNumbers 9 (some .int) ∈ am_G := List.mem_filter.mpr ⟨am_at_in (q := (9, 122)) rfl, rfl⟩
set_option maxRecDepth 100000 in
theorem ml_200 : am_ml[200]? = some (yX12_twoNumbers, cX12_twoNumbers, 9, some .int, 1, 12, false, (9, 122)) := rfl
theorem mk_201 : Cond.code yX12_asks cX12_asks 3 (some .int) ∈ am_G := List.mem_filter.mpr ⟨am_at_in (q := (9, 15)) rfl, rfl⟩
set_option maxRecDepth 100000 in
theorem ml_201 : am_ml[201]? = some (yX12_asks, cX12_asks, 3, some .int, 1, 12, false, (9, 15)) := rfl
theorem mk_202 : Cond.code yX12_runNow cX12_runNow 2 (some .int) ∈ am_G := List.mem_filter.mpr ⟨am_at_in (q := (9, 11)) rfl, rfl⟩
set_option maxRecDepth 100000 in
theorem ml_202 : am_ml[202]? = some (yX12_runNow, cX12_runNow, 2, some .int, 1, 12, false, (9, 11)) := rfl
theorem mk_203 : Cond.code yX12_runSimple cX12_runSimple 6 (some .int) ∈ am_G := List.mem_filter.mpr ⟨am_at_in (q := (9, 0)) rfl, rfl⟩
set_option maxRecDepth 100000 in
theorem ml_203 : am_ml[203]? = some (yX12_runSimple, cX12_runSimple, 6, some .int, 1, 12, false, (9, 0)) := rfl
theorem mk_204 : Cond.code yX12_newFunction cX12_newFunction 4 (some .int) ∈ am_G := List.mem_filter.mpr ⟨am_at_in (q := (9, 27)) rfl, rfl⟩
set_option maxRecDepth 100000 in
theorem ml_204 : am_ml[204]? = some (yX12_newFunction, cX12_newFunction, 4, some .int, 1, 12, false, (9, 27)) := rfl
theorem mk_205 : Cond.code yX12_runLet cX12_runLet 7 (some .int) ∈ am_G := List.mem_filter.mpr ⟨am_at_in (q := (9, 23)) rfl, rfl⟩
set_option maxRecDepth 100000 in
theorem ml_205 : am_ml[205]? = some (yX12_runLet, cX12_runLet, 7, some .int, 1, 12, false, (9, 23)) := rfl
theorem mk_206 : Cond.code yX12_runTelling cX12_runTelling 9 (some .int) ∈ am_G := List.mem_filter.mpr ⟨am_at_in (q := (9, 35)) rfl, rfl⟩
set_option maxRecDepth 100000 in
theorem ml_206 : am_ml[206]? = some (yX12_runTelling, cX12_runTelling, 9, some .int, 1, 12, false, (9, 35)) := rfl
theorem mk_207 : Cond.code yX12_run cX12_run 6 (some .int) ∈ am_G := List.mem_filter.mpr ⟨am_at_in (q := (8, 236)) rfl, rfl⟩
set_option maxRecDepth 100000 in
theorem ml_207 : am_ml[207]? = some (yX12_run, cX12_run, 6, some .int, 1, 12, false, (8, 236)) := rfl
theorem mk_208 : Cond.code yX12_runParts cX12_runParts 10 (some .int) ∈ am_G := List.mem_filter.mpr ⟨am_at_in (q := (9, 102)) rfl, rfl⟩
set_option maxRecDepth 100000 in
theorem ml_208 : am_ml[208]? = some (yX12_runParts, cX12_runParts, 10, some .int, 1, 12, false, (9, 102)) := rfl
theorem mk_209 : Cond.code yX12_runImport cX12_runImport 5 (some .int) ∈ am_G := List.mem_filter.mpr ⟨am_at_in (q := (9, 19)) rfl, rfl⟩
set_option maxRecDepth 100000 in
theorem ml_209 : am_ml[209]? = some (yX12_runImport, cX12_runImport, 5, some .int, 1, 12, false, (9, 19)) := rfl
theorem mk_210 : Cond.code yX12_runFile cX12_runFile 4 (some .int) ∈ am_G := List.mem_filter.mpr ⟨am_at_in (q := (8, 192)) rfl, rfl⟩
set_option maxRecDepth 100000 in
theorem ml_210 : am_ml[210]? = some (yX12_runFile, cX12_runFile, 4, some .int, 1, 12, false, (8, 192)) := rfl
theorem mk_211 : Cond.code yX12_runBody cX12_runBody 5 (some .int) ∈ am_G := List.mem_filter.mpr ⟨am_at_in (q := (9, 94)) rfl, rfl⟩
set_option maxRecDepth 100000 in
theorem ml_211 : am_ml[211]? = some (yX12_runBody, cX12_runBody, 5, some .int, 1, 12, false, (9, 94)) := rfl
theorem mk_212 : Cond.code yX12_runCall cX12_runCall 8 (some .int) ∈ am_G := List.mem_filter.mpr ⟨am_at_in (q := (9, 66)) rfl, rfl⟩
set_option maxRecDepth 100000 in
theorem ml_212 : am_ml[212]? = some (yX12_runCall, cX12_runCall, 8, some .int, 1, 12, false, (9, 66)) := rfl
theorem mk_213 : Cond.code yX12_follows cX12_follows 11 (some .int) ∈ am_G := List.mem_filter.mpr ⟨am_at_in (q := (9, 90)) rfl, rfl⟩
set_option maxRecDepth 100000 in
theorem ml_213 : am_ml[213]? = some (yX12_follows, cX12_follows, 11, some .int, 1, 12, false, (9, 90)) := rfl
theorem mk_214 : Cond.code yX12_looks cX12_looks 4 none ∈ am_G := List.mem_filter.mpr ⟨am_at_in (q := (9, 74)) rfl, rfl⟩
set_option maxRecDepth 100000 in
theorem ml_214 : am_ml[214]? = some (yX12_looks, cX12_looks, 4, none, 0, 12, false, (9, 74)) := rfl
theorem mk_215 : Cond.code yX12_laysKey cX12_laysKey 8 (some .boolean) ∈ am_G := List.mem_filter.mpr ⟨am_at_in (q := (9, 70)) rfl, rfl⟩
set_option maxRecDepth 100000 in
theorem ml_215 : am_ml[215]? = some (yX12_laysKey, cX12_laysKey, 8, some .boolean, 2, 12, false, (9, 70)) := rfl
theorem mk_216 : Cond.code yX12_answerTo cX12_answerTo 2 (some .int) ∈ am_G := List.mem_filter.mpr ⟨am_at_in (q := (9, 86)) rfl, rfl⟩
set_option maxRecDepth 100000 in
theorem ml_216 : am_ml[216]? = some (yX12_answerTo, cX12_answerTo, 2, some .int, 1, 12, false, (9, 86)) := rfl
theorem mk_217 : Cond.code yX12_isSame cX12_isSame 6 (some .boolean) ∈ am_G := List.mem_filter.mpr ⟨am_at_in (q := (9, 82)) rfl, rfl⟩
set_option maxRecDepth 100000 in
theorem ml_217 : am_ml[217]? = some (yX12_isSame, cX12_isSame, 6, some .boolean, 2, 12, false, (9, 82)) := rfl
theorem mk_218 : Cond.code yX12_found cX12_found 5 (some .int) ∈ am_G := List.mem_filter.mpr ⟨am_at_in (q := (9, 78)) rfl, rfl⟩
set_option maxRecDepth 100000 in
theorem ml_218 : am_ml[218]? = some (yX12_found, cX12_found, 5, some .int, 1, 12, false, (9, 78)) := rfl
theorem mk_219 : Cond.code yX12_keeps cX12_keeps 5 none ∈ am_G := List.mem_filter.mpr ⟨am_at_in (q := (9, 98)) rfl, rfl⟩
set_option maxRecDepth 100000 in
theorem ml_219 : am_ml[219]? = some (yX12_keeps, cX12_keeps, 5, none, 0, 12, false, (9, 98)) := rfl
theorem mk_220 : Cond.code yX12_waits cX12_waits 5 none ∈ am_G := List.mem_filter.mpr ⟨am_at_in (q := (9, 130)) rfl, rfl⟩
set_option maxRecDepth 100000 in
theorem ml_220 : am_ml[220]? = some (yX12_waits, cX12_waits, 5, none, 0, 12, false, (9, 130)) := rfl
theorem mk_221 : Cond.code yX12_newLine cX12_newLine 1 none ∈ am_G := List.mem_filter.mpr ⟨am_at_in (q := (9, 166)) rfl, rfl⟩
set_option maxRecDepth 100000 in
theorem ml_221 : am_ml[221]? = some (yX12_newLine, cX12_newLine, 1, none, 0, 12, false, (9, 166)) := rfl
theorem mk_222 : Cond.code yX12_lays cX12_lays 4 none ∈ am_G := List.mem_filter.mpr ⟨am_at_in (q := (9, 162)) rfl, rfl⟩
set_option maxRecDepth 100000 in
theorem ml_222 : am_ml[222]? = some (yX12_lays, cX12_lays, 4, none, 0, 12, false, (9, 162)) := rfl
theorem mk_223 : Cond.code yX12_isUsed cX12_isUsed 4 (some .boolean) ∈ am_G := List.mem_filter.mpr ⟨am_at_in (q := (9, 154)) rfl, rfl⟩
set_option maxRecDepth 100000 in
theorem ml_223 : am_ml[223]? = some (yX12_isUsed, cX12_isUsed, 4, some .boolean, 2, 12, false, (9, 154)) := rfl
theorem mk_224 : Cond.code yX12_showOf cX12_showOf 3 (some .int) ∈ am_G := List.mem_filter.mpr ⟨am_at_in (q := (9, 150)) rfl, rfl⟩
set_option maxRecDepth 100000 in
theorem ml_224 : am_ml[224]? = some (yX12_showOf, cX12_showOf, 3, some .int, 1, 12, false, (9, 150)) := rfl
theorem mk_225 : Cond.code yX12_ruleFor cX12_ruleFor 4 (some .int) ∈ am_G := List.mem_filter.mpr ⟨am_at_in (q := (9, 146)) rfl, rfl⟩
set_option maxRecDepth 100000 in
theorem ml_225 : am_ml[225]? = some (yX12_ruleFor, cX12_ruleFor, 4, some .int, 1, 12, false, (9, 146)) := rfl
theorem mk_226 : Cond.code yX12_usesRule cX12_usesRule 6 none ∈ am_G := List.mem_filter.mpr ⟨am_at_in (q := (9, 158)) rfl, rfl⟩
set_option maxRecDepth 100000 in
theorem ml_226 : am_ml[226]? = some (yX12_usesRule, cX12_usesRule, 6, none, 0, 12, false, (9, 158)) := rfl
theorem mk_227 : Cond.code yX12_beginsHeading cX12_beginsHeading 2 none ∈ am_G := List.mem_filter.mpr ⟨am_at_in (q := (9, 170)) rfl, rfl⟩
set_option maxRecDepth 100000 in
theorem ml_227 : am_ml[227]? = some (yX12_beginsHeading, cX12_beginsHeading, 2, none, 0, 12, false, (9, 170)) := rfl
theorem mk_228 : Cond.code yX12_runsLate cX12_runsLate 6 none ∈ am_G := List.mem_filter.mpr ⟨am_at_in (q := (9, 178)) rfl, rfl⟩
set_option maxRecDepth 100000 in
theorem ml_228 : am_ml[228]? = some (yX12_runsLate, cX12_runsLate, 6, none, 0, 12, false, (9, 178)) := rfl
theorem mk_229 : Cond.code yX12_labels cX12_labels 3 none ∈ am_G := List.mem_filter.mpr ⟨am_at_in (q := (9, 174)) rfl, rfl⟩
set_option maxRecDepth 100000 in
theorem ml_229 : am_ml[229]? = some (yX12_labels, cX12_labels, 3, none, 0, 12, false, (9, 174)) := rfl
theorem mk_230 : Cond.code yX12_realizes cX12_realizes 4 none ∈ am_G := List.mem_filter.mpr ⟨am_at_in (q := (9, 142)) rfl, rfl⟩
set_option maxRecDepth 100000 in
theorem ml_230 : am_ml[230]? = some (yX12_realizes, cX12_realizes, 4, none, 0, 12, false, (9, 142)) := rfl
theorem mk_231 : Cond.code yX12_does cX12_does 3 none ∈ am_G := List.mem_filter.mpr ⟨am_at_in (q := (9, 138)) rfl, rfl⟩
set_option maxRecDepth 100000 in
theorem ml_231 : am_ml[231]? = some (yX12_does, cX12_does, 3, none, 0, 12, false, (9, 138)) := rfl
theorem mk_232 : Cond.code yX12_goesOn cX12_goesOn 2 none ∈ am_G := List.mem_filter.mpr ⟨am_at_in (q := (9, 134)) rfl, rfl⟩
set_option maxRecDepth 100000 in
theorem ml_232 : am_ml[232]? = some (yX12_goesOn, cX12_goesOn, 2, none, 0, 12, false, (9, 134)) := rfl
theorem mk_233 : Cond.code yX12_begins cX12_begins 2 none ∈ am_G := List.mem_filter.mpr ⟨am_at_in (q := (8, 188)) rfl, rfl⟩
set_option maxRecDepth 100000 in
theorem ml_233 : am_ml[233]? = some (yX12_begins, cX12_begins, 2, none, 0, 12, false, (8, 188)) := rfl
theorem mk_234 : Cond.code yX12_round cX12_round 2 none ∈ am_G := List.mem_filter.mpr ⟨am_at_in (q := (8, 184)) rfl, rfl⟩
set_option maxRecDepth 100000 in
theorem ml_234 : am_ml[234]? = some (yX12_round, cX12_round, 2, none, 0, 12, false, (8, 184)) := rfl
theorem mk_235 : Cond.code yX12_rounds cX12_rounds 4 (some .int) ∈ am_G := List.mem_filter.mpr ⟨am_at_in (q := (8, 180)) rfl, rfl⟩
set_option maxRecDepth 100000 in
theorem ml_235 : am_ml[235]? = some (yX12_rounds, cX12_rounds, 4, some .int, 1, 12, false, (8, 180)) := rfl
theorem mk_236 : Cond.code yX12_shown cX12_shown 3 (some .int) ∈ am_G := List.mem_filter.mpr ⟨am_at_in (q := (9, 182)) rfl, rfl⟩
set_option maxRecDepth 100000 in
theorem ml_236 : am_ml[236]? = some (yX12_shown, cX12_shown, 3, some .int, 1, 12, false, (9, 182)) := rfl
theorem mk_237 : Cond.code yX12_compile cX12_compile 3 (some .int) ∈ am_G := List.mem_filter.mpr ⟨am_at_in (q := (8, 176)) rfl, rfl⟩
set_option maxRecDepth 100000 in
theorem ml_237 : am_ml[237]? = some (yX12_compile, cX12_compile, 3, some .int, 1, 12, false, (8, 176)) := rfl
theorem mk_238 : Cond.code yX12_isAsAnew cX12_isAsAnew 5 (some .boolean) ∈ am_G := List.mem_filter.mpr ⟨am_at_in (q := (9, 186)) rfl, rfl⟩
set_option maxRecDepth 100000 in
theorem ml_238 : am_ml[238]? = some (yX12_isAsAnew, cX12_isAsAnew, 5, some .boolean, 2, 12, false, (9, 186)) := rfl
theorem mk_239 : Cond.code yX12_isSettled cX12_isSettled 1 (some .boolean) ∈ am_G := List.mem_filter.mpr ⟨am_at_in (q := (9, 190)) rfl, rfl⟩
set_option maxRecDepth 100000 in
theorem ml_239 : am_ml[239]? = some (yX12_isSettled, cX12_isSettled, 1, some .boolean, 2, 12, false, (9, 190)) := rfl
theorem mk_240 : Cond.code yX12_ran cX12_ran 1 (some .int) ∈ am_G := List.mem_filter.mpr ⟨am_at_in (q := (9, 194)) rfl, rfl⟩
set_option maxRecDepth 100000 in
theorem ml_240 : am_ml[240]? = some (yX12_ran, cX12_ran, 1, some .int, 1, 12, false, (9, 194)) := rfl
theorem mk_241 : Cond.code yX12_taken cX12_taken 1 (some .int) ∈ am_G := List.mem_filter.mpr ⟨am_at_in (q := (9, 198)) rfl, rfl⟩
set_option maxRecDepth 100000 in
theorem ml_241 : am_ml[241]? = some (yX12_taken, cX12_taken, 1, some .int, 1, 12, false, (9, 198)) := rfl
theorem mk_242 : Cond.code yX12_kept cX12_kept 1 (some .int) ∈ am_G := List.mem_filter.mpr ⟨am_at_in (q := (9, 202)) rfl, rfl⟩
set_option maxRecDepth 100000 in
theorem ml_242 : am_ml[242]? = some (yX12_kept, cX12_kept, 1, some .int, 1, 12, false, (9, 202)) := rfl
theorem mk_243 : Cond.code yX12_laid cX12_laid 1 (some .int) ∈ am_G := List.mem_filter.mpr ⟨am_at_in (q := (9, 206)) rfl, rfl⟩
set_option maxRecDepth 100000 in
theorem ml_243 : am_ml[243]? = some (yX12_laid, cX12_laid, 1, some .int, 1, 12, false, (9, 206)) := rfl
theorem mk_244 : Cond.code yX12_thing cX12_thing 3 (some .int) ∈ am_G := List.mem_filter.mpr ⟨am_at_in (q := (9, 210)) rfl, rfl⟩
set_option maxRecDepth 100000 in
theorem ml_244 : am_ml[244]? = some (yX12_thing, cX12_thing, 3, some .int, 1, 12, false, (9, 210)) := rfl
theorem mk_245 : Cond.code yX12_faults cX12_faults 1 (some .int) ∈ am_G := List.mem_filter.mpr ⟨am_at_in (q := (9, 214)) rfl, rfl⟩
set_option maxRecDepth 100000 in
theorem ml_245 : am_ml[245]? = some (yX12_faults, cX12_faults, 1, some .int, 1, 12, false, (9, 214)) := rfl
theorem mk_246 : Cond.code yX12_fault cX12_fault 2 (some .int) ∈ am_G := List.mem_filter.mpr ⟨am_at_in (q := (9, 218)) rfl, rfl⟩
set_option maxRecDepth 100000 in
theorem ml_246 : am_ml[246]? = some (yX12_fault, cX12_fault, 2, some .int, 1, 12, false, (9, 218)) := rfl
theorem mk_247 : Cond.code yX12_answer cX12_answer 6 (some .int) ∈ am_G := List.mem_filter.mpr ⟨am_at_in (q := (9, 222)) rfl, rfl⟩
set_option maxRecDepth 100000 in
theorem ml_247 : am_ml[247]? = some (yX12_answer, cX12_answer, 6, some .int, 1, 12, false, (9, 222)) := rfl
theorem mk_248 : Cond.code yX12_valueOf cX12_valueOf 2 (some .int) ∈ am_G := List.mem_filter.mpr ⟨am_at_in (q := (9, 226)) rfl, rfl⟩
set_option maxRecDepth 100000 in
theorem ml_248 : am_ml[248]? = some (yX12_valueOf, cX12_valueOf, 2, some .int, 1, 12, false, (9, 226)) := rfl
theorem mk_249 : Cond.code yJ9_max_7cf53 cJ9_max_7cf53 2 (some .int) ∈ am_G := List.mem_filter.mpr ⟨am_at_in (q := (3, 80)) rfl, rfl⟩
set_option maxRecDepth 100000 in
theorem ml_249 : am_ml[249]? = some (yJ9_max_7cf53, cJ9_max_7cf53, 2, some .int, 1, 15, false, (3, 80)) := rfl
theorem mk_250 : Cond.code yJ9_min_7cf53 cJ9_min_7cf53 2 (some .int) ∈ am_G := List.mem_filter.mpr ⟨am_at_in (q := (2, 211)) rfl, rfl⟩
set_option maxRecDepth 100000 in
theorem ml_250 : am_ml[250]? = some (yJ9_min_7cf53, cJ9_min_7cf53, 2, some .int, 1, 15, false, (2, 211)) := rfl
theorem mk_251 : Cond.code yJ7_rangeCheck_23922 cJ7_rangeCheck_23922 3 none ∈ am_G := List.mem_filter.mpr ⟨am_at_in (q := (2, 220)) rfl, rfl⟩
set_option maxRecDepth 100000 in
theorem ml_251 : am_ml[251]? = some (yJ7_rangeCheck_23922, cJ7_rangeCheck_23922, 3, none, 0, 14, false, (2, 220)) := rfl
theorem mk_252 : Cond.code yJ7_fill_fda19 cJ7_fill_fda19 5 none ∈ am_G := List.mem_filter.mpr ⟨am_at_in (q := (2, 217)) rfl, rfl⟩
set_option maxRecDepth 100000 in
theorem ml_252 : am_ml[252]? = some (yJ7_fill_fda19, cJ7_fill_fda19, 5, none, 0, 14, false, (2, 217)) := rfl
theorem mk_253 : Cond.code yJ7_copyOf_59c91 cJ7_copyOf_59c91 3 (some (.array .int)) ∈ am_G := List.mem_filter.mpr ⟨am_at_in (q := (2, 201)) rfl, rfl⟩
set_option maxRecDepth 100000 in
theorem ml_253 : am_ml[253]? = some (yJ7_copyOf_59c91, cJ7_copyOf_59c91, 3, some (.array .int), 4, 14, false, (2, 201)) := rfl
set_option maxRecDepth 100000 in
theorem ml_254 : am_ml[254]? = some (yL_put, cL_put, 7, some .int, 1, 13, false, (99, 0)) := rfl
set_option maxRecDepth 100000 in
theorem ml_255 : am_ml[255]? = some (yL_cut, cL_cut, 5, some .int, 1, 13, false, (99, 0)) := rfl
set_option maxRecDepth 100000 in
theorem ml_256 : am_ml[256]? = some (yL_token, cL_token, 5, some .int, 1, 13, false, (99, 0)) := rfl
set_option maxRecDepth 100000 in
theorem ml_257 : am_ml[257]? = some (yL_setPage, cL_setPage, 5, some .int, 1, 13, false, (99, 0)) := rfl
set_option maxRecDepth 100000 in
theorem ml_258 : am_ml[258]? = some (yL_thing, cL_thing, 5, some .int, 1, 13, false, (99, 0)) := rfl
set_option maxRecDepth 100000 in
theorem ml_259 : am_ml[259]? = some (yL_fault, cL_fault, 4, some .int, 1, 13, false, (99, 0)) := rfl
set_option maxRecDepth 100000 in
theorem ml_260 : am_ml[260]? = some (yL_answer, cL_answer, 6, some .int, 1, 13, false, (99, 0)) := rfl
set_option maxRecDepth 100000 in
theorem ml_261 : am_ml[261]? = some (yL_valueOf, cL_valueOf, 4, some .int, 1, 13, false, (99, 0)) := rfl
def am_mc (mid : Nat) : Nat := match am_ml[mid]? with
  | some M => M.2.2.2.2.2.1 + 3
  | none => 0
theorem mc_0 : am_mc 0 = 3 := rfl
theorem mc_1 : am_mc 1 = 3 := rfl
theorem mc_2 : am_mc 2 = 3 := rfl
theorem mc_3 : am_mc 3 = 3 := rfl
theorem mc_4 : am_mc 4 = 3 := rfl
theorem mc_5 : am_mc 5 = 3 := rfl
theorem mc_6 : am_mc 6 = 3 := rfl
theorem mc_7 : am_mc 7 = 3 := rfl
theorem mc_8 : am_mc 8 = 4 := rfl
theorem mc_9 : am_mc 9 = 4 := rfl
theorem mc_10 : am_mc 10 = 4 := rfl
theorem mc_11 : am_mc 11 = 4 := rfl
theorem mc_12 : am_mc 12 = 4 := rfl
theorem mc_13 : am_mc 13 = 4 := rfl
theorem mc_14 : am_mc 14 = 4 := rfl
theorem mc_15 : am_mc 15 = 4 := rfl
theorem mc_16 : am_mc 16 = 4 := rfl
theorem mc_17 : am_mc 17 = 5 := rfl
theorem mc_18 : am_mc 18 = 5 := rfl
theorem mc_19 : am_mc 19 = 5 := rfl
theorem mc_20 : am_mc 20 = 5 := rfl
theorem mc_21 : am_mc 21 = 5 := rfl
theorem mc_22 : am_mc 22 = 5 := rfl
theorem mc_23 : am_mc 23 = 5 := rfl
theorem mc_24 : am_mc 24 = 5 := rfl
theorem mc_25 : am_mc 25 = 5 := rfl
theorem mc_26 : am_mc 26 = 5 := rfl
theorem mc_27 : am_mc 27 = 5 := rfl
theorem mc_28 : am_mc 28 = 5 := rfl
theorem mc_29 : am_mc 29 = 5 := rfl
theorem mc_30 : am_mc 30 = 5 := rfl
theorem mc_31 : am_mc 31 = 5 := rfl
theorem mc_32 : am_mc 32 = 5 := rfl
theorem mc_33 : am_mc 33 = 5 := rfl
theorem mc_34 : am_mc 34 = 5 := rfl
theorem mc_35 : am_mc 35 = 5 := rfl
theorem mc_36 : am_mc 36 = 5 := rfl
theorem mc_37 : am_mc 37 = 5 := rfl
theorem mc_38 : am_mc 38 = 5 := rfl
theorem mc_39 : am_mc 39 = 6 := rfl
theorem mc_40 : am_mc 40 = 6 := rfl
theorem mc_41 : am_mc 41 = 6 := rfl
theorem mc_42 : am_mc 42 = 6 := rfl
theorem mc_43 : am_mc 43 = 6 := rfl
theorem mc_44 : am_mc 44 = 6 := rfl
theorem mc_45 : am_mc 45 = 6 := rfl
theorem mc_46 : am_mc 46 = 6 := rfl
theorem mc_47 : am_mc 47 = 6 := rfl
theorem mc_48 : am_mc 48 = 6 := rfl
theorem mc_49 : am_mc 49 = 6 := rfl
theorem mc_50 : am_mc 50 = 6 := rfl
theorem mc_51 : am_mc 51 = 6 := rfl
theorem mc_52 : am_mc 52 = 6 := rfl
theorem mc_53 : am_mc 53 = 6 := rfl
theorem mc_54 : am_mc 54 = 6 := rfl
theorem mc_55 : am_mc 55 = 7 := rfl
theorem mc_56 : am_mc 56 = 7 := rfl
theorem mc_57 : am_mc 57 = 7 := rfl
theorem mc_58 : am_mc 58 = 7 := rfl
theorem mc_59 : am_mc 59 = 7 := rfl
theorem mc_60 : am_mc 60 = 7 := rfl
theorem mc_61 : am_mc 61 = 8 := rfl
theorem mc_62 : am_mc 62 = 8 := rfl
theorem mc_63 : am_mc 63 = 9 := rfl
theorem mc_64 : am_mc 64 = 9 := rfl
theorem mc_65 : am_mc 65 = 9 := rfl
theorem mc_66 : am_mc 66 = 9 := rfl
theorem mc_67 : am_mc 67 = 10 := rfl
theorem mc_68 : am_mc 68 = 10 := rfl
theorem mc_69 : am_mc 69 = 10 := rfl
theorem mc_70 : am_mc 70 = 10 := rfl
theorem mc_71 : am_mc 71 = 10 := rfl
theorem mc_72 : am_mc 72 = 10 := rfl
theorem mc_73 : am_mc 73 = 11 := rfl
theorem mc_74 : am_mc 74 = 11 := rfl
theorem mc_75 : am_mc 75 = 11 := rfl
theorem mc_76 : am_mc 76 = 11 := rfl
theorem mc_77 : am_mc 77 = 11 := rfl
theorem mc_78 : am_mc 78 = 11 := rfl
theorem mc_79 : am_mc 79 = 11 := rfl
theorem mc_80 : am_mc 80 = 11 := rfl
theorem mc_81 : am_mc 81 = 11 := rfl
theorem mc_82 : am_mc 82 = 11 := rfl
theorem mc_83 : am_mc 83 = 11 := rfl
theorem mc_84 : am_mc 84 = 11 := rfl
theorem mc_85 : am_mc 85 = 11 := rfl
theorem mc_86 : am_mc 86 = 11 := rfl
theorem mc_87 : am_mc 87 = 11 := rfl
theorem mc_88 : am_mc 88 = 11 := rfl
theorem mc_89 : am_mc 89 = 11 := rfl
theorem mc_90 : am_mc 90 = 11 := rfl
theorem mc_91 : am_mc 91 = 11 := rfl
theorem mc_92 : am_mc 92 = 11 := rfl
theorem mc_93 : am_mc 93 = 11 := rfl
theorem mc_94 : am_mc 94 = 11 := rfl
theorem mc_95 : am_mc 95 = 11 := rfl
theorem mc_96 : am_mc 96 = 11 := rfl
theorem mc_97 : am_mc 97 = 11 := rfl
theorem mc_98 : am_mc 98 = 11 := rfl
theorem mc_99 : am_mc 99 = 11 := rfl
theorem mc_100 : am_mc 100 = 11 := rfl
theorem mc_101 : am_mc 101 = 11 := rfl
theorem mc_102 : am_mc 102 = 11 := rfl
theorem mc_103 : am_mc 103 = 11 := rfl
theorem mc_104 : am_mc 104 = 11 := rfl
theorem mc_105 : am_mc 105 = 11 := rfl
theorem mc_106 : am_mc 106 = 11 := rfl
theorem mc_107 : am_mc 107 = 11 := rfl
theorem mc_108 : am_mc 108 = 11 := rfl
theorem mc_109 : am_mc 109 = 11 := rfl
theorem mc_110 : am_mc 110 = 12 := rfl
theorem mc_111 : am_mc 111 = 12 := rfl
theorem mc_112 : am_mc 112 = 12 := rfl
theorem mc_113 : am_mc 113 = 12 := rfl
theorem mc_114 : am_mc 114 = 12 := rfl
theorem mc_115 : am_mc 115 = 12 := rfl
theorem mc_116 : am_mc 116 = 12 := rfl
theorem mc_117 : am_mc 117 = 12 := rfl
theorem mc_118 : am_mc 118 = 12 := rfl
theorem mc_119 : am_mc 119 = 12 := rfl
theorem mc_120 : am_mc 120 = 12 := rfl
theorem mc_121 : am_mc 121 = 12 := rfl
theorem mc_122 : am_mc 122 = 12 := rfl
theorem mc_123 : am_mc 123 = 12 := rfl
theorem mc_124 : am_mc 124 = 12 := rfl
theorem mc_125 : am_mc 125 = 12 := rfl
theorem mc_126 : am_mc 126 = 12 := rfl
theorem mc_127 : am_mc 127 = 13 := rfl
theorem mc_128 : am_mc 128 = 13 := rfl
theorem mc_129 : am_mc 129 = 13 := rfl
theorem mc_130 : am_mc 130 = 13 := rfl
theorem mc_131 : am_mc 131 = 13 := rfl
theorem mc_132 : am_mc 132 = 13 := rfl
theorem mc_133 : am_mc 133 = 13 := rfl
theorem mc_134 : am_mc 134 = 13 := rfl
theorem mc_135 : am_mc 135 = 13 := rfl
theorem mc_136 : am_mc 136 = 13 := rfl
theorem mc_137 : am_mc 137 = 13 := rfl
theorem mc_138 : am_mc 138 = 13 := rfl
theorem mc_139 : am_mc 139 = 13 := rfl
theorem mc_140 : am_mc 140 = 13 := rfl
theorem mc_141 : am_mc 141 = 13 := rfl
theorem mc_142 : am_mc 142 = 13 := rfl
theorem mc_143 : am_mc 143 = 14 := rfl
theorem mc_144 : am_mc 144 = 14 := rfl
theorem mc_145 : am_mc 145 = 14 := rfl
theorem mc_146 : am_mc 146 = 14 := rfl
theorem mc_147 : am_mc 147 = 14 := rfl
theorem mc_148 : am_mc 148 = 14 := rfl
theorem mc_149 : am_mc 149 = 14 := rfl
theorem mc_150 : am_mc 150 = 14 := rfl
theorem mc_151 : am_mc 151 = 14 := rfl
theorem mc_152 : am_mc 152 = 14 := rfl
theorem mc_153 : am_mc 153 = 14 := rfl
theorem mc_154 : am_mc 154 = 14 := rfl
theorem mc_155 : am_mc 155 = 14 := rfl
theorem mc_156 : am_mc 156 = 14 := rfl
theorem mc_157 : am_mc 157 = 14 := rfl
theorem mc_158 : am_mc 158 = 14 := rfl
theorem mc_159 : am_mc 159 = 14 := rfl
theorem mc_160 : am_mc 160 = 14 := rfl
theorem mc_161 : am_mc 161 = 14 := rfl
theorem mc_162 : am_mc 162 = 14 := rfl
theorem mc_163 : am_mc 163 = 14 := rfl
theorem mc_164 : am_mc 164 = 14 := rfl
theorem mc_165 : am_mc 165 = 15 := rfl
theorem mc_166 : am_mc 166 = 15 := rfl
theorem mc_167 : am_mc 167 = 15 := rfl
theorem mc_168 : am_mc 168 = 15 := rfl
theorem mc_169 : am_mc 169 = 15 := rfl
theorem mc_170 : am_mc 170 = 15 := rfl
theorem mc_171 : am_mc 171 = 15 := rfl
theorem mc_172 : am_mc 172 = 15 := rfl
theorem mc_173 : am_mc 173 = 15 := rfl
theorem mc_174 : am_mc 174 = 15 := rfl
theorem mc_175 : am_mc 175 = 15 := rfl
theorem mc_176 : am_mc 176 = 15 := rfl
theorem mc_177 : am_mc 177 = 15 := rfl
theorem mc_178 : am_mc 178 = 15 := rfl
theorem mc_179 : am_mc 179 = 15 := rfl
theorem mc_180 : am_mc 180 = 15 := rfl
theorem mc_181 : am_mc 181 = 15 := rfl
theorem mc_182 : am_mc 182 = 15 := rfl
theorem mc_183 : am_mc 183 = 15 := rfl
theorem mc_184 : am_mc 184 = 15 := rfl
theorem mc_185 : am_mc 185 = 15 := rfl
theorem mc_186 : am_mc 186 = 15 := rfl
theorem mc_187 : am_mc 187 = 15 := rfl
theorem mc_188 : am_mc 188 = 15 := rfl
theorem mc_189 : am_mc 189 = 15 := rfl
theorem mc_190 : am_mc 190 = 15 := rfl
theorem mc_191 : am_mc 191 = 15 := rfl
theorem mc_192 : am_mc 192 = 15 := rfl
theorem mc_193 : am_mc 193 = 15 := rfl
theorem mc_194 : am_mc 194 = 15 := rfl
theorem mc_195 : am_mc 195 = 15 := rfl
theorem mc_196 : am_mc 196 = 15 := rfl
theorem mc_197 : am_mc 197 = 15 := rfl
theorem mc_198 : am_mc 198 = 15 := rfl
theorem mc_199 : am_mc 199 = 15 := rfl
theorem mc_200 : am_mc 200 = 15 := rfl
theorem mc_201 : am_mc 201 = 15 := rfl
theorem mc_202 : am_mc 202 = 15 := rfl
theorem mc_203 : am_mc 203 = 15 := rfl
theorem mc_204 : am_mc 204 = 15 := rfl
theorem mc_205 : am_mc 205 = 15 := rfl
theorem mc_206 : am_mc 206 = 15 := rfl
theorem mc_207 : am_mc 207 = 15 := rfl
theorem mc_208 : am_mc 208 = 15 := rfl
theorem mc_209 : am_mc 209 = 15 := rfl
theorem mc_210 : am_mc 210 = 15 := rfl
theorem mc_211 : am_mc 211 = 15 := rfl
theorem mc_212 : am_mc 212 = 15 := rfl
theorem mc_213 : am_mc 213 = 15 := rfl
theorem mc_214 : am_mc 214 = 15 := rfl
theorem mc_215 : am_mc 215 = 15 := rfl
theorem mc_216 : am_mc 216 = 15 := rfl
theorem mc_217 : am_mc 217 = 15 := rfl
theorem mc_218 : am_mc 218 = 15 := rfl
theorem mc_219 : am_mc 219 = 15 := rfl
theorem mc_220 : am_mc 220 = 15 := rfl
theorem mc_221 : am_mc 221 = 15 := rfl
theorem mc_222 : am_mc 222 = 15 := rfl
theorem mc_223 : am_mc 223 = 15 := rfl
theorem mc_224 : am_mc 224 = 15 := rfl
theorem mc_225 : am_mc 225 = 15 := rfl
theorem mc_226 : am_mc 226 = 15 := rfl
theorem mc_227 : am_mc 227 = 15 := rfl
theorem mc_228 : am_mc 228 = 15 := rfl
theorem mc_229 : am_mc 229 = 15 := rfl
theorem mc_230 : am_mc 230 = 15 := rfl
theorem mc_231 : am_mc 231 = 15 := rfl
theorem mc_232 : am_mc 232 = 15 := rfl
theorem mc_233 : am_mc 233 = 15 := rfl
theorem mc_234 : am_mc 234 = 15 := rfl
theorem mc_235 : am_mc 235 = 15 := rfl
theorem mc_236 : am_mc 236 = 15 := rfl
theorem mc_237 : am_mc 237 = 15 := rfl
theorem mc_238 : am_mc 238 = 15 := rfl
theorem mc_239 : am_mc 239 = 15 := rfl
theorem mc_240 : am_mc 240 = 15 := rfl
theorem mc_241 : am_mc 241 = 15 := rfl
theorem mc_242 : am_mc 242 = 15 := rfl
theorem mc_243 : am_mc 243 = 15 := rfl
theorem mc_244 : am_mc 244 = 15 := rfl
theorem mc_245 : am_mc 245 = 15 := rfl
theorem mc_246 : am_mc 246 = 15 := rfl
theorem mc_247 : am_mc 247 = 15 := rfl
theorem mc_248 : am_mc 248 = 15 := rfl
theorem mc_249 : am_mc 249 = 18 := rfl
theorem mc_250 : am_mc 250 = 18 := rfl
theorem mc_251 : am_mc 251 = 17 := rfl
theorem mc_252 : am_mc 252 = 17 := rfl
theorem mc_253 : am_mc 253 = 17 := rfl
theorem mc_254 : am_mc 254 = 16 := rfl
theorem mc_255 : am_mc 255 = 16 := rfl
theorem mc_256 : am_mc 256 = 16 := rfl
theorem mc_257 : am_mc 257 = 16 := rfl
theorem mc_258 : am_mc 258 = 16 := rfl
theorem mc_259 : am_mc 259 = 16 := rfl
theorem mc_260 : am_mc 260 = 16 := rfl
theorem mc_261 : am_mc 261 = 16 := rfl
theorem tk_3_0 : am_tk 3 0 = 3 := rfl
theorem tk_3_1 : am_tk 3 1 = 3 := rfl
theorem tk_3_2 : am_tk 3 2 = 3 := rfl
theorem tk_4_0 : am_tk 4 0 = 3 := rfl
theorem tk_4_1 : am_tk 4 1 = 0 := rfl
theorem tk_5_0 : am_tk 5 0 = 3 := rfl
theorem tk_5_1 : am_tk 5 1 = 3 := rfl
theorem tk_5_2 : am_tk 5 2 = 0 := rfl
theorem tk_5_3 : am_tk 5 3 = 0 := rfl
theorem tk_6_0 : am_tk 6 0 = 3 := rfl
theorem tk_6_1 : am_tk 6 1 = 0 := rfl
theorem tk_7_0 : am_tk 7 0 = 3 := rfl
theorem tk_7_1 : am_tk 7 1 = 3 := rfl
theorem tk_7_2 : am_tk 7 2 = 3 := rfl
theorem tk_7_3 : am_tk 7 3 = 3 := rfl
theorem tk_7_4 : am_tk 7 4 = 3 := rfl
theorem tk_7_5 : am_tk 7 5 = 3 := rfl
theorem tk_8_0 : am_tk 8 0 = 3 := rfl
theorem tk_8_1 : am_tk 8 1 = 3 := rfl
theorem tk_8_2 : am_tk 8 2 = 3 := rfl
theorem tk_8_3 : am_tk 8 3 = 3 := rfl
theorem tk_8_4 : am_tk 8 4 = 0 := rfl
theorem tk_8_5 : am_tk 8 5 = 0 := rfl
theorem tk_8_6 : am_tk 8 6 = 0 := rfl
theorem tk_8_7 : am_tk 8 7 = 0 := rfl
theorem tk_8_8 : am_tk 8 8 = 0 := rfl
theorem tk_8_9 : am_tk 8 9 = 1 := rfl
theorem tk_9_0 : am_tk 9 0 = 3 := rfl
theorem tk_9_1 : am_tk 9 1 = 3 := rfl
theorem tk_9_2 : am_tk 9 2 = 3 := rfl
theorem tk_9_3 : am_tk 9 3 = 0 := rfl
theorem tk_9_4 : am_tk 9 4 = 0 := rfl
theorem tk_9_5 : am_tk 9 5 = 0 := rfl
theorem tk_9_6 : am_tk 9 6 = 0 := rfl
theorem tk_9_7 : am_tk 9 7 = 3 := rfl
theorem tk_10_0 : am_tk 10 0 = 3 := rfl
theorem tk_11_0 : am_tk 11 0 = 3 := rfl
theorem tk_11_1 : am_tk 11 1 = 3 := rfl
theorem tk_11_2 : am_tk 11 2 = 3 := rfl
theorem tk_11_3 : am_tk 11 3 = 3 := rfl
theorem tk_11_4 : am_tk 11 4 = 3 := rfl
theorem tk_11_5 : am_tk 11 5 = 3 := rfl
theorem tk_11_6 : am_tk 11 6 = 3 := rfl
theorem tk_11_7 : am_tk 11 7 = 3 := rfl
theorem tk_11_8 : am_tk 11 8 = 3 := rfl
theorem tk_11_9 : am_tk 11 9 = 3 := rfl
theorem tk_11_10 : am_tk 11 10 = 0 := rfl
theorem tk_11_11 : am_tk 11 11 = 0 := rfl
theorem tk_11_12 : am_tk 11 12 = 0 := rfl
theorem tk_11_13 : am_tk 11 13 = 0 := rfl
theorem tk_11_14 : am_tk 11 14 = 0 := rfl
theorem tk_11_15 : am_tk 11 15 = 0 := rfl
theorem tk_11_16 : am_tk 11 16 = 0 := rfl
theorem tk_11_17 : am_tk 11 17 = 1 := rfl
theorem tk_12_0 : am_tk 12 0 = 3 := rfl
theorem tk_12_1 : am_tk 12 1 = 3 := rfl
theorem tk_12_2 : am_tk 12 2 = 3 := rfl
theorem tk_12_3 : am_tk 12 3 = 3 := rfl
theorem tk_12_4 : am_tk 12 4 = 3 := rfl
theorem tk_12_5 : am_tk 12 5 = 3 := rfl
theorem tk_12_6 : am_tk 12 6 = 3 := rfl
theorem tk_12_7 : am_tk 12 7 = 0 := rfl
theorem tk_12_8 : am_tk 12 8 = 0 := rfl
theorem tk_12_9 : am_tk 12 9 = 0 := rfl
theorem tk_12_10 : am_tk 12 10 = 0 := rfl
theorem tk_12_11 : am_tk 12 11 = 0 := rfl
theorem tk_12_12 : am_tk 12 12 = 0 := rfl
theorem tk_12_13 : am_tk 12 13 = 0 := rfl
theorem tk_12_14 : am_tk 12 14 = 0 := rfl
theorem tk_12_15 : am_tk 12 15 = 0 := rfl
theorem tk_12_16 : am_tk 12 16 = 0 := rfl
theorem tk_13_0 : am_tk 13 0 = 3 := rfl
theorem tk_13_1 : am_tk 13 1 = 3 := rfl
theorem tk_13_2 : am_tk 13 2 = 3 := rfl
theorem tk_13_3 : am_tk 13 3 = 3 := rfl
theorem tk_13_4 : am_tk 13 4 = 0 := rfl
theorem tk_13_5 : am_tk 13 5 = 0 := rfl
theorem tk_13_6 : am_tk 13 6 = 0 := rfl
theorem tk_14_0 : am_tk 14 0 = 3 := rfl
theorem tk_14_1 : am_tk 14 1 = 3 := rfl
theorem tk_14_2 : am_tk 14 2 = 3 := rfl
theorem tk_14_3 : am_tk 14 3 = 3 := rfl
theorem tk_14_4 : am_tk 14 4 = 1 := rfl
theorem tk_15_0 : am_tk 15 0 = 3 := rfl
theorem tk_15_1 : am_tk 15 1 = 3 := rfl
theorem tk_15_2 : am_tk 15 2 = 3 := rfl
theorem tk_15_3 : am_tk 15 3 = 0 := rfl
theorem tk_15_4 : am_tk 15 4 = 0 := rfl
theorem tk_15_5 : am_tk 15 5 = 0 := rfl
theorem tk_15_6 : am_tk 15 6 = 3 := rfl
theorem tk_15_7 : am_tk 15 7 = 3 := rfl
theorem tk_15_8 : am_tk 15 8 = 3 := rfl
theorem tk_15_9 : am_tk 15 9 = 3 := rfl
theorem tk_15_10 : am_tk 15 10 = 3 := rfl
theorem tk_15_11 : am_tk 15 11 = 3 := rfl
theorem tk_15_12 : am_tk 15 12 = 3 := rfl
theorem tk_15_13 : am_tk 15 13 = 0 := rfl
theorem tk_15_14 : am_tk 15 14 = 0 := rfl
theorem tk_15_15 : am_tk 15 15 = 0 := rfl
theorem tk_15_16 : am_tk 15 16 = 3 := rfl
theorem tk_15_17 : am_tk 15 17 = 0 := rfl
theorem tk_15_18 : am_tk 15 18 = 3 := rfl
theorem tk_15_19 : am_tk 15 19 = 3 := rfl
theorem tk_15_20 : am_tk 15 20 = 3 := rfl
theorem tk_15_21 : am_tk 15 21 = 0 := rfl
theorem tk_15_22 : am_tk 15 22 = 3 := rfl
theorem tk_15_23 : am_tk 15 23 = 3 := rfl
theorem tk_15_24 : am_tk 15 24 = 3 := rfl
theorem tk_15_25 : am_tk 15 25 = 3 := rfl
theorem tk_15_26 : am_tk 15 26 = 0 := rfl
theorem tk_15_27 : am_tk 15 27 = 3 := rfl
theorem tk_15_28 : am_tk 15 28 = 3 := rfl
theorem tk_15_29 : am_tk 15 29 = 3 := rfl
theorem tk_15_30 : am_tk 15 30 = 3 := rfl
theorem tk_15_31 : am_tk 15 31 = 3 := rfl
theorem tk_15_32 : am_tk 15 32 = 3 := rfl
theorem tk_15_33 : am_tk 15 33 = 0 := rfl
theorem tk_15_34 : am_tk 15 34 = 3 := rfl
theorem tk_15_35 : am_tk 15 35 = 0 := rfl
theorem tk_15_36 : am_tk 15 36 = 3 := rfl
theorem tk_15_37 : am_tk 15 37 = 3 := rfl
theorem tk_15_38 : am_tk 15 38 = 3 := rfl
theorem tk_15_39 : am_tk 15 39 = 0 := rfl
theorem tk_15_40 : am_tk 15 40 = 0 := rfl
theorem tk_15_41 : am_tk 15 41 = 0 := rfl
theorem tk_15_42 : am_tk 15 42 = 3 := rfl
theorem tk_15_43 : am_tk 15 43 = 0 := rfl
theorem tk_15_44 : am_tk 15 44 = 0 := rfl
theorem tk_15_45 : am_tk 15 45 = 0 := rfl
theorem tk_15_46 : am_tk 15 46 = 2 := rfl
theorem tk_15_47 : am_tk 15 47 = 1 := rfl
theorem tk_15_48 : am_tk 15 48 = 3 := rfl
theorem tk_15_49 : am_tk 15 49 = 3 := rfl
theorem tk_15_50 : am_tk 15 50 = 3 := rfl
theorem tk_15_51 : am_tk 15 51 = 3 := rfl
theorem tk_15_52 : am_tk 15 52 = 0 := rfl
theorem tk_15_53 : am_tk 15 53 = 3 := rfl
theorem tk_15_54 : am_tk 15 54 = 3 := rfl
theorem tk_15_55 : am_tk 15 55 = 3 := rfl
theorem tk_15_56 : am_tk 15 56 = 3 := rfl
theorem tk_15_57 : am_tk 15 57 = 0 := rfl
theorem tk_15_58 : am_tk 15 58 = 0 := rfl
theorem tk_15_59 : am_tk 15 59 = 0 := rfl
theorem tk_15_60 : am_tk 15 60 = 3 := rfl
theorem tk_15_61 : am_tk 15 61 = 0 := rfl
theorem tk_15_62 : am_tk 15 62 = 0 := rfl
theorem tk_15_63 : am_tk 15 63 = 3 := rfl
theorem tk_15_64 : am_tk 15 64 = 0 := rfl
theorem tk_15_65 : am_tk 15 65 = 0 := rfl
theorem tk_15_66 : am_tk 15 66 = 0 := rfl
theorem tk_15_67 : am_tk 15 67 = 0 := rfl
theorem tk_15_68 : am_tk 15 68 = 0 := rfl
theorem tk_15_69 : am_tk 15 69 = 3 := rfl
theorem tk_15_70 : am_tk 15 70 = 0 := rfl
theorem tk_15_71 : am_tk 15 71 = 3 := rfl
theorem tk_15_72 : am_tk 15 72 = 3 := rfl
theorem tk_15_73 : am_tk 15 73 = 3 := rfl
theorem tk_15_74 : am_tk 15 74 = 3 := rfl
theorem tk_15_75 : am_tk 15 75 = 3 := rfl
theorem tk_15_76 : am_tk 15 76 = 3 := rfl
theorem tk_15_77 : am_tk 15 77 = 3 := rfl
theorem tk_15_78 : am_tk 15 78 = 3 := rfl
theorem tk_15_79 : am_tk 15 79 = 0 := rfl
theorem tk_15_80 : am_tk 15 80 = 0 := rfl
theorem tk_15_81 : am_tk 15 81 = 0 := rfl
theorem tk_15_82 : am_tk 15 82 = 3 := rfl
theorem tk_15_83 : am_tk 15 83 = 1 := rfl
theorem tk_15_84 : am_tk 15 84 = 0 := rfl
theorem tk_15_85 : am_tk 15 85 = 1 := rfl
theorem tk_15_86 : am_tk 15 86 = 1 := rfl
theorem tk_15_87 : am_tk 15 87 = 0 := rfl
theorem tk_15_88 : am_tk 15 88 = 3 := rfl
theorem tk_15_89 : am_tk 15 89 = 0 := rfl
theorem tk_15_90 : am_tk 15 90 = 3 := rfl
theorem tk_15_91 : am_tk 15 91 = 3 := rfl
theorem tk_15_92 : am_tk 15 92 = 3 := rfl
theorem tk_15_93 : am_tk 15 93 = 0 := rfl
def am_nwp : List (Nat × Nat) := [(1, 43), (1, 76), (1, 91), (1, 112), (1, 120), (1, 220), (2, 169), (4, 143), (4, 198), (4, 215), (5, 38), (5, 68), (5, 69), (6, 22), (6, 40), (6, 74)]
def am_NW : List Cond := am_nwp.filterMap am_at
theorem am_NW_in : ∀ w ∈ am_NW, w ∈ lw_tbl := by
  intro w hw
  obtain ⟨q, -, h⟩ := List.mem_filterMap.mp hw
  exact am_at_in h
def am_isN : Cond → Bool
  | .methodLinkNest _ _ _ _ => true
  | _ => false
set_option maxRecDepth 100000 in
theorem am_nwp_all : am_NW.all am_isN = true := by decide +kernel
theorem am_nwp_ok : ∀ w ∈ am_NW, ∃ o i y b, w = .methodLinkNest o i y b := by
  intro w hw
  have h := List.all_eq_true.mp am_nwp_all w hw
  cases w <;> first | exact ⟨_, _, _, _, rfl⟩ | (exfalso; cases h)
/-- calls: whose, the place in the pool, the kind (0 virtual, 1 static, 2 constructor, 3 static of a nest mate, 4 its constructor), the method, how many arguments, places -/
abbrev am_D : Type := Nat × Nat × Nat × Nat × Nat × List (Nat × Nat)
def am_cs : List am_D := [(0, 11, 2, 67, 0, [(1, 49), (1, 50), (1, 3)]), (0, 24, 0, 68, 1, [(4, 101), (4, 76), (4, 77), (1, 3)]), (0, 28, 0, 2, 1, [(7, 9), (4, 119), (4, 120), (1, 2)]), (0, 31, 0, 3, 1, [(7, 11), (4, 129), (4, 130), (1, 2)]), (0, 34, 0, 1, 1, [(7, 4), (4, 98), (4, 99), (1, 2)]), (0, 37, 0, 7, 2, [(7, 5), (7, 7), (0, 45), (1, 2)]), (0, 41, 0, 69, 2, [(7, 10), (4, 80), (4, 81), (1, 3)]), (1, 9, 2, 67, 0, [(1, 225), (1, 50), (1, 3)]), (1, 20, 0, 70, 3, [(4, 167), (2, 195), (2, 196), (1, 3)]), (1, 24, 0, 69, 2, [(4, 168), (4, 80), (4, 81), (1, 3)]), (1, 28, 1, 249, 2, [(5, 20), (3, 79), (1, 21)]), (1, 34, 0, 68, 1, [(5, 6), (4, 76), (4, 77), (1, 3)]), (2, 11, 2, 67, 0, [(1, 96), (1, 50), (1, 3)]), (2, 27, 1, 249, 2, [(4, 213), (3, 79), (1, 21)]), (2, 33, 1, 253, 2, [(4, 214), (2, 200), (1, 20)]), (2, 39, 0, 20, 5, [(5, 45), (4, 209), (4, 210), (1, 6)]), (2, 43, 0, 24, 4, [(5, 112), (5, 113), (5, 114), (1, 6)]), (2, 47, 0, 29, 2, [(5, 50), (5, 51), (5, 52), (1, 6)]), (2, 50, 0, 19, 3, [(5, 55), (5, 57), (0, 17), (1, 6)]), (2, 54, 0, 32, 1, [(5, 34), (5, 35), (5, 36), (1, 6)]), (2, 58, 0, 31, 1, [(5, 41), (5, 42), (5, 43), (1, 6)]), (2, 61, 0, 27, 3, [(5, 46), (5, 48), (0, 16), (1, 6)]), (2, 65, 0, 30, 1, [(5, 63), (5, 26), (5, 27), (1, 6)]), (2, 69, 1, 250, 2, [(5, 54), (2, 210), (1, 21)]), (2, 72, 3, 161, 1, [(5, 38), (5, 39), (1, 1)]), (2, 75, 0, 18, 2, [(5, 29), (4, 155), (4, 156), (1, 6)]), (2, 78, 0, 70, 3, [(6, 122), (2, 195), (2, 196), (1, 3)]), (2, 81, 0, 40, 0, [(6, 123), (6, 124), (6, 125), (1, 5)]), (2, 87, 0, 41, 1, [(6, 127), (5, 163), (5, 164), (1, 5)]), (2, 90, 0, 36, 2, [(6, 128), (6, 130), (0, 42), (1, 6)]), (2, 94, 0, 68, 1, [(6, 133), (4, 76), (4, 77), (1, 3)]), (2, 96, 0, 37, 3, [(6, 134), (6, 136), (0, 43), (1, 6)]), (2, 99, 0, 69, 2, [(6, 132), (4, 80), (4, 81), (1, 3)]), (2, 101, 0, 38, 2, [(6, 138), (6, 140), (0, 44), (1, 6)]), (2, 104, 0, 42, 2, [(6, 142), (6, 143), (6, 144), (1, 5)]), (2, 110, 0, 34, 2, [(6, 118), (6, 119), (6, 120), (1, 6)]), (3, 13, 2, 67, 0, [(1, 81), (1, 50), (1, 3)]), (3, 22, 0, 68, 1, [(5, 141), (4, 76), (4, 77), (1, 3)]), (3, 26, 0, 69, 2, [(5, 196), (4, 80), (4, 81), (1, 3)]), (3, 30, 0, 48, 2, [(5, 142), (5, 144), (0, 25), (1, 5)]), (3, 34, 0, 49, 2, [(5, 146), (5, 148), (0, 26), (1, 5)]), (3, 38, 0, 44, 1, [(5, 150), (5, 151), (5, 152), (1, 5)]), (3, 46, 0, 45, 1, [(5, 154), (5, 155), (5, 156), (1, 5)]), (3, 52, 0, 70, 3, [(5, 209), (2, 195), (2, 196), (1, 3)]), (4, 11, 4, 39, 0, [(1, 76), (1, 77), (1, 5)]), (4, 20, 4, 17, 0, [(1, 91), (1, 92), (1, 6)]), (4, 27, 4, 63, 0, [(1, 112), (1, 113), (1, 7)]), (4, 34, 4, 8, 0, [(1, 220), (1, 221), (1, 9)]), (4, 41, 2, 127, 2, [(1, 235), (1, 236), (1, 10)]), (4, 46, 2, 73, 6, [(2, 25), (2, 26), (1, 11)]), (4, 55, 2, 110, 5, [(2, 91), (2, 92), (1, 12)]), (4, 62, 0, 111, 2, [(7, 54), (7, 55), (7, 56), (1, 12)]), (4, 66, 0, 40, 0, [(6, 176), (6, 124), (6, 125), (1, 5)]), (4, 70, 0, 54, 1, [(7, 16), (7, 17), (7, 18), (1, 5)]), (4, 74, 0, 34, 2, [(7, 20), (6, 119), (6, 120), (1, 6)]), (4, 102, 0, 70, 3, [(2, 194), (2, 195), (2, 196), (1, 3)]), (4, 108, 0, 64, 0, [(4, 67), (4, 68), (4, 69), (1, 7)]), (4, 111, 0, 74, 1, [(4, 84), (4, 85), (4, 86), (1, 11)]), (4, 114, 0, 60, 0, [(4, 181), (4, 183), (0, 9), (1, 4)]), (4, 120, 0, 112, 1, [(6, 99), (6, 100), (6, 101), (1, 12)]), (4, 126, 0, 72, 2, [(6, 104), (6, 105), (6, 106), (1, 3)]), (4, 133, 0, 75, 2, [(6, 108), (5, 215), (5, 216), (1, 11)]), (4, 136, 0, 33, 1, [(6, 109), (6, 110), (6, 111), (1, 6)]), (4, 140, 0, 69, 2, [(6, 113), (4, 80), (4, 81), (1, 3)]), (4, 144, 0, 35, 1, [(6, 114), (6, 115), (6, 116), (1, 6)]), (4, 151, 0, 71, 2, [(6, 146), (4, 72), (4, 73), (1, 3)]), (4, 159, 0, 9, 0, [(4, 186), (4, 178), (4, 179), (1, 9)]), (4, 160, 0, 82, 0, [(4, 187), (4, 188), (4, 189), (1, 11)]), (4, 163, 0, 13, 1, [(5, 2), (5, 3), (5, 4), (1, 9)]), (4, 166, 0, 85, 0, [(5, 7), (5, 8), (5, 9), (1, 11)]), (4, 169, 0, 87, 0, [(5, 74), (5, 75), (5, 76), (1, 11)]), (4, 172, 0, 92, 0, [(5, 117), (5, 118), (5, 119), (1, 11)]), (4, 175, 0, 94, 0, [(5, 121), (5, 122), (5, 123), (1, 11)]), (4, 178, 0, 93, 0, [(5, 210), (5, 211), (5, 212), (1, 11)]), (4, 181, 0, 104, 0, [(5, 218), (5, 219), (5, 220), (1, 11)]), (4, 184, 0, 109, 0, [(6, 8), (6, 9), (6, 10), (1, 11)]), (4, 187, 0, 113, 0, [(6, 16), (6, 17), (6, 18), (1, 12)]), (4, 190, 0, 122, 0, [(6, 66), (6, 67), (6, 68), (1, 12)]), (4, 193, 0, 123, 0, [(6, 70), (6, 71), (6, 72), (1, 12)]), (4, 196, 0, 124, 0, [(6, 75), (6, 76), (6, 77), (1, 12)]), (4, 199, 0, 125, 0, [(6, 86), (6, 87), (6, 88), (1, 12)]), (5, 9, 2, 67, 0, [(1, 125), (1, 50), (1, 3)]), (5, 32, 0, 72, 2, [(6, 155), (6, 105), (6, 106), (1, 3)]), (6, 11, 2, 67, 0, [(1, 117), (1, 50), (1, 3)]), (6, 26, 4, 61, 0, [(1, 120), (1, 121), (1, 8)]), (6, 44, 0, 71, 2, [(4, 71), (4, 72), (4, 73), (1, 3)]), (6, 48, 0, 70, 3, [(4, 83), (2, 195), (2, 196), (1, 3)]), (6, 60, 0, 69, 2, [(4, 127), (4, 80), (4, 81), (1, 3)]), (7, 14, 1, 253, 2, [(2, 199), (2, 200), (1, 20)]), (7, 20, 1, 252, 4, [(2, 215), (2, 216), (1, 20)]), (7, 24, 0, 68, 1, [(4, 75), (4, 76), (4, 77), (1, 3)]), (7, 28, 0, 69, 2, [(4, 79), (4, 80), (4, 81), (1, 3)]), (8, 11, 2, 67, 0, [(2, 30), (1, 50), (1, 3)]), (8, 77, 0, 10, 0, [(4, 88), (4, 89), (4, 90), (1, 9)]), (8, 82, 0, 70, 3, [(4, 92), (2, 195), (2, 196), (1, 3)]), (8, 86, 0, 135, 1, [(4, 93), (4, 94), (4, 95), (1, 10)]), (8, 92, 0, 78, 1, [(4, 150), (4, 152), (0, 7), (1, 11)]), (8, 95, 0, 103, 1, [(4, 159), (4, 161), (0, 8), (1, 11)]), (8, 98, 0, 68, 1, [(4, 193), (4, 76), (4, 77), (1, 3)]), (8, 102, 3, 163, 1, [(4, 198), (4, 144), (1, 1)]), (8, 105, 0, 65, 2, [(4, 199), (4, 123), (4, 124), (1, 7)]), (8, 111, 0, 30, 1, [(5, 25), (5, 26), (5, 27), (1, 6)]), (8, 116, 0, 18, 2, [(4, 154), (4, 155), (4, 156), (1, 6)]), (8, 119, 0, 69, 2, [(4, 158), (4, 80), (4, 81), (1, 3)]), (8, 122, 0, 80, 2, [(4, 230), (4, 232), (0, 14), (1, 11)]), (8, 125, 0, 131, 1, [(4, 204), (4, 205), (4, 206), (1, 10)]), (8, 128, 0, 20, 5, [(4, 208), (4, 209), (4, 210), (1, 6)]), (8, 135, 0, 3, 1, [(4, 191), (4, 129), (4, 130), (1, 2)]), (8, 140, 0, 2, 1, [(4, 192), (4, 119), (4, 120), (1, 2)]), (8, 143, 0, 76, 2, [(4, 194), (4, 196), (0, 10), (1, 11)]), (8, 146, 0, 81, 1, [(4, 200), (4, 202), (0, 11), (1, 11)]), (8, 149, 3, 164, 3, [(4, 215), (4, 216), (1, 1)]), (8, 153, 0, 83, 2, [(4, 218), (4, 220), (0, 12), (1, 11)]), (8, 156, 0, 79, 0, [(4, 226), (4, 228), (0, 13), (1, 11)]), (8, 159, 0, 84, 2, [(4, 234), (4, 236), (0, 15), (1, 11)]), (8, 165, 0, 66, 1, [(4, 222), (4, 223), (4, 224), (1, 7)]), (8, 167, 0, 11, 2, [(4, 163), (4, 164), (4, 165), (1, 9)]), (8, 170, 0, 133, 1, [(4, 238), (4, 239), (5, 0), (1, 10)]), (8, 174, 0, 13, 1, [(5, 11), (5, 3), (5, 4), (1, 9)]), (8, 175, 0, 14, 2, [(4, 173), (4, 174), (4, 175), (1, 9)]), (8, 176, 0, 128, 2, [(5, 12), (5, 13), (5, 14), (1, 10)]), (8, 179, 0, 12, 0, [(5, 16), (5, 17), (5, 18), (1, 9)]), (8, 182, 0, 77, 1, [(5, 21), (5, 22), (5, 23), (1, 11)]), (8, 185, 0, 25, 2, [(5, 30), (5, 31), (5, 32), (1, 6)]), (8, 188, 0, 26, 2, [(5, 59), (5, 60), (5, 61), (1, 6)]), (8, 191, 0, 86, 3, [(5, 64), (5, 66), (0, 18), (1, 11)]), (8, 194, 3, 161, 1, [(5, 68), (5, 39), (1, 1)]), (8, 197, 3, 162, 1, [(5, 69), (5, 70), (1, 1)]), (8, 200, 0, 88, 2, [(5, 78), (5, 80), (0, 19), (1, 11)]), (8, 204, 0, 89, 1, [(5, 82), (5, 84), (0, 20), (1, 11)]), (8, 207, 0, 90, 2, [(5, 104), (5, 106), (0, 22), (1, 11)]), (8, 210, 0, 23, 2, [(5, 108), (5, 109), (5, 110), (1, 6)]), (8, 213, 0, 29, 2, [(5, 116), (5, 51), (5, 52), (1, 6)]), (8, 216, 1, 250, 2, [(5, 86), (2, 210), (1, 21)]), (8, 221, 1, 249, 2, [(5, 87), (3, 79), (1, 21)]), (8, 224, 0, 91, 1, [(5, 88), (5, 90), (0, 21), (1, 11)]), (8, 227, 0, 16, 3, [(5, 100), (5, 101), (5, 102), (1, 9)]), (8, 230, 0, 15, 2, [(5, 92), (5, 93), (5, 94), (1, 9)]), (8, 233, 0, 28, 2, [(5, 96), (5, 97), (5, 98), (1, 6)]), (8, 236, 0, 75, 2, [(5, 214), (5, 215), (5, 216), (1, 11)]), (8, 239, 0, 95, 1, [(5, 125), (5, 127), (0, 23), (1, 11)]), (8, 242, 0, 99, 0, [(5, 184), (5, 185), (5, 186), (1, 11)]), (8, 249, 0, 100, 1, [(5, 188), (5, 190), (0, 28), (1, 11)]), (8, 252, 0, 96, 1, [(5, 129), (5, 131), (0, 24), (1, 11)]), (8, 255, 0, 47, 5, [(5, 137), (5, 138), (5, 139), (1, 5)]), (8, 261, 0, 97, 1, [(5, 158), (5, 160), (0, 27), (1, 11)]), (8, 264, 0, 98, 2, [(5, 176), (5, 177), (5, 178), (1, 11)]), (8, 267, 0, 132, 1, [(5, 133), (5, 134), (5, 135), (1, 10)]), (8, 270, 0, 41, 1, [(5, 162), (5, 163), (5, 164), (1, 5)]), (8, 272, 0, 44, 1, [(5, 166), (5, 151), (5, 152), (1, 5)]), (8, 275, 0, 45, 1, [(5, 167), (5, 155), (5, 156), (1, 5)]), (8, 277, 0, 43, 1, [(5, 168), (5, 169), (5, 170), (1, 5)]), (8, 288, 0, 46, 2, [(5, 172), (5, 173), (5, 174), (1, 5)]), (8, 298, 0, 134, 1, [(5, 180), (5, 181), (5, 182), (1, 10)]), (8, 301, 0, 50, 3, [(5, 192), (5, 193), (5, 194), (1, 5)]), (8, 304, 0, 51, 4, [(5, 197), (5, 198), (5, 199), (1, 5)]), (8, 308, 0, 52, 2, [(5, 201), (5, 202), (5, 203), (1, 5)]), (8, 312, 0, 53, 3, [(5, 205), (5, 206), (5, 207), (1, 5)]), (8, 316, 0, 129, 1, [(4, 169), (4, 170), (4, 171), (1, 10)]), (8, 319, 0, 9, 0, [(4, 177), (4, 178), (4, 179), (1, 9)]), (8, 322, 0, 108, 0, [(5, 222), (5, 224), (0, 29), (1, 11)]), (8, 325, 0, 105, 2, [(5, 227), (5, 229), (0, 30), (1, 11)]), (8, 328, 0, 106, 0, [(5, 235), (5, 237), (0, 31), (1, 11)]), (8, 331, 0, 107, 0, [(6, 0), (6, 2), (0, 32), (1, 11)]), (8, 334, 0, 130, 1, [(6, 4), (6, 5), (6, 6), (1, 10)]), (8, 337, 0, 21, 1, [(5, 231), (5, 232), (5, 233), (1, 6)]), (8, 340, 0, 32, 1, [(5, 239), (5, 35), (5, 36), (1, 6)]), (8, 343, 0, 24, 4, [(5, 226), (5, 113), (5, 114), (1, 6)]), (8, 347, 0, 22, 1, [(6, 12), (6, 13), (6, 14), (1, 6)]), (9, 11, 2, 67, 0, [(2, 96), (1, 50), (1, 3)]), (9, 77, 0, 70, 3, [(6, 103), (2, 195), (2, 196), (1, 3)]), (9, 83, 0, 11, 2, [(6, 41), (4, 164), (4, 165), (1, 9)]), (9, 87, 0, 13, 1, [(6, 20), (5, 3), (5, 4), (1, 9)]), (9, 91, 0, 12, 0, [(6, 21), (5, 17), (5, 18), (1, 9)]), (9, 94, 3, 161, 1, [(6, 22), (5, 39), (1, 1)]), (9, 100, 0, 115, 2, [(6, 23), (6, 25), (0, 33), (1, 12)]), (9, 103, 0, 18, 2, [(6, 29), (4, 155), (4, 156), (1, 6)]), (9, 106, 0, 114, 1, [(6, 60), (6, 62), (0, 40), (1, 12)]), (9, 110, 0, 32, 1, [(6, 64), (5, 35), (5, 36), (1, 6)]), (9, 113, 0, 69, 2, [(6, 39), (4, 80), (4, 81), (1, 3)]), (9, 116, 0, 31, 1, [(6, 65), (5, 42), (5, 43), (1, 6)]), (9, 119, 0, 65, 2, [(6, 27), (4, 123), (4, 124), (1, 7)]), (9, 122, 0, 10, 0, [(6, 28), (4, 89), (4, 90), (1, 9)]), (9, 125, 0, 121, 0, [(6, 30), (6, 32), (0, 34), (1, 12)]), (9, 128, 0, 116, 1, [(6, 34), (6, 36), (0, 35), (1, 12)]), (9, 131, 0, 68, 1, [(6, 38), (4, 76), (4, 77), (1, 3)]), (9, 132, 3, 162, 1, [(6, 40), (5, 70), (1, 1)]), (9, 135, 0, 117, 3, [(6, 42), (6, 44), (0, 36), (1, 12)]), (9, 141, 0, 118, 2, [(6, 46), (6, 48), (0, 37), (1, 12)]), (9, 144, 0, 21, 1, [(6, 54), (5, 232), (5, 233), (1, 6)]), (9, 147, 0, 14, 2, [(6, 55), (4, 174), (4, 175), (1, 9)]), (9, 148, 0, 120, 2, [(6, 56), (6, 58), (0, 39), (1, 12)]), (9, 151, 0, 119, 1, [(6, 50), (6, 52), (0, 38), (1, 12)]), (9, 169, 3, 163, 1, [(6, 74), (4, 144), (1, 1)]), (9, 172, 0, 126, 1, [(6, 79), (6, 81), (0, 41), (1, 12)]), (9, 175, 0, 98, 2, [(6, 83), (5, 177), (5, 178), (1, 11)]), (9, 180, 0, 99, 0, [(6, 84), (5, 185), (5, 186), (1, 11)]), (9, 184, 0, 77, 1, [(6, 85), (5, 22), (5, 23), (1, 11)]), (9, 190, 0, 101, 1, [(6, 90), (6, 91), (6, 92), (1, 11)]), (9, 193, 0, 102, 0, [(6, 94), (6, 95), (6, 96), (1, 11)]), (9, 196, 0, 128, 2, [(6, 98), (5, 13), (5, 14), (1, 10)]), (10, 11, 2, 67, 0, [(2, 0), (1, 50), (1, 3)]), (10, 29, 0, 68, 1, [(4, 113), (4, 76), (4, 77), (1, 3)]), (10, 43, 0, 1, 1, [(4, 97), (4, 98), (4, 99), (1, 2)]), (10, 48, 0, 70, 3, [(4, 102), (2, 195), (2, 196), (1, 3)]), (10, 52, 0, 141, 5, [(4, 103), (4, 105), (0, 1), (1, 10)]), (10, 57, 0, 142, 1, [(4, 109), (4, 111), (0, 2), (1, 10)]), (10, 60, 0, 138, 0, [(4, 114), (4, 116), (0, 3), (1, 10)]), (10, 63, 0, 136, 0, [(4, 139), (4, 141), (0, 5), (1, 10)]), (10, 66, 0, 65, 2, [(4, 122), (4, 123), (4, 124), (1, 7)]), (10, 72, 0, 2, 1, [(4, 118), (4, 119), (4, 120), (1, 2)]), (10, 75, 3, 163, 1, [(4, 143), (4, 144), (1, 1)]), (10, 78, 0, 137, 2, [(4, 146), (4, 148), (0, 6), (1, 10)]), (10, 81, 0, 69, 2, [(4, 107), (4, 80), (4, 81), (1, 3)]), (10, 84, 0, 3, 1, [(4, 128), (4, 129), (4, 130), (1, 2)]), (10, 87, 0, 139, 2, [(4, 132), (4, 134), (0, 4), (1, 10)]), (10, 90, 1, 140, 1, [(4, 136), (4, 137), (1, 10)]), (11, 11, 4, 0, 0, [(1, 43), (1, 44), (1, 2)]), (11, 18, 2, 55, 1, [(1, 70), (1, 71), (1, 4)]), (11, 27, 4, 61, 0, [(2, 169), (1, 121), (1, 8)]), (11, 35, 1, 160, 1, [(6, 195), (6, 196), (1, 1)]), (11, 39, 0, 1, 1, [(6, 198), (4, 98), (4, 99), (1, 2)]), (11, 52, 0, 5, 4, [(7, 0), (7, 1), (7, 2), (1, 2)]), (11, 56, 0, 58, 1, [(7, 12), (7, 13), (7, 14), (1, 4)]), (11, 60, 0, 4, 2, [(7, 28), (7, 29), (7, 30), (1, 2)]), (11, 64, 0, 6, 2, [(7, 32), (7, 33), (7, 34), (1, 2)]), (11, 68, 0, 56, 2, [(7, 50), (7, 51), (7, 52), (1, 4)]), (11, 71, 0, 59, 2, [(2, 190), (2, 191), (2, 192), (1, 4)]), (11, 83, 0, 62, 1, [(6, 151), (6, 152), (6, 153), (1, 8)]), (11, 96, 0, 57, 0, [(6, 172), (6, 173), (6, 174), (1, 4)]), (11, 107, 0, 68, 1, [(7, 65), (4, 76), (4, 77), (1, 3)]), (11, 121, 1, 164, 3, [(7, 80), (4, 216), (1, 1)]), (11, 128, 1, 250, 2, [(5, 72), (2, 210), (1, 21)]), (11, 133, 1, 249, 2, [(5, 73), (3, 79), (1, 21)]), (12, 184, 1, 168, 3, [(8, 150), (8, 151), (1, 13)]), (12, 191, 1, 169, 1, [(8, 147), (8, 148), (1, 13)]), (12, 195, 0, 167, 1, [(8, 153), (8, 155), (0, 46), (1, 13)]), (12, 198, 0, 170, 1, [(8, 157), (8, 159), (0, 47), (1, 13)]), (12, 221, 0, 175, 3, [(8, 201), (8, 203), (0, 54), (1, 13)]), (12, 225, 0, 176, 3, [(8, 206), (8, 208), (0, 55), (1, 13)]), (12, 229, 0, 177, 1, [(8, 197), (8, 199), (0, 53), (1, 13)]), (12, 233, 1, 178, 1, [(8, 214), (8, 215), (1, 13)]), (12, 236, 0, 179, 0, [(8, 210), (8, 212), (0, 56), (1, 13)]), (12, 240, 0, 180, 2, [(8, 193), (8, 195), (0, 52), (1, 13)]), (12, 251, 0, 185, 0, [(8, 217), (8, 219), (0, 57), (1, 13)]), (12, 254, 0, 189, 4, [(9, 46), (9, 48), (0, 72), (1, 13)]), (12, 258, 0, 190, 2, [(9, 50), (9, 52), (0, 73), (1, 13)]), (12, 262, 0, 188, 2, [(9, 54), (9, 56), (0, 74), (1, 13)]), (12, 265, 1, 184, 1, [(9, 58), (9, 59), (1, 13)]), (12, 269, 0, 187, 5, [(9, 42), (9, 44), (0, 71), (1, 13)]), (12, 276, 0, 191, 2, [(9, 111), (9, 113), (0, 87), (1, 13)]), (12, 279, 1, 182, 1, [(9, 36), (9, 37), (1, 13)]), (12, 282, 1, 183, 1, [(9, 39), (9, 40), (1, 13)]), (12, 285, 0, 193, 1, [(9, 107), (9, 109), (0, 86), (1, 13)]), (12, 288, 0, 194, 1, [(9, 115), (9, 117), (0, 88), (1, 13)]), (12, 297, 0, 197, 2, [(8, 229), (8, 231), (0, 60), (1, 13)]), (12, 300, 0, 207, 3, [(8, 233), (8, 235), (0, 61), (1, 13)]), (12, 304, 0, 195, 3, [(9, 103), (9, 105), (0, 85), (1, 13)]), (12, 307, 0, 198, 3, [(8, 225), (8, 227), (0, 59), (1, 13)]), (12, 310, 0, 192, 1, [(9, 123), (9, 125), (0, 90), (1, 13)]), (12, 313, 0, 196, 2, [(9, 4), (9, 6), (0, 63), (1, 13)]), (12, 316, 1, 181, 2, [(9, 1), (9, 2), (1, 13)]), (12, 327, 0, 201, 2, [(9, 12), (9, 14), (0, 65), (1, 13)]), (12, 330, 0, 202, 1, [(9, 8), (9, 10), (0, 64), (1, 13)]), (12, 333, 0, 209, 1, [(9, 16), (9, 18), (0, 66), (1, 13)]), (12, 339, 0, 186, 1, [(9, 28), (9, 30), (0, 69), (1, 13)]), (12, 342, 0, 204, 3, [(9, 24), (9, 26), (0, 68), (1, 13)]), (12, 345, 0, 203, 2, [(8, 237), (8, 239), (0, 62), (1, 13)]), (12, 348, 0, 205, 3, [(9, 20), (9, 22), (0, 67), (1, 13)]), (12, 351, 0, 206, 3, [(9, 32), (9, 34), (0, 70), (1, 13)]), (12, 354, 0, 199, 2, [(8, 221), (8, 223), (0, 58), (1, 13)]), (12, 357, 0, 212, 3, [(9, 63), (9, 65), (0, 75), (1, 13)]), (12, 360, 0, 208, 4, [(9, 99), (9, 101), (0, 84), (1, 13)]), (12, 367, 0, 200, 3, [(9, 119), (9, 121), (0, 89), (1, 13)]), (12, 373, 0, 210, 1, [(8, 189), (8, 191), (0, 51), (1, 13)]), (12, 379, 0, 215, 1, [(9, 67), (9, 69), (0, 76), (1, 13)]), (12, 382, 0, 218, 2, [(9, 75), (9, 77), (0, 78), (1, 13)]), (12, 391, 0, 213, 3, [(9, 87), (9, 89), (0, 81), (1, 13)]), (12, 400, 0, 211, 2, [(9, 91), (9, 93), (0, 82), (1, 13)]), (12, 403, 0, 219, 3, [(9, 95), (9, 97), (0, 83), (1, 13)]), (12, 412, 0, 214, 1, [(9, 71), (9, 73), (0, 77), (1, 13)]), (12, 415, 0, 216, 1, [(9, 83), (9, 85), (0, 80), (1, 13)]), (12, 418, 0, 217, 3, [(9, 79), (9, 81), (0, 79), (1, 13)]), (12, 436, 0, 221, 0, [(9, 163), (9, 165), (0, 100), (1, 13)]), (12, 448, 0, 224, 1, [(9, 147), (9, 149), (0, 96), (1, 13)]), (12, 451, 0, 223, 1, [(9, 151), (9, 153), (0, 97), (1, 13)]), (12, 457, 0, 220, 4, [(9, 127), (9, 129), (0, 91), (1, 13)]), (12, 464, 0, 225, 1, [(9, 143), (9, 145), (0, 95), (1, 13)]), (12, 467, 0, 226, 2, [(9, 155), (9, 157), (0, 98), (1, 13)]), (12, 471, 0, 222, 2, [(9, 159), (9, 161), (0, 99), (1, 13)]), (12, 474, 0, 227, 1, [(9, 167), (9, 169), (0, 101), (1, 13)]), (12, 477, 0, 229, 1, [(9, 171), (9, 173), (0, 102), (1, 13)]), (12, 480, 0, 228, 1, [(9, 175), (9, 177), (0, 103), (1, 13)]), (12, 483, 0, 230, 1, [(9, 139), (9, 141), (0, 94), (1, 13)]), (12, 486, 0, 231, 1, [(9, 135), (9, 137), (0, 93), (1, 13)]), (12, 489, 0, 233, 0, [(8, 185), (8, 187), (0, 50), (1, 13)]), (12, 492, 0, 232, 0, [(9, 131), (9, 133), (0, 92), (1, 13)]), (12, 495, 0, 234, 0, [(8, 181), (8, 183), (0, 49), (1, 13)]), (12, 498, 0, 235, 0, [(8, 177), (8, 179), (0, 48), (1, 13)]), (12, 513, 0, 236, 1, [(9, 179), (9, 181), (0, 104), (1, 13)]), (13, 7, 0, 144, 4, [(6, 191), (6, 192), (6, 193), (1, 1)]), (13, 19, 0, 145, 2, [(7, 24), (7, 25), (7, 26), (1, 1)]), (13, 23, 0, 146, 2, [(7, 39), (7, 40), (7, 41), (1, 1)]), (13, 26, 0, 147, 2, [(7, 46), (7, 47), (7, 48), (1, 1)]), (13, 29, 0, 155, 2, [(7, 61), (7, 62), (7, 63), (1, 1)]), (13, 32, 0, 157, 1, [(7, 69), (7, 70), (7, 71), (1, 1)]), (13, 36, 0, 158, 3, [(7, 76), (7, 77), (7, 78), (1, 1)]), (13, 40, 0, 159, 1, [(7, 84), (7, 85), (7, 86), (1, 1)]), (13, 43, 2, 143, 0, [(1, 35), (1, 36), (1, 1)]), (13, 46, 2, 165, 0, [(7, 90), (7, 91), (1, 13)]), (13, 52, 0, 171, 4, [(8, 143), (8, 144), (8, 145), (1, 13)]), (13, 53, 0, 166, 0, [(8, 139), (8, 140), (8, 141), (1, 13)]), (13, 60, 0, 172, 2, [(8, 161), (8, 162), (8, 163), (1, 13)]), (13, 63, 0, 173, 2, [(8, 165), (8, 166), (8, 167), (1, 13)]), (13, 66, 0, 174, 2, [(8, 169), (8, 170), (8, 171), (1, 13)]), (13, 67, 0, 148, 0, [(2, 186), (2, 187), (2, 188), (1, 1)]), (13, 70, 0, 237, 0, [(8, 173), (8, 174), (8, 175), (1, 13)]), (13, 71, 0, 149, 0, [(6, 147), (6, 148), (6, 149), (1, 1)]), (13, 75, 0, 238, 0, [(9, 183), (9, 184), (9, 185), (1, 13)]), (13, 76, 0, 150, 0, [(6, 156), (6, 157), (6, 158), (1, 1)]), (13, 79, 0, 239, 0, [(9, 187), (9, 188), (9, 189), (1, 13)]), (13, 80, 0, 151, 0, [(6, 160), (6, 161), (6, 162), (1, 1)]), (13, 83, 0, 240, 0, [(9, 191), (9, 192), (9, 193), (1, 13)]), (13, 84, 0, 152, 0, [(6, 164), (6, 165), (6, 166), (1, 1)]), (13, 87, 0, 241, 0, [(9, 195), (9, 196), (9, 197), (1, 13)]), (13, 88, 0, 153, 0, [(6, 168), (6, 169), (6, 170), (1, 1)]), (13, 91, 0, 242, 0, [(9, 199), (9, 200), (9, 201), (1, 13)]), (13, 92, 0, 154, 0, [(6, 177), (6, 178), (6, 179), (1, 1)]), (13, 95, 0, 243, 0, [(9, 203), (9, 204), (9, 205), (1, 13)]), (13, 98, 0, 244, 2, [(9, 207), (9, 208), (9, 209), (1, 13)]), (13, 99, 0, 156, 0, [(6, 181), (6, 182), (6, 183), (1, 1)]), (13, 102, 0, 245, 0, [(9, 211), (9, 212), (9, 213), (1, 13)]), (13, 106, 0, 246, 1, [(9, 215), (9, 216), (9, 217), (1, 13)]), (13, 110, 0, 247, 3, [(9, 219), (9, 220), (9, 221), (1, 13)]), (13, 113, 0, 248, 1, [(9, 223), (9, 224), (9, 225), (1, 13)]), (14, 13, 1, 251, 3, [(2, 218), (2, 219), (1, 20)]), (14, 304, 1, 250, 2, [(2, 209), (2, 210), (1, 21)])]
def am_cl (own idx : Nat) : Option (Nat × Nat × Nat) := (am_cs.find? fun e => e.1 == own && e.2.1 == idx).map fun e => (e.2.2.1, e.2.2.2.1, e.2.2.2.2.1)
def am_nok (y : MethodName) (n : Nat) : Bool := decide ((y.cls ≠ "java/lang/invoke/MethodHandle" ∧ y.cls ≠ "java/lang/invoke/VarHandle") ∧ (parseMethodDescriptor y.desc).map (fun d => d.parameters.length) = some n)
def am_cok (e : am_D) : Bool := match am_ml[e.2.2.2.1]? with
  | none => false
  | some M => am_nok M.1 e.2.2.2.2.1 && decide (M.2.2.2.2.2.2.2.1 ≠ 99 ∧ M.2.2.1 ≤ 22) && match e.2.2.1, e.2.2.2.2.2 with
    | 0, [p, q, r, i] => am_has p (.methodLink (am_R e.1) e.2.1 M.1) && am_has q (.instanceMethod M.1) && am_has r (.selects M.1.cls M.1 M.1) && am_has i (.initialized M.1.cls) && decide (M.2.2.2.2.2.1 ≤ 12 ∧ M.1.cls = am_R M.2.2.2.2.2.1)
    | 1, [p, q, i] => am_has p (.methodLink (am_R e.1) e.2.1 M.1) && am_has q (.static M.1) && am_has i (.initialized M.1.cls)
    | 2, [p, q, i] => am_has p (.methodLink (am_R e.1) e.2.1 M.1) && am_has q (.instanceMethod M.1) && am_has i (.initialized M.1.cls) && decide (M.1.name = "<init>" ∧ M.2.2.2.1 = none)
    | 3, [p, q, i] => decide (p ∈ am_nwp ∧ am_at p = some (.methodLinkNest (am_R e.1) e.2.1 M.1 RX11)) && am_has q (.static M.1) && am_has i (.initialized M.1.cls)
    | 4, [p, q, i] => decide (p ∈ am_nwp ∧ am_at p = some (.methodLinkNest (am_R e.1) e.2.1 M.1 RX11)) && am_has q (.instanceMethod M.1) && am_has i (.initialized M.1.cls) && decide (M.1.name = "<init>" ∧ M.2.2.2.1 = none)
    | _, _ => false
set_option maxRecDepth 100000 in
theorem am_cs_ok : am_cs.all am_cok = true := by decide +kernel
theorem am_cl_ok {own idx kd mid n : Nat} (h : am_cl own idx = some (kd, mid, n)) : ∃ ps, am_cok (own, idx, kd, mid, n, ps) = true := by
  unfold am_cl at h
  rw [Option.map_eq_some_iff] at h
  obtain ⟨⟨o, i, kd', mid', n', ps⟩, h1, h2⟩ := h
  cases h2
  have hm := List.mem_of_find?_eq_some h1
  have hp := List.find?_some h1
  dsimp only at hp
  rw [Bool.and_eq_true, beq_iff_eq, beq_iff_eq] at hp
  obtain ⟨rfl, rfl⟩ := hp
  exact ⟨ps, List.all_eq_true.mp am_cs_ok _ hm⟩
theorem cl_0_11 : am_cl 0 11 = some (2, 67, 0) := by decide +kernel
theorem cl_0_24 : am_cl 0 24 = some (0, 68, 1) := by decide +kernel
theorem cl_0_28 : am_cl 0 28 = some (0, 2, 1) := by decide +kernel
theorem cl_0_31 : am_cl 0 31 = some (0, 3, 1) := by decide +kernel
theorem cl_0_34 : am_cl 0 34 = some (0, 1, 1) := by decide +kernel
theorem cl_0_37 : am_cl 0 37 = some (0, 7, 2) := by decide +kernel
theorem cl_0_41 : am_cl 0 41 = some (0, 69, 2) := by decide +kernel
theorem cl_1_9 : am_cl 1 9 = some (2, 67, 0) := by decide +kernel
theorem cl_1_20 : am_cl 1 20 = some (0, 70, 3) := by decide +kernel
theorem cl_1_24 : am_cl 1 24 = some (0, 69, 2) := by decide +kernel
theorem cl_1_28 : am_cl 1 28 = some (1, 249, 2) := by decide +kernel
theorem cl_1_34 : am_cl 1 34 = some (0, 68, 1) := by decide +kernel
theorem cl_2_11 : am_cl 2 11 = some (2, 67, 0) := by decide +kernel
theorem cl_2_27 : am_cl 2 27 = some (1, 249, 2) := by decide +kernel
theorem cl_2_33 : am_cl 2 33 = some (1, 253, 2) := by decide +kernel
theorem cl_2_39 : am_cl 2 39 = some (0, 20, 5) := by decide +kernel
theorem cl_2_43 : am_cl 2 43 = some (0, 24, 4) := by decide +kernel
theorem cl_2_47 : am_cl 2 47 = some (0, 29, 2) := by decide +kernel
theorem cl_2_50 : am_cl 2 50 = some (0, 19, 3) := by decide +kernel
theorem cl_2_54 : am_cl 2 54 = some (0, 32, 1) := by decide +kernel
theorem cl_2_58 : am_cl 2 58 = some (0, 31, 1) := by decide +kernel
theorem cl_2_61 : am_cl 2 61 = some (0, 27, 3) := by decide +kernel
theorem cl_2_65 : am_cl 2 65 = some (0, 30, 1) := by decide +kernel
theorem cl_2_69 : am_cl 2 69 = some (1, 250, 2) := by decide +kernel
theorem cl_2_72 : am_cl 2 72 = some (3, 161, 1) := by decide +kernel
theorem cl_2_75 : am_cl 2 75 = some (0, 18, 2) := by decide +kernel
theorem cl_2_78 : am_cl 2 78 = some (0, 70, 3) := by decide +kernel
theorem cl_2_81 : am_cl 2 81 = some (0, 40, 0) := by decide +kernel
theorem cl_2_87 : am_cl 2 87 = some (0, 41, 1) := by decide +kernel
theorem cl_2_90 : am_cl 2 90 = some (0, 36, 2) := by decide +kernel
theorem cl_2_94 : am_cl 2 94 = some (0, 68, 1) := by decide +kernel
theorem cl_2_96 : am_cl 2 96 = some (0, 37, 3) := by decide +kernel
theorem cl_2_99 : am_cl 2 99 = some (0, 69, 2) := by decide +kernel
theorem cl_2_101 : am_cl 2 101 = some (0, 38, 2) := by decide +kernel
theorem cl_2_104 : am_cl 2 104 = some (0, 42, 2) := by decide +kernel
theorem cl_2_110 : am_cl 2 110 = some (0, 34, 2) := by decide +kernel
theorem cl_3_13 : am_cl 3 13 = some (2, 67, 0) := by decide +kernel
theorem cl_3_22 : am_cl 3 22 = some (0, 68, 1) := by decide +kernel
theorem cl_3_26 : am_cl 3 26 = some (0, 69, 2) := by decide +kernel
theorem cl_3_30 : am_cl 3 30 = some (0, 48, 2) := by decide +kernel
theorem cl_3_34 : am_cl 3 34 = some (0, 49, 2) := by decide +kernel
theorem cl_3_38 : am_cl 3 38 = some (0, 44, 1) := by decide +kernel
theorem cl_3_46 : am_cl 3 46 = some (0, 45, 1) := by decide +kernel
theorem cl_3_52 : am_cl 3 52 = some (0, 70, 3) := by decide +kernel
theorem cl_4_11 : am_cl 4 11 = some (4, 39, 0) := by decide +kernel
theorem cl_4_20 : am_cl 4 20 = some (4, 17, 0) := by decide +kernel
theorem cl_4_27 : am_cl 4 27 = some (4, 63, 0) := by decide +kernel
theorem cl_4_34 : am_cl 4 34 = some (4, 8, 0) := by decide +kernel
theorem cl_4_41 : am_cl 4 41 = some (2, 127, 2) := by decide +kernel
theorem cl_4_46 : am_cl 4 46 = some (2, 73, 6) := by decide +kernel
theorem cl_4_55 : am_cl 4 55 = some (2, 110, 5) := by decide +kernel
theorem cl_4_62 : am_cl 4 62 = some (0, 111, 2) := by decide +kernel
theorem cl_4_66 : am_cl 4 66 = some (0, 40, 0) := by decide +kernel
theorem cl_4_70 : am_cl 4 70 = some (0, 54, 1) := by decide +kernel
theorem cl_4_74 : am_cl 4 74 = some (0, 34, 2) := by decide +kernel
theorem cl_4_102 : am_cl 4 102 = some (0, 70, 3) := by decide +kernel
theorem cl_4_108 : am_cl 4 108 = some (0, 64, 0) := by decide +kernel
theorem cl_4_111 : am_cl 4 111 = some (0, 74, 1) := by decide +kernel
theorem cl_4_114 : am_cl 4 114 = some (0, 60, 0) := by decide +kernel
theorem cl_4_120 : am_cl 4 120 = some (0, 112, 1) := by decide +kernel
theorem cl_4_126 : am_cl 4 126 = some (0, 72, 2) := by decide +kernel
theorem cl_4_133 : am_cl 4 133 = some (0, 75, 2) := by decide +kernel
theorem cl_4_136 : am_cl 4 136 = some (0, 33, 1) := by decide +kernel
theorem cl_4_140 : am_cl 4 140 = some (0, 69, 2) := by decide +kernel
theorem cl_4_144 : am_cl 4 144 = some (0, 35, 1) := by decide +kernel
theorem cl_4_151 : am_cl 4 151 = some (0, 71, 2) := by decide +kernel
theorem cl_4_159 : am_cl 4 159 = some (0, 9, 0) := by decide +kernel
theorem cl_4_160 : am_cl 4 160 = some (0, 82, 0) := by decide +kernel
theorem cl_4_163 : am_cl 4 163 = some (0, 13, 1) := by decide +kernel
theorem cl_4_166 : am_cl 4 166 = some (0, 85, 0) := by decide +kernel
theorem cl_4_169 : am_cl 4 169 = some (0, 87, 0) := by decide +kernel
theorem cl_4_172 : am_cl 4 172 = some (0, 92, 0) := by decide +kernel
theorem cl_4_175 : am_cl 4 175 = some (0, 94, 0) := by decide +kernel
theorem cl_4_178 : am_cl 4 178 = some (0, 93, 0) := by decide +kernel
theorem cl_4_181 : am_cl 4 181 = some (0, 104, 0) := by decide +kernel
theorem cl_4_184 : am_cl 4 184 = some (0, 109, 0) := by decide +kernel
theorem cl_4_187 : am_cl 4 187 = some (0, 113, 0) := by decide +kernel
theorem cl_4_190 : am_cl 4 190 = some (0, 122, 0) := by decide +kernel
theorem cl_4_193 : am_cl 4 193 = some (0, 123, 0) := by decide +kernel
theorem cl_4_196 : am_cl 4 196 = some (0, 124, 0) := by decide +kernel
theorem cl_4_199 : am_cl 4 199 = some (0, 125, 0) := by decide +kernel
theorem cl_5_9 : am_cl 5 9 = some (2, 67, 0) := by decide +kernel
theorem cl_5_32 : am_cl 5 32 = some (0, 72, 2) := by decide +kernel
theorem cl_6_11 : am_cl 6 11 = some (2, 67, 0) := by decide +kernel
theorem cl_6_26 : am_cl 6 26 = some (4, 61, 0) := by decide +kernel
theorem cl_6_44 : am_cl 6 44 = some (0, 71, 2) := by decide +kernel
theorem cl_6_48 : am_cl 6 48 = some (0, 70, 3) := by decide +kernel
theorem cl_6_60 : am_cl 6 60 = some (0, 69, 2) := by decide +kernel
theorem cl_7_14 : am_cl 7 14 = some (1, 253, 2) := by decide +kernel
theorem cl_7_20 : am_cl 7 20 = some (1, 252, 4) := by decide +kernel
theorem cl_7_24 : am_cl 7 24 = some (0, 68, 1) := by decide +kernel
theorem cl_7_28 : am_cl 7 28 = some (0, 69, 2) := by decide +kernel
theorem cl_8_11 : am_cl 8 11 = some (2, 67, 0) := by decide +kernel
theorem cl_8_77 : am_cl 8 77 = some (0, 10, 0) := by decide +kernel
theorem cl_8_82 : am_cl 8 82 = some (0, 70, 3) := by decide +kernel
theorem cl_8_86 : am_cl 8 86 = some (0, 135, 1) := by decide +kernel
theorem cl_8_92 : am_cl 8 92 = some (0, 78, 1) := by decide +kernel
theorem cl_8_95 : am_cl 8 95 = some (0, 103, 1) := by decide +kernel
theorem cl_8_98 : am_cl 8 98 = some (0, 68, 1) := by decide +kernel
theorem cl_8_102 : am_cl 8 102 = some (3, 163, 1) := by decide +kernel
theorem cl_8_105 : am_cl 8 105 = some (0, 65, 2) := by decide +kernel
theorem cl_8_111 : am_cl 8 111 = some (0, 30, 1) := by decide +kernel
theorem cl_8_116 : am_cl 8 116 = some (0, 18, 2) := by decide +kernel
theorem cl_8_119 : am_cl 8 119 = some (0, 69, 2) := by decide +kernel
theorem cl_8_122 : am_cl 8 122 = some (0, 80, 2) := by decide +kernel
theorem cl_8_125 : am_cl 8 125 = some (0, 131, 1) := by decide +kernel
theorem cl_8_128 : am_cl 8 128 = some (0, 20, 5) := by decide +kernel
theorem cl_8_135 : am_cl 8 135 = some (0, 3, 1) := by decide +kernel
theorem cl_8_140 : am_cl 8 140 = some (0, 2, 1) := by decide +kernel
theorem cl_8_143 : am_cl 8 143 = some (0, 76, 2) := by decide +kernel
theorem cl_8_146 : am_cl 8 146 = some (0, 81, 1) := by decide +kernel
theorem cl_8_149 : am_cl 8 149 = some (3, 164, 3) := by decide +kernel
theorem cl_8_153 : am_cl 8 153 = some (0, 83, 2) := by decide +kernel
theorem cl_8_156 : am_cl 8 156 = some (0, 79, 0) := by decide +kernel
theorem cl_8_159 : am_cl 8 159 = some (0, 84, 2) := by decide +kernel
theorem cl_8_165 : am_cl 8 165 = some (0, 66, 1) := by decide +kernel
theorem cl_8_167 : am_cl 8 167 = some (0, 11, 2) := by decide +kernel
theorem cl_8_170 : am_cl 8 170 = some (0, 133, 1) := by decide +kernel
theorem cl_8_174 : am_cl 8 174 = some (0, 13, 1) := by decide +kernel
theorem cl_8_175 : am_cl 8 175 = some (0, 14, 2) := by decide +kernel
theorem cl_8_176 : am_cl 8 176 = some (0, 128, 2) := by decide +kernel
theorem cl_8_179 : am_cl 8 179 = some (0, 12, 0) := by decide +kernel
theorem cl_8_182 : am_cl 8 182 = some (0, 77, 1) := by decide +kernel
theorem cl_8_185 : am_cl 8 185 = some (0, 25, 2) := by decide +kernel
theorem cl_8_188 : am_cl 8 188 = some (0, 26, 2) := by decide +kernel
theorem cl_8_191 : am_cl 8 191 = some (0, 86, 3) := by decide +kernel
theorem cl_8_194 : am_cl 8 194 = some (3, 161, 1) := by decide +kernel
theorem cl_8_197 : am_cl 8 197 = some (3, 162, 1) := by decide +kernel
theorem cl_8_200 : am_cl 8 200 = some (0, 88, 2) := by decide +kernel
theorem cl_8_204 : am_cl 8 204 = some (0, 89, 1) := by decide +kernel
theorem cl_8_207 : am_cl 8 207 = some (0, 90, 2) := by decide +kernel
theorem cl_8_210 : am_cl 8 210 = some (0, 23, 2) := by decide +kernel
theorem cl_8_213 : am_cl 8 213 = some (0, 29, 2) := by decide +kernel
theorem cl_8_216 : am_cl 8 216 = some (1, 250, 2) := by decide +kernel
theorem cl_8_221 : am_cl 8 221 = some (1, 249, 2) := by decide +kernel
theorem cl_8_224 : am_cl 8 224 = some (0, 91, 1) := by decide +kernel
theorem cl_8_227 : am_cl 8 227 = some (0, 16, 3) := by decide +kernel
theorem cl_8_230 : am_cl 8 230 = some (0, 15, 2) := by decide +kernel
theorem cl_8_233 : am_cl 8 233 = some (0, 28, 2) := by decide +kernel
theorem cl_8_236 : am_cl 8 236 = some (0, 75, 2) := by decide +kernel
theorem cl_8_239 : am_cl 8 239 = some (0, 95, 1) := by decide +kernel
theorem cl_8_242 : am_cl 8 242 = some (0, 99, 0) := by decide +kernel
theorem cl_8_249 : am_cl 8 249 = some (0, 100, 1) := by decide +kernel
theorem cl_8_252 : am_cl 8 252 = some (0, 96, 1) := by decide +kernel
theorem cl_8_255 : am_cl 8 255 = some (0, 47, 5) := by decide +kernel
theorem cl_8_261 : am_cl 8 261 = some (0, 97, 1) := by decide +kernel
theorem cl_8_264 : am_cl 8 264 = some (0, 98, 2) := by decide +kernel
theorem cl_8_267 : am_cl 8 267 = some (0, 132, 1) := by decide +kernel
theorem cl_8_270 : am_cl 8 270 = some (0, 41, 1) := by decide +kernel
theorem cl_8_272 : am_cl 8 272 = some (0, 44, 1) := by decide +kernel
theorem cl_8_275 : am_cl 8 275 = some (0, 45, 1) := by decide +kernel
theorem cl_8_277 : am_cl 8 277 = some (0, 43, 1) := by decide +kernel
theorem cl_8_288 : am_cl 8 288 = some (0, 46, 2) := by decide +kernel
theorem cl_8_298 : am_cl 8 298 = some (0, 134, 1) := by decide +kernel
theorem cl_8_301 : am_cl 8 301 = some (0, 50, 3) := by decide +kernel
theorem cl_8_304 : am_cl 8 304 = some (0, 51, 4) := by decide +kernel
theorem cl_8_308 : am_cl 8 308 = some (0, 52, 2) := by decide +kernel
theorem cl_8_312 : am_cl 8 312 = some (0, 53, 3) := by decide +kernel
theorem cl_8_316 : am_cl 8 316 = some (0, 129, 1) := by decide +kernel
theorem cl_8_319 : am_cl 8 319 = some (0, 9, 0) := by decide +kernel
theorem cl_8_322 : am_cl 8 322 = some (0, 108, 0) := by decide +kernel
theorem cl_8_325 : am_cl 8 325 = some (0, 105, 2) := by decide +kernel
theorem cl_8_328 : am_cl 8 328 = some (0, 106, 0) := by decide +kernel
theorem cl_8_331 : am_cl 8 331 = some (0, 107, 0) := by decide +kernel
theorem cl_8_334 : am_cl 8 334 = some (0, 130, 1) := by decide +kernel
theorem cl_8_337 : am_cl 8 337 = some (0, 21, 1) := by decide +kernel
theorem cl_8_340 : am_cl 8 340 = some (0, 32, 1) := by decide +kernel
theorem cl_8_343 : am_cl 8 343 = some (0, 24, 4) := by decide +kernel
theorem cl_8_347 : am_cl 8 347 = some (0, 22, 1) := by decide +kernel
theorem cl_9_11 : am_cl 9 11 = some (2, 67, 0) := by decide +kernel
theorem cl_9_77 : am_cl 9 77 = some (0, 70, 3) := by decide +kernel
theorem cl_9_83 : am_cl 9 83 = some (0, 11, 2) := by decide +kernel
theorem cl_9_87 : am_cl 9 87 = some (0, 13, 1) := by decide +kernel
theorem cl_9_91 : am_cl 9 91 = some (0, 12, 0) := by decide +kernel
theorem cl_9_94 : am_cl 9 94 = some (3, 161, 1) := by decide +kernel
theorem cl_9_100 : am_cl 9 100 = some (0, 115, 2) := by decide +kernel
theorem cl_9_103 : am_cl 9 103 = some (0, 18, 2) := by decide +kernel
theorem cl_9_106 : am_cl 9 106 = some (0, 114, 1) := by decide +kernel
theorem cl_9_110 : am_cl 9 110 = some (0, 32, 1) := by decide +kernel
theorem cl_9_113 : am_cl 9 113 = some (0, 69, 2) := by decide +kernel
theorem cl_9_116 : am_cl 9 116 = some (0, 31, 1) := by decide +kernel
theorem cl_9_119 : am_cl 9 119 = some (0, 65, 2) := by decide +kernel
theorem cl_9_122 : am_cl 9 122 = some (0, 10, 0) := by decide +kernel
theorem cl_9_125 : am_cl 9 125 = some (0, 121, 0) := by decide +kernel
theorem cl_9_128 : am_cl 9 128 = some (0, 116, 1) := by decide +kernel
theorem cl_9_131 : am_cl 9 131 = some (0, 68, 1) := by decide +kernel
theorem cl_9_132 : am_cl 9 132 = some (3, 162, 1) := by decide +kernel
theorem cl_9_135 : am_cl 9 135 = some (0, 117, 3) := by decide +kernel
theorem cl_9_141 : am_cl 9 141 = some (0, 118, 2) := by decide +kernel
theorem cl_9_144 : am_cl 9 144 = some (0, 21, 1) := by decide +kernel
theorem cl_9_147 : am_cl 9 147 = some (0, 14, 2) := by decide +kernel
theorem cl_9_148 : am_cl 9 148 = some (0, 120, 2) := by decide +kernel
theorem cl_9_151 : am_cl 9 151 = some (0, 119, 1) := by decide +kernel
theorem cl_9_169 : am_cl 9 169 = some (3, 163, 1) := by decide +kernel
theorem cl_9_172 : am_cl 9 172 = some (0, 126, 1) := by decide +kernel
theorem cl_9_175 : am_cl 9 175 = some (0, 98, 2) := by decide +kernel
theorem cl_9_180 : am_cl 9 180 = some (0, 99, 0) := by decide +kernel
theorem cl_9_184 : am_cl 9 184 = some (0, 77, 1) := by decide +kernel
theorem cl_9_190 : am_cl 9 190 = some (0, 101, 1) := by decide +kernel
theorem cl_9_193 : am_cl 9 193 = some (0, 102, 0) := by decide +kernel
theorem cl_9_196 : am_cl 9 196 = some (0, 128, 2) := by decide +kernel
theorem cl_10_11 : am_cl 10 11 = some (2, 67, 0) := by decide +kernel
theorem cl_10_29 : am_cl 10 29 = some (0, 68, 1) := by decide +kernel
theorem cl_10_43 : am_cl 10 43 = some (0, 1, 1) := by decide +kernel
theorem cl_10_48 : am_cl 10 48 = some (0, 70, 3) := by decide +kernel
theorem cl_10_52 : am_cl 10 52 = some (0, 141, 5) := by decide +kernel
theorem cl_10_57 : am_cl 10 57 = some (0, 142, 1) := by decide +kernel
theorem cl_10_60 : am_cl 10 60 = some (0, 138, 0) := by decide +kernel
theorem cl_10_63 : am_cl 10 63 = some (0, 136, 0) := by decide +kernel
theorem cl_10_66 : am_cl 10 66 = some (0, 65, 2) := by decide +kernel
theorem cl_10_72 : am_cl 10 72 = some (0, 2, 1) := by decide +kernel
theorem cl_10_75 : am_cl 10 75 = some (3, 163, 1) := by decide +kernel
theorem cl_10_78 : am_cl 10 78 = some (0, 137, 2) := by decide +kernel
theorem cl_10_81 : am_cl 10 81 = some (0, 69, 2) := by decide +kernel
theorem cl_10_84 : am_cl 10 84 = some (0, 3, 1) := by decide +kernel
theorem cl_10_87 : am_cl 10 87 = some (0, 139, 2) := by decide +kernel
theorem cl_10_90 : am_cl 10 90 = some (1, 140, 1) := by decide +kernel
theorem cl_11_11 : am_cl 11 11 = some (4, 0, 0) := by decide +kernel
theorem cl_11_18 : am_cl 11 18 = some (2, 55, 1) := by decide +kernel
theorem cl_11_27 : am_cl 11 27 = some (4, 61, 0) := by decide +kernel
theorem cl_11_35 : am_cl 11 35 = some (1, 160, 1) := by decide +kernel
theorem cl_11_39 : am_cl 11 39 = some (0, 1, 1) := by decide +kernel
theorem cl_11_52 : am_cl 11 52 = some (0, 5, 4) := by decide +kernel
theorem cl_11_56 : am_cl 11 56 = some (0, 58, 1) := by decide +kernel
theorem cl_11_60 : am_cl 11 60 = some (0, 4, 2) := by decide +kernel
theorem cl_11_64 : am_cl 11 64 = some (0, 6, 2) := by decide +kernel
theorem cl_11_68 : am_cl 11 68 = some (0, 56, 2) := by decide +kernel
theorem cl_11_71 : am_cl 11 71 = some (0, 59, 2) := by decide +kernel
theorem cl_11_83 : am_cl 11 83 = some (0, 62, 1) := by decide +kernel
theorem cl_11_96 : am_cl 11 96 = some (0, 57, 0) := by decide +kernel
theorem cl_11_107 : am_cl 11 107 = some (0, 68, 1) := by decide +kernel
theorem cl_11_121 : am_cl 11 121 = some (1, 164, 3) := by decide +kernel
theorem cl_11_128 : am_cl 11 128 = some (1, 250, 2) := by decide +kernel
theorem cl_11_133 : am_cl 11 133 = some (1, 249, 2) := by decide +kernel
theorem cl_12_184 : am_cl 12 184 = some (1, 168, 3) := by decide +kernel
theorem cl_12_191 : am_cl 12 191 = some (1, 169, 1) := by decide +kernel
theorem cl_12_195 : am_cl 12 195 = some (0, 167, 1) := by decide +kernel
theorem cl_12_198 : am_cl 12 198 = some (0, 170, 1) := by decide +kernel
theorem cl_12_221 : am_cl 12 221 = some (0, 175, 3) := by decide +kernel
theorem cl_12_225 : am_cl 12 225 = some (0, 176, 3) := by decide +kernel
theorem cl_12_229 : am_cl 12 229 = some (0, 177, 1) := by decide +kernel
theorem cl_12_233 : am_cl 12 233 = some (1, 178, 1) := by decide +kernel
theorem cl_12_236 : am_cl 12 236 = some (0, 179, 0) := by decide +kernel
theorem cl_12_240 : am_cl 12 240 = some (0, 180, 2) := by decide +kernel
theorem cl_12_251 : am_cl 12 251 = some (0, 185, 0) := by decide +kernel
theorem cl_12_254 : am_cl 12 254 = some (0, 189, 4) := by decide +kernel
theorem cl_12_258 : am_cl 12 258 = some (0, 190, 2) := by decide +kernel
theorem cl_12_262 : am_cl 12 262 = some (0, 188, 2) := by decide +kernel
theorem cl_12_265 : am_cl 12 265 = some (1, 184, 1) := by decide +kernel
theorem cl_12_269 : am_cl 12 269 = some (0, 187, 5) := by decide +kernel
theorem cl_12_276 : am_cl 12 276 = some (0, 191, 2) := by decide +kernel
theorem cl_12_279 : am_cl 12 279 = some (1, 182, 1) := by decide +kernel
theorem cl_12_282 : am_cl 12 282 = some (1, 183, 1) := by decide +kernel
theorem cl_12_285 : am_cl 12 285 = some (0, 193, 1) := by decide +kernel
theorem cl_12_288 : am_cl 12 288 = some (0, 194, 1) := by decide +kernel
theorem cl_12_297 : am_cl 12 297 = some (0, 197, 2) := by decide +kernel
theorem cl_12_300 : am_cl 12 300 = some (0, 207, 3) := by decide +kernel
theorem cl_12_304 : am_cl 12 304 = some (0, 195, 3) := by decide +kernel
theorem cl_12_307 : am_cl 12 307 = some (0, 198, 3) := by decide +kernel
theorem cl_12_310 : am_cl 12 310 = some (0, 192, 1) := by decide +kernel
theorem cl_12_313 : am_cl 12 313 = some (0, 196, 2) := by decide +kernel
theorem cl_12_316 : am_cl 12 316 = some (1, 181, 2) := by decide +kernel
theorem cl_12_327 : am_cl 12 327 = some (0, 201, 2) := by decide +kernel
theorem cl_12_330 : am_cl 12 330 = some (0, 202, 1) := by decide +kernel
theorem cl_12_333 : am_cl 12 333 = some (0, 209, 1) := by decide +kernel
theorem cl_12_339 : am_cl 12 339 = some (0, 186, 1) := by decide +kernel
theorem cl_12_342 : am_cl 12 342 = some (0, 204, 3) := by decide +kernel
theorem cl_12_345 : am_cl 12 345 = some (0, 203, 2) := by decide +kernel
theorem cl_12_348 : am_cl 12 348 = some (0, 205, 3) := by decide +kernel
theorem cl_12_351 : am_cl 12 351 = some (0, 206, 3) := by decide +kernel
theorem cl_12_354 : am_cl 12 354 = some (0, 199, 2) := by decide +kernel
theorem cl_12_357 : am_cl 12 357 = some (0, 212, 3) := by decide +kernel
theorem cl_12_360 : am_cl 12 360 = some (0, 208, 4) := by decide +kernel
theorem cl_12_367 : am_cl 12 367 = some (0, 200, 3) := by decide +kernel
theorem cl_12_373 : am_cl 12 373 = some (0, 210, 1) := by decide +kernel
theorem cl_12_379 : am_cl 12 379 = some (0, 215, 1) := by decide +kernel
theorem cl_12_382 : am_cl 12 382 = some (0, 218, 2) := by decide +kernel
theorem cl_12_391 : am_cl 12 391 = some (0, 213, 3) := by decide +kernel
theorem cl_12_400 : am_cl 12 400 = some (0, 211, 2) := by decide +kernel
theorem cl_12_403 : am_cl 12 403 = some (0, 219, 3) := by decide +kernel
theorem cl_12_412 : am_cl 12 412 = some (0, 214, 1) := by decide +kernel
theorem cl_12_415 : am_cl 12 415 = some (0, 216, 1) := by decide +kernel
theorem cl_12_418 : am_cl 12 418 = some (0, 217, 3) := by decide +kernel
theorem cl_12_436 : am_cl 12 436 = some (0, 221, 0) := by decide +kernel
theorem cl_12_448 : am_cl 12 448 = some (0, 224, 1) := by decide +kernel
theorem cl_12_451 : am_cl 12 451 = some (0, 223, 1) := by decide +kernel
theorem cl_12_457 : am_cl 12 457 = some (0, 220, 4) := by decide +kernel
theorem cl_12_464 : am_cl 12 464 = some (0, 225, 1) := by decide +kernel
theorem cl_12_467 : am_cl 12 467 = some (0, 226, 2) := by decide +kernel
theorem cl_12_471 : am_cl 12 471 = some (0, 222, 2) := by decide +kernel
theorem cl_12_474 : am_cl 12 474 = some (0, 227, 1) := by decide +kernel
theorem cl_12_477 : am_cl 12 477 = some (0, 229, 1) := by decide +kernel
theorem cl_12_480 : am_cl 12 480 = some (0, 228, 1) := by decide +kernel
theorem cl_12_483 : am_cl 12 483 = some (0, 230, 1) := by decide +kernel
theorem cl_12_486 : am_cl 12 486 = some (0, 231, 1) := by decide +kernel
theorem cl_12_489 : am_cl 12 489 = some (0, 233, 0) := by decide +kernel
theorem cl_12_492 : am_cl 12 492 = some (0, 232, 0) := by decide +kernel
theorem cl_12_495 : am_cl 12 495 = some (0, 234, 0) := by decide +kernel
theorem cl_12_498 : am_cl 12 498 = some (0, 235, 0) := by decide +kernel
theorem cl_12_513 : am_cl 12 513 = some (0, 236, 1) := by decide +kernel
theorem cl_13_7 : am_cl 13 7 = some (0, 144, 4) := by decide +kernel
theorem cl_13_19 : am_cl 13 19 = some (0, 145, 2) := by decide +kernel
theorem cl_13_23 : am_cl 13 23 = some (0, 146, 2) := by decide +kernel
theorem cl_13_26 : am_cl 13 26 = some (0, 147, 2) := by decide +kernel
theorem cl_13_29 : am_cl 13 29 = some (0, 155, 2) := by decide +kernel
theorem cl_13_32 : am_cl 13 32 = some (0, 157, 1) := by decide +kernel
theorem cl_13_36 : am_cl 13 36 = some (0, 158, 3) := by decide +kernel
theorem cl_13_40 : am_cl 13 40 = some (0, 159, 1) := by decide +kernel
theorem cl_13_43 : am_cl 13 43 = some (2, 143, 0) := by decide +kernel
theorem cl_13_46 : am_cl 13 46 = some (2, 165, 0) := by decide +kernel
theorem cl_13_52 : am_cl 13 52 = some (0, 171, 4) := by decide +kernel
theorem cl_13_53 : am_cl 13 53 = some (0, 166, 0) := by decide +kernel
theorem cl_13_60 : am_cl 13 60 = some (0, 172, 2) := by decide +kernel
theorem cl_13_63 : am_cl 13 63 = some (0, 173, 2) := by decide +kernel
theorem cl_13_66 : am_cl 13 66 = some (0, 174, 2) := by decide +kernel
theorem cl_13_67 : am_cl 13 67 = some (0, 148, 0) := by decide +kernel
theorem cl_13_70 : am_cl 13 70 = some (0, 237, 0) := by decide +kernel
theorem cl_13_71 : am_cl 13 71 = some (0, 149, 0) := by decide +kernel
theorem cl_13_75 : am_cl 13 75 = some (0, 238, 0) := by decide +kernel
theorem cl_13_76 : am_cl 13 76 = some (0, 150, 0) := by decide +kernel
theorem cl_13_79 : am_cl 13 79 = some (0, 239, 0) := by decide +kernel
theorem cl_13_80 : am_cl 13 80 = some (0, 151, 0) := by decide +kernel
theorem cl_13_83 : am_cl 13 83 = some (0, 240, 0) := by decide +kernel
theorem cl_13_84 : am_cl 13 84 = some (0, 152, 0) := by decide +kernel
theorem cl_13_87 : am_cl 13 87 = some (0, 241, 0) := by decide +kernel
theorem cl_13_88 : am_cl 13 88 = some (0, 153, 0) := by decide +kernel
theorem cl_13_91 : am_cl 13 91 = some (0, 242, 0) := by decide +kernel
theorem cl_13_92 : am_cl 13 92 = some (0, 154, 0) := by decide +kernel
theorem cl_13_95 : am_cl 13 95 = some (0, 243, 0) := by decide +kernel
theorem cl_13_98 : am_cl 13 98 = some (0, 244, 2) := by decide +kernel
theorem cl_13_99 : am_cl 13 99 = some (0, 156, 0) := by decide +kernel
theorem cl_13_102 : am_cl 13 102 = some (0, 245, 0) := by decide +kernel
theorem cl_13_106 : am_cl 13 106 = some (0, 246, 1) := by decide +kernel
theorem cl_13_110 : am_cl 13 110 = some (0, 247, 3) := by decide +kernel
theorem cl_13_113 : am_cl 13 113 = some (0, 248, 1) := by decide +kernel
theorem cl_14_13 : am_cl 14 13 = some (1, 251, 3) := by decide +kernel
theorem cl_14_304 : am_cl 14 304 = some (1, 250, 2) := by decide +kernel
def am_nws : List (Nat × Nat × Nat × (Nat × Nat) × (Nat × Nat) × (Nat × Nat)) := [(0, 9, 10, (1, 47), (1, 48), (1, 3)), (1, 7, 10, (1, 224), (1, 48), (1, 3)), (2, 9, 10, (1, 95), (1, 48), (1, 3)), (3, 11, 10, (1, 80), (1, 48), (1, 3)), (4, 9, 6, (1, 74), (1, 75), (1, 5)), (4, 18, 5, (1, 89), (1, 90), (1, 6)), (4, 25, 9, (1, 110), (1, 111), (1, 7)), (4, 32, 4, (1, 218), (1, 219), (1, 9)), (4, 39, 13, (1, 233), (1, 234), (1, 10)), (4, 44, 11, (2, 23), (2, 24), (1, 11)), (4, 53, 12, (2, 89), (2, 90), (1, 12)), (5, 7, 10, (1, 124), (1, 48), (1, 3)), (6, 9, 10, (1, 116), (1, 48), (1, 3)), (6, 24, 8, (1, 118), (1, 119), (1, 8)), (8, 9, 10, (2, 29), (1, 48), (1, 3)), (9, 9, 10, (2, 95), (1, 48), (1, 3)), (10, 9, 10, (1, 239), (1, 48), (1, 3)), (11, 9, 3, (1, 41), (1, 42), (1, 2)), (11, 16, 7, (1, 68), (1, 69), (1, 4)), (11, 25, 8, (2, 168), (1, 119), (1, 8)), (13, 8, 14, (1, 33), (1, 34), (1, 1)), (13, 44, 15, (7, 88), (7, 89), (1, 13))]
def am_nw (own idx : Nat) : Option Nat := (am_nws.find? fun e => e.1 == own && e.2.1 == idx).map fun e => e.2.2.1
def am_nwok (e : Nat × Nat × Nat × (Nat × Nat) × (Nat × Nat) × (Nat × Nat)) : Bool := decide (3 ≤ e.2.2.1 ∧ e.2.2.1 ≤ 15) && am_has e.2.2.2.1 (.classLink (am_R e.1) e.2.1 (am_R (e.2.2.1 - 3))) && am_has e.2.2.2.2.1 (.instantiable (am_R (e.2.2.1 - 3)) (am_nf e.2.2.1)) && am_has e.2.2.2.2.2 (.initialized (am_R (e.2.2.1 - 3)))
set_option maxRecDepth 100000 in
theorem am_nws_ok : am_nws.all am_nwok = true := by decide +kernel
theorem am_nw_ok {own idx ci : Nat} (h : am_nw own idx = some ci) : 3 ≤ ci ∧ ci ≤ 15 ∧ Cond.classLink (am_R own) idx (am_R (ci - 3)) ∈ am_G ∧ Cond.instantiable (am_R (ci - 3)) (am_nf ci) ∈ am_G ∧ Cond.initialized (am_R (ci - 3)) ∈ am_G := by
  unfold am_nw at h
  rw [Option.map_eq_some_iff] at h
  obtain ⟨⟨o, i, ci', p, q, r⟩, h1, h2⟩ := h
  cases h2
  have hm := List.mem_of_find?_eq_some h1
  have hp := List.find?_some h1
  dsimp only at hp
  rw [Bool.and_eq_true, beq_iff_eq, beq_iff_eq] at hp
  obtain ⟨rfl, rfl⟩ := hp
  have h := List.all_eq_true.mp am_nws_ok _ hm
  unfold am_nwok at h
  simp only [Bool.and_eq_true, decide_eq_true_eq] at h
  exact ⟨h.1.1.1.1, h.1.1.1.2, am_has_in h.1.1.2, am_has_in h.1.2, am_has_in h.2⟩
theorem nw_0_9 : am_nw 0 9 = some 10 := by decide +kernel
theorem nw_1_7 : am_nw 1 7 = some 10 := by decide +kernel
theorem nw_2_9 : am_nw 2 9 = some 10 := by decide +kernel
theorem nw_3_11 : am_nw 3 11 = some 10 := by decide +kernel
theorem nw_4_9 : am_nw 4 9 = some 6 := by decide +kernel
theorem nw_4_18 : am_nw 4 18 = some 5 := by decide +kernel
theorem nw_4_25 : am_nw 4 25 = some 9 := by decide +kernel
theorem nw_4_32 : am_nw 4 32 = some 4 := by decide +kernel
theorem nw_4_39 : am_nw 4 39 = some 13 := by decide +kernel
theorem nw_4_44 : am_nw 4 44 = some 11 := by decide +kernel
theorem nw_4_53 : am_nw 4 53 = some 12 := by decide +kernel
theorem nw_5_7 : am_nw 5 7 = some 10 := by decide +kernel
theorem nw_6_9 : am_nw 6 9 = some 10 := by decide +kernel
theorem nw_6_24 : am_nw 6 24 = some 8 := by decide +kernel
theorem nw_8_9 : am_nw 8 9 = some 10 := by decide +kernel
theorem nw_9_9 : am_nw 9 9 = some 10 := by decide +kernel
theorem nw_10_9 : am_nw 10 9 = some 10 := by decide +kernel
theorem nw_11_9 : am_nw 11 9 = some 3 := by decide +kernel
theorem nw_11_16 : am_nw 11 16 = some 7 := by decide +kernel
theorem nw_11_25 : am_nw 11 25 = some 8 := by decide +kernel
theorem nw_13_8 : am_nw 13 8 = some 14 := by decide +kernel
theorem nw_13_44 : am_nw 13 44 = some 15 := by decide +kernel
def am_ois : List (Nat × Nat × (Nat × Nat)) := [(0, 3, (1, 46)), (1, 1, (1, 223)), (2, 3, (1, 94)), (3, 5, (1, 79)), (4, 3, (1, 73)), (5, 1, (1, 123)), (6, 3, (1, 115)), (7, 1, (1, 52)), (8, 3, (2, 28)), (9, 3, (2, 94)), (10, 3, (1, 238)), (11, 3, (1, 38)), (12, 1, (7, 93))]
def am_oi (own idx : Nat) : Bool := (am_ois.find? fun e => e.1 == own && e.2.1 == idx).isSome
set_option maxRecDepth 100000 in
theorem am_ois_ok : am_ois.all (fun e => am_has e.2.2 (.methodLink (am_R e.1) e.2.1 objectInit)) = true := by decide +kernel
theorem am_oi_ok {own idx : Nat} (h : am_oi own idx = true) : Cond.methodLink (am_R own) idx objectInit ∈ am_G := by
  unfold am_oi at h
  obtain ⟨⟨o, i, p⟩, h1⟩ := Option.isSome_iff_exists.mp h
  have hm := List.mem_of_find?_eq_some h1
  have hp := List.find?_some h1
  dsimp only at hp
  rw [Bool.and_eq_true, beq_iff_eq, beq_iff_eq] at hp
  obtain ⟨rfl, rfl⟩ := hp
  exact am_has_in (List.all_eq_true.mp am_ois_ok _ hm)
theorem am_objI : Cond.instanceMethod objectInit ∈ am_G := am_has_in (q := (1, 39)) (by decide +kernel)
theorem am_objC : Cond.code objectInit ⟨#[0xb1]⟩ 1 none ∈ am_G := am_has_in (q := (1, 40)) (by decide +kernel)
theorem oi_0_3 : am_oi 0 3 = true := by decide +kernel
theorem oi_1_1 : am_oi 1 1 = true := by decide +kernel
theorem oi_2_3 : am_oi 2 3 = true := by decide +kernel
theorem oi_3_5 : am_oi 3 5 = true := by decide +kernel
theorem oi_4_3 : am_oi 4 3 = true := by decide +kernel
theorem oi_5_1 : am_oi 5 1 = true := by decide +kernel
theorem oi_6_3 : am_oi 6 3 = true := by decide +kernel
theorem oi_7_1 : am_oi 7 1 = true := by decide +kernel
theorem oi_8_3 : am_oi 8 3 = true := by decide +kernel
theorem oi_9_3 : am_oi 9 3 = true := by decide +kernel
theorem oi_10_3 : am_oi 10 3 = true := by decide +kernel
theorem oi_11_3 : am_oi 11 3 = true := by decide +kernel
theorem oi_12_1 : am_oi 12 1 = true := by decide +kernel
theorem ld_2_26 : Cond.constant (am_R 2) 26 (Int32.ofInt (262144)) ∈ am_G := am_has_in (q := (4, 212)) (by decide +kernel)
theorem ld_4_155 : Cond.constant (am_R 4) 155 (Int32.ofInt (1000000)) ∈ am_G := am_has_in (q := (4, 185)) (by decide +kernel)
theorem ld_6_59 : Cond.constant (am_R 6) 59 (Int32.ofInt (100000)) ∈ am_G := am_has_in (q := (4, 126)) (by decide +kernel)
theorem ld_7_13 : Cond.constant (am_R 7) 13 (Int32.ofInt (4194304)) ∈ am_G := am_has_in (q := (2, 198)) (by decide +kernel)
theorem ld_10_56 : Cond.constant (am_R 10) 56 (Int32.ofInt (1000000)) ∈ am_G := am_has_in (q := (4, 108)) (by decide +kernel)
theorem ld_12_205 : Cond.constant (am_R 12) 205 (Int32.ofInt (100000)) ∈ am_G := am_has_in (q := (8, 205)) (by decide +kernel)
theorem ld_12_244 : Cond.constantLong (am_R 12) 244 (Int64.ofInt (-9999)) ∈ am_G := am_has_in (q := (9, 61)) (by decide +kernel)
theorem ld_12_246 : Cond.constantLong (am_R 12) 246 (Int64.ofInt (9999)) ∈ am_G := am_has_in (q := (9, 62)) (by decide +kernel)
theorem am_aI : Cond.arrayClass .int ∈ am_G := am_has_in (q := (1, 57)) (by decide +kernel)
theorem am_aZ : Cond.arrayClass .boolean ∈ am_G := am_has_in (q := (8, 137)) (by decide +kernel)
theorem am_aJ : Cond.arrayClass .long ∈ am_G := am_has_in (q := (8, 138)) (by decide +kernel)
