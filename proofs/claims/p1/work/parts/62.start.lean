/-! ===== from the law's entry ===== -/
theorem W_rm {p : Program} {l : Launch} {e : Env} {R R' : Room} {s : State} {m : MethodId} {args : Array Value} {below : List Frame} {meth : Method} {c : Code} {H : Heap} {locs : List Loc} {cells slots : Nat} {Q : State → Prop} {g : JFrame} (hf : R'.frames ≤ R.frames) (hl : R'.locals ≤ R.locals) (hc : R'.cells ≤ R.cells) (hs : R'.slots ≤ R.slots)
    (k : W p l e R' s m args below meth c H locs cells slots Q g) : W p l e R s m args below meth c H locs cells slots Q g := by
  intro T hT X
  refine k T hT ⟨X.admits, X.cas, X.clock, X.frames, ?_, X.hears, X.method, X.code, X.here, X.tail, X.warmed, X.limits, X.bytes, X.same⟩
  have h := X.room
  simp only [State.hasRoom, Bool.and_eq_true, decide_eq_true_eq] at h ⊢
  obtain ⟨⟨⟨⟨h1, h2, h3, h4, h5, h6⟩, h7⟩, h8⟩, h9⟩ := h
  exact ⟨⟨⟨⟨by omega, by omega, by omega, by omega, by omega, h6⟩, by omega⟩, by omega⟩, h9⟩
theorem am_Gt {w : Cond} (h : w ∈ am_G) : w ∈ lw_tbl := (List.mem_filter.mp h).1
theorem st_w0 : ∀ w ∈ u_ws RJ0 TJ0 4, w ∈ lw_tbl := fun w hw => of_decide_eq_true (List.all_eq_true.mp (show (u_ws RJ0 TJ0 4).all (fun w => decide (w ∈ lw_tbl)) = true by decide +kernel) w hw)
theorem st_w1 : ∀ w ∈ u_ws RJ4 TJ4 4, w ∈ lw_tbl := fun w hw => of_decide_eq_true (List.all_eq_true.mp (show (u_ws RJ4 TJ4 4).all (fun w => decide (w ∈ lw_tbl)) = true by decide +kernel) w hw)
theorem st_w2 : ∀ w ∈ u_ws RJx00060 TJx00060 6, w ∈ lw_tbl := fun w hw => of_decide_eq_true (List.all_eq_true.mp (show (u_ws RJx00060 TJx00060 6).all (fun w => decide (w ∈ lw_tbl)) = true by decide +kernel) w hw)
theorem st_arr {s : State} {args : Array Value} {ty : FieldType} (h : (Cond.arrayClass ty).before args s = true) : ∃ cA, ArrOfT s cA ty ∧ s.vm.findClass ("[" ++ ty.toString) = some cA := by
  obtain ⟨cA, kA, comp, h1, h2, h3⟩ := Cond.arrayClass_spec h
  exact ⟨cA, fun n z => ⟨fun k h => (by cases h), kA, h2, comp, h3⟩, h1⟩
set_option maxHeartbeats 4000000 in
theorem st_K {s : State} {args : Array Value} (hts : ∀ w ∈ lw_tbl, w.before args s = true) : ∃ D cA, am_K D cA s := by
  obtain ⟨c0, j0, k0⟩ := u_known (C := RJ0) (T := TJ0) (N := 4) (n := 4) hts st_w0 (hts _ (am_at_in (q := (3, 200)) rfl))
  obtain ⟨c1, j1, k1⟩ := u_known (C := RJ4) (T := TJ4) (N := 4) (n := 4) hts st_w1 (hts _ (am_at_in (q := (3, 24)) rfl))
  obtain ⟨c2, j2, k2⟩ := u_known (C := RJx00060) (T := TJx00060) (N := 6) (n := 6) hts st_w2 (hts _ (am_at_in (q := (4, 42)) rfl))
  obtain ⟨c3, j3, k3⟩ := u_known (C := RX0) (T := TX0) (N := 3) (n := 3) hts (fun w hw => am_Gt (am_l0 w hw)) (hts _ (am_at_in (q := (1, 42)) rfl))
  obtain ⟨c4, j4, k4⟩ := u_known (C := RX1) (T := TX1) (N := 2) (n := 2) hts (fun w hw => am_Gt (am_l1 w hw)) (hts _ (am_at_in (q := (1, 219)) rfl))
  obtain ⟨c5, j5, k5⟩ := u_known (C := RX2) (T := TX2) (N := 4) (n := 4) hts (fun w hw => am_Gt (am_l2 w hw)) (hts _ (am_at_in (q := (1, 90)) rfl))
  obtain ⟨c6, j6, k6⟩ := u_known (C := RX3) (T := TX3) (N := 2) (n := 2) hts (fun w hw => am_Gt (am_l3 w hw)) (hts _ (am_at_in (q := (1, 75)) rfl))
  obtain ⟨c7, j7, k7⟩ := u_known (C := RX4) (T := TX4) (N := 6) (n := 6) hts (fun w hw => am_Gt (am_l4 w hw)) (hts _ (am_at_in (q := (1, 69)) rfl))
  obtain ⟨c8, j8, k8⟩ := u_known (C := RX5) (T := TX5) (N := 10) (n := 10) hts (fun w hw => am_Gt (am_l5 w hw)) (hts _ (am_at_in (q := (1, 119)) rfl))
  obtain ⟨c9, j9, k9⟩ := u_known (C := RX6) (T := TX6) (N := 8) (n := 8) hts (fun w hw => am_Gt (am_l6 w hw)) (hts _ (am_at_in (q := (1, 111)) rfl))
  obtain ⟨c10, j10, k10⟩ := u_known (C := RX7) (T := TX7) (N := 1) (n := 1) hts (fun w hw => am_Gt (am_l7 w hw)) (hts _ (am_at_in (q := (1, 48)) rfl))
  obtain ⟨c11, j11, k11⟩ := u_known (C := RX8) (T := TX8) (N := 18) (n := 18) hts (fun w hw => am_Gt (am_l8 w hw)) (hts _ (am_at_in (q := (2, 24)) rfl))
  obtain ⟨c12, j12, k12⟩ := u_known (C := RX9) (T := TX9) (N := 17) (n := 17) hts (fun w hw => am_Gt (am_l9 w hw)) (hts _ (am_at_in (q := (2, 90)) rfl))
  obtain ⟨c13, j13, k13⟩ := u_known (C := RX10) (T := TX10) (N := 7) (n := 7) hts (fun w hw => am_Gt (am_l10 w hw)) (hts _ (am_at_in (q := (1, 234)) rfl))
  obtain ⟨c14, j14, k14⟩ := u_known (C := RX11) (T := TX11) (N := 5) (n := 5) hts (fun w hw => am_Gt (am_l11 w hw)) (hts _ (am_at_in (q := (1, 34)) rfl))
  obtain ⟨c15, j15, k15⟩ := u_known (C := RX12) (T := TX12) (N := 94) (n := 94) hts (fun w hw => am_Gt (am_l12 w hw)) (hts _ (am_at_in (q := (7, 89)) rfl))
  obtain ⟨a0, b0⟩ := st_arr (hts _ (show Cond.arrayClass .int ∈ lw_tbl by decide +kernel))
  obtain ⟨a1, b1⟩ := st_arr (hts _ (show Cond.arrayClass .boolean ∈ lw_tbl by decide +kernel))
  obtain ⟨a2, b2⟩ := st_arr (hts _ (show Cond.arrayClass .long ∈ lw_tbl by decide +kernel))
  refine ⟨(fun c => [c0, c1, c2, c3, c4, c5, c6, c7, c8, c9, c10, c11, c12, c13, c14, c15].getD c c0, fun c => [j0, j1, j2, j3, j4, j5, j6, j7, j8, j9, j10, j11, j12, j13, j14, j15].getD c j0), fun c => [a0, a1, a2].getD c a0, ⟨fun c q hq => ?_, fun c q hq => ?_⟩, fun w hw => ?_⟩
  · match c, hq with
    | 0, hq => cases hq; exact k0
    | 1, hq => cases hq; exact k1
    | 2, hq => cases hq; exact k2
    | 3, hq => cases hq; exact k3
    | 4, hq => cases hq; exact k4
    | 5, hq => cases hq; exact k5
    | 6, hq => cases hq; exact k6
    | 7, hq => cases hq; exact k7
    | 8, hq => cases hq; exact k8
    | 9, hq => cases hq; exact k9
    | 10, hq => cases hq; exact k10
    | 11, hq => cases hq; exact k11
    | 12, hq => cases hq; exact k12
    | 13, hq => cases hq; exact k13
    | 14, hq => cases hq; exact k14
    | 15, hq => cases hq; exact k15
    | c + 16, hq => simp [vwCl] at hq
  · match c, hq with
    | 0, hq => cases hq; exact ⟨b0.1, b0.2⟩
    | 1, hq => cases hq; exact ⟨b1.1, b1.2⟩
    | 2, hq => cases hq; exact ⟨b2.1, b2.2⟩
    | c + 3, hq => simp [am_tys] at hq
  · obtain ⟨q, -, hq⟩ := List.mem_filterMap.mp hw
    obtain ⟨o, i, y, b, rfl⟩ := am_nwp_ok w hw
    exact va_Nw.of rfl (hts _ (am_at_in hq))
theorem st_xw : ∀ w ∈ am_xw, w ∈ lw_tbl := fun w hw => of_decide_eq_true (List.all_eq_true.mp (show am_xw.all (fun w => decide (w ∈ lw_tbl)) = true by decide +kernel) w hw)
theorem st_lx {s : State} {b : Nat} {l : Launch} (hflags : l.flags = flags0) (hts : ∀ w ∈ lw_tbl, w.before #[Value.ref b] s = true) (hgv : (Jvm.Cond.and given_1 narrow_1).before #[Value.ref b] s = true) : am_lx l (fun q => s.heap.size ≤ q) s := by
  have hs := flat_of_before _ hgv
  refine ⟨?_, ⟨vx_Zqof (hts _ (by decide +kernel)) (hts _ (by decide +kernel)) (hs _ (by decide +kernel)) (fun a h => Nat.not_le.mpr h), vx_Zqof (hts _ (by decide +kernel)) (hts _ (by decide +kernel)) (hs _ (by decide +kernel)) (fun a h => Nat.not_le.mpr h)⟩, fun w hw => ?_, va_Nc.of (hs _ (by decide +kernel)), va_Nc.of (hs _ (by decide +kernel)), va_Nc.of (hs _ (by decide +kernel))⟩
  · unfold Launch.stackTraces
    rw [hflags]
    decide +kernel
  · have h := hts _ (st_xw w hw)
    unfold am_xw at hw
    simp only [List.mem_cons, List.not_mem_nil, or_false] at hw
    rcases hw with rfl | rfl | rfl | rfl | rfl | rfl <;> exact va_Nw.of rfl h
