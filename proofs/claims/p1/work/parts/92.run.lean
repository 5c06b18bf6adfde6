/-! ===== compile and isAsAnew on a fresh object, by computation ===== -/
def y_t (o : Option x_R) (x : Int) : Bool := match o with
  | some (some (.inl y), w) => y == x && decide (0 ≤ w.1 0 0 ∧ w.1 0 0 ≤ 1)
  | _ => false
theorem y_get {o : Option x_R} {x : Int} (h : y_t o x = true) : ∃ w, o = some (some (.inl x), w) ∧ 0 ≤ w.1 0 0 ∧ w.1 0 0 ≤ 1 := by
  unfold y_t at h
  split at h
  · rename_i y w
    rw [Bool.and_eq_true, beq_iff_eq] at h
    exact ⟨w, by rw [h.1], of_decide_eq_true h.2⟩
  · cases h
def y_o1 : Option x_R := wx 4000 40 11 1 1 cX11_compile 0 (am_loc0 1 [.inr (.inr (.inl 1))]) [] w_0
def y_w1 : W_ := (y_o1.getD (none, w_0)).2
def y_o3 : Option x_R := wx 4000 40 11 1 2 cX11_isAsAnew 0 (am_loc0 1 [.inr (.inr (.inl 1))]) [] w_0
def y_w3 : W_ := (y_o3.getD (none, w_0)).2
def y_o2 : Option x_R := wx 9000 40 12 3 1 cX12_compile 0 (am_loc0 3 [.inr (.inr (.inl 73))]) [] y_w1
def y_o4 : Option x_R := wx 4000 40 12 5 2 cX12_isAsAnew 0 (am_loc0 5 [.inr (.inr (.inl 73))]) [] y_w3
theorem y_t3 : y_t y_o3 0 = true := by decide +kernel
theorem y_t4 : y_t y_o4 0 = true := by decide +kernel
set_option maxRecDepth 100000 in
theorem y_t1 : y_t y_o1 1 = true := by decide +kernel
set_option maxRecDepth 100000 in
theorem y_t2 : y_t y_o2 1 = true := by decide +kernel
theorem one_isAsAnew : lw_C lw_1 149 238 := fun k w hk hI => by
  have k0 : k = 0 := by omega
  subst k0
  rw [lw_1_0 hI]
  obtain ⟨w3, e3, -, -⟩ := y_get y_t3
  obtain ⟨w4, e4, b4, c4⟩ := y_get y_t4
  have ew : y_w3 = w3 := by
    unfold y_w3
    rw [e3]
    rfl
  unfold y_o4 at e4
  rw [ew] at e4
  refine ⟨0, 40, 40, ⟨by decide, by decide⟩, n0_rg0, (wx_ct (n := 4000) (fr := 40) (mid := 149) (as := [.inr (.inr (.inl 1))]) (w := w_0) rfl ml_149 (by decide) e3).mono ?_⟩
  rintro _ _ ⟨rfl, rfl⟩
  refine ⟨rfl, (wx_ct (n := 4000) (fr := 40) (mid := 238) (as := [.inr (.inr (.inl 73))]) rfl ml_238 (by decide) e4).mono ?_⟩
  rintro _ _ ⟨rfl, rfl⟩
  exact ⟨rfl, lw_1_1 b4 c4⟩
theorem one_compile : lw_C lw_1 148 237 := fun k w hk hI => by
  have k0 : k = 0 := by omega
  subst k0
  rw [lw_1_0 hI]
  obtain ⟨w1, e1, -, -⟩ := y_get y_t1
  obtain ⟨w2, e2, b2, c2⟩ := y_get y_t2
  have ew : y_w1 = w1 := by
    unfold y_w1
    rw [e1]
    rfl
  unfold y_o2 at e2
  rw [ew] at e2
  refine ⟨1, 40, 40, ⟨by decide, by decide⟩, ⟨by decide, by decide⟩, (wx_ct (n := 4000) (fr := 40) (mid := 148) (as := [.inr (.inr (.inl 1))]) (w := w_0) rfl ml_148 (by decide) e1).mono ?_⟩
  rintro _ _ ⟨rfl, rfl⟩
  refine ⟨rfl, (wx_ct (n := 9000) (fr := 40) (mid := 237) (as := [.inr (.inr (.inl 73))]) rfl ml_237 (by decide) e2).mono ?_⟩
  rintro _ _ ⟨rfl, rfl⟩
  exact ⟨rfl, lw_1_1 b2 c2⟩
