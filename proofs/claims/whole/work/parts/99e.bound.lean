/-! ===== the evaluator: it always comes to an end in its bounds ===== -/
/-- nodes of the heap -/
def eND (d c : Nat) (s s1 : S_) : Prop := fcz s1 = fcz s → (300 ≤ s_tb s → 11 * s_nd s1 ≤ 11 * s_nd s + 22 * c) ∧ (s_tb s < 300 → (s_tb s1 < 300 → 11 * s_nd s1 + 110 * s_tb s ≤ 11 * s_nd s + 110 * s_tb s1 + c) ∧ (300 ≤ s_tb s1 → 11 * s_nd s1 + 110 * s_tb s ≤ 11 * s_nd s + 33000 + 23 * c + 1276 * (8 - d)))
/-- ahead of what is evaluated: fuel, open tokens, files around, tokens to come -/
def eBH (n o j c : Nat) (s : S_) : Prop := s_dp s ≤ 8 ∧ max (s_tb s) (Kd (s_dp s)) + c + 500 * fcz s + 500 * j ≤ Kd (s_dp s) + 1060 + 60 * j ∧ o + kt s + c ≤ 358 + 61 * j ∧ (j = 0 → o + kt s + c ≤ 60 + 58 * s_dp s) ∧ 512 ≤ n + o + s_dp s + 10 * j ∧ o + kt s ≤ s_tb s ∧ fcz s + j ≤ 2 ∧ s_rw s + 3 * fcz s ≤ s_tb s + 226 ∧ s_tb s ≤ s_b s ∧ sG (s_tb s - o - kt s) s
/-- behind it -/
def eBQ (o c : Nat) (s s1 : S_) : Prop := s_dp s1 = s_dp s ∧ max (s_tb s1) (Kd (s_dp s)) + 500 * fcz s1 ≤ max (s_tb s) (Kd (s_dp s)) + c + 500 * fcz s ∧ fcz s1 ≤ fcz s ∧ s_tb s + kt s1 ≤ s_tb s1 + kt s ∧ kt s1 ≤ kt s + c ∧ s_tb s ≤ s_tb s1 ∧ s_rw s1 + 3 * fcz s1 + s_tb s ≤ s_rw s + 3 * fcz s + s_tb s1 ∧ s_tb s1 ≤ s_b s1 ∧ sG (s_tb s1 - o - kt s1) s1 ∧ o + kt s1 ≤ s_tb s1 ∧ eND (s_dp s) c s s1
/-- what an operation leaves -/
def eSO (x r : Nat) (s s1 : S_) : Prop := s_b s1 = s_b s ∧ s_dp s1 = s_dp s ∧ s_tb s1 = s_tb s ∧ s_fs s1 = s_fs s ∧ s_fe s1 = s_fe s ∧ s_rw s1 ≤ s_rw s + r ∧ s_nd s1 ≤ s_nd s + x
def eBR (o c : Nat) (s : S_) (O : O_) : Prop := ∃ v E1 s1, O = some (v, E1, s1) ∧ eBQ o c s s1 ∧ gv v ∧ v_m v + (o + kt s1) ≤ s_tb s1 ∧ nG (s_tb s1 - o - kt s1) E1
def eBKn (n : Nat) (C : C_) (K : K_) : Prop := ∀ o j sil e E hb s, eBH n o j (c_sz e) s → c_sz e ≤ 59 → nG (s_tb s - o - kt s) E → eBR o (c_sz e) s (K sil e E hb s) ∧ ∀ v E1 s1, K sil e E hb s = some (v, E1, s1) → v_isW v = false → 1 ≤ c_sz e
theorem fcz_eq {s s1 : S_} (h : s_fs s1 = s_fs s) : fcz s1 = fcz s := by unfold fcz; rw [h]
theorem sG_same {T : Nat} {s s1 : S_} (h : sG T s) (e1 : s_fs s1 = s_fs s) (e2 : s_fe s1 = s_fe s) (e3 : s_tl s1 = s_tl s) : sG T s1 := by
  unfold sG
  rw [e1, e2, e3]
  exact h
theorem eND_tr {d c1 c2 : Nat} {s s1 s2 : S_} (h1 : eND d c1 s s1) (h2 : eND d c2 s1 s2) (m1 : fcz s1 ≤ fcz s) (m2 : fcz s2 ≤ fcz s1) (t1 : s_tb s ≤ s_tb s1) (t2 : s_tb s1 ≤ s_tb s2) : eND d (c1 + c2) s s2 := by
  intro e
  obtain ⟨a1, a2⟩ := h1 (by omega)
  obtain ⟨b1, b2⟩ := h2 (by omega)
  refine ⟨fun q => ?_, fun q => ⟨fun r => ?_, fun r => ?_⟩⟩
  · have x1 := a1 q
    have x2 := b1 (by omega)
    omega
  · have x1 := (a2 q).1 (by omega)
    have x2 := (b2 (by omega)).1 r
    omega
  · by_cases c : 300 ≤ s_tb s1
    · have x1 := (a2 q).2 c
      have x2 := b1 c
      omega
    · have x1 := (a2 q).1 (by omega)
      have x2 := (b2 (by omega)).2 r
      omega
theorem eBQ_tr {o c1 c2 : Nat} {s s1 s2 : S_} (h : eBQ o c1 s s1) (g : eBQ o c2 s1 s2) : eBQ o (c1 + c2) s s2 := by
  obtain ⟨a1, a2, a3, a4, a5, a6, a7, a8, a9, a10, a11⟩ := h
  obtain ⟨b1, b2, b3, b4, b5, b6, b7, b8, b9, b10, b11⟩ := g
  rw [a1] at b2 b11
  refine ⟨b1.trans a1, ?_, Nat.le_trans b3 a3, ?_, ?_, Nat.le_trans a6 b6, ?_, b8, b9, b10, eND_tr a11 b11 a3 b3 a6 b6⟩
  · omega
  · omega
  · omega
  · omega
theorem eBQ_le {o o' c c' : Nat} {s s1 : S_} (h : eBQ o c s s1) (ho : o' ≤ o) (hc : c ≤ c') : eBQ o' c' s s1 := by
  obtain ⟨a1, a2, a3, a4, a5, a6, a7, a8, a9, a10, a11⟩ := h
  refine ⟨a1, by omega, a3, a4, by omega, a6, a7, a8, sG_mono a9 (by omega), by omega, fun e => ?_⟩
  obtain ⟨x1, x2⟩ := a11 e
  refine ⟨fun q => ?_, fun q => ⟨fun r => ?_, fun r => ?_⟩⟩
  · have := x1 q; omega
  · have := (x2 q).1 r; omega
  · have := (x2 q).2 r; omega
theorem eBQ_refl {n o j c : Nat} {s : S_} (h : eBH n o j c s) : eBQ o 0 s s := by
  obtain ⟨a1, a2, a3, a4, a5, a6, a7, a8, a9, a10⟩ := h
  refine ⟨rfl, by omega, Nat.le_refl _, by omega, by omega, Nat.le_refl _, by omega, a9, a10, a6, fun _ => ⟨fun q => by omega, fun q => ⟨fun r => by omega, fun r => by omega⟩⟩⟩
theorem eBH_le {n o j c c' : Nat} {s : S_} (h : eBH n o j c s) (hc : c' ≤ c) : eBH n o j c' s := by
  obtain ⟨a1, a2, a3, a4, a5, a6, a7, a8, a9, a10⟩ := h
  exact ⟨a1, by omega, by omega, fun q => by have := a4 q; omega, a5, a6, a7, a8, a9, a10⟩
theorem eBH_step {n o j c1 c2 : Nat} {s s1 : S_} (h : eBH n o j (c1 + c2) s) (g : eBQ o c1 s s1) : eBH n o j c2 s1 := by
  obtain ⟨a1, a2, a3, a4, a5, a6, a7, a8, a9, a10⟩ := h
  obtain ⟨b1, b2, b3, b4, b5, b6, b7, b8, b9, b10, b11⟩ := g
  refine ⟨by omega, ?_, by omega, fun q => ?_, by omega, b10, by omega, by omega, b8, b9⟩
  · rw [b1]; omega
  · have := a4 q
    omega
theorem eBH_go {n o j c : Nat} {s : S_} (h : eBH (n + 1) o j (c + 1) s) : eBH n (o + 1) j c (u_go s) := by
  obtain ⟨a1, a2, a3, a4, a5, a6, a7, a8, a9, a10⟩ := h
  refine ⟨a1, ?_, ?_, fun q => ?_, ?_, ?_, a7, ?_, ?_, ?_⟩
  · show max (s_tb s + 1) (Kd (s_dp s)) + c + 500 * fcz s + 500 * j ≤ Kd (s_dp s) + 1060 + 60 * j
    omega
  · show o + 1 + kt s + c ≤ _
    omega
  · have := a4 q
    show o + 1 + kt s + c ≤ 60 + 58 * s_dp s
    omega
  · show 512 ≤ n + (o + 1) + s_dp s + 10 * j
    omega
  · show o + 1 + kt s ≤ s_tb s + 1
    omega
  · show s_rw s + 3 * fcz s ≤ s_tb s + 1 + 226
    omega
  · show s_tb s + 1 ≤ s_b s + 1
    omega
  · have e : s_tb (u_go s) - (o + 1) - kt (u_go s) = s_tb s - o - kt s := by
      show s_tb s + 1 - (o + 1) - kt s = _
      omega
    rw [e]
    exact a10
theorem eBH_L {n o j c : Nat} {s s1 : S_} {v : T_} (H : eBH n o j c s) (h : max (s_tb s1) (Kd (s_dp s)) + 500 * fcz s1 ≤ max (s_tb s) (Kd (s_dp s)) + c + 500 * fcz s) (hv : v_m v + o ≤ s_tb s1) : v_dp v ≤ 2 * n + 992 := by
  obtain ⟨a1, a2, a3, a4, a5, a6, a7, a8, a9, a10⟩ := H
  have hd := v_dp_le v
  unfold Kd at *
  have hj : j = 0 ∨ j = 1 ∨ j = 2 := by omega
  rcases hj with rfl | rfl | rfl
  · have := a4 rfl
    omega
  · omega
  · omega
/-- a token ends: an operation behind its parts -/
theorem eBQ_end {o o' c c' x r : Nat} {s s1 s2 : S_} (h : eBQ o c (u_go s) s1) (so : eSO x r s1 s2) (hr : r ≤ 1) (hc : c + 1 ≤ c') (hx1 : 11 * x ≤ 22 * (c' - c)) (hx2 : 11 * x ≤ 110 + (c' - c)) (hk : kt s2 ≤ kt s1 + 1) (ho : o' + kt s2 ≤ s_tb s2) (hs : sG (s_tb s2 - o' - kt s2) s2) : eBQ o' c' s s2 := by
  obtain ⟨a1, a2, a3, a4, a5, a6, a7, a8, a9, a10, a11⟩ := h
  obtain ⟨b1, b2, b3, b4, b5, b6, b7⟩ := so
  have f2 := fcz_eq b4
  have g1 : s_dp s1 = s_dp s := a1
  have g2 : max (s_tb s1) (Kd (s_dp s)) + 500 * fcz s1 ≤ max (s_tb s + 1) (Kd (s_dp s)) + c + 500 * fcz s := a2
  have g3 : fcz s1 ≤ fcz s := a3
  have g4 : s_tb s + 1 + kt s1 ≤ s_tb s1 + kt s := a4
  have g5 : kt s1 ≤ kt s + c := a5
  have g6 : s_tb s + 1 ≤ s_tb s1 := a6
  have g7 : s_rw s1 + 3 * fcz s1 + (s_tb s + 1) ≤ s_rw s + 3 * fcz s + s_tb s1 := a7
  refine ⟨by omega, ?_, by omega, by omega, by omega, by omega, by omega, by omega, hs, ho, fun e => ?_⟩
  · rw [b3, f2]; omega
  · obtain ⟨x1, x2⟩ := a11 (by show fcz s1 = fcz s; omega)
    refine ⟨fun q => ?_, fun q => ⟨fun t => ?_, fun t => ?_⟩⟩
    · have y : 11 * s_nd s1 ≤ 11 * s_nd s + 22 * c := x1 (by show 300 ≤ s_tb s + 1; omega)
      omega
    · have y : 11 * s_nd s1 + 110 * (s_tb s + 1) ≤ 11 * s_nd s + 110 * s_tb s1 + c := (x2 (by show s_tb s + 1 < 300; omega)).1 (by omega)
      rw [b3]
      omega
    · by_cases z : 300 ≤ s_tb s + 1
      · have y : 11 * s_nd s1 ≤ 11 * s_nd s + 22 * c := x1 z
        omega
      · have y : 11 * s_nd s1 + 110 * (s_tb s + 1) ≤ 11 * s_nd s + 33000 + 23 * c + 1276 * (8 - s_dp s) := (x2 (by show s_tb s + 1 < 300; omega)).2 (by omega)
        omega
/-- .. that leaves the marks as they are -/
theorem eBR_of {o c c' x r : Nat} {s s1 s2 : S_} {w : T_} {E1 : N_} (h : eBQ (o + 1) c (u_go s) s1) (so : eSO x r s1 s2) (hr : r ≤ 1) (hc : c + 1 ≤ c') (hx1 : 11 * x ≤ 22 * (c' - c)) (hx2 : 11 * x ≤ 110 + (c' - c)) (tl : s_tl s2 = s_tl s1) (gw : gv w) (mw : v_m w ≤ s_tb s1 - (o + 1) - kt s1 + 1) (hE : nG (s_tb s1 - (o + 1) - kt s1 + 1) E1) : eBR o c' s (some (w, E1, s2)) := by
  have ho : o + 1 + kt s1 ≤ s_tb s1 := h.2.2.2.2.2.2.2.2.2.1
  have ek : kt s2 = kt s1 := by show mk0 (s_tl s2) = _; rw [tl]
  have et : s_tb s2 = s_tb s1 := so.2.2.1
  have hs : sG (s_tb s1 - o - kt s1) s2 := sG_same (sG_mono h.2.2.2.2.2.2.2.2.1 (by omega)) so.2.2.2.1 so.2.2.2.2.1 tl
  refine ⟨w, E1, s2, rfl, eBQ_end h so hr hc hx1 hx2 (by omega) (by omega) (by rw [ek, et]; exact hs), gw, by omega, ?_⟩
  rw [ek, et]
  exact nG_mono hE (by omega)
theorem eSO_refl {s : S_} : eSO 0 0 s s := ⟨rfl, rfl, rfl, rfl, rfl, Nat.le_refl _, Nat.le_refl _⟩
theorem eSO_note {C : C_} {f : Int} {s : S_} : eSO 0 0 s (f_note C f s) := ⟨rfl, rfl, rfl, rfl, rfl, Nat.le_refl _, Nat.le_refl _⟩
theorem eSO_funs {C : C_} {v : T_} {id : Nat} {s : S_} : eSO 0 0 s (f_funs C v id s) ∧ s_tl (f_funs C v id s) = s_tl s := by
  unfold f_funs
  obtain ⟨l, h, -⟩ := f_notes_eq C (f_code 3 id) (min 60 (v_nf v)) s
  rw [h]
  exact ⟨⟨rfl, rfl, rfl, rfl, rfl, Nat.le_refl _, Nat.le_refl _⟩, rfl⟩
theorem fu_some {L : Nat} {C : C_} {v : T_} {id : Nat} {s : S_} (h : v_dp v ≤ L) : f_fu L C v id s = some (f_funs C v id s) := if_pos h
/-- nothing but a token -/
theorem eBQ_one {n o j c : Nat} {s : S_} (H : eBH n o j (c + 1) s) : eBQ o 1 s (u_go s) := by
  obtain ⟨a1, a2, a3, a4, a5, a6, a7, a8, a9, a10⟩ := H
  refine ⟨rfl, ?_, Nat.le_refl _, ?_, ?_, Nat.le_succ _, ?_, ?_, ?_, ?_, fun _ => ⟨fun q => ?_, fun q => ⟨fun r => ?_, fun r => ?_⟩⟩⟩
  · show max (s_tb s + 1) (Kd (s_dp s)) + 500 * fcz s ≤ _
    omega
  · show s_tb s + kt s ≤ s_tb s + 1 + kt s
    omega
  · exact Nat.le_succ _
  · show s_rw s + 3 * fcz s + s_tb s ≤ s_rw s + 3 * fcz s + (s_tb s + 1)
    omega
  · show s_tb s + 1 ≤ s_b s + 1
    omega
  · exact sG_mono (T := s_tb s - o - kt s) a10 (by show _ ≤ s_tb s + 1 - o - kt s; omega)
  · show o + kt s ≤ s_tb s + 1
    omega
  · show 11 * s_nd s ≤ _
    omega
  · show 11 * s_nd s + 110 * s_tb s ≤ 11 * s_nd s + 110 * (s_tb s + 1) + 1
    omega
  · show 11 * s_nd s + 110 * s_tb s ≤ _
    omega
/-- the start of a token's operation when it has no parts -/
theorem eBQ_0 {n o j c : Nat} {s : S_} (H : eBH (n + 1) o j (c + 1) s) : eBQ (o + 1) 0 (u_go s) (u_go s) := eBQ_refl (eBH_go H)
theorem nG_go {o : Nat} {s : S_} {E : N_} (hE : nG (s_tb s - o - kt s) E) : nG (s_tb (u_go s) - (o + 1) - kt (u_go s)) E := nG_mono hE (by show _ ≤ s_tb s + 1 - (o + 1) - kt s; omega)
theorem o_bad_B {o c c' k id : Nat} {C : C_} {s s1 : S_} {E : N_} (h : eBQ (o + 1) c (u_go s) s1) (hc : c + 1 ≤ c') (hE : nG (s_tb s1 - (o + 1) - kt s1) E) : eBR o c' s (o_bad C k id E s1) := eBR_of h eSO_note (by omega) hc (by omega) (by omega) rfl gv_W (Nat.zero_le _) (nG_mono hE (by omega))
theorem o_name_B {o c c' id : Nat} {C : C_} {s s1 : S_} {E : N_} {x : Option T_} (h : eBQ (o + 1) c (u_go s) s1) (hc : c + 1 ≤ c') (hE : nG (s_tb s1 - (o + 1) - kt s1) E) (hx : ∀ v, x = some v → gv v ∧ v_m v ≤ s_tb s1 - (o + 1) - kt s1) : eBR o c' s (o_name C id x E s1) := by
  cases x with
  | none => exact o_bad_B h hc hE
  | some v => exact eBR_of h eSO_refl (by omega) hc (by omega) (by omega) rfl (hx v rfl).1 (by have := (hx v rfl).2; omega) (nG_mono hE (by omega))
theorem o_ask_B {o c c' q id : Nat} {C : C_} {s s1 : S_} {E : N_} (h : eBQ (o + 1) c (u_go s) s1) (hc : c + 1 ≤ c') (hE : nG (s_tb s1 - (o + 1) - kt s1) E) : eBR o c' s (o_ask C q id E s1) := by
  unfold o_ask
  cases C.1 q with
  | none => exact o_bad_B h hc hE
  | some v => exact eBR_of (x := 0) (r := 0) h ⟨rfl, rfl, rfl, rfl, rfl, Nat.le_refl _, Nat.le_refl _⟩ (by omega) hc (by omega) (by omega) rfl (gv_N v) (Nat.zero_le _) (nG_mono hE (by omega))
theorem o_two_B {o c c' k id : Nat} {C : C_} {s s1 : S_} {E : N_} {v w : T_} (h : eBQ (o + 1) c (u_go s) s1) (hc : c + 1 ≤ c') (hE : nG (s_tb s1 - (o + 1) - kt s1) E) : eBR o c' s (o_two C k id v w E s1) := by
  unfold o_two
  split
  · exact eBR_of h eSO_refl (by omega) hc (by omega) (by omega) rfl gv_W (Nat.zero_le _) (nG_mono hE (by omega))
  · split
    · exact eBR_of h eSO_refl (by omega) hc (by omega) (by omega) rfl (gv_N _) (Nat.zero_le _) (nG_mono hE (by omega))
    · exact o_bad_B h hc hE
theorem eSO_fn {C : C_} {v : T_} {id : Nat} {s : S_} {x : Nat} : eSO x 0 s (u_nd (f_funs C v id s) x) := by
  obtain ⟨⟨a1, a2, a3, a4, a5, a6, a7⟩, -⟩ := eSO_funs (C := C) (v := v) (id := id) (s := s)
  exact ⟨a1, a2, a3, a4, a5, a6, by show s_nd (f_funs C v id s) + x ≤ _; omega⟩
theorem eSO_nd {s : S_} {x : Nat} : eSO x 0 s (u_nd s x) := ⟨rfl, rfl, rfl, rfl, rfl, Nat.le_refl _, Nat.le_refl _⟩
theorem o_mark_B {o c c' k id : Nat} {n : Int} {C : C_} {s s1 : S_} {E : N_} {v e : T_} (h : eBQ (o + 1) c (u_go s) s1) (hc : c + 1 ≤ c') (hE : nG (s_tb s1 - (o + 1) - kt s1) E) (hv : gv v) (hm : v_m v ≤ s_tb s1 - (o + 1) - kt s1) : eBR o c' s (o_mark C k n id v e E s1) := by
  have ho : o + 1 + kt s1 ≤ s_tb s1 := h.2.2.2.2.2.2.2.2.2.1
  have hs := h.2.2.2.2.2.2.2.2.1
  have M : ∀ m : T_, v_mk m = 1 → v_ff m = false → v_go m → v_m m ≤ s_tb s1 - (o + 1) - kt s1 → eBR o c' s (some (v0, E, u_tl (u_nd s1 2) (v_chain (s_tl s1) m))) := fun m m1 m2 m3 m4 => by
    have k1 : kt (u_tl (u_nd s1 2) (v_chain (s_tl s1) m)) ≤ kt s1 + 1 := by
      have := chain_mk0 (a := s_tl s1) (b := m)
      rw [m1] at this
      exact this
    have hs2 : sG (s_tb s1 - o - kt (u_tl (u_nd s1 2) (v_chain (s_tl s1) m))) (u_tl (u_nd s1 2) (v_chain (s_tl s1) m)) := by
      refine ⟨fun g q => nG_mono (hs.1 g q) (by omega), chain_go hs.2.1 m3, ?_, ?_⟩
      · have := chain_m0 hs.2.2.1 m4 hs.2.2.2 m2
        show v_m (v_chain (s_tl s1) m) ≤ _
        omega
      · show v_ff (v_chain (s_tl s1) m) = false
        rw [chain_ff, hs.2.2.2, m2]
        rfl
    refine ⟨v0, E, _, rfl, eBQ_end (x := 2) (r := 0) h ⟨rfl, rfl, rfl, rfl, rfl, Nat.le_refl _, Nat.le_refl _⟩ (by omega) hc (by omega) (by omega) k1 ?_ hs2, gv_0, ?_, ?_⟩
    · show o + _ ≤ s_tb s1
      omega
    · show 0 + (o + _) ≤ s_tb s1
      omega
    · exact nG_mono hE (by show _ ≤ s_tb s1 - o - _; omega)
  unfold o_mark
  split
  · exact eBR_of h eSO_refl (by omega) hc (by omega) (by omega) rfl gv_W (Nat.zero_le _) (nG_mono hE (by omega))
  · split
    · split
      · exact M _ rfl rfl trivial (Nat.zero_le _)
      · exact o_bad_B h hc hE
    · split
      · rename_i cF
        exact M _ rfl rfl ⟨hv.1, cF⟩ hm
      · exact o_bad_B h hc hE
theorem o_one_B {L o c c' k id : Nat} {n : Int} {C : C_} {s s1 : S_} {E : N_} {a v e : T_} (h : eBQ (o + 1) c (u_go s) s1) (hc : c + 1 ≤ c') (hE : nG (s_tb s1 - (o + 1) - kt s1) E) (hv : gv v) (hm : v_m v ≤ s_tb s1 - (o + 1) - kt s1) (hL : v_dp v ≤ L) : eBR o c' s (o_one L C k n id a v e E s1) := by
  unfold o_one
  split
  · exact eBR_of h eSO_refl (by omega) hc (by omega) (by omega) rfl gv_0 (Nat.zero_le _) (n_set_G (nG_mono hE (by omega)) hv (by omega))
  · exact o_mark_B h hc hE hv hm
  · exact o_mark_B h hc hE hv hm
  · rw [fu_some hL]
    refine eBR_of (x := 1) h eSO_fn (by omega) hc (by omega) (by omega) eSO_funs.2 ⟨hv, fun _ => rfl⟩ ?_ (nG_mono hE (by omega))
    show v_m v + 1 ≤ _
    omega
  · split
    · exact eBR_of h eSO_refl (by omega) hc (by omega) (by omega) rfl gv_W (Nat.zero_le _) (nG_mono hE (by omega))
    · split
      · exact eBR_of (x := 1) h eSO_nd (by omega) hc (by omega) (by omega) rfl ⟨trivial, fun _ => rfl⟩ (Nat.zero_le _) (nG_mono hE (by omega))
      · exact o_bad_B h hc hE
  · rw [fu_some hL]
    exact eBR_of h eSO_funs.1 (by omega) hc (by omega) (by omega) eSO_funs.2 (gv_N _) (Nat.zero_le _) (nG_mono hE (by omega))
  · split
    · exact eBR_of h eSO_refl (by omega) hc (by omega) (by omega) rfl gv_W (Nat.zero_le _) (nG_mono hE (by omega))
    · split
      · rename_i x y _
        obtain ⟨⟨g1, g2, g3, g4⟩, -⟩ := hv
        have hm1 : max (v_m x) (v_m y) + 1 ≤ s_tb s1 - (o + 1) - kt s1 := hm
        refine eBR_of h eSO_refl (by omega) hc (by omega) (by omega) rfl ?_ ?_ (nG_mono hE (by omega))
        · split
          · exact ⟨g1, g3⟩
          · exact ⟨g2, g4⟩
        · split <;> omega
      · exact o_bad_B h hc hE
theorem o_pair_B {L o c c' k id : Nat} {C : C_} {s s1 : S_} {E : N_} {a b v w : T_} (h : eBQ (o + 1) c (u_go s) s1) (hc : c + 1 ≤ c') (hE : nG (s_tb s1 - (o + 1) - kt s1) E) (hv : gv v) (hm : v_m v ≤ s_tb s1 - (o + 1) - kt s1) (hw : gv w) (hn : v_m w ≤ s_tb s1 - (o + 1) - kt s1) (hL : v_dp v ≤ L) (hM : v_dp w ≤ L) : eBR o c' s (o_pair L C k id a b v w E s1) := by
  unfold o_pair
  split
  · rw [fu_some hL]
    dsimp only
    rw [fu_some hM]
    obtain ⟨g1, g2⟩ := v_join_G hv hw hm hn
    obtain ⟨⟨a1, a2, a3, a4, a5, a6, a7⟩, at1⟩ := eSO_funs (C := C) (v := v) (id := e_id a) (s := s1)
    obtain ⟨⟨b1, b2, b3, b4, b5, b6, b7⟩, bt1⟩ := eSO_funs (C := C) (v := w) (id := e_id b) (s := f_funs C v (e_id a) s1)
    refine eBR_of (x := 1) (r := 0) h ⟨b1.trans a1, b2.trans a2, b3.trans a3, b4.trans a4, b5.trans a5, Nat.le_trans b6 a6, ?_⟩ (by omega) hc (by omega) (by omega) (bt1.trans at1) g1 g2 (nG_mono hE (by omega))
    show s_nd (f_funs C w (e_id b) (f_funs C v (e_id a) s1)) + 1 ≤ _
    omega
  · split
    · refine eBR_of (x := 1) h eSO_nd (by omega) hc (by omega) (by omega) rfl ⟨⟨hv.1, hw.1, hv.2, hw.2⟩, fun h => h⟩ ?_ (nG_mono hE (by omega))
      · show max (v_m v) (v_m w) + 1 ≤ _
        omega
    · exact o_two_B h hc hE
theorem o_mk_B {n o j k : Nat} {e : T_} {s : S_} {E : N_} (hk : k = 7 ∨ k = 12) (he : c_sz (e_part e) + 1 ≤ c_sz e) (hs : c_sz e ≤ 59) (H : eBH (n + 1) o j (c_sz e) s) (hE : nG (s_tb s - o - kt s) E) : eBR o (c_sz e) s (o_mk k e E (u_go s)) := by
  have hrw := H.2.2.2.2.2.2.2.1
  have ht := H.2.1
  have hd := H.1
  have hj := H.2.2.2.2.2.2.1
  have rw1 : s_rw (u_go s) < 2040 := by
    show s_rw s < 2040
    unfold Kd at ht
    omega
  unfold o_mk
  rw [if_pos rw1]
  have H1 : eBH (n + 1) o j (c_sz (e_part e) + 1) s := eBH_le H (by omega)
  have hE1 := nG_go hE
  obtain ⟨q1, q2⟩ := n_clos_G (u := e_use e) hE1 10
  have ho : o + 1 + kt (u_go s) ≤ s_tb (u_go s) := (eBQ_0 H1).2.2.2.2.2.2.2.2.2.1
  refine eBR_of (c := 0) (x := 1 + min 10 (c_sz (e_part e))) (r := 1) (eBQ_0 H1) ⟨rfl, rfl, rfl, rfl, rfl, Nat.le_refl _, Nat.le_refl _⟩ (Nat.le_refl _) (by omega) (by omega) (by omega) rfl ?_ ?_ (nG_mono hE1 (by omega))
  · rcases hk with rfl | rfl
    · exact ⟨⟨by omega, q1⟩, fun _ => rfl⟩
    · exact ⟨⟨by omega, q1, E, rfl⟩, fun q => by cases q⟩
  · rcases hk with rfl | rfl
    · show v_m (n_clos E (e_use e) 10) + 1 ≤ _
      omega
    · show v_m (n_clos E (e_use e) 10) + 1 ≤ _
      omega
