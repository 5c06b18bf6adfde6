/-! ===== FUNC, LATE, IF ===== -/
section
variable {C : C_} {sil : Bool} {D : Prop} {qq : Int} {ft : Nat} {s s1 : S_} {w : W_} {Γ : rG_} {n n1 fr L id : Nat} {hb : Bool} {u : Nat → Bool} {v a b c : T_} {E E1 : N_} {row : Nat} {x nn : Int} {r1 r2 r4 : K_} {R : Int}
/-- a value's tag, and what it is -/
theorem rVt {r : Int} (h : rVF w Γ v r) (B : rBD w) : am_rg r ∧ ((v = vW ∧ r % 8 = 5) ∨ (∃ x, v = vN x ∧ r % 8 = 1 ∧ r / 8 = x ∧ -9999 ≤ x ∧ x ≤ 9999) ∨ (v_isW v = false ∧ v_num v = none ∧ r % 8 ≠ 5 ∧ r % 8 ≠ 1)) := by
  have z := rV0_c h.2 B
  refine ⟨z.1, ?_⟩
  rcases z.2 with q | ⟨e, e1⟩ | ⟨e, e1⟩ | ⟨f, _, e, e1, _⟩ | ⟨p, _, e, e1, _⟩ | ⟨c, e, e1, _⟩
  · exact Or.inr (Or.inl q)
  · rw [e]; exact Or.inr (Or.inr ⟨rfl, rfl, by omega, by omega⟩)
  · exact Or.inl ⟨e, by omega⟩
  · refine Or.inr (Or.inr ⟨?_, ?_, by omega, by omega⟩) <;> (unfold v_isF at e; split at e <;> first | rfl | (cases e))
  · refine Or.inr (Or.inr ⟨?_, ?_, by omega, by omega⟩) <;> (unfold v_isP at e; split at e <;> first | rfl | (cases e))
  · refine Or.inr (Or.inr ⟨?_, ?_, by omega, by omega⟩) <;> (unfold v_isC at e; split at e <;> first | rfl | (cases e))
theorem rVt3 {r : Int} (h : rVF w Γ v r) (B : rBD w) : (v_isF v = true ∧ r % 8 = 3 ∧ ∃ f : Nat, v = Γ.2.1 f ∧ r / 8 = f ∧ (f : Int) < w.1 73 17) ∨ (v_isF v = false ∧ r % 8 ≠ 3) := by
  have z := rV0_c h.2 B
  rcases z.2 with ⟨x, e, e1, _⟩ | ⟨e, e1⟩ | ⟨e, e1⟩ | ⟨f, e0, e, e1, e2, e3⟩ | ⟨p, _, e, e1, _⟩ | ⟨c, e, e1, _⟩
  · rw [e]; exact Or.inr ⟨rfl, by omega⟩
  · rw [e]; exact Or.inr ⟨rfl, by omega⟩
  · rw [e]; exact Or.inr ⟨rfl, by omega⟩
  · exact Or.inl ⟨e, e1, f, e0, e2, e3⟩
  · refine Or.inr ⟨?_, by omega⟩
    unfold v_isP at e; split at e <;> first | rfl | (cases e)
  · refine Or.inr ⟨?_, by omega⟩
    unfold v_isC at e
    split at e
    · rfl
    · rename_i k t
      have := of_decide_eq_true e
      unfold v_isF
      split
      · rename_i q; cases q; omega
      · rfl
    · cases e
theorem rVt4 {r : Int} (h : rVF w Γ v r) (B : rBD w) (H : rHH w Γ) : (∃ (y z : T_) (p : Nat), v = .tag 13 (.append y z) ∧ r % 8 = 4 ∧ r / 8 = p ∧ (p : Int) < w.1 73 21 ∧ rVF w Γ y (w.2 88 p) ∧ rVF w Γ z (w.2 89 p)) ∨ ((∀ y z, v ≠ .tag 13 (.append y z)) ∧ r % 8 ≠ 4) := by
  have z := rV0_c h.2 B
  rcases z.2 with ⟨x, e, e1, _⟩ | ⟨e, e1⟩ | ⟨e, e1⟩ | ⟨f, e0, e, e1, e2, e3⟩ | ⟨p, e0, e, e1, e2, e3⟩ | ⟨c, e, e1, _⟩
  · rw [e]; exact Or.inr ⟨fun _ _ q => by (cases q), by omega⟩
  · rw [e]; exact Or.inr ⟨fun _ _ q => by (cases q), by omega⟩
  · rw [e]; exact Or.inr ⟨fun _ _ q => by (cases q), by omega⟩
  · refine Or.inr ⟨fun _ _ q => ?_, by omega⟩
    rw [q] at e; cases e
  · obtain ⟨y, z, h1, h2, h3, _⟩ := H.2.2.2.1 p e3
    exact Or.inl ⟨y, z, p, by rw [e0]; exact h1, e1, e2, e3, h2.1, h3.1⟩
  · refine Or.inr ⟨fun _ _ q => ?_, by omega⟩
    rw [q] at e; cases e
/-- a leaf's content is made -/
theorem lk_newE {k a b c h : Int} {t : T_} {y : Nat → Int} (H : rRC C sil D qq ft s w Γ) (hq : qq + 1 ≤ 400) (hf : 3 ≤ fr) (hl : rLf t) (hh : h = if rNK t = true then 1 else 0) (hk : k ≠ 50) (hy : ∀ s : Nat, s < 3 → y (s + 1) = ((rWL [t] (s + 1)).1 : Nat))
    (W : ∀ v : W_, rHH v Γ → v.1 = w.1 → (∀ j : Nat, (j : Int) < w.1 73 26 → ∀ s : Nat, s < 3 → v.2 97 (3 * j + s) = w.2 97 (3 * j + s)) → ∀ s : Nat, 1 ≤ s → s ≤ 3 → ww_Ct 189 (fr - 1) [.inr (.inr (.inl 73)), .inl k, .inl a, .inl b, .inl (s : Int)] v (fun r w' => r = some (.inl (y s)) ∧ w' = v))
    (T : ∀ (m : Nat) (w' : W_) (Γ' : rG_), w.1 73 26 = (m : Int) → rXT w Γ w' Γ' (-1) → Γ'.2 = Γ.2 → w'.2 92 m = k → w'.2 93 m = a → w'.2 94 m = b → w'.2 95 m = c → rLF w' Γ' t m) : ww_Ct 187 fr [.inr (.inr (.inl 73)), .inl k, .inl a, .inl b, .inl c, .inl h] w fun r w' => ∃ x, r = some (.inl x) ∧ (0 ≤ x ∧ x < 8192) ∧ ∃ Γ', rRC C sil D (qq + 1) ft s w' Γ' ∧ rCC w' Γ' x [t] ∧ rPO n hb s s w Γ w' Γ' R ∧ w'.2 92 x.toNat = k ∧ Γ'.2 = Γ.2 ∧ w'.1 73 35 = w.1 73 35 ∧ w'.2 99 = w.2 99 := by
  have B := rRC_bd H
  refine (lk_new (K := 0) (l := [t]) (y := y) H.1 hf (by omega) ⟨fun q => by (cases q), fun t' ht => ?_⟩ ?_ (fun _ => hy) (fun s s1 s2 => ?_) W (fun m w' Γ' en X G2 G3 f1 f2 f3 f4 => Or.inr ⟨by rw [f1]; exact hk, t, G3, T m w' Γ' en X G2 f1 f2 f3 f4⟩)).mono ?_
  · rw [List.mem_singleton] at ht; rw [ht]; exact hl
  · rw [hh, List.any_cons, List.any_nil, Bool.or_false]
  · have z := hy (s - 1) (by omega)
    rw [show s - 1 + 1 = s by omega] at z
    have := rWL_le [t] s
    omega
  · rintro r w' ⟨rfl, Γ', M, q26, q1, q2, q3, q4⟩
    obtain ⟨H1, P1⟩ := rRC_MO (n := n) (hb := hb) (R := R) H M (by omega) hq
    exact ⟨_, rfl, by omega, Γ', H1, ⟨by omega, q1⟩, P1, q2, M.2.2.1, M.2.2.2.1.1 73 35 (by omega), M.2.2.2.1.2.1 99 (by omega)⟩
theorem rRC_nd {k : Nat} (H : rRC C sil D qq ft s w Γ) : rRC C sil D qq ft (u_nd s k) w Γ := H
theorem rPO_nd {k : Nat} {w' : W_} {Γ' : rG_} (H : rPO n hb s s1 w Γ w' Γ' R) : rPO n hb s (u_nd s1 k) w Γ w' Γ' R := H
theorem use_nm {k : Nat} {m : Nat} (h : e_use (ce k nn id a b c) m = true) : e_nm (ce k nn id a b c) m = true := by
  have h : (e_nm a m && _) = true := h
  rw [Bool.and_eq_true] at h
  rw [e_nm_ce, h.1]
  simp
/-- FUNC -/
theorem rn_16 (I : rIN C sil D qq ft n u s (ce 16 nn id a b c) E w Γ x row fr) (h : ev1 L C r1 r2 r4 sil (ce 16 nn id a b c) E hb s = some (v, E1, s1)) (hs : s_b s1 ≤ 90000 ∧ s_nt s1 ≤ 900000) : ww_Ct 207 fr [.inr (.inr (.inl 73)), .inl x, .inl (row : Int), .inl (if hb = true then 1 else 0)] w (rVO C sil D qq ft n hb u s s1 v E1 row w Γ) := by
  have X := rIN_x I
  have hfr := I.2.2.2.2.2.2
  have hq := I.2.1
  rw [ev1_16] at h
  split at h
  · rename_i tb
    unfold o_mk at h
    split at h
    · rename_i rwb
      cases h
      obtain ⟨I1, P1⟩ := rIN_go (hb := hb) I tb hs.1
      have B := rRC_bd I1.1
      have hrow := I1.2.2.2.2.2.1
      have ho : e_own (ce 16 nn id a b c) = none := by
        rw [X.2.2.2.2.2.2.2.1 (by decide)]; rfl
      obtain ⟨Γ2, H2, P2, V2⟩ := rFun (n := n) (hb := hb) (R := -1) (e := ce 16 nn id a b c) (own := none) (z := -1) (1 + min 10 (c_sz (e_part (ce 16 nn id a b c)))) I1.1 I1.2.2.2.2.1 hrow.1 rwb (fun m hm q => I.2.2.2.1 m hm (use_nm q)) I1.2.2.1 rfl ho (fun m q => by cases q) rfl
      have N2 := rNF_mono P2.1 hrow.1 (by omega) I1.2.2.2.2.1
      have S6c := I1.1.2.2.2.2.2.2.2.1.2.2.1
      have rwb' : s_rw (u_go s) < 2040 := rwb
      refine run_F rVO_yP (fr0 := 2) (by omega) (by omega) (by omega) X.2.1.1 ((lk_204 (x0 := x) (x1 := (row : Int)) (x2 := -1) (by omega) (by omega) (by omega)).mono ?_)
      rintro r w' ⟨rfl, hw⟩
      rw [hw]
      exact ⟨_, rfl, Γ2, rRC_qq H2 (by omega) (by omega), V2, N2, rPO_trans P1 P2 (Nat.le_refl _) (Nat.le_refl _) (fun q => q) (fun q => q) (Or.inl rfl) (by omega)⟩
    · cases h
  · cases h
/-- LATE -/
theorem rn_22 (I : rIN C sil D qq ft n u s (ce 22 nn id a b c) E w Γ x row fr) (h : ev1 L C r1 r2 r4 sil (ce 22 nn id a b c) E hb s = some (v, E1, s1)) (hs : s_b s1 ≤ 90000 ∧ s_nt s1 ≤ 900000) : ww_Ct 207 fr [.inr (.inr (.inl 73)), .inl x, .inl (row : Int), .inl (if hb = true then 1 else 0)] w (rVO C sil D qq ft n hb u s s1 v E1 row w Γ) := by
  have X := rIN_x I
  have hfr := I.2.2.2.2.2.2
  have hq := I.2.1
  rw [ev1_22] at h
  split at h
  · rename_i tb
    unfold o_mk at h
    split at h
    · rename_i rwb
      cases h
      obtain ⟨I1, P1⟩ := rIN_go (hb := hb) I tb hs.1
      have B := rRC_bd I1.1
      have hrow := I1.2.2.2.2.2.1
      have S1 := I1.1.2.2.1.2.2.1
      have e15 : (r_b1 w).1 73 15 = ((s_rw s : Nat) : Int) := S1.1
      obtain ⟨H2, P2, N2, q15, Z2⟩ := rCopy (row := row) (n := n) (hb := hb) (R := -1) true I1.1 e15 (by omega) rwb
      have e15' : w.1 73 15 = ((s_rw s : Nat) : Int) := e15
      refine run_E (R := fun y w' => (0 ≤ y ∧ y < 8192) ∧ ∃ Γ', rRC C sil D (qq - 3 + 1) ft (u_rw (u_go s) (s_rw s + 1)) w' Γ' ∧ rCC w' Γ' y [.tag 7 (.append (ce 22 nn id a b c) (n_clos E (e_use (ce 22 nn id a b c)) 10))] ∧ rPO n hb (u_rw (u_go s) (s_rw s + 1)) (u_rw (u_go s) (s_rw s + 1)) (r_copy (r_b1 w) (row : Int)) (rGz Γ (s_rw s) true) w' Γ' (-1)) (by omega) (by omega) X.2.1.1 ⟨⟨by omega, by omega⟩, by omega, by have := hrow.1; omega⟩ ?_ (fun y w' g => g.1) ?_
      · have T7 : rLf (.tag 7 (.append (ce 22 nn id a b c) (n_clos E (e_use (ce 22 nn id a b c)) 10))) := ⟨7, _, rfl, by omega⟩
        refine (lk_newE (n := n) (hb := hb) (R := -1) (y := fun _ => 0) H2 (by omega) (by omega) T7 rfl (by decide) (fun _ _ => rfl) (fun v _ _ _ s _ _ => lk_189_x (by omega) (by omega) (by omega)) (fun m w' Γ' em X' G2 f1 f2 f3 f4 => ?_)).mono ?_
        · unfold rLF
          have m15 := X'.1.1.2.1
          refine ⟨f1, ?_, rfl, s_rw s, by rw [f3, e15'], by omega, ?_, ?_⟩
          · rw [f2]; exact rEN_X X' (rEN_X P2.1 I1.2.2.1)
          · rw [X'.2.1.2 (s_rw s) (by omega)]; exact Z2
          · exact rNF_mono X' (by omega) (by omega) (rNF_clos (N2 u E I1.2.2.2.2.1) (fun m hm q => I.2.2.2.1 m hm (use_nm q)))
        · rintro r w' ⟨y, rfl, yr, Γ', g1, g2, g3, -⟩
          exact ⟨y, rfl, yr, Γ', g1, g2, g3⟩
      · rintro y w' ⟨yr, Γ', g1, g2, g3⟩
        have P3 := rPO_trans (n := n) (hb := hb) (R := -1) P2 g3 (Nat.le_refl _) (Nat.le_refl _) (fun q => q) (fun q => q) (Or.inl rfl) (Or.inl rfl)
        have P4 := rPO_trans (n := n) (hb := hb) (R := (row : Int)) P1 P3 (Nat.le_refl _) (Nat.le_refl _) (fun q => q) (fun q => q) (Or.inl rfl) (by omega)
        refine ⟨_, rfl, Γ', rRC_nd (rRC_qq g1 (by omega) (by omega)), ⟨vv_leaf (by omega) (fun s _ => Nat.zero_le _) (vK_lf (by omega)), Or.inr (Or.inr (Or.inr (Or.inr (Or.inr ⟨y.toNat, rfl, by omega, by have := g2.1; omega, ?_⟩))))⟩, rNF_mono P3.1 hrow.1 (by omega) I1.2.2.2.2.1, rPO_nd P4⟩
        rw [g2.2, rFL_tag (by omega)]
    · cases h
  · cases h
end
