/-! ===== BLOCK ===== -/
section
variable {C : C_} {sil : Bool} {D : Prop} {qq : Int} {ft : Nat} {s s1 : S_} {w : W_} {Γ : rG_} {n n1 fr L id : Nat} {hb : Bool} {u : Nat → Bool} {v a b c : T_} {E E1 : N_} {row : Nat} {x nn : Int} {r1 r2 r4 : K_}
theorem rn_8 (I : rIN C sil D qq ft n u s (ce 8 nn id a b c) E w Γ x row fr) (hL : L + 13 ≤ 2 * n + 1010) (hn : n1 + 2 ≤ n) (h2 : rSK C sil n1 r2) (M2 : eMK r2) (hB : rBr r2) (h : ev1 L C r1 r2 r4 sil (ce 8 nn id a b c) E hb s = some (v, E1, s1)) (hs : s_b s1 ≤ 90000 ∧ s_nt s1 ≤ 900000) : ww_Ct 207 fr [.inr (.inr (.inl 73)), .inl x, .inl (row : Int), .inl (if hb = true then 1 else 0)] w (rVO C sil D qq ft n hb u s s1 v E1 row w Γ) := by
  have X := rIN_x I
  have hfr := I.2.2.2.2.2.2
  have hq := I.2.1
  rw [ev1_8] at h
  split at h
  · rename_i tb
    split at h
    · rename_i rwb
      cases ht : t_block L r2 C sil a E (u_rw (u_go s) (s_rw s + 1)) with
      | none => rw [ht] at h; cases h
      | some z =>
        obtain ⟨v2, E2, s2⟩ := z
        rw [ht] at h
        dsimp only at h
        have h := Option.some.inj h
        have e1 : v2 = v := congrArg Prod.fst h
        have e2 : E = E1 := congrArg (fun p => p.2.1) h
        have e3 : s2 = s1 := congrArg (fun p => p.2.2) h
        rw [← e3] at hs ⊢
        rw [← e2, ← e1]
        have lt : s_lt (u_rw (u_go s) (s_rw s + 1)) ≤ s_b (u_rw (u_go s) (s_rw s + 1)) := by
          have := rIN_lt I
          show s_lt s ≤ s_b s + 1
          omega
        have m1 := t_block_M M2 ht lt
        have hb1 : s_b s + 1 ≤ 90000 := Nat.le_trans m1.1 hs.1
        obtain ⟨I1, P1⟩ := rIN_go (hb := hb) I tb hb1
        have B := rRC_bd I1.1
        have hrow := I1.2.2.2.2.2.1
        have S1 := I1.1.2.2.1.2.2.1
        have e15 : (r_b1 w).1 73 15 = ((s_rw s : Nat) : Int) := S1.1
        have e15' : w.1 73 15 = ((s_rw s : Nat) : Int) := e15
        obtain ⟨H2, P2, N2, q15, Z2⟩ := rCopy (row := row) (n := n) (hb := hb) (R := -1) false I1.1 e15 (by omega) rwb
        have N2' := N2 u E I1.2.2.2.2.1
        have ea := rEN_X P2.1 ((rIN_x I1).2.2.2.1 rfl)
        refine run_B (R := fun y w' => (0 ≤ y ∧ y < 8192) ∧ ∃ Γ', rRC C sil D (qq - 3 + 1) ft s2 w' Γ' ∧ rVF w' Γ' v2 (8 * y + 2) ∧ rPO n false (u_rw (u_go s) (s_rw s + 1)) s2 (r_copy (r_b1 w) (row : Int)) (rGz Γ (s_rw s) false) w' Γ' ((s_rw s : Nat) : Int)) (by omega) (by omega) X.2.1.1 ⟨⟨by omega, by omega⟩, by omega, by have := hrow.1; omega⟩ ?_ (fun y w' g => g.1) ?_
        · rw [e15']
          have hx82 : (r_copy (r_b1 w) (row : Int)).2 82 = w.2 82 := r_copy_b _ _ (by decide)
          refine (blk_C (n := n) (n1 := n1) (L := L) h2 M2 hB (by omega) (by omega) (by omega) (by omega) ht hs H2 ea (fun m hm q => I.2.2.2.1 m hm (nm_a q)) N2' ⟨by omega, Z2⟩).mono ?_
          rintro r w' ⟨y, rfl, Γ', g1, g2, g3, g4, g5⟩
          have B2 := rRC_bd g1
          have gy := g3.1
          exact ⟨y, rfl, ⟨by omega, by omega⟩, Γ', g1, g2, g5⟩
        · rintro y w' ⟨yr, Γ', g1, g2, g3⟩
          have P3 := rPO_trans (n := n) (hb := hb) (R := -1) P2 g3 (Nat.le_refl _) (Nat.le_refl _) (fun q => q) (fun _ => rfl) (Or.inl rfl) (by omega)
          have P4 := rPO_trans (n := n) (hb := hb) (R := (row : Int)) P1 P3 (Nat.le_refl _) (Nat.le_refl _) (fun q => q) (fun q => q) (Or.inl rfl) (by omega)
          exact ⟨_, rfl, Γ', rRC_qq g1 (by omega) (by omega), g2, rNF_mono P3.1 hrow.1 (by omega) I1.2.2.2.2.1, P4⟩
    · cases h
  · cases h
end
