/-! ===== a text: words, breaks, labels ===== -/
section
variable {C : C_} {sil : Bool} {D : Prop} {qq : Int} {s : S_} {w : W_} {Γ : rG_} {fr ft n k : Nat} {f r g t st i nn : Int} {v8 v9 v10 v11 : am_V} {P : Option am_V → W_ → Prop}
theorem txt_w (H : rRC C sil D qq ft s w Γ) (hq : qq ≤ 395) (hk : w.2 77 i.toNat = (k : Int)) (k2 : k ≤ 2) (hn : w.2 78 i.toNat = nn) (nr : 0 ≤ nn ∧ nn < 100) (tb : s_tb s < 2000) (hb1 : s_b s + 1 ≤ 90000) (hfr : 5 ≤ fr) (hv : (am_two v8 = false ∧ am_two v9 = false) ∧ am_two v10 = false ∧ am_two v11 = false) (hi : 0 ≤ i ∧ i < 1024) (LL : ∀ c w1 Γ1, rRC C sil D (qq - 3 + 1) ft (u_go s) w1 Γ1 → rCC w1 Γ1 c (rFL (t_leaf k nn)) → vv (t_leaf k nn) → rPO n true s (u_go s) w Γ w1 Γ1 (-1) → zr198 fr P 175 f r 0 g t st i (.inl (k : Int)) (.inl c) v10 v11 w1) : zr198 fr P 18 f r 0 g t st i v8 v9 v10 v11 w := by
  obtain ⟨H1, P1⟩ := rRC_go (n := n) (hb := true) (R := -1) H tb (by omega)
  refine lk_198c (k := (k : Int)) hv hi hk (lk_198_46n ⟨hv.2.1, hv.2.2⟩ (by omega) (by omega) ?_)
  have G : ∀ {tt : T_} {kd : Nat} {z : T_} {c : Int} {w1 : W_} {Γ1 : rG_}, tt = .tag kd z → ((1 ≤ kd ∧ kd ≤ 7) ∨ kd = 9) → t_leaf k nn = tt → vv tt → rRC C sil D (qq - 3 + 1) ft (u_go s) w1 Γ1 → rCC w1 Γ1 c [tt] → rPO n true (u_go s) (u_go s) (r_b1 w) Γ w1 Γ1 (-1) → zr198 fr P 175 f r 0 g t st i (.inl (k : Int)) (.inl c) v10 v11 w1 := fun e1 e2 e3 e4 g1 g2 g3 => by
    refine LL _ _ _ g1 ?_ (by rw [e3]; exact e4) (rPO_trans P1 g3 (Nat.le_refl _) (Nat.le_refl _) (fun q => q) (fun q => q) (Or.inl rfl) (Or.inl rfl))
    rw [e3, e1, rFL_tag (by omega), ← e1]
    exact g2
  have K : k = 0 ∨ k = 1 ∨ k = 2 := by omega
  rcases K with rfl | rfl | rfl
  · refine lk_198_104w (k := 0) (n := nn) (R := fun c w1 => ∃ Γ1, rRC C sil D (qq - 3 + 1) ft (u_go s) w1 Γ1 ∧ rCC w1 Γ1 c [.tag 1 (.nest nn .nil)] ∧ rPO n true (u_go s) (u_go s) (r_b1 w) Γ w1 Γ1 (-1)) ⟨hv.2.1, hv.2.2⟩ (by omega) (by omega) (by omega) hi hn ((lk_newE (n := n) (hb := true) (R := -1) (t := .tag 1 (.nest nn .nil)) (y := fun s => (s : Int)) H1 (by omega) (by omega) ⟨1, _, rfl, by omega⟩ rfl (by decide) (fun s hs => ?_) (fun v _ _ _ s _ _ => lk_189_0 (by omega)) (fun m w' Γ' em X' G2 f1 f2 f3 f4 => ?_)).mono ?_) (fun c w1 z => by
      obtain ⟨Γ1, g1, g2, g3⟩ := z
      exact G rfl (by omega) rfl (vv_leaf (by omega) (fun s hs => hs) (vK_lf (by omega))) g1 g2 g3)
    · show ((s + 1 : Nat) : Int) = ((m9 (s + 1 + 0) : Nat) : Int)
      rw [Nat.add_zero, m9_id (by omega)]
    · unfold rLF
      exact ⟨f1, f2, by omega⟩
    · rintro r' w' ⟨y, rfl, yr, Γ', g1, g2, g3, -⟩
      exact ⟨y, rfl, Γ', g1, g2, g3⟩
  · refine lk_198_104w (k := 1) (n := nn) (R := fun c w1 => ∃ Γ1, rRC C sil D (qq - 3 + 1) ft (u_go s) w1 Γ1 ∧ rCC w1 Γ1 c [.tag 2 .nil] ∧ rPO n true (u_go s) (u_go s) (r_b1 w) Γ w1 Γ1 (-1)) ⟨hv.2.1, hv.2.2⟩ (by omega) (by omega) (by omega) hi hn ((lk_newE (n := n) (hb := true) (R := -1) (t := .tag 2 .nil) (y := fun _ => 0) H1 (by omega) (by omega) ⟨2, _, rfl, by omega⟩ rfl (by decide) (fun _ _ => rfl) (fun v _ _ _ s _ _ => lk_189_x (by omega) (by omega) (by omega)) (fun m w' Γ' em X' G2 f1 f2 f3 f4 => ?_)).mono ?_) (fun c w1 z => by
      obtain ⟨Γ1, g1, g2, g3⟩ := z
      exact G rfl (by omega) rfl (vv_leaf (by omega) (fun s _ => Nat.zero_le _) (vK_lf (by omega))) g1 g2 g3)
    · unfold rLF
      exact f1
    · rintro r' w' ⟨y, rfl, yr, Γ', g1, g2, g3, -⟩
      exact ⟨y, rfl, Γ', g1, g2, g3⟩
  · refine lk_198_104l (n := nn) (R := fun c w1 => ∃ Γ1, rRC C sil D (qq - 3 + 1) ft (u_go s) w1 Γ1 ∧ rCC w1 Γ1 c [.tag 3 (.nest (nn % 10) .nil)] ∧ rPO n true (u_go s) (u_go s) (r_b1 w) Γ w1 Γ1 (-1)) ⟨hv.2.1, hv.2.2⟩ (by omega) hi hn nr ((lk_newE (n := n) (hb := true) (R := -1) (t := .tag 3 (.nest (nn % 10) .nil)) (y := fun _ => 0) H1 (by omega) (by omega) ⟨3, _, rfl, by omega⟩ rfl (by decide) (fun _ _ => rfl) (fun v _ _ _ s _ _ => lk_189_x (by omega) (by omega) (by omega)) (fun m w' Γ' em X' G2 f1 f2 f3 f4 => ?_)).mono ?_) (fun c w1 z => by
      obtain ⟨Γ1, g1, g2, g3⟩ := z
      exact G rfl (by omega) rfl (vv_leaf (by omega) (fun s _ => Nat.zero_le _) (vK_lf (by omega))) g1 g2 g3)
    · unfold rLF
      exact ⟨f1, f2, by omega⟩
    · rintro r' w' ⟨y, rfl, yr, Γ', g1, g2, g3, -⟩
      exact ⟨y, rfl, Γ', g1, g2, g3⟩
end
