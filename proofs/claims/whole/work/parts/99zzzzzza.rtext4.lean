/-! ===== a text: from an item that is made to the next head ===== -/
section
variable {C : C_} {sil : Bool} {D : Prop} {qq : Int} {s : S_} {w : W_} {Γ : rG_} {fr g k ft : Nat} {b : Bool} {c f r st i kk : Int} {v10 v11 : am_V} {P : Option am_V → W_ → Prop} {q v : T_}
theorem txt_next (H : rRC C sil D qq ft s w Γ) (hq : qq + 1 ≤ 400) (hg : w.1 73 33 = ((g + k : Nat) : Int)) (hI : rIT 98 w Γ g k (rFL q)) (hc : rCC w Γ c (rFL v)) (hvv : vv v) (hq' : vc q) (hf : b = (rFL q).any rNK) (hv : am_two v10 = false ∧ am_two v11 = false) (hi : 0 ≤ i ∧ i < 1024) (LL : ∀ (k' : Nat) (w' : W_), rRC C sil D (qq + 1) ft (u_tl s .nil) w' Γ → w'.1 73 33 = ((g + k' : Nat) : Int) → w'.1 73 35 = (ft : Int) → rIT 98 w' Γ g k' (rFL (t_mks (t_app q b v).1 s)) → vc (t_mks (t_app q b v).1 s) → (t_app q b v).2 = (rFL (t_mks (t_app q b v).1 s)).any rNK → (∀ a j, ¬ (a = 73 ∧ (j = 33 ∨ j = 35)) → w'.1 a j = w.1 a j) → (∀ b, b ≠ 98 → w'.2 b = w.2 b) → (∀ i, i < g + k → w'.2 98 i = w.2 98 i) → ∀ v9 v10 : am_V, am_two v9 = false → am_two v10 = false → zr198 fr P 18 f r 0 (g : Int) (ft : Int) st (w.2 83 i.toNat) (.inl kk) v9 v10 v11 w') : zr198 fr P 175 f r 0 (g : Int) (ft : Int) st i (.inl kk) (.inl c) v10 v11 w := by
  have B := rRC_bd H
  have c1 := hc.1
  obtain ⟨⟨n, t1, t2⟩, t3, t4⟩ := H.2.2.2.2.2.2.2.2
  have S6 := H.2.2.2.2.2.2.2.1.1
  refine lk_mv (n := n) hv hg t1 (by omega) (by unfold am_rg; omega) hi (fun e w' he h0 h1 M v9' v10' g9 g10 => ?_)
  have cc := rCC_0 H.1 hc
  have hc' : e = 0 ∧ rFL v = [] ∨ e = 1 ∧ rFL v ≠ [] ∧ rCC w Γ c (rFL v) ∧ ((∀ t ∈ rFL v, rNK t = true) ∨ w.2 92 c.toNat ≠ 50) := by
    by_cases c0 : c = 0
    · exact Or.inl ⟨h0 c0, cc.1 c0⟩
    · exact Or.inr ⟨h1 c0, fun z => c0 (cc.2 z), hc, Or.inl hvv.2.1⟩
  have it := rMV_it M hI hc' n (rFL (s_tl s)) (Nat.le_refl _) t2
  obtain ⟨z1, z2, z3⟩ := t_stepL hq' hf hvv t3 t4
  rw [← z1] at it
  have w83 : w'.2 83 i.toNat = w.2 83 i.toNat := by rw [M.2.2.1 83 (by decide)]
  rw [w83]
  exact LL (k + e + n) w' (rMV_rc M H hg t1 he hq) (by rw [M.2.1.1]; omega) M.2.1.2 it z2 z3 M.1 M.2.2.1 M.2.2.2.1 v9' v10' g9 g10
end
