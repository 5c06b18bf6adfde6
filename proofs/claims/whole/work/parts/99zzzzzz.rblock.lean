/-! ===== a block's content: a group, or nothing ===== -/
section
variable {C : C_} {sil : Bool} {D : Prop} {qq : Int} {s : S_} {w : W_} {Γ : rG_} {n fr ft : Nat} {hb b : Bool} {R c f r : Int} {q : T_} {P : Option am_V → W_ → Prop}
theorem wq_9 (q : T_) (s : Nat) : v_wq (.tag 9 q) s = ((v_wq q s).1, s) := by
  cases q <;> rfl
/-- the end of runBlock: what stands for the text is in a group, where there is anything but marks in it -/
theorem blk_G (H : rRC C sil D qq ft s w Γ) (hq : qq + 1 ≤ 400) (hf : 6 ≤ fr) (hc : rCC w Γ c (rFL q)) (hv : vc q) (hb' : b = (rFL q).any rNK) (L : ∀ y w' Γ', rRC C sil D (qq + 1) ft s w' Γ' → rCC w' Γ' y (if b = true then [.tag 9 q] else []) → rPO n hb s s w Γ w' Γ' R → P (some (.inl y)) w') : zr199 fr P 8 f r c w := by
  have B := rRC_bd H
  have hc1 := hc.1
  have c0 := rCC_0 H.1 hc
  have Z : ∀ {l : List T_}, l = [] → rCC w Γ 0 l := fun e => by rw [e]; exact ⟨by omega, H.1.2.1⟩
  by_cases d : c = 0
  · have e : rFL q = [] := c0.1 d
    rw [e] at hb'
    have hb0 : b = false := hb'
    subst d
    exact lk_199b (L 0 w Γ (rRC_qq H (by omega) (by omega)) (Z (by rw [hb0]; rfl)) rPO_rfl)
  · have T := (H.1.2.2.1 c.toNat (by omega) (by omega)).1.1
    rw [hc.2, ← hb'] at T
    cases hbb : b with
    | false =>
      rw [hbb] at T L
      exact lk_199c (by omega) T (L 0 w Γ (rRC_qq H (by omega) (by omega)) (Z rfl) rPO_rfl)
    | true =>
      rw [hbb] at T L
      have T9 : rLf (.tag 9 q) := ⟨9, q, rfl, by omega⟩
      have yw : ∀ s : Nat, s ≤ 3 → (rWL [.tag 9 q] s).1 = (rWL (rFL q) s).1 := fun s hs => by
        show m9 ((v_wq (.tag 9 q) s).1 + 0) = _
        rw [wq_9, Nat.add_zero]
        show m9 (v_wq q s).1 = _
        rw [(hv.1 s (by omega)).1, m9_id (rWL_le _ _)]
      refine lk_199d (R := fun y w' => ∃ Γ', rRC C sil D (qq + 1) ft s w' Γ' ∧ rCC w' Γ' y [.tag 9 q] ∧ rPO n hb s s w Γ w' Γ' R) (by omega) (by omega) T ((lk_newE (n := n) (hb := hb) (R := R) (t := .tag 9 q) (y := fun s => (((rWL (rFL q) s).1 : Nat) : Int)) H hq (by omega) T9 rfl (by decide) (fun s hs => by rw [yw (s + 1) (by omega)]) (fun v Hv e1 eA s s1 s2 => ?_) (fun m w' Γ' em X' G2 f1 f2 f3 f4 => ?_)).mono ?_) (fun y w' g => by
        obtain ⟨Γ', g1, g2, g3⟩ := g
        exact L y w' Γ' g1 g2 g3)
      · have ec : (((c.toNat : Nat)) : Int) = c := by omega
        have z := lk_190 (w := v) (Γ := Γ) (fr := fr - 1 - 1 - 1) (c := c.toNat) (n := s) Hv (by omega) (by rw [e1]; omega) (by rw [e1]; omega) ⟨s1, s2⟩
        rw [ec, hc.2] at z
        exact lk_189g (by omega) z
      · have m26 := X'.1.1.2.2.2.2
        unfold rLF
        refine ⟨f1, by omega, ?_⟩
        rw [f2]
        exact (rCC_mono X' hc).2
      · rintro r' w' ⟨y, rfl, yr, Γ', g1, g2, g3, -⟩
        exact ⟨y, rfl, Γ', g1, g2, g3⟩
end
/-! what a text is behind one more item -/
theorem t_mks_e {q : T_} {s : S_} (hq : vc q) (ht : vc (s_tl s)) : rFL (t_mks q s) = rFL q ++ rFL (s_tl s) ∧ vc (t_mks q s) := by
  unfold t_mks
  split
  · rename_i e
    rw [e]
    exact ⟨(List.append_nil _).symm, hq⟩
  · rename_i e
    exact ⟨rFL_chain q _, vc_chain hq ht⟩
theorem t_stepL {q v : T_} {f : Bool} {s : S_} (hq : vc q) (hf : f = (rFL q).any rNK) (hv : vv v) (ht : vc (s_tl s)) (hm : ∀ t ∈ rFL (s_tl s), rNK t = false) : rFL (t_mks (t_app q f v).1 s) = rFL q ++ rFL v ++ rFL (s_tl s) ∧ vc (t_mks (t_app q f v).1 s) ∧ (t_app q f v).2 = (rFL (t_mks (t_app q f v).1 s)).any rNK := by
  have am : (rFL (s_tl s)).any rNK = false := by
    rw [List.any_eq_false]
    intro t h
    rw [hm t h]
    decide
  unfold t_app
  by_cases c : v_fl v = true
  · rw [if_pos c]
    have z := t_mks_e (q := v_chain q v) (s := s) (vc_chain hq (vc_of hv)) ht
    rw [rFL_chain] at z
    refine ⟨z.1, z.2, ?_⟩
    dsimp only
    rw [z.1, List.any_append, List.any_append, am]
    have ne := hv.2.2.1.1 c
    have : (rFL v).any rNK = true := by
      cases e : rFL v with
      | nil => exact absurd e ne
      | cons t r =>
        rw [List.any_cons, hv.2.1 t (by rw [e]; exact List.mem_cons_self ..)]
        rfl
    rw [this, Bool.or_true, Bool.true_or]
  · rw [if_neg c]
    have z := t_mks_e (q := q) (s := s) hq ht
    have e := vv_f hv c
    dsimp only
    rw [e, List.append_nil]
    refine ⟨z.1, z.2, ?_⟩
    rw [z.1, List.any_append, am, Bool.or_false]
    exact hf
