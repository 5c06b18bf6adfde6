/-! ===== the class realizes as the evaluator: a LATE ===== -/
section
variable {G : G_} {sil : Bool} {o : Nat} {K0 : Int} {s s1 : S_} {q q1 : Q_} {w w' : W_} {fr : Nat} {Q : Option am_V → W_ → Prop} {i : Int} {S : List F_} {x : Int × Int × Nat}
/-- the names of a place, in a new row -/
theorem scp_42 {X : W_} {c : Int} {e cl : T_} {E0 : N_} (h12 : -1 ≤ X.1 41 12) (h0 : 0 ≤ X.1 13 2) (hcl : cl = n_clos E0 (e_use e) 10) (pc : cV X cl c) : ∀ k : Nat, k < 10 → match n_get cl k with
    | none => (w_scp X c).2 42 ((X.1 41 12 + 1).toNat * 10 + k) = 20005
    | some u => vW_ X u ((w_scp X c).2 42 ((X.1 41 12 + 1).toNat * 10 + k)) := by
  have hY : ∀ k, (w_fill (w_f X 41 12 (X.1 41 12 + 1)) 42 ((X.1 41 12 + 1) * 10).toNat ((X.1 41 12 + 1) * 10 + 10).toNat 20005).2 42 k = if (X.1 41 12 + 1) * 10 ≤ (k : Int) ∧ (k : Int) < (X.1 41 12 + 1) * 10 + 10 then 20005 else X.2 42 k := fun k => by
    show (if 42 = 42 ∧ ((X.1 41 12 + 1) * 10).toNat ≤ k ∧ k < ((X.1 41 12 + 1) * 10 + 10).toNat then (20005 : Int) else X.2 42 k) = _
    by_cases c : (X.1 41 12 + 1) * 10 ≤ (k : Int) ∧ (k : Int) < (X.1 41 12 + 1) * 10 + 10
    · rw [if_pos c, if_pos ⟨rfl, by omega, by omega⟩]
    · rw [if_neg c, if_neg (by omega)]
  have hY13 : (w_fill (w_f X 41 12 (X.1 41 12 + 1)) 42 ((X.1 41 12 + 1) * 10).toNat ((X.1 41 12 + 1) * 10 + 10).toNat 20005).2 13 = X.2 13 := w_fill_2ne _ _ _ _ (by decide)
  have hS : w_scp X c = w_bind 10 (w_fill (w_f X 41 12 (X.1 41 12 + 1)) 42 ((X.1 41 12 + 1) * 10).toNat ((X.1 41 12 + 1) * 10 + 10).toNat 20005) (X.1 41 12 + 1) c := rfl
  generalize w_fill (w_f X 41 12 (X.1 41 12 + 1)) 42 ((X.1 41 12 + 1) * 10).toNat ((X.1 41 12 + 1) * 10 + 10).toNat 20005 = Y at *
  rw [hcl] at pc
  obtain ⟨B1, B2⟩ := bind_get (F := fW X) (s := X.1 41 12 + 1) (by omega) h0 10 10 c Y (Nat.le_refl _) (Nat.le_refl _) hY13 pc
  rw [← hS] at B1 B2
  generalize w_scp X c = Z at *
  have gcl : ∀ k, k < 10 → n_get cl k = if e_use e k = true then E0 k else none := fun k hk => by
    rw [hcl, n_get_clos]
    by_cases c : e_use e k = true
    · rw [if_pos ⟨hk, c⟩, if_pos c]
    · rw [if_neg (fun q => c q.2), if_neg c]
  have idx : ∀ k : Nat, ((X.1 41 12 + 1) * 10 + (k : Int)).toNat = (X.1 41 12 + 1).toNat * 10 + k := fun k => by omega
  intro k hk
  obtain ⟨A1, A2⟩ := B1 k hk
  rw [idx] at A1 A2
  rw [gcl k hk]
  by_cases c : e_use e k = true
  · rw [if_pos c]
    cases q : E0 k with
    | none =>
      show Z.2 42 _ = 20005
      rw [A2 (fun _ _ => q), hY, if_pos ⟨by omega, by omega⟩]
    | some u => exact A1 u hk c q
  · rw [if_neg c]
    show Z.2 42 _ = 20005
    rw [A2 (fun _ h => absurd h c), hY, if_pos ⟨by omega, by omega⟩]
theorem wS_scp (w : W_) (c : Int) : wS w (w_scp w c) := ⟨fun a j h1 h2 => by rw [w_scp1, if_neg (fun z => h2 z.1)], ⟨by rw [w_scp1, if_neg (by decide)], by rw [w_scp1, if_neg (by decide)], by rw [w_scp1, if_neg (by decide)], by rw [w_scp1, if_neg (by decide)]⟩, fun b _ h => w_scp_2 w c h⟩
theorem RD_la {C : C_} {a0 : Nat} {V : W_} {c d : Int} {e cl : T_} {E0 : N_} (H : CR C sil o a0 False K0 s V) (hfl : flO C (V.2 3) (V.2 5) (V.2 7) ∧ (False ∨ g0 (V.2 7))) (h183 : V.2 3 183 = 0) (hcnt : 0 ≤ V.1 33 1 ∧ V.1 33 1 ≤ 19990 + 2 * s_tb s) (hrow : V.1 41 12 = -1) (hlt : s_lt s ≤ s_b s) (hcl : cl = n_clos E0 (e_use e) 10) (pc : cV V cl c) (hr : s_rw s < 2040) : RD C sil o a0 False K0 false (u_rw s (s_rw s + 1)) (n_get cl) (w_f (w_scp V c) 41 10 d) := by
  have L : wS V (w_f (w_scp V c) 41 10 d) := wS_tr (wS_scp V c) (wS_f (Or.inr ⟨rfl, by omega⟩))
  have h0 := H.2.2.1.2.2.2.1.1
  have N := scp_42 (X := V) (c := c) (e := e) (cl := cl) (E0 := E0) (by omega) h0 hcl pc
  have e12 : (w_f (w_scp V c) 41 10 d).1 41 12 = 0 := by
    rw [w_f1, w_u_at, if_neg (by decide), w_scp1, if_pos ⟨rfl, rfl⟩, hrow]
    rfl
  have e33 : (w_f (w_scp V c) 41 10 d).1 33 1 = V.1 33 1 := by rw [w_f1, w_u_at, if_neg (by decide), w_scp1, if_neg (by decide)]
  have e42 : (w_f (w_scp V c) 41 10 d).2 42 = (w_scp V c).2 42 := rfl
  obtain ⟨Ha, Hb, ⟨c0, c4, c5, c6, c7, c8, c9, c10, c11, c12⟩, Hm⟩ := CR_S H L
  obtain ⟨k1, k2, k3, k4, k5, k6⟩ := wS_fW L
  refine ⟨⟨Ha, Hb, ⟨c0, c4, c5, c6, c7, c8, hr, c10, c11, c12⟩, Hm⟩, fun m hm => ?_, fun z => Bool.noConfusion z, ?_, ?_, hlt, ?_, ?_⟩
  · have z := N m hm
    rw [hrow] at z
    rw [e12, e42]
    cases qq : n_get cl m with
    | none => rw [qq] at z; exact z
    | some u => rw [qq] at z; exact vW_S L z
  · rw [e33]; exact hcnt
  · rw [e12]
    exact ⟨Int.le_refl _, by show (0 : Int) ≤ ((s_rw s + 1 : Nat) : Int); omega⟩
  · rw [k3]; exact h183
  · rw [k3, k4, L.2.2 7 (by decide) (by decide)]; exact hfl
/-- a LATE's frame, ahead of its part -/
def PL (G : G_) (sil : Bool) (o : Nat) (K0 : Int) (s : S_) (q : Q_) (e cl : T_) (V : W_) : Prop := ∃ u : Int, XT G sil o K0 s q V ∧ (f_t V 0 = 11 ∧ f_t V 1 = u ∧ f_t V 2 = 0) ∧ cV V (.tag 7 (.append e cl)) u
theorem el_7 {z : Int} {e cl : T_} (H : XR G sil o K0 s q w) (hel : q_el q < 200) (hz : 30000 ≤ z ∧ z < 10000000) (hv : cV w (.tag 7 (.append e cl)) z) (h1 : (q_fr q).length < 20000) : ww_Ct 115 8 [.inr (.inr (.inl 50)), .inl z, .inl 7] w fun r w' => r = none ∧ PL G sil o K0 s (p_el q (q_el q + 1)) e cl w' := by
  have a8 := H.2.2.1.1.2.2.2.2.2.2.2.1
  have hc := H.2.2.2.2.2.1
  refine (lk_115t (by omega) (by omega) (by omega)).mono ?_
  rintro r w' ⟨h, rfl⟩
  refine ⟨h, z, ?_⟩
  have X := XR_el H (by omega)
  have h0 : 0 ≤ (w_f w 50 14 (w.1 50 14 + 1)).1 33 1 := by rw [w_f1, w_u_at, if_neg (by decide)]; omega
  have xx : hX w (w_pu (w_f w 50 14 (w.1 50 14 + 1)) 11 z) := hX_L (XR_ho H) (wL_tr (wL_f (Or.inr (Or.inl rfl))) (wL_pu _ 11 z))
  exact ⟨XT_pu X, ⟨by rw [f_t_pu h0 (by decide), if_pos rfl], by rw [f_t_pu h0 (by decide), if_neg (by decide), if_pos rfl], by rw [f_t_pu h0 (by decide), if_neg (by decide), if_neg (by decide)]⟩, cV_X xx hv⟩
theorem la_no {c : Nat} {e cl : T_} {V : W_} (P : PL G sil o K0 s q e cl V) (hid : e_id e < 180) (hl : (q_fr q).length < 20000) (hn : s_nt s < 1000000) (hi : 0 ≤ i ∧ i < 1000000) (hr : 20 ≤ fr) (hc : (c = 5 ∧ 12 ≤ q_wi q) ∨ (c = 6 ∧ q_wi q < 12 ∧ 300 ≤ s_b s)) (K : ∀ w', XR G sil o K0 (f_note (g_C G q) (f_code c (e_id e)) s) q w' → dr fr Q (i + 1) w') : dr fr Q i V := by
  obtain ⟨u, T, ⟨F0, F1, F2⟩, hr'⟩ := P
  obtain ⟨hN, p3, -⟩ := hr'
  have h33 := T.2.2.1
  have hh : 0 ≤ V.1 13 2 ∧ V.1 13 2 < 262144 := by
    have h := T.1.2.2.1.2.2.2
    omega
  have u0 := hN.1
  obtain ⟨a1, a2, -⟩ := T.2.1.2.1.1
  have b4 : V.1 17 4 = s_b s := T.1.1.2.1.1
  have cs := T.1.2.2.1.2.2.2.2
  have T1 : XT G sil o K0 s q (w_fs V 2 1) := XT_fs T (by decide)
  have kn := (CR_o T1.1).2
  have R : ww_Ct 125 6 [.inr (.inr (.inl 50))] V fun r w' => r = none ∧ w' = w_po (w_nt (w_fs V 2 1) (f_code c (e_id e))) := by
    refine lk_1250 (id := (e_id e : Int)) F1 (by omega) F2 (by decide) (by omega) p3 ?_
    have wi : (w_fs V 2 (0 + 1)).1 50 8 = (q_wi q : Nat) := a2
    have wb : (w_fs V 2 (0 + 1)).1 17 4 = s_b s := b4
    have r1 : am_rg ((w_fs V 2 (0 + 1)).1 50 8) ∧ am_rg ((w_fs V 2 (0 + 1)).1 17 4) := by
      have b2 := T.2.1.2.2.1.2.2
      rw [wi, wb]
      exact ⟨by unfold am_rg; omega, by unfold am_rg; omega⟩
    have hq : ∀ k : Nat, 100000 * (k : Int) + w_spot (e_id e : Int) = f_code k (e_id e) := fun k => f_code_w k (e_id e)
    rcases hc with ⟨rfl, c1⟩ | ⟨rfl, c1, c2⟩
    · refine lk_125d (by show 1 ≤ V.1 33 1 ∧ V.1 33 1 < 24000; omega) kn (by omega) r1 (by rw [wi]; omega) ?_
      have := hq 5
      exact ⟨rfl, by rw [← this]; rfl⟩
    · refine lk_125l (by show 1 ≤ V.1 33 1 ∧ V.1 33 1 < 24000; omega) kn (by omega) r1 (by rw [wi]; omega) (by rw [wb]; omega) ?_
      have := hq 6
      exact ⟨rfl, by rw [← this]; rfl⟩
  refine dr_11 hi T.2.2.2.1 (by omega) F0 R (by omega) (by omega) ?_
  rintro w1 rfl
  exact K _ (XT_po (XT_nt T1 hn _))
end
