/-! ===== a text ===== -/
theorem t_frm_9 {L : Nat} {rec : K_} {C : C_} {sil : Bool} : ∀ (m : Nat) (t : T_), it_len t ≤ m → ∀ (W : Nat) (E : N_) (s : S_) (W2 : Nat) (E2 : N_) (s2 : S_), t_frm L rec C sil t W E s = some (W2, E2, s2) → W ≤ 9999 → W2 ≤ 9999 := by
  intro m
  induction m with
  | zero =>
    intro t hlen W E s W2 E2 s2 h hW
    rcases ct_or t with ⟨k, n, id, x, r, rfl⟩ | ⟨-, q⟩
    · rw [it_ct] at hlen; omega
    · rw [q] at h; cases h; exact hW
  | succ m ih =>
    intro t hlen W E s W2 E2 s2 h hW
    rcases ct_or t with ⟨k, n, id, x, r, rfl⟩ | ⟨-, q⟩
    · rw [it_ct] at hlen
      rw [t_frm_ct] at h
      split at h
      · split at h
        · cases hr : rec sil x E false (u_go s) with
          | none => rw [hr] at h; cases h
          | some z =>
            obtain ⟨v, E1, s3⟩ := z
            rw [hr] at h
            dsimp only at h
            cases hf : f_fu L C v (e_id x) s3 with
            | none => rw [hf] at h; cases h
            | some s4 =>
              rw [hf] at h
              dsimp only at h
              exact ih r (by omega) _ _ _ _ _ _ h (m9_le _)
        · exact ih r (by omega) _ _ _ _ _ _ h (m9_le _)
      · cases h
    · rw [q] at h; cases h; exact hW
section
variable {C : C_} {sil : Bool} {D : Prop} {qq : Int} {s s1 s2 : S_} {w w' w1 : W_} {Γ Γ1 Γ' : rG_} {n n1 fr g k L row tt ft : Nat} {R f st i : Int} {P : Option am_V → W_ → Prop} {E E1 E2 : N_} {u : Nat → Bool} {rec : K_} {t v : T_}
theorem txt_pi (P1 : rPO n true s s1 w Γ w1 Γ1 R) (h33 : w.1 73 33 = ((g + k : Nat) : Int)) (h35 : w.1 73 35 = (tt : Int)) (c1 : ∀ a j, ¬ (a = 73 ∧ (j = 33 ∨ j = 35)) → w'.1 a j = w1.1 a j) (c35 : w'.1 73 35 = (tt : Int)) (cb : ∀ b, b ≠ 98 → w'.2 b = w1.2 b) (c98 : ∀ i, i < g + k → w'.2 98 i = w1.2 98 i) : rXT w1 Γ1 w' Γ1 (-1) ∧ rPI n s (u_tl s1 .nil) w Γ w' Γ1 R g := by
  obtain ⟨a1, a2, ⟨a3, a4⟩, ⟨a5, a6, -⟩, ⟨a8, a9, a10⟩, a11, a12⟩ := P1
  have X : ∀ R, rXT w1 Γ1 w' Γ1 R := fun R => rXT_same (fun j q => c1 73 j (by omega)) (fun b _ q => cb b (by omega))
  refine ⟨X _, rXT_trans a1 (X R) (Or.inl rfl) (Or.inl rfl), rOt_tr a2 (rOt_mk (fun a j q => c1 a j (by omega)) (fun b q => cb b (by omega))), fun i hi => by rw [c98 i (by omega), a4 i (by omega)], ⟨by rw [c35, h35], fun i hi => by rw [cb 99 (by decide), a6 i hi]⟩, ⟨by rw [c1 73 40 (by omega)]; exact a8, a9, by rw [c1 73 40 (by omega)]; exact a10⟩, by rw [c1 73 45 (by omega)]; exact a11, by rw [c1 73 21 (by omega)]; exact a12⟩
/-- the marks of another text -/
theorem rRC_tx {x : T_} (H : rRC C sil D qq ft s w Γ) (T : rTl tt (u_tl s x) w Γ) : rRC C sil D qq tt (u_tl s x) w Γ := by
  obtain ⟨q1, ⟨q2, q2'⟩, q3, q4, q5, q6, q7, ⟨⟨k1, k1', k1''⟩, k2, k3, k4, k5⟩, -⟩ := H
  refine ⟨q1, ⟨rFR_w (s := s) q2 rfl rfl rfl, q2'⟩, ?_, rS2_w q4 rfl rfl rfl ⟨rfl, rfl, rfl⟩, q5, fun f hf => ?_, ?_, ⟨⟨?_, k1', k1''⟩, ?_, ?_, k4, ?_⟩, T⟩
  · unfold rS1 at q3 ⊢
    exact q3
  · exact q6 f hf
  · unfold rS5 at q7 ⊢
    exact q7
  · have ef : fcz (u_tl s x) = fcz s := rfl
    have et : s_tb (u_tl s x) = s_tb s := rfl
    rw [ef, et]
    exact k1
  · exact k2
  · exact k3
  · exact k5
theorem rRC_t0 (H : rRC C sil D qq ft s w Γ) (h : w.1 73 35 = (tt : Int)) : rRC C sil D qq tt (u_tl s .nil) w Γ := rRC_tx H ⟨⟨0, by rw [h]; rfl, rfl⟩, vc_nil, fun t ht => by cases ht⟩
theorem rRC_t1 (H0 : rRC C sil D qq ft s w Γ) (H : rRC C sil D qq tt s2 w' Γ') (X : rXT w Γ w' Γ' R) (h35 : w'.1 73 35 = w.1 73 35) (h99 : ∀ i : Nat, (i : Int) < w.1 73 35 → w'.2 99 i = w.2 99 i) : rRC C sil D qq ft (u_tl s2 (s_tl s)) w' Γ' := by
  obtain ⟨⟨n, t1, t2⟩, t3, t4⟩ := H0.2.2.2.2.2.2.2.2
  exact rRC_tx H ⟨⟨n, by rw [h35]; exact t1, rIT_mono X n _ (fun i hi => h99 i (by omega)) t2⟩, t3, t4⟩
theorem txt_R (hK : rSK C sil n1 rec) (M1 : eMK rec) (hB : rBr rec) (hn : n1 ≤ n) (hL : L + 11 ≤ fr) (hfr : 2 * n1 + 1012 ≤ fr) (hq : qq ≤ 395) : ∀ (m : Nat) (t : T_), it_len t ≤ m → ∀ (q : T_) (b : Bool) (E : N_) (s : S_) (q2 : T_) (b2 : Bool) (E2 : N_) (s2 : S_), t_run L rec C sil t q b E s = some (q2, b2, E2, s2) → s_b s2 ≤ 90000 ∧ s_nt s2 ≤ 900000 → ∀ (w : W_) (Γ : rG_) (i : Int) (k : Nat) (v8 v9 v10 v11 : am_V), rRC C sil D qq tt s w Γ → rEN w 0 (w.1 73 5) t none i → (∀ m, m < 10 → e_nm t m = true → u m = true) → rNF w Γ u E row → ((row : Int) < w.1 73 15 ∧ Γ.2.2.2 row = false) → w.1 73 33 = ((g + k : Nat) : Int) → w.1 73 35 = (tt : Int) → s_tl s = .nil → rIT 98 w Γ g k (rFL q) → vc q → b = (rFL q).any rNK → ((am_two v8 = false ∧ am_two v9 = false) ∧ am_two v10 = false ∧ am_two v11 = false) → (∀ (w' : W_) (Γ' : rG_) (k' : Nat) (v8 v9 v10 v11 : am_V), rRC C sil D qq tt s2 w' Γ' → rNF w' Γ' u E2 row → rPI n s s2 w Γ w' Γ' (row : Int) g → w'.1 73 33 = ((g + k' : Nat) : Int) → rIT 98 w' Γ' g k' (rFL q2) → vc q2 → b2 = (rFL q2).any rNK → ((am_two v8 = false ∧ am_two v9 = false) ∧ am_two v10 = false ∧ am_two v11 = false) → zr198 fr P 272 f (row : Int) 0 (g : Int) (tt : Int) st (-1) v8 v9 v10 v11 w') → zr198 fr P 18 f (row : Int) 0 (g : Int) (tt : Int) st i v8 v9 v10 v11 w := by
  intro m
  induction m with
  | zero =>
    intro t hlen q b E s q2 b2 E2 s2 h hs w Γ i k v8 v9 v10 v11 H hE hU hN hrow h33 h35 htl hI hvc hb hv LL
    rcases rEN_oi hE with ⟨k', n', id, x, r, rfl⟩ | ⟨rfl, hi⟩
    · rw [it_ct] at hlen; omega
    · have h : some (q, b, E, s) = some (q2, b2, E2, s2) := h
      cases h
      refine lk_198b hv hi ?_
      rw [hi]
      exact LL w Γ k v8 v9 v10 v11 H hN rPI_rfl h33 hI hvc hb hv
  | succ m ih =>
    intro t hlen q b E s q2 b2 E2 s2 h hs w Γ i k v8 v9 v10 v11 H hE hU hN hrow h33 h35 htl hI hvc hb hv LL
    rcases rEN_oi hE with ⟨k', n', id, x, r, rfl⟩ | ⟨rfl, hi⟩
    · rw [it_ct] at hlen
      unfold ct at hE
      rw [rEN_it] at hE
      obtain ⟨⟨⟨ilo, ihi⟩, hk, hnn, hfi, hpl⟩, ⟨k4, nr⟩, en3, e4, e82, ey, er⟩ := hE
      have B := rRC_bd H
      have na := rEN_na er
      have hUr : ∀ m, m < 10 → e_nm r m = true → u m = true := fun m hm q => hU m hm (by rw [enm_ct na, q, Bool.or_true])
      have hUx : ∀ m, m < 10 → e_nm x m = true → u m = true := fun m hm q => hU m hm (by rw [enm_ct na, q, Bool.true_or])
      have l0 : s_lt s ≤ s_b s := H.2.2.1.1.2.2.2
      have lt : s_lt (u_go s) ≤ s_b (u_go s) := by
        show s_lt s ≤ s_b s + 1
        omega
      rw [t_run_ct] at h
      split at h
      · rename_i tb
        cases hi : t_item L rec C sil k' n' x E s with
        | none => rw [hi] at h; cases h
        | some z =>
          obtain ⟨v, E1, s1⟩ := z
          rw [hi] at h
          dsimp only at h
          have m1 := t_item_M M1 hi l0
          have l1 : s_lt (u_tl s1 .nil) ≤ s_b (u_tl s1 .nil) := m1.2.2.2.2.1
          have mm := t_run_M M1 (it_len r) r (Nat.le_refl _) _ _ _ _ _ _ _ _ h l1
          have hs1 : s_b s1 ≤ 90000 ∧ s_nt s1 ≤ 900000 := ⟨Nat.le_trans mm.1 hs.1, Nat.le_trans mm.2.1 hs.2⟩
          have GO : ∀ (qq1 : Int) (c : Int) (w1 : W_) (Γ1 : rG_) (v10 v11 : am_V) (kk : Int), am_two v10 = false ∧ am_two v11 = false → qq1 + 1 ≤ qq → rRC C sil D qq1 tt s1 w1 Γ1 → rCC w1 Γ1 c (rFL v) → vv v → rNF w1 Γ1 u E1 row → rPO n true s s1 w Γ w1 Γ1 (row : Int) → zr198 fr P 175 f (row : Int) 0 (g : Int) (tt : Int) st i (.inl kk) (.inl c) v10 v11 w1 := by
            intro qq1 c w1 Γ1 v10 v11 kk hv2 hq1 H1 C1 V1 N1 P1
            have a33 : w1.1 73 33 = ((g + k : Nat) : Int) := by rw [P1.2.2.1.1]; exact h33
            have I1 := rIT_mono P1.1 k _ (fun j hj => P1.2.2.1.2 j (by omega)) hI
            refine txt_next H1 (by omega) a33 I1 C1 V1 hvc hb hv2 (by omega) (fun k2 w2 H2 d33 d35 it2 vc2 b2' c1 cb c98 v9' v10' g9 g10 => ?_)
            obtain ⟨X2, PI⟩ := txt_pi P1 h33 h35 c1 d35 cb c98
            have X3 := rXT_trans (R := (row : Int)) P1.1 X2 (Or.inl rfl) (by omega)
            have A1 := P1.1.1.2 i.toNat (by omega) (by omega)
            have rb := X3.1.1.2.1
            rw [A1.2.1.2]
            exact ih r (by omega) _ _ E1 (u_tl s1 .nil) q2 b2 E2 s2 h hs w2 Γ1 (w.2 83 i.toNat) k2 _ _ _ _ (rRC_qq H2 (by omega) (by omega)) (rEN_X X3 er) hUr (rNF_go N1 (fun j q => c1 73 j (by omega)) (cb 84 (by decide))) ⟨by omega, by rw [X3.2.1.2 row hrow.1]; exact hrow.2⟩ d33 d35 rfl it2 vc2 b2' ⟨⟨rfl, g9⟩, g10, hv2.2⟩ (fun w3 Γ3 k3 a8 a9 a10 a11 b1 b2 b3 b4 b5 b6 b7 b8 => LL w3 Γ3 k3 a8 a9 a10 a11 b1 b2 (rPI_trans PI b3 (Nat.le_refl _) (Nat.le_refl _) (Or.inl rfl) (Or.inl rfl)) b4 b5 b6 b7 b8)
          unfold t_item at hi
          by_cases c3 : k' = 3
          · rw [if_pos c3] at hi
            cases hr : rec sil x E true (u_go s) with
            | none => rw [hr] at hi; cases hi
            | some z =>
              obtain ⟨va, Ea, sa⟩ := z
              rw [hr] at hi
              dsimp only at hi
              cases hf : f_fu L C va (e_id x) sa with
              | none => rw [hf] at hi; cases hi
              | some sb =>
                rw [hf] at hi
                dsimp only at hi
                have hi := Option.some.inj hi
                have e1 : va = v := congrArg Prod.fst hi
                have e2 : Ea = E1 := congrArg (fun p => p.2.1) hi
                have e3 : u_nd sb 2 = s1 := congrArg (fun p => p.2.2) hi
                have hs4 : s_b sb ≤ 90000 ∧ s_nt sb ≤ 900000 := by rw [← e3] at hs1; exact hs1
                have nt4 := f_fu_nt hf
                have hs3 : s_b sa ≤ 90000 ∧ s_nt sa ≤ 900000 := ⟨by rw [← nt4.1]; exact hs4.1, Nat.le_trans nt4.2.1 hs4.2⟩
                have m2 := M1 _ _ _ _ _ _ _ _ hr lt
                have hb1 : s_b s + 1 ≤ 90000 := Nat.le_trans m2.1 hs3.1
                have ex : rEN w 0 (w.1 73 5) x (some none) (w.2 81 (3 * i + 0).toNat) := by
                  rw [show (3 * i + 0).toNat = 3 * i.toNat by omega]; exact en3 c3
                have hk3 : w.2 77 i.toNat = 3 := by rw [hk, c3]; rfl
                refine txt_c (n := n) (n1 := n1) (L := L) hK hB hn (by omega) (by omega) H hq hk3 hr hf hs3 hs4.2 ex hUx hN hrow tb hb1 hv (by omega) (fun c p1 rv w2 Γ2 g1 g2 g3 g4 g5 => GO (qq - 3 + 1) c w2 Γ2 _ _ _ ⟨rfl, rfl⟩ (by omega) ?_ ?_ ?_ ?_ ?_)
                · rw [← e3]; exact rRC_nd g1
                · rw [← e1]; exact g2
                · rw [← e1]; exact g3
                · rw [← e2]; exact g4
                · rw [← e3]; exact rPO_nd g5
          · rw [if_neg c3] at hi
            by_cases c4 : k' = 4
            · rw [if_pos c4] at hi
              cases hr : t_frm L rec C sil x 0 E (u_go s) with
              | none => rw [hr] at hi; cases hi
              | some z =>
                obtain ⟨W2, Ea, sa⟩ := z
                rw [hr] at hi
                dsimp only at hi
                have hi := Option.some.inj hi
                have e1 : (.tag 4 (.nest (W2 : Int) .nil) : T_) = v := congrArg Prod.fst hi
                have e2 : Ea = E1 := congrArg (fun p => p.2.1) hi
                have e3 : u_nd sa 2 = s1 := congrArg (fun p => p.2.2) hi
                have hs4 : s_b sa ≤ 90000 ∧ s_nt sa ≤ 900000 := by rw [← e3] at hs1; exact hs1
                have m2 := t_frm_M M1 (it_len x) x (Nat.le_refl _) _ _ _ _ _ _ hr lt
                have hb1 : s_b s + 1 ≤ 90000 := Nat.le_trans m2.1 hs4.1
                have W9 := t_frm_9 (it_len x) x (Nat.le_refl _) _ _ _ _ _ _ hr (by omega)
                have hk4 : w.2 77 i.toNat = 4 := by rw [hk, c4]; rfl
                have e4' := e4 c4
                have V : vv (.tag 4 (.nest (W2 : Int) .nil)) := vv_leaf (by omega) (fun s _ => by
                  show ((W2 : Int)).toNat ≤ 9999
                  omega) (vK_lf (by omega))
                refine txt_m (n := n) (n1 := n1) (L := L) hK M1 hB hn (by omega) (by omega) H hq hk4 hr hs4 e4'.2 e4'.1 hUx hN hrow tb hb1 hv (by omega) (fun c w1 Γ1 g1 g2 g3 g4 => GO (qq - 3 + 1) c w1 Γ1 _ _ _ ⟨hv.2.1, hv.2.2⟩ (by omega) ?_ ?_ ?_ ?_ ?_)
                · rw [← e3]; exact rRC_nd g1
                · rw [← e1, rFL_tag (by omega)]; exact g2
                · rw [← e1]; exact V
                · rw [← e2]; exact g3
                · rw [← e3]; exact rPO_nd g4
            · rw [if_neg c4] at hi
              have hi := Option.some.inj hi
              have e1 : t_leaf k' n' = v := congrArg Prod.fst hi
              have e2 : E = E1 := congrArg (fun p => p.2.1) hi
              have e3 : u_nd (u_go s) 2 = s1 := congrArg (fun p => p.2.2) hi
              have hb1 : s_b s + 1 ≤ 90000 := by rw [← e3] at hs1; exact hs1.1
              refine txt_w (n := n) (k := k') (nn := n') H hq hk (by omega) hnn nr tb hb1 (by omega) hv (by omega) (fun c w1 Γ1 g1 g2 g3 g4 => GO (qq - 3 + 1) c w1 Γ1 _ _ _ ⟨hv.2.1, hv.2.2⟩ (by omega) ?_ ?_ ?_ ?_ ?_)
              · rw [← e3]; exact rRC_nd g1
              · rw [← e1]; exact g2
              · rw [← e1]; exact g3
              · rw [← e2]; exact rNF_mono g4.1 hrow.1 (by omega) hN
              · rw [← e3]; exact rPO_nd (rPO_wk g4 (Nat.le_refl _) (fun q => q) (by omega))
      · cases h
    · have h : some (q, b, E, s) = some (q2, b2, E2, s2) := h
      cases h
      refine lk_198b hv hi ?_
      rw [hi]
      exact LL w Γ k v8 v9 v10 v11 H hN rPI_rfl h33 hI hvc hb hv
/-- a text is run as E does -/
theorem txt_C {q2 : T_} {b2 : Bool} (hK : rSK C sil n1 rec) (M1 : eMK rec) (hB : rBr rec) (hn : n1 ≤ n) (hL : L + 11 ≤ fr) (hfr : 2 * n1 + 1012 ≤ fr) (hq : qq ≤ 395) (h : t_run L rec C sil t .nil false E (u_tl s .nil) = some (q2, b2, E2, s2)) (hs : s_b s2 ≤ 90000 ∧ s_nt s2 ≤ 900000) (H : rRC C sil D qq ft s w Γ) (hE : rEN w 0 (w.1 73 5) t none i) (hU : ∀ m, m < 10 → e_nm t m = true → u m = true) (hN : rNF w Γ u E row) (hrow : (row : Int) < w.1 73 15 ∧ Γ.2.2.2 row = false) : ww_Ct 198 fr [.inr (.inr (.inl 73)), .inl i, .inl (row : Int), .inl 0] w fun r w' => ∃ c, r = some (.inl c) ∧ ∃ Γ', rRC C sil D qq ft (u_tl s2 (s_tl s)) w' Γ' ∧ rCC w' Γ' c (rFL q2) ∧ (vc q2 ∧ b2 = (rFL q2).any rNK) ∧ rNF w' Γ' u E2 row ∧ rPO n false s (u_tl s2 (s_tl s)) w Γ w' Γ' (row : Int) := by
  have B := rRC_bd H
  have Z : ∃ g tt : Nat, w.1 73 33 = (g : Int) ∧ w.1 73 35 = (tt : Int) := ⟨(w.1 73 33).toNat, (w.1 73 35).toNat, by omega, by omega⟩
  obtain ⟨g, tt, eg, et⟩ := Z
  refine lk_198a eg et ?_
  refine txt_R (n := n) (n1 := n1) (L := L) (u := u) (g := g) (D := D) (qq := qq) (tt := tt) hK M1 hB hn hL hfr hq (it_len t) t (Nat.le_refl _) .nil false E (u_tl s .nil) q2 b2 E2 s2 h hs w Γ i 0 _ _ _ _ (rRC_t0 H et) hE hU hN hrow (by rw [eg, Nat.add_zero]) et rfl rfl vc_nil rfl ⟨⟨rfl, rfl⟩, rfl, rfl⟩ (fun w1 Γ1 k v8 v9 v10 v11 b1 c2 b3 b4 b5 b6 b7 hv9 => ?_)
  have B1 := rRC_bd b1
  have rows1 := b3.1.1.1.2.1
  have S6 := b1.2.2.2.2.2.2.2.1.1
  refine lk_198_272t (R := fun c w2 => ∃ Γ2, rRC C sil D qq tt s2 w2 Γ2 ∧ rCC w2 Γ2 c (rFL q2) ∧ rPI n s2 s2 w1 Γ1 w2 Γ2 (-1) g ∧ w2.1 73 33 = (g : Int)) hv9 (by omega) ((lk_192 (fr := fr - 1) (fm := g) (n := k) b1.1 (by omega) b4 (by omega) (by omega) b5).mono ?_) ?_
  · rintro r w2 ⟨c, rfl, Γ2, g1, g2, g3⟩
    obtain ⟨k1, k2⟩ := rGath (n := n) (R := -1) b1 b4 g1 g2
    exact ⟨c, rfl, Γ2, k1, g3, k2, g2⟩
  · rintro c w2 ⟨Γ2, k1, k2, k3, k4⟩
    have P3 : rPI n s (u_tl s2 (s_tl s)) w Γ w2 Γ2 (row : Int) g := rPI_trans (n := n) (s := u_tl s .nil) (R := (row : Int)) b3 k3 (Nat.le_refl _) (Nat.le_refl _) (Or.inl rfl) (by omega)
    refine ⟨c, rfl, Γ2, rRC_t1 H k1 P3.1 P3.2.2.2.1.1 P3.2.2.2.1.2, k2, ⟨b6, b7⟩, rNF_mono k3.1 (by omega) (by omega) c2, rPO_back P3 eg k4⟩
/-- a block is run as E does -/
theorem blk_C (hK : rSK C sil n1 rec) (M1 : eMK rec) (hB : rBr rec) (hn : n1 ≤ n) (hL : L + 12 ≤ fr) (hfr : 2 * n1 + 1013 ≤ fr) (hq : qq ≤ 395) (h : t_block L rec C sil t E s = some (v, E1, s1)) (hs : s_b s1 ≤ 90000 ∧ s_nt s1 ≤ 900000) (H : rRC C sil D qq ft s w Γ) (hE : rEN w 0 (w.1 73 5) t none i) (hU : ∀ m, m < 10 → e_nm t m = true → u m = true) (hN : rNF w Γ u E row) (hrow : (row : Int) < w.1 73 15 ∧ Γ.2.2.2 row = false) : ww_Ct 199 fr [.inr (.inr (.inl 73)), .inl i, .inl (row : Int)] w fun r w' => ∃ y, r = some (.inl y) ∧ ∃ Γ', rRC C sil D (qq + 1) ft s1 w' Γ' ∧ rVF w' Γ' v (8 * y + 2) ∧ rCC w' Γ' y (rFL v) ∧ rNF w' Γ' u E1 row ∧ rPO n false s s1 w Γ w' Γ' (row : Int) := by
  unfold t_block at h
  cases ht : t_run L rec C sil t .nil false E (u_tl s .nil) with
  | none => rw [ht] at h; cases h
  | some z =>
    obtain ⟨q2, b2, E2, s2⟩ := z
    rw [ht] at h
    dsimp only at h
    have h := Option.some.inj h
    have e1 : (if b2 = true then .tag 9 q2 else vE) = v := congrArg Prod.fst h
    have e2 : E2 = E1 := congrArg (fun p => p.2.1) h
    have e3 : u_tl (u_nd s2 1) (s_tl s) = s1 := congrArg (fun p => p.2.2) h
    have hs2 : s_b s2 ≤ 90000 ∧ s_nt s2 ≤ 900000 := by rw [← e3] at hs; exact hs
    have e3 : u_nd (u_tl s2 (s_tl s)) 1 = s1 := e3
    refine lk_199a (R := fun y w' => ∃ Γ', rRC C sil D qq ft (u_tl s2 (s_tl s)) w' Γ' ∧ rCC w' Γ' y (rFL q2) ∧ (vc q2 ∧ b2 = (rFL q2).any rNK) ∧ rNF w' Γ' u E2 row ∧ rPO n false s (u_tl s2 (s_tl s)) w Γ w' Γ' (row : Int)) (by omega) ((txt_C (n := n) (n1 := n1) (L := L) hK M1 hB hn (by omega) (by omega) hq ht hs2 H hE hU hN hrow).mono ?_) ?_
    · rintro r w' ⟨c, rfl, q⟩
      exact ⟨c, rfl, q⟩
    · rintro y w' ⟨Γ', g1, g2, ⟨g3, g4⟩, g5, g6⟩
      have rb := g6.1.1.1.2.1
      refine blk_G (n := n) (hb := false) (R := -1) (b := b2) (q := q2) g1 (by omega) (by omega) g2 g3 g4 (fun y2 w2 Γ2 k1 k2 k3 => ?_)
      have P4 := rPO_trans (n := n) (hb := false) (R := (row : Int)) g6 k3 (Nat.le_refl _) (Nat.le_refl _) (fun q => q) (fun q => q) (Or.inl rfl) (by omega)
      have N4 := rNF_mono k3.1 (by omega) (by omega) g5
      have k2c := k2.1
      have fl : (if b2 = true then [.tag 9 q2] else []) = rFL v ∧ vv v ∧ v_isC v = true := by
        rw [← e1]
        cases b2 with
        | true =>
          rw [if_pos rfl, if_pos rfl]
          exact ⟨(rFL_tag (by omega)).symm, vv_leaf (by omega) (fun s hs => by rw [wq_9, (g3.1 s hs).1]; exact rWL_le _ _) (by rw [vK_9]; exact g3.2), rfl⟩
        | false => exact ⟨rfl, vv_E, rfl⟩
      rw [fl.1] at k2
      refine ⟨y2, rfl, Γ2, by rw [← e3]; exact rRC_nd k1, ⟨fl.2.1, Or.inr (Or.inr (Or.inr (Or.inr (Or.inr ⟨y2.toNat, fl.2.2, by omega, by omega, ?_⟩))))⟩, k2, by rw [← e2]; exact N4, by rw [← e3]; exact rPO_nd P4⟩
      exact k2.2
end
