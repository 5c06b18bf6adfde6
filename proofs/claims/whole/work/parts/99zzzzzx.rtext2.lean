/-! ===== a formula ===== -/
theorem rEN_na {w : W_} {lo hi x : Int} {r : T_} (h : rEN w lo hi r none x) : ∀ b c, r ≠ .append b c := by
  intro b c q
  rw [q] at h
  unfold rEN at h
  exact h
theorem enm_ct {k : Nat} {n : Int} {id : Nat} {x r : T_} {m : Nat} (h : ∀ b c, r ≠ .append b c) : e_nm (ct k n id x r) m = (e_nm x m || e_nm r m) := by
  unfold ct
  cases r with
  | append b c => exact absurd rfl (h b c)
  | _ => rfl
section
variable {C : C_} {sil : Bool} {D : Prop} {qq : Int} {s s1 s2 : S_} {w w' w1 w2 : W_} {Γ Γ1 Γ2 : rG_} {n n1 n2 fr g k e ft m L row : Nat} {hb : Bool} {R R1 R2 c x f r st i kk T0 : Int} {v10 v11 : am_V} {P : Option am_V → W_ → Prop} {l l1 : List T_} {E : N_} {u : Nat → Bool} {rec : K_}
theorem rPI_of (h : rPO n1 false s s1 w Γ w1 Γ1 R1) (hn : n1 ≤ n) (hg : (g : Int) ≤ w.1 73 33) (h1 : R1 = R ∨ w.1 73 15 ≤ R1 ∨ R1 < 0) : rPI n s s1 w Γ w1 Γ1 R g := by
  obtain ⟨a1, a2, ⟨a3, a4⟩, ⟨a5, a6, a7⟩, a8, a9, a10⟩ := h
  exact ⟨rXT_wk a1 h1, a2, fun i hi => a4 i (by omega), ⟨a7 rfl, a6⟩, a8, by omega, a10⟩
/-- an item of a formula waits: E's state -/
theorem rMV_rc1 {tt : Nat} (M : rMV w w' g k e 0 tt c) (H : rRC C sil D qq ft s w Γ) (hg : w.1 73 33 = ((g + k : Nat) : Int)) (ht : w.1 73 35 = (tt : Int)) (he : e ≤ 1) (hq : qq + 1 ≤ 400) : rRC C sil D (qq + 1) ft s w' Γ ∧ rPI n s s w Γ w' Γ R g := by
  have X : ∀ R, rXT w Γ w' Γ R := fun R => rMV_X M
  obtain ⟨c1, ⟨c33, c35⟩, cb, c4, -, -⟩ := M
  have Hc := H
  obtain ⟨q1, ⟨q2, q2'⟩, q3, q4, -, -, -, ⟨⟨k1, k1', k1''⟩, k2, k3, k4, k5⟩, -⟩ := H
  refine ⟨rRC_mk (qq' := qq + 1) Hc (X (-1)) (rOK_m _) (rHH_same q1 (fun j q => c1 73 j (by omega)) (fun b _ q => cb b (by omega))) (rFR_w (s := s) q2 (c1 _ _ (by omega)) (c1 _ _ (by omega)) (cb _ (by decide))) q2' ?_ (rS2_w q4 (c1 _ _ (by omega)) (c1 _ _ (by omega)) (c1 _ _ (by omega)) ⟨rfl, rfl, rfl⟩) (fun j q => ?_) (fun b _ _ q => cb b q) ⟨rfl, rfl, rfl, rfl⟩ ⟨⟨?_, hq, k1''⟩, ?_, ?_, ?_, ?_⟩, X R, rOt_mk (fun a j q => c1 a j (by omega)) (fun b q => cb b (by omega)), fun i hi => c4 i (by omega), ⟨by rw [c35, ht], fun i _ => by rw [cb 99 (by decide)]⟩, ⟨by rw [c1 73 40 (by omega)]; exact Int.le_refl _, Nat.le_refl _, ⟨fun _ => c1 73 40 (by omega), fun _ => rfl⟩⟩, by rw [c1 73 45 (by omega)]; omega, by rw [c1 73 21 (by omega)]; exact Int.le_refl _⟩
  · unfold rS1 at q3 ⊢
    rw [c1 73 39 (by omega), c1 73 43 (by omega), c1 73 15 (by omega), c1 73 80 (by omega), c1 73 81 (by omega), c1 73 79 (by omega)]
    exact q3
  · by_cases q' : j = 35
    · rw [q', c35, ht]
    · exact c1 73 j (by omega)
  · rw [c1 73 26 (by omega), c1 73 21 (by omega), c33, c35, cb 90 (by decide)]; omega
  · rw [c1 73 21 (by omega)]; exact k2
  · rw [c1 73 17 (by omega)]; exact k3
  · rw [c33, c35]; omega
  · rw [c1 73 5 (by omega)]; exact k5
/-- the walk, in a formula -/
theorem lk_mv1 {tt : Nat} (hv : am_two v10 = false ∧ am_two v11 = false) (hg : w.1 73 33 = ((g + k : Nat) : Int)) (ht : w.1 73 35 = (tt : Int)) (hb : g + k ≤ 8000 ∧ tt ≤ 8000) (hc : am_rg c) (hi : 0 ≤ i ∧ i < 1024) (LL : ∀ e w', e ≤ 1 → (c = 0 → e = 0) → (c ≠ 0 → e = 1) → rMV w w' g k e 0 tt c → ∀ v9 v10 : am_V, am_two v9 = false → am_two v10 = false → zr198 fr P 18 f r 1 (g : Int) (tt : Int) st (w'.2 83 i.toNat) (.inl kk) v9 v10 v11 w') : zr198 fr P 175 f r 1 (g : Int) (tt : Int) st i (.inl kk) (.inl c) v10 v11 w := by
  obtain ⟨g10, g11⟩ := hv
  have eg : (((g + k : Nat) : Int)).toNat = g + k := by omega
  have M : ∀ (e : Nat) (w1 : W_), e ≤ 1 → (c = 0 → e = 0) → (c ≠ 0 → e = 1) → (∀ a j, ¬ (a = 73 ∧ j = 33) → w1.1 a j = w.1 a j) → w1.1 73 33 = ((g + k + e : Nat) : Int) → (∀ b, b ≠ 98 → w1.2 b = w.2 b) → (∀ i, i < g + k → w1.2 98 i = w.2 98 i) → (e = 1 → w1.2 98 (g + k) = c) → zr198 fr P 209 f r 1 (g : Int) (tt : Int) st i (.inl kk) (.inl c) (.inl (tt : Int)) v11 w1 := by
    intro e w1 he h0 h1 m1 m2 m3 m4 m5
    refine lk_198_209b (n := (tt : Int)) ⟨rfl, g11⟩ (by rw [m1 73 35 (by omega)]; exact ht) (by omega) (by omega) (by omega) (lk_198_254 ⟨rfl, g11⟩ hi ?_)
    have e83 : w1.2 83 = (w_f w1 73 35 (tt : Int)).2 83 := rfl
    rw [e83]
    refine LL e (w_f w1 73 35 (tt : Int)) he h0 h1 ⟨fun a j q => ?_, ⟨?_, ?_⟩, m3, m4, m5, fun i hi => by omega⟩ _ _ rfl rfl
    · rw [w_f_ne _ _ _ _ _ _ (by omega)]; exact m1 a j (by omega)
    · rw [w_f_ne _ _ _ _ _ _ (by omega), m2]; rfl
    · rw [w_f1, w_u_at, if_pos ⟨rfl, rfl⟩]
  by_cases c0 : c = 0
  · refine lk_198_175_0 (m := ((g + k : Nat) : Int)) ⟨g10, g11⟩ hg (by omega) hc c0 ?_
    rw [eg]
    refine M 0 (w_f (w_a w 98 (g + k) c) 73 33 (((g + k : Nat) : Int) + 0)) (by omega) (fun _ => rfl) (fun q => absurd c0 q) (fun a j q => ?_) ?_ (fun b q => ?_) (fun i hi => ?_) (fun q => by cases q)
    · rw [w_f_ne _ _ _ _ _ _ q]; rfl
    · rw [w_f1, w_u_at, if_pos ⟨rfl, rfl⟩]; omega
    · rw [w_f2, w_a_2ne _ _ _ q]
    · rw [w_f2]
      show (if 98 = 98 ∧ i = g + k then _ else w.2 98 i) = _
      rw [if_neg (by omega)]
  · refine lk_198_175_1 (m := ((g + k : Nat) : Int)) ⟨g10, g11⟩ hg (by omega) hc c0 ?_
    rw [eg]
    refine M 1 (w_f (w_a w 98 (g + k) c) 73 33 (((g + k : Nat) : Int) + 1)) (by omega) (fun q => absurd q c0) (fun _ => rfl) (fun a j q => ?_) ?_ (fun b q => ?_) (fun i hi => ?_) (fun _ => ?_)
    · rw [w_f_ne _ _ _ _ _ _ q]; rfl
    · rw [w_f1, w_u_at, if_pos ⟨rfl, rfl⟩]; omega
    · rw [w_f2, w_a_2ne _ _ _ q]
    · rw [w_f2]
      show (if 98 = 98 ∧ i = g + k then _ else w.2 98 i) = _
      rw [if_neg (by omega)]
    · rw [w_f2]
      show (if 98 = 98 ∧ g + k = g + k then c else _) = c
      rw [if_pos ⟨rfl, rfl⟩]
/-- items, or none -/
theorem rEN_oi {t : T_} {w : W_} {lo hi : Int} (h : rEN w lo hi t none i) : (∃ k n id y r, t = ct k n id y r) ∨ (t = .nil ∧ i = -1) := by
  unfold rEN at h
  split at h
  · rename_i q; cases q
  · exact Or.inl ⟨_, _, _, _, _, rfl⟩
  · rename_i q; cases q
  · exact Or.inr ⟨rfl, h⟩
  · exact h.elim
/-- a formula's items are run as E does -/
theorem frm_R {tt : Nat} (hK : rSK C sil n1 rec) (M1 : eMK rec) (hB : rBr rec) (hn : n1 ≤ n) (hL : L + 10 ≤ fr) (hfr : 2 * n1 + 1011 ≤ fr) (hq : qq ≤ 395) (htt : tt ≤ 6500) : ∀ (m : Nat) (t : T_), it_len t ≤ m → ∀ (W : Nat) (E : N_) (s : S_) (W2 : Nat) (E2 : N_) (s2 : S_), t_frm L rec C sil t W E s = some (W2, E2, s2) → s_b s2 ≤ 90000 ∧ s_nt s2 ≤ 900000 → r_fO t → ∀ (w : W_) (Γ : rG_) (i : Int) (k st : Nat) (l : List T_) (v8 v9 v10 v11 : am_V), rRC C sil D qq ft s w Γ → rEN w 0 (w.1 73 5) t none i → (∀ m, m < 10 → e_nm t m = true → u m = true) → rNF w Γ u E row → ((row : Int) < w.1 73 15 ∧ Γ.2.2.2 row = false) → w.1 73 33 = ((g + k : Nat) : Int) → w.1 73 35 = (tt : Int) → rIT 98 w Γ g k l → (∀ t ∈ l, rLf t ∧ rNK t = true) → W = m9 (st + (rWL l 1).1) → ((am_two v8 = false ∧ am_two v9 = false) ∧ am_two v10 = false ∧ am_two v11 = false) → (∀ (w' : W_) (Γ' : rG_) (k' st' : Nat) (l' : List T_) (v8 v9 v10 v11 : am_V), rRC C sil D qq ft s2 w' Γ' → rNF w' Γ' u E2 row → rPI n s s2 w Γ w' Γ' (row : Int) g → w'.1 73 33 = ((g + k' : Nat) : Int) → rIT 98 w' Γ' g k' l' → (∀ t ∈ l', rLf t ∧ rNK t = true) → W2 = m9 (st' + (rWL l' 1).1) → st' + s_tb s ≤ st + s_tb s2 → ((am_two v8 = false ∧ am_two v9 = false) ∧ am_two v10 = false ∧ am_two v11 = false) → zr198 fr P 272 f (row : Int) 1 (g : Int) (tt : Int) (st' : Int) (-1) v8 v9 v10 v11 w') → zr198 fr P 18 f (row : Int) 1 (g : Int) (tt : Int) (st : Int) i v8 v9 v10 v11 w := by
  intro m
  induction m with
  | zero =>
    intro t hlen W E s W2 E2 s2 h hs hO w Γ i k st l v8 v9 v10 v11 H hE hU hN hrow h33 h35 hI hl hW hv LL
    rcases rEN_oi hE with ⟨k', n', id, x, r, rfl⟩ | ⟨rfl, hi⟩
    · rw [it_ct] at hlen; omega
    · have h : some (W, E, s) = some (W2, E2, s2) := h
      cases h
      refine lk_198b hv hi ?_
      rw [hi]
      exact LL w Γ k st l v8 v9 v10 v11 H hN rPI_rfl h33 hI hl hW (by omega) hv
  | succ m ih =>
    intro t hlen W E s W2 E2 s2 h hs hO w Γ i k st l v8 v9 v10 v11 H hE hU hN hrow h33 h35 hI hl hW hv LL
    rcases rEN_oi hE with ⟨k', n', id, x, r, rfl⟩ | ⟨rfl, hi⟩
    · rw [it_ct] at hlen
      have hlt : it_len (ct k' n' id x r) = it_len r + 1 := it_ct ..
      unfold ct at hE
      rw [rEN_it] at hE
      obtain ⟨⟨⟨ilo, ihi⟩, hk, hnn, hfi, hpl⟩, ⟨k4, nr⟩, e3, e4, e82, ey, er⟩ := hE
      have hO : (k' = 0 ∨ k' = 3) ∧ r_fO r := hO
      have B := rRC_bd H
      have na := rEN_na er
      have hUr : ∀ m, m < 10 → e_nm r m = true → u m = true := fun m hm q => hU m hm (by rw [enm_ct na, q, Bool.or_true])
      have hUx : ∀ m, m < 10 → e_nm x m = true → u m = true := fun m hm q => hU m hm (by rw [enm_ct na, q, Bool.true_or])
      have lt : s_lt (u_go s) ≤ s_b (u_go s) := by
        have := H.2.2.1.1.2.2.2
        show s_lt s ≤ s_b s + 1
        omega
      rw [t_frm_ct] at h
      split at h
      · rename_i tb
        rcases hO.1 with k0 | k3
        · -- a sign
          rw [if_neg (by omega)] at h
          have mm := t_frm_M M1 (it_len r) r (Nat.le_refl _) _ _ _ _ _ _ h lt
          have hb1 : s_b s + 1 ≤ 90000 := Nat.le_trans mm.1 hs.1
          obtain ⟨H1, P1⟩ := rRC_go (n := n) (hb := false) (R := (row : Int)) H tb (by omega)
          have B1 := rRC_bd H1
          refine lk_198c (k := (k' : Int)) hv (by omega) hk (lk_198_46n ⟨hv.2.1, hv.2.2⟩ (by omega) (by omega) (lk_198_104s ⟨hv.2.1, hv.2.2⟩ (by omega) (by omega) ?_))
          have h33' : (r_b1 w).1 73 33 = ((g + k : Nat) : Int) := h33
          have h35' : (r_b1 w).1 73 35 = (tt : Int) := h35
          refine lk_mv1 (c := 0) ⟨hv.2.1, hv.2.2⟩ h33' h35' (by omega) (by unfold am_rg; omega) (by omega) (fun e w' he h0 h1 M v9' v10' g9 g10 => ?_)
          obtain ⟨H2, P2⟩ := rMV_rc1 (n := n) (R := (row : Int)) M H1 h33' h35' he (by omega)
          have e0 := h0 rfl
          have it := rMV_it (l := []) M (rIT_mono P1.1 k l (fun _ _ => rfl) hI) (Or.inl ⟨e0, rfl⟩) 0 [] (Nat.le_refl _) rfl
          rw [List.append_nil, List.append_nil, e0, Nat.add_zero] at it
          have w83 : w'.2 83 i.toNat = w.2 83 i.toNat := by rw [M.2.2.1 83 (by decide)]; rfl
          have X2 := rXT_trans (R := (row : Int)) P1.1 P2.1 (Or.inl rfl) (Or.inl rfl)
          have PI := rPI_trans (n := n) (R := (row : Int)) (rPI_of (n := n) (R := (row : Int)) P1 (Nat.le_refl _) (by omega) (Or.inl rfl)) P2 (Nat.le_refl _) (Nat.le_refl _) (Or.inl rfl) (Or.inl rfl)
          rw [w83]
          have etb : s_tb (u_go s) = s_tb s + 1 := rfl
          have z := ih r (by omega) (m9 (W + 1)) E (u_go s) W2 E2 s2 h hs hO.2 w' Γ (w.2 83 i.toNat) k (st + 1) l (.inl (k' : Int)) v9' v10' v11 (rRC_qq H2 (by omega) (by omega)) (rEN_X X2 er) hUr (rNF_go hN (fun j q => by rw [M.1 73 j (by omega), w_f_ne _ _ _ _ _ _ (by omega)]) (by rw [M.2.2.1 84 (by decide)]; rfl)) ⟨by have := X2.1.1.2.1; omega, hrow.2⟩ (by rw [M.2.1.1, e0]; rfl) M.2.1.2 it hl (by rw [hW]; unfold m9; omega) ⟨⟨rfl, g9⟩, g10, hv.2.2⟩ (fun w3 Γ3 k3 st3 l3 a8 a9 a10 a11 b1 b2 b3 b4 b5 b6 b7 b8 b9 => LL w3 Γ3 k3 st3 l3 a8 a9 a10 a11 b1 b2 (rPI_trans PI b3 (Nat.le_refl _) (Nat.le_refl _) (Or.inl rfl) (Or.inl rfl)) b4 b5 b6 b7 (by omega) b9)
          rw [show (((st + 1 : Nat)) : Int) = (st : Int) + 1 by omega] at z
          exact z
        · -- CODE
          rw [if_pos k3] at h
          cases hr : rec sil x E false (u_go s) with
          | none => rw [hr] at h; cases h
          | some z =>
            obtain ⟨v, E1, s3⟩ := z
            rw [hr] at h
            dsimp only at h
            cases hf : f_fu L C v (e_id x) s3 with
            | none => rw [hf] at h; cases h
            | some s4 =>
              rw [hf] at h
              dsimp only at h
              have m1 := M1 _ _ _ _ _ _ _ _ hr lt
              have nt4 := f_fu_nt hf
              have l4 : s_lt s4 ≤ s_b s4 := by
                obtain ⟨-, q⟩ := f_fu_inv hf
                have m2 := eMQ_funs (hb := false) (C := C) (v := v) (id := e_id x) m1.2.2.2.2.1
                rw [q]
                exact m2.2.2.2.2.1
              have mm := t_frm_M M1 (it_len r) r (Nat.le_refl _) _ _ _ _ _ _ h l4
              have hs4 : s_b s4 ≤ 90000 ∧ s_nt s4 ≤ 900000 := ⟨Nat.le_trans mm.1 hs.1, Nat.le_trans mm.2.1 hs.2⟩
              have hs3 : s_b s3 ≤ 90000 ∧ s_nt s3 ≤ 900000 := ⟨by rw [← nt4.1]; exact hs4.1, Nat.le_trans nt4.2.1 hs4.2⟩
              have hb1 : s_b s + 1 ≤ 90000 := Nat.le_trans m1.1 hs3.1
              obtain ⟨H1, P1⟩ := rRC_go (n := n) (hb := false) (R := (row : Int)) H tb (by omega)
              have ex : rEN w 0 (w.1 73 5) x (some none) (w.2 81 (3 * i + 0).toNat) := by
                rw [show (3 * i + 0).toNat = 3 * i.toNat by omega]; exact e3 k3
              have kl := kid_lt ex
              have N1 : rNF (r_b1 w) Γ u E row := rNF_go hN (fun j q => w_f_ne _ _ _ _ _ _ (by omega)) rfl
              have h33' : (r_b1 w).1 73 33 = ((g + k : Nat) : Int) := h33
              have h35' : (r_b1 w).1 73 35 = (tt : Int) := h35
              have hk3 : w.2 77 i.toNat = 3 := by rw [hk, k3]; rfl
              refine lk_198c (k := 3) hv (by omega) hk3 (lk_198_46c ⟨hv.2.1, hv.2.2⟩ ?_)
              refine lk_198_52_1 (p1 := w.2 81 (3 * i + 0).toNat) (R := fun y w' => rVO C sil D (qq - 3) ft n1 false u (u_go s) s3 v E1 row (r_b1 w) Γ (some (.inl y)) w') ⟨hv.2.1, hv.2.2⟩ (by omega) (by omega) rfl ((rSK_to hK hr (fr := fr - 1) ⟨H1, by omega, rEN_X P1.1 ex, hUx, N1, rOW P1 hrow, by omega⟩ hs3).mono (yP_m rVO_yP)) ?_
              rintro rv w1 ⟨y, q, Γ1, g1, g2, g3, g4⟩
              cases q
              have B1 := rRC_bd g1
              have ki := kid_id (w2 := w1) hB hr ex (rXT_trans (R := (row : Int)) P1.1 g4.1 (Or.inl rfl) (Or.inl rfl)).1.2
              refine lk_198_79 (R := fun c w' => ∃ Γ', rRC C sil D (qq - 3 + 1) ft s4 w' Γ' ∧ rCC w' Γ' c (rFL v) ∧ rPO n false s3 s4 w1 Γ1 w' Γ' (-1)) (by omega) (by omega) ((lk_195E (n := n) (hb := false) (R := -1) g1 g2 hf ki (by omega) (by omega) hs4.2).mono ?_) ?_
              · rintro r' w' ⟨c, rfl, z⟩
                exact ⟨c, rfl, z⟩
              · rintro c w2 ⟨Γ2, k1, k2, k3'⟩
                have B2 := rRC_bd k1
                have k2' := k2.1
                have a33 : w1.1 73 33 = ((g + k : Nat) : Int) := by rw [g4.2.2.1.1]; exact h33'
                have a35 : w1.1 73 35 = (tt : Int) := by rw [g4.2.2.2.1.2.2 rfl]; exact h35'
                have b33 : w2.1 73 33 = ((g + k : Nat) : Int) := by rw [k3'.2.2.1.1]; exact a33
                have b35 : w2.1 73 35 = (tt : Int) := by rw [k3'.2.2.2.1.2.2 rfl]; exact a35
                have P3 := rPO_trans (n := n) (hb := false) (R := (row : Int)) (rPO_trans (n := n) (hb := false) (R := (row : Int)) P1 g4 (Nat.le_refl _) (by omega) (fun q => q) (fun q => q) (Or.inl rfl) (Or.inl rfl)) k3' (Nat.le_refl _) (Nat.le_refl _) (fun q => q) (fun q => q) (Or.inl rfl) (by omega)
                have I2 := rIT_mono P3.1 k l (fun j hj => P3.2.2.1.2 j (by omega)) hI
                refine lk_mv1 ⟨rfl, rfl⟩ b33 b35 (by omega) (by unfold am_rg; omega) (by omega) (fun e w' he h0 h1 M v9' v10' g9 g10 => ?_)
                obtain ⟨H2, P4⟩ := rMV_rc1 (n := n) (R := (row : Int)) M k1 b33 b35 he (by omega)
                have cc := rCC_0 k1.1 k2
                have hc : e = 0 ∧ rFL v = [] ∨ e = 1 ∧ rFL v ≠ [] ∧ rCC w2 Γ2 c (rFL v) ∧ ((∀ t ∈ rFL v, rNK t = true) ∨ w2.2 92 c.toNat ≠ 50) := by
                  by_cases c0 : c = 0
                  · exact Or.inl ⟨h0 c0, cc.1 c0⟩
                  · exact Or.inr ⟨h1 c0, fun q => c0 (cc.2 q), k2, Or.inl g2.1.2.1⟩
                have it := rMV_it M I2 hc 0 [] (Nat.le_refl _) rfl
                rw [List.append_nil, Nat.add_zero] at it
                have X2 := rXT_trans (R := (row : Int)) P3.1 P4.1 (Or.inl rfl) (Or.inl rfl)
                have PI := rPI_trans (n := n) (R := (row : Int)) (rPI_of (n := n) (R := (row : Int)) P3 (Nat.le_refl _) (by omega) (Or.inl rfl)) P4 (Nat.le_refl _) (Nat.le_refl _) (Or.inl rfl) (Or.inl rfl)
                have A3 := X2.1.2 i.toNat (by omega) (by omega)
                rw [A3.2.1.2]
                have N4 : rNF w' Γ2 u E1 row := rNF_go (rNF_mono k3'.1 (rOW g4 (rOW P1 hrow)).1 (by omega) g3) (fun j q => M.1 73 j (by omega)) (M.2.2.1 84 (by decide))
                have wd : v_wd v 1 = (rWL (rFL v) 1).1 := by
                  show (v_wq v 1).1 = _
                  rw [g2.1.1 1 (by omega)]
                have W4 : m9 (W + v_wd v 1) = m9 (st + (rWL (l ++ rFL v) 1).1) := by
                  rw [rWL_app, rWL_nk l 1 (fun t ht => (hl t ht).1) (fun t ht => (hl t ht).2), hW, wd]
                  show m9 (m9 _ + _) = m9 (_ + m9 _)
                  unfold m9
                  omega
                have hl4 : ∀ t ∈ l ++ rFL v, rLf t ∧ rNK t = true := fun t ht => by
                  rw [List.mem_append] at ht
                  exact ht.elim (hl t) (fun q => ⟨rFL_leaf v t q, g2.1.2.1 t q⟩)
                have rowb := X2.1.1.2.1
                have etb : s_tb (u_go s) = s_tb s + 1 := rfl
                have tb4 : s_tb s ≤ s_tb s4 := by
                  have q9 := m1.2.2.2.2.2.2.2.2.1
                  rw [nt4.2.2.2]
                  omega
                exact ih r (by omega) (m9 (W + v_wd v 1)) E1 s4 W2 E2 s2 h hs hO.2 w' Γ2 (w.2 83 i.toNat) (k + e) st (l ++ rFL v) (.inl 3) v9' v10' (.inl rv) (rRC_qq H2 (by omega) (by omega)) (rEN_X X2 er) hUr N4 ⟨by omega, by rw [X2.2.1.2 row hrow.1]; exact hrow.2⟩ (by rw [M.2.1.1]; omega) M.2.1.2 it hl4 W4 ⟨⟨rfl, g9⟩, g10, rfl⟩ (fun w3 Γ3 k3 st3 l3 a8 a9 a10 a11 b1 b2 b3 b4 b5 b6 b7 b8 b9 => LL w3 Γ3 k3 st3 l3 a8 a9 a10 a11 b1 b2 (rPI_trans PI b3 (Nat.le_refl _) (Nat.le_refl _) (Or.inl rfl) (Or.inl rfl)) b4 b5 b6 b7 (by omega) b9)
      · cases h
    · have h : some (W, E, s) = some (W2, E2, s2) := h
      cases h
      refine lk_198b hv hi ?_
      rw [hi]
      exact LL w Γ k st l v8 v9 v10 v11 H hN rPI_rfl h33 hI hl hW (by omega) hv
end
