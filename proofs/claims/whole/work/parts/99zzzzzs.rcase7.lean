/-! ===== LET ===== -/
/-- a FUNC is made, whatever runs it -/
def rF16 (K : K_) : Prop := ∀ sil n id a b c E hb s v E1 s1, K sil (ce 16 n id a b c) E hb s = some (v, E1, s1) → s_tb s < 2000 ∧ o_mk 12 (ce 16 n id a b c) E (u_go s) = some (v, E1, s1)
section
variable {C : C_} {sil : Bool} {D : Prop} {qq : Int} {ft : Nat} {s s0 s1 s2 : S_} {w w0 w2 : W_} {Γ Γ0 Γ2 : rG_} {n n1 fr fr1 L id : Nat} {hb hb1 : Bool} {u : Nat → Bool} {v v1 v2 a b c e t : T_} {E E1 E2 : N_} {row : Nat} {x y nn : Int} {r1 r2 r4 : K_} {R : Int}
/-- a name is told -/
theorem rStore {m : Nat} (H : rRC C sil D qq ft s w Γ) (hN : rNF w Γ u E row) (hrow : (row : Int) < w.1 73 15 ∧ Γ.2.2.2 row = false) (V : rVF w Γ v y) (hm : m < 10) : rRC C sil D qq ft s (w_a w 84 (10 * row + m) y) Γ ∧ rPO n hb s s w Γ (w_a w 84 (10 * row + m) y) Γ (row : Int) ∧ rNF (w_a w 84 (10 * row + m) y) Γ u (n_set E m v) row := by
  have cb : ∀ b, b ≠ 84 → (w_a w 84 (10 * row + m) y).2 b = w.2 b := fun b q => w_a_2ne _ _ _ q
  have e84 : ∀ k, (w_a w 84 (10 * row + m) y).2 84 k = if k = 10 * row + m then y else w.2 84 k := fun k => by
    show (if 84 = 84 ∧ k = 10 * row + m then y else w.2 84 k) = _
    by_cases d : k = 10 * row + m
    · rw [if_pos ⟨rfl, d⟩, if_pos d]
    · rw [if_neg (fun q => d q.2), if_neg d]
  have c1 : (w_a w 84 (10 * row + m) y).1 = w.1 := rfl
  generalize w_a w 84 (10 * row + m) y = w' at cb e84 c1 ⊢
  have B : ∀ b k, b ≠ 84 → w'.2 b k = w.2 b k := fun b k q => by rw [cb b q]
  have X : rXT w Γ w' Γ (row : Int) := by
    refine ⟨⟨⟨?_, ?_, ?_, ?_, ?_⟩, fun i _ _ => ⟨⟨B _ _ (by decide), B _ _ (by decide), B _ _ (by decide), B _ _ (by decide)⟩, ⟨B _ _ (by decide), B _ _ (by decide)⟩, B _ _ (by decide), B _ _ (by decide), B _ _ (by decide)⟩⟩, ⟨fun r k _ hr hk => ?_, fun r _ => rfl⟩, fun g _ => ⟨⟨B _ _ (by decide), B _ _ (by decide), B _ _ (by decide)⟩, rfl⟩, fun k _ => ⟨⟨B _ _ (by decide), B _ _ (by decide), fun _ => ⟨B _ _ (by decide), B _ _ (by decide)⟩⟩, rfl⟩, fun c _ => ⟨⟨B _ _ (by decide), B _ _ (by decide), B _ _ (by decide), B _ _ (by decide), B _ _ (by decide)⟩, fun s _ => B _ _ (by decide), rfl⟩⟩
    · rw [c1]; exact Int.le_refl _
    · rw [c1]; exact Int.le_refl _
    · rw [c1]; exact Int.le_refl _
    · rw [c1]; exact Int.le_refl _
    · rw [c1]; exact Int.le_refl _
    · rw [e84, if_neg (by omega)]
  have hR : rOK Γ (row : Int) := fun r q => by
    have : r = row := by omega
    rw [this]; exact hrow.2
  have H' : rHH w' Γ := by
    refine rHH_of H.1 X hR (fun c q0 q1 => ?_) (fun p q => Or.inl ⟨?_, B _ _ (by decide), B _ _ (by decide)⟩) (fun f q0 q1 => ?_)
    · rw [c1] at q1; omega
    · rw [c1] at q; exact q
    · rw [c1] at q1; omega
  have Hc := H
  obtain ⟨q1, ⟨q2, q2'⟩, q3, q4, -, -, -, q5, -⟩ := H
  refine ⟨rRC_mk (qq' := qq) Hc X hR H' (rFR_w (s := s) q2 (by rw [c1]) (by rw [c1]) (cb _ (by decide))) q2' (by unfold rS1 at q3 ⊢; rw [c1]; exact q3) (rS2_w q4 (by rw [c1]) (by rw [c1]) (by rw [c1]) ⟨rfl, rfl, rfl⟩) (fun j _ => by rw [c1]) (fun b q _ _ => cb b (by omega)) ⟨rfl, rfl, rfl, rfl⟩ (by unfold rS6 at q5 ⊢; rw [c1, cb 90 (by decide)]; exact q5), ⟨X, rOt_mk (fun a j _ => by rw [c1]) (fun b q => cb b (by omega)), ⟨by rw [c1], fun i _ => B _ _ (by decide)⟩, ⟨by rw [c1]; exact Int.le_refl _, fun i _ => B _ _ (by decide), fun _ => by rw [c1]⟩, ⟨by rw [c1]; exact Int.le_refl _, Nat.le_refl _, ⟨fun _ => by rw [c1], fun _ => rfl⟩⟩, by rw [c1]; omega, by rw [c1]; exact Int.le_refl _⟩, fun k hk hu => ?_⟩
  rw [e84]
  by_cases d : k = m
  · rw [d, if_pos rfl]
    have e : n_set E m v m = some v := by unfold n_set; rw [if_pos rfl]
    rw [e]
    refine ⟨fun q => by (cases q), fun v' q => ?_⟩
    cases q
    exact rVF_mono X V
  · rw [if_neg (by omega)]
    have e : n_set E m v k = E k := by unfold n_set; rw [if_neg d]
    rw [e]
    obtain ⟨z1, z2⟩ := hN k hk hu
    exact ⟨z1, fun v' q => rVF_mono X (z2 v' q)⟩
/-- a part of a LET that is no FUNC -/
theorem rEN_own {own : Option Nat} {w : W_} (h : rEN w 0 (w.1 73 5) t (some own) y) : (∃ n id a b c, t = ce 16 n id a b c) ∨ (rEN w 0 (w.1 73 5) t (some none) y ∧ ∃ k : Int, w.2 77 y.toNat = k ∧ k ≠ 16 ∧ 0 ≤ k ∧ k < 64) := by
  rcases rEN_or h with ⟨k, nn, id, a, b, c, q⟩ | q
  · by_cases d : k = 16
    · rw [q, d]; exact Or.inl ⟨_, _, _, _, _, rfl⟩
    · rw [q, rEN_ce] at h
      rw [q, rEN_ce]
      obtain ⟨g1, g2, g3, g4, g5, g6, g7, g8, g9, g10⟩ := h
      have o : j_own k own = .nil := by
        unfold j_own
        cases own with
        | none => rfl
        | some m => dsimp only; rw [if_neg d]
      refine Or.inr ⟨⟨g1, g2, g3, g4, g5, g6, g7, g8, fun z => by rw [g9 z, o]; rfl, g10⟩, (k : Int), g1.2.1, by omega, by omega, by omega⟩
  · rw [q] at h ⊢
    unfold rEN at h ⊢
    exact Or.inr ⟨h, 40, h.2.1, by decide, by decide, by decide⟩
/-- LET -/
theorem rn_15 (I : rIN C sil D qq ft n u s (ce 15 nn id a b c) E w Γ x row fr) (hn : n1 + 1 ≤ n) (h1 : rSK C sil n1 r1) (M1 : eMK r1) (hF : rF16 r1) (h : ev1 L C r1 r2 r4 sil (ce 15 nn id a b c) E hb s = some (v, E1, s1)) (hs : s_b s1 ≤ 90000 ∧ s_nt s1 ≤ 900000) : ww_Ct 207 fr [.inr (.inr (.inl 73)), .inl x, .inl (row : Int), .inl (if hb = true then 1 else 0)] w (rVO C sil D qq ft n hb u s s1 v E1 row w Γ) := by
  have hq := I.2.1
  have hfr := I.2.2.2.2.2.2
  have X1 := (rIN_x I).1
  have Xk := (rIN_x I).2.1
  have nr := (rIN_x I).2.2.1.2
  have ea := (rIN_x I).2.2.2.2.1 (by decide)
  rw [if_pos rfl] at ea
  have kl := kid_lt ea
  have B := rRC_bd I.1
  rw [ev1_one (Or.inl rfl)] at h
  split at h
  · rename_i tb
    cases hr : r1 sil a E hb (u_go s) with
    | none => rw [hr] at h; cases h
    | some z =>
      obtain ⟨v1, E2, s2⟩ := z
      rw [hr] at h
      have h : some (v0, n_set E2 (nn % 10).toNat v1, s2) = some (v, E1, s1) := h
      cases h
      have lt : s_lt (u_go s) ≤ s_b (u_go s) := by have := rIN_lt I; show s_lt s ≤ s_b s + 1; omega
      have m1 := M1 _ _ _ _ _ _ _ _ hr lt
      have hb1 : s_b s + 1 ≤ 90000 := Nat.le_trans m1.1 hs.1
      obtain ⟨I1, P1⟩ := rIN_go (hb := hb) I tb hb1
      have ea1 := (rIN_x I1).2.2.2.2.1 (by decide)
      rw [if_pos rfl] at ea1
      -- what is told at the end
      have FIN : ∀ rv w3 Γ3 p1, rRC C sil D (qq - 3) ft s1 w3 Γ3 → rVF w3 Γ3 v1 rv → rNF w3 Γ3 u E2 row → rPO n hb s s1 w Γ w3 Γ3 (row : Int) → zr205 (fr - 1) (rVO C sil D qq ft n hb u s s1 v0 (n_set E2 (nn % 10).toNat v1) row w Γ) 68 x (row : Int) (if hb = true then 1 else 0) (.inl p1) (.inl (nn % 10)) (.inl rv) w3 := fun rv w3 Γ3 p1 g1 g2 g3 g4 => by
        have hrow := rOW g4 I.2.2.2.2.2.1
        have B3 := rRC_bd g1
        obtain ⟨k1, k2, k3⟩ := rStore (n := n) (hb := hb) (m := (nn % 10).toNat) g1 g3 hrow g2 (by omega)
        refine lk_205c (by omega) nr ?_
        rw [show (10 * (row : Int) + nn % 10).toNat = 10 * row + (nn % 10).toNat by omega]
        exact ⟨0, rfl, Γ3, rRC_qq k1 (by omega) (by omega), rVF_0, k3, rPO_trans g4 k2 (Nat.le_refl _) (Nat.le_refl _) (fun q => q) (fun q => q) (Or.inl rfl) (Or.inl rfl)⟩
      refine run_L rVO_yP (by omega) (by omega) Xk.1 ?_
      rcases rEN_own ea with ⟨n', id', a', b', c', q⟩ | ⟨q1, k, q2, q3, q4⟩
      · rw [q] at hr ea1
        obtain ⟨tb2, ho⟩ := hF _ _ _ _ _ _ _ _ _ _ _ _ hr
        unfold o_mk at ho
        split at ho
        · rename_i rwb
          cases ho
          have hb2 : s_b (u_go s) + 1 ≤ 90000 := hs.1
          obtain ⟨I2, P2⟩ := rIN_go (hb := hb) I1 tb2 hb2
          have B2 := rRC_bd I2.1
          have hrow := I2.2.2.2.2.2.1
          have ea2 := rEN_X P2.1 ea1
          have eao := ea2
          rw [rEN_ce] at eao
          have own : b' = j_own 16 (some (nn % 10).toNat) := eao.2.2.2.2.2.2.2.2.1 (by decide)
          have k16 := eao.1.2.1
          have oe : e_own (ce 16 n' id' a' b' c') = some (nn % 10).toNat := by
            rw [own]
            show some ((((nn % 10).toNat : Nat) : Int)).toNat = some (nn % 10).toNat
            rw [show ((((nn % 10).toNat : Nat) : Int)).toNat = (nn % 10).toNat by omega]
          obtain ⟨Γ3, H3, P3, V3⟩ := rFun (n := n) (hb := hb) (R := -1) (e := ce 16 n' id' a' b' c') (own := some (nn % 10).toNat) (z := nn % 10) (1 + min 10 (c_sz (e_part (ce 16 n' id' a' b' c')))) I2.1 I2.2.2.2.2.1 hrow.1 rwb (fun m hm z => I.2.2.2.1 m hm (by rw [q]; exact nm_a (use_nm z))) ea2 rfl oe (fun m z => by cases z; omega) (by show nn % 10 = (((nn % 10).toNat : Nat) : Int); omega)
          have S6c := I2.1.2.2.2.2.2.2.2.1.2.2.1
          have rwb' : s_rw (u_go (u_go s)) < 2040 := rwb
          refine lk_205a (fr0 := 2) (p1 := w.2 81 (3 * x + 0).toNat) (n := nn) (R := fun y w' => y = 8 * w.1 73 17 + 3 ∧ w' = r_fun (r_b1 (r_b1 w)) (w.2 81 (3 * x + 0).toNat) (row : Int) (nn % 10)) (by omega) (by omega) Xk.2.1 nr rfl (by omega) k16 ((lk_204 (w := r_b1 (r_b1 w)) (x0 := w.2 81 (3 * x + 0).toNat) (x1 := (row : Int)) (x2 := nn % 10) (by omega) (by omega) (by omega)).mono ?_) ?_
          · rintro r w' ⟨rfl, hw⟩
            exact ⟨_, rfl, rfl, hw⟩
          · rintro y w' ⟨rfl, rfl⟩
            exact FIN _ _ Γ3 _ (rRC_qq H3 (by omega) (by omega)) V3 (rNF_mono P3.1 hrow.1 (by omega) I2.2.2.2.2.1) (rPO_trans P1 (rPO_trans (n := n) (hb := hb) (R := (row : Int)) P2 P3 (Nat.le_refl _) (Nat.le_refl _) (fun q => q) (fun q => q) (Or.inl rfl) (by omega)) (Nat.le_refl _) (Nat.le_refl _) (fun q => q) (fun q => q) (Or.inl rfl) (Or.inl rfl))
        · cases ho
      · refine lk_205b (p1 := w.2 81 (3 * x + 0).toNat) (n := nn) (k := k) (R := fun y w' => rVO C sil D (qq - 3) ft n1 hb u (u_go s) s1 v1 E2 row (r_b1 w) Γ (some (.inl y)) w') (by omega) (by omega) Xk.2.1 nr rfl (by omega) q2 q4 q3 ((rSK_to h1 hr (rIN_kid (n1 := n1) (fr1 := fr - 1 - 1) I1 (rEN_X P1.1 q1) (fun m q => nm_a q) (by omega)) hs).mono (yP_m rVO_yP)) ?_
        rintro rv w3 ⟨y, q, Γ3, g1, g2, g3, g4⟩
        cases q
        exact FIN _ _ Γ3 _ g1 g2 g3 (rPO_trans P1 g4 (Nat.le_refl _) (by omega) (fun q => q) (fun q => q) (Or.inl rfl) (Or.inl rfl))
  · cases h
end
