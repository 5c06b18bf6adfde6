/-! ===== the class realizes as the evaluator: the state ===== -/
theorem f_t_at {w : W_} {j : Nat} (h : w.1 33 1 = (j : Int) + 1) {g : Int} (g0 : 0 ≤ g) : f_t w g = w.2 34 (13 * j + g.toNat) := by
  show wg (w.2 34) ((w.1 33 1 - 1) * 13 + g) = _
  unfold wg
  rw [if_neg (by omega)]
  exact congrArg (w.2 34) (by omega)
theorem pu_34 {w : W_} {x y : Int} {j : Nat} (h : w.1 33 1 = (j : Int)) (k : Nat) : (w_pu w x y).2 34 k = if k = 13 * j then x else if k = 13 * j + 1 then y else if 13 * j ≤ k ∧ k < 13 * j + 13 then 0 else w.2 34 k := by
  show w_u (w_u (w_fill w 34 (w.1 33 1 * 13).toNat (w.1 33 1 * 13 + 13).toNat 0).2 34 (w.1 33 1 * 13 + 0).toNat x) 34 (w.1 33 1 * 13 + 1).toNat y 34 k = _
  have e1 : (w.1 33 1 * 13 + 1).toNat = 13 * j + 1 := by omega
  have e0 : (w.1 33 1 * 13 + 0).toNat = 13 * j := by omega
  have e2 : (w.1 33 1 * 13).toNat = 13 * j := by omega
  have e3 : (w.1 33 1 * 13 + 13).toNat = 13 * j + 13 := by omega
  rw [e1, e0, e2, e3, w_u_at, w_u_at]
  by_cases c0 : k = 13 * j
  · rw [if_neg (by omega), if_pos ⟨rfl, c0⟩, if_pos c0]
  · by_cases c1 : k = 13 * j + 1
    · rw [if_pos ⟨rfl, c1⟩, if_neg c0, if_pos c1]
    · rw [if_neg (fun z => c1 z.2), if_neg (fun z => c0 z.2), if_neg c0, if_neg c1]
      show (if 34 = 34 ∧ 13 * j ≤ k ∧ k < 13 * j + 13 then (0 : Int) else w.2 34 k) = _
      by_cases c : 13 * j ≤ k ∧ k < 13 * j + 13
      · rw [if_pos ⟨rfl, c⟩, if_pos c]
      · rw [if_neg (fun z => c z.2), if_neg c]
theorem fs_34 {w : W_} {f x : Int} {j : Nat} (h : w.1 33 1 = (j : Int) + 1) (hf : 0 ≤ f) (k : Nat) : (w_fs w f x).2 34 k = if k = 13 * j + f.toNat then x else w.2 34 k := by
  show w_u w.2 34 ((w.1 33 1 - 1) * 13 + f).toNat x 34 k = _
  have e : ((w.1 33 1 - 1) * 13 + f).toNat = 13 * j + f.toNat := by omega
  rw [e, w_u_at]
  by_cases c : k = 13 * j + f.toNat
  · rw [if_pos ⟨rfl, c⟩, if_pos c]
  · rw [if_neg (fun z => c z.2), if_neg c]
/-- nothing but frames and what is laid is another -/
def wL (o : Nat) (w w' : W_) : Prop := (∀ a j, a ≠ 33 → a ≠ 50 → ¬ (a = o ∧ j = 4) → ¬ (a = 17 ∧ j = 6) → w'.1 a j = w.1 a j) ∧ ∀ b, b ≠ 34 → b ≠ 51 → b ≠ 53 → b ≠ 20 → b ≠ 18 → b ≠ o + 1 → w'.2 b = w.2 b
theorem wL_tr {o : Nat} {w w1 w2 : W_} (h : wL o w w1) (g : wL o w1 w2) : wL o w w2 := ⟨fun a j h1 h2 h3 h4 => (g.1 a j h1 h2 h3 h4).trans (h.1 a j h1 h2 h3 h4), fun b h1 h2 h3 h4 h5 h6 => (g.2 b h1 h2 h3 h4 h5 h6).trans (h.2 b h1 h2 h3 h4 h5 h6)⟩
theorem wL_refl (o : Nat) (w : W_) : wL o w w := ⟨fun _ _ _ _ _ _ => rfl, fun _ _ _ _ _ _ _ => rfl⟩
theorem wL_f {o : Nat} {w : W_} {a j : Nat} {x : Int} (h : a = 33 ∨ a = 50 ∨ (a = o ∧ j = 4) ∨ (a = 17 ∧ j = 6)) : wL o w (w_f w a j x) := by
  refine ⟨fun b k h1 h2 h3 h4 => ?_, fun b _ _ _ _ _ _ => rfl⟩
  rw [w_f1, w_u_at, if_neg]
  omega
theorem wL_a {o : Nat} {w : W_} {a i : Nat} {x : Int} (h : a = 34 ∨ a = 51 ∨ a = 53 ∨ a = 20 ∨ a = 18 ∨ a = o + 1) : wL o w (w_a w a i x) := ⟨fun _ _ _ _ _ _ => rfl, fun b h1 h2 h3 h4 h5 h6 => w_a_2ne w i x (by omega)⟩
theorem wL_pu {o : Nat} (w : W_) (x y : Int) : wL o w (w_pu w x y) := ⟨fun a j h1 _ _ _ => by rw [w_pu1, if_neg (fun z => h1 z.1)], fun b h1 _ _ _ _ _ => w_pu2 w x y h1⟩
theorem wL_po {o : Nat} (w : W_) : wL o w (w_po w) := wL_f (Or.inl rfl)
theorem wL_fs {o : Nat} (w : W_) (f x : Int) : wL o w (w_fs w f x) := wL_a (Or.inl rfl)
theorem CR_L {C C' : C_} {sil : Bool} {o a0 : Nat} {D : Prop} {K0 : Int} {s : S_} {w w' : W_} (H : CR C sil o a0 D K0 s w) (h : wL o w w') (hu : w'.1 17 6 = C'.2.1 ∧ 0 ≤ C'.2.1 ∧ C'.2.1 ≤ 12) (hq : ∀ q, q < 45 → match C'.1 q with
  | some x => w'.2 18 q = x ∧ -9999 ≤ x ∧ x ≤ 9999
  | none => w'.2 18 q = 20005) : CR C' sil o a0 D K0 s w' := by
  obtain ⟨Ha, Hb, Hc, Hm⟩ := H
  have ho := Ha.1.1
  have f := fun a j (h1 : a ≠ 33 ∧ a ≠ 50 ∧ ¬ (a = o ∧ j = 4) ∧ ¬ (a = 17 ∧ j = 6)) => h.1 a j h1.1 h1.2.1 h1.2.2.1 h1.2.2.2
  have g := fun b (h1 : b ≠ 34 ∧ b ≠ 51 ∧ b ≠ 53 ∧ b ≠ 20 ∧ b ≠ 18 ∧ b ≠ o + 1) => h.2 b h1.1 h1.2.1 h1.2.2.1 h1.2.2.2.1 h1.2.2.2.2.1 h1.2.2.2.2.2
  refine ⟨⟨?_, ?_, ?_, hq⟩, ?_, ?_, ?_⟩
  · rw [f 17 7 (by omega)]
    exact Ha.1
  · rw [f 17 4 (by omega), f 17 5 (by omega)]
    exact ⟨Ha.2.1.1, Ha.2.1.2.1, hu⟩
  · rw [f o 5 (by omega), g (o + 3) (by omega)]
    exact Ha.2.2.1
  · unfold CRb at Hb ⊢
    rw [f 17 3 (by omega), g 22 (by omega), f 41 14 (by omega), f 41 15 (by omega), f 41 16 (by omega), f 41 17 (by omega)]
    exact Hb
  · unfold CRc fW0 at Hc ⊢
    rw [f o 7 (by omega), f o 8 (by omega), f 13 2 (by omega), g 46 (by omega), g 13 (by omega), g 3 (by omega), g 5 (by omega), g 37 (by omega), g 44 (by omega), g 7 (by omega)]
    exact Hc
  · unfold CRm at Hm ⊢
    rw [f 10 1 (by omega), f 13 2 (by omega), f 13 3 (by omega), g 11 (by omega), g 13 (by omega), g 3 (by omega), g 5 (by omega), g 7 (by omega)]
    exact Hm
/-- a value as it stands in the heap -/
abbrev cV (w : W_) : T_ → Int → Prop := cR (w.1 13 2) (w.2 13) (fW w)
/-- the heap goes on -/
def hX (w w' : W_) : Prop := w.1 13 2 ≤ w'.1 13 2 ∧ (∀ k : Nat, (k : Int) < 8 * w.1 13 2 → w'.2 13 k = w.2 13 k) ∧ ∀ e, fW w e → fW w' e
theorem cV_X {w w' : W_} (h : hX w w') {v : T_} {x : Int} (H : cV w v x) : cV w' v x := cR_mono h.1 h.2.1 h.2.2 v x H
theorem hX_L {o : Nat} {w w' : W_} (ho : o = 24 ∨ o = 55 ∨ o = 64) (h : wL o w w') : hX w w' := by
  have g := fun b (h1 : b ≠ 34 ∧ b ≠ 51 ∧ b ≠ 53 ∧ b ≠ 20 ∧ b ≠ 18 ∧ b ≠ o + 1) => h.2 b h1.1 h1.2.1 h1.2.2.1 h1.2.2.2.1 h1.2.2.2.2.1 h1.2.2.2.2.2
  refine ⟨by rw [h.1 13 2 (by omega) (by omega) (by omega) (by omega)]; exact Int.le_refl _, fun k _ => by rw [g 13 (by omega)], fun e q => ?_⟩
  unfold fW at q ⊢
  rw [g 3 (by omega), g 5 (by omega), g 37 (by omega), g 46 (by omega), g 7 (by omega)]
  exact q
theorem hX_x {w w' : W_} (h : xP w w') : hX w w' := ⟨h.1.1, h.1.2, fW_x h⟩
theorem hN_X {w w' : W_} (h : hX w w') {x k : Int} (H : hN (w.1 13 2) (w.2 13) (fW w) x k) : hN (w'.1 13 2) (w'.2 13) (fW w') x k := by
  obtain ⟨⟨h1, h2⟩, h3, h4, h5, h6⟩ := H
  have hp : ∀ f : Nat, f < 8 → pH (w'.2 13) x f = pH (w.2 13) x f := fun f hf => by
    unfold pH
    rw [if_neg (by omega), if_neg (by omega)]
    exact h.2.1 _ (by omega)
  have := h.1
  exact ⟨⟨h1, by omega⟩, by rw [hp 0 (by decide)]; exact h3, by rw [hp 3 (by decide)]; exact h4, by rw [hp 4 (by decide)]; exact h5, h.2.2 _ h6⟩
/-- rules, numbers of the page, SHOWs used up, answers to come, things -/
def Q50 (G : G_) (q : Q_) (w : W_) : Prop := w.1 50 7 = ((q_rl q).length : Nat) ∧ w.1 50 8 = (q_wi q : Nat) ∧ w.1 50 9 = q_sz q ∧ w.1 50 10 = q_in q ∧ w.1 50 11 = q_pg q ∧ w.1 50 12 = q_ln q ∧ w.1 50 13 = q_pn q ∧ w.1 50 14 = (q_el q : Nat) ∧ w.1 50 15 = G.2.2.2.1 ∧ w.1 50 16 = G.2.2.2.2
def QR (G : G_) (o : Nat) (q : Q_) (w : W_) : Prop := Q50 G q w ∧
  (∀ i r, (q_rl q)[i]? = some r → cV w r (w.2 51 i)) ∧
  (∀ (i : Nat) (m : Nat), (q_us q)[i]? = some m → w.2 53 i = (m : Int) ∧ m < 180) ∧
  (∀ k, k < 42 → w.2 20 k = q_nx q k) ∧
  (w.1 o 4 = ((q_th q).length : Nat) ∧ ∀ i l, (q_th q)[i]? = some l → ∀ m, m < 6 → w.2 (o + 1) (6 * i + m) = l.getD m 0)
/-- bounds -/
def QB (G : G_) (q : Q_) : Prop := (3 ≤ G.2.2.2.1 ∧ G.2.2.2.1 ≤ 30 ∧ 1 ≤ G.2.2.2.2 ∧ G.2.2.2.2 ≤ 10) ∧ (1 ≤ q_sz q ∧ q_sz q ≤ 3 ∧ 0 ≤ q_in q ∧ q_in q ≤ 3) ∧ (0 ≤ q_pg q ∧ q_pg q + (q_wi q : Nat) ≤ 2 * (q_el q : Nat) ∧ 0 ≤ q_ln q ∧ q_ln q < G.2.2.2.2 ∧ 0 ≤ q_pn q ∧ q_pn q ≤ 10002) ∧ ((∀ k, k < 42 → -9999 ≤ q_nx q k ∧ q_nx q k ≤ 9999) ∧ 0 ≤ q_nx q 41 ∧ q_nx q 41 + (q_wi q : Nat) ≤ (q_el q : Nat)) ∧ ((q_th q).length ≤ q_el q ∧ q_el q ≤ 201)
/-- a frame as the class has it -/
def FR1 (w : W_) (j : Nat) : F_ → Prop
  | (0, v, _) => w.2 34 (13 * j) = 7 ∧ cV w v (w.2 34 (13 * j + 1))
  | (5, v, _) => w.2 34 (13 * j) = 8 ∧ w.2 34 (13 * j + 2) = 0 ∧ hN (w.1 13 2) (w.2 13) (fW w) (w.2 34 (13 * j + 1)) 9 ∧ cV w v (pH (w.2 13) (w.2 34 (13 * j + 1)) 1)
  | (1, _, a, b, n) => w.2 34 (13 * j) = 8 ∧ w.2 34 (13 * j + 2) = 1 ∧ w.2 34 (13 * j + 3) = a ∧ w.2 34 (13 * j + 4) = b ∧ w.2 34 (13 * j + 5) = (n : Int) ∧ (1 ≤ a ∧ a ≤ 3) ∧ 0 ≤ b ∧ b ≤ 3
  | (2, _) => w.2 34 (13 * j) = 9 ∧ w.2 34 (13 * j + 2) = 1
  | (3, _) => w.2 34 (13 * j) = 10 ∧ w.2 34 (13 * j + 2) = 2 ∧ -100000 ≤ w.2 34 (13 * j + 1) ∧ w.2 34 (13 * j + 1) < 10000000
  | (_, _) => w.2 34 (13 * j) = 11 ∧ w.2 34 (13 * j + 2) = 2 ∧ -100000 ≤ w.2 34 (13 * j + 1) ∧ w.2 34 (13 * j + 1) < 10000000
def FRm (w : W_) : List F_ → Prop
  | [] => True
  | f :: l => FR1 w l.length f ∧ FRm w l
theorem FR1_X {w w' : W_} (h : hX w w') {j : Nat} (e : ∀ k, k < 13 * (j + 1) → w'.2 34 k = w.2 34 k) {f : F_} (H : FR1 w j f) : FR1 w' j f := by
  have e0 := e (13 * j) (by omega)
  have e1 := e (13 * j + 1) (by omega)
  have e2 := e (13 * j + 2) (by omega)
  have e3 := e (13 * j + 3) (by omega)
  have e4 := e (13 * j + 4) (by omega)
  have e5 := e (13 * j + 5) (by omega)
  unfold FR1 at H ⊢
  split at H
  · rw [e0, e1]
    exact ⟨H.1, cV_X h H.2⟩
  · rw [e0, e1, e2]
    obtain ⟨H1, H2, H3, H4⟩ := H
    refine ⟨H1, H2, hN_X h H3, ?_⟩
    have hp : pH (w'.2 13) (w.2 34 (13 * j + 1)) 1 = pH (w.2 13) (w.2 34 (13 * j + 1)) 1 := by
      have := H3.1
      unfold pH
      rw [if_neg (by omega), if_neg (by omega)]
      exact h.2.1 _ (by omega)
    rw [hp]
    exact cV_X h H4
  · rw [e0, e2, e3, e4, e5]
    exact H
  · rw [e0, e2]
    exact H
  · rw [e0, e1, e2]
    exact H
  · rw [e0, e1, e2]
    exact H
theorem FRm_X {w w' : W_} (h : hX w w') : ∀ (l : List F_), (∀ k, k < 13 * l.length → w'.2 34 k = w.2 34 k) → FRm w l → FRm w' l := by
  intro l
  induction l with
  | nil => intro _ _; exact trivial
  | cons f l ih =>
    intro e H
    have e : ∀ k, k < 13 * (l.length + 1) → w'.2 34 k = w.2 34 k := e
    exact ⟨FR1_X h e H.1, ih (fun k hk => e k (by omega)) H.2⟩
/-- what other cells hold, told by places that no file has -/
def yv (G : G_) (a j : Nat) : Int := (G.2.2.1 (3 + 256 * j + 128 + a)).headD 0
def ya (G : G_) (b : Nat) : Nat → Int := fun k => (G.2.2.1 (3 + 256 * k + b)).headD 0
def yG (G : G_) (o : Nat) (K0 : Int) (w : W_) : Prop := (∀ a j, a < 128 → a ≠ 10 ∧ a ≠ 13 ∧ a ≠ 17 ∧ a ≠ 33 ∧ a ≠ 36 ∧ a ≠ 41 ∧ a ≠ 50 ∧ a ≠ o → w.1 a j = yv G a j) ∧ (∀ b, b < 128 → b ≠ 11 ∧ b ≠ 13 ∧ b ≠ 14 ∧ b ≠ 22 ∧ b ≠ 34 ∧ b ≠ 37 ∧ b ≠ 39 ∧ b ≠ 42 ∧ b ≠ 44 ∧ b ≠ 46 ∧ b ≠ 48 ∧ b ≠ 18 ∧ b ≠ 20 ∧ b ≠ 51 ∧ b ≠ 53 ∧ b ≠ o + 1 ∧ b ≠ o + 3 ∧ b ≠ o + 5 ∧ b ≠ o + 7 → w.2 b = ya G b) ∧ w.1 o 6 = 238000 - K0
theorem rG_L {G : G_} {o : Nat} {K0 : Int} {w w' : W_} (ho : o = 24 ∨ o = 55 ∨ o = 64) (H : yG G o K0 w) (h : wL o w w') : yG G o K0 w' := ⟨fun a j ha q => (h.1 a j (by omega) (by omega) (by omega) (by omega)).trans (H.1 a j ha q), fun b hb q => (h.2 b (by omega) (by omega) (by omega) (by omega) (by omega) (by omega)).trans (H.2.1 b hb q), (h.1 o 6 (by omega) (by omega) (by omega) (by omega)).trans H.2.2⟩
theorem rG_x {G : G_} {o : Nat} {K0 : Int} {w w' : W_} (ho : o = 24 ∨ o = 55 ∨ o = 64) (eo : w_o w = o) (H : yG G o K0 w) (h : xP w w') : yG G o K0 w' := by
  have r := h.2.2.1.2.2.2.2.2.2.2.2
  unfold rQ at r
  rw [eo] at r
  exact ⟨fun a j ha q => (r.1 a j (by omega) (by omega) (by omega) (by omega) (by omega) (by omega) (by omega)).trans (H.1 a j ha q), fun b hb q => (r.2 b (by omega) (by omega) (by omega) (by omega) (by omega) (by omega) (by omega) (by omega) (by omega) (by omega) (by omega)).trans (H.2.1 b hb q), (r.1 o 6 (by omega) (by omega) (by omega) (by omega) (by omega) (by omega) (by omega)).trans H.2.2⟩
/-- the class and the evaluator while it is realized -/
def XR (G : G_) (sil : Bool) (o : Nat) (K0 : Int) (s : S_) (q : Q_) (w : W_) : Prop := CR (g_C G q) sil o 0 False K0 s w ∧ ((flO (g_C0 G) (w.2 3) (w.2 5) (w.2 7) ∧ (False ∨ g0 (w.2 7))) ∧ w.2 3 183 = 0 ∧ yG G o K0 w) ∧ QR G o q w ∧ QB G q ∧ FRm w (q_fr q) ∧ w.1 33 1 = ((q_fr q).length : Nat) ∧ w.1 41 10 = -1 ∧ w.1 41 12 = -1
section
variable {G : G_} {sil : Bool} {o : Nat} {K0 : Int} {s : S_} {q q1 : Q_} {w w' : W_}
theorem QR_X (H : QR G o q w) (h : hX w w') (e1 : ∀ j, w'.1 50 j = w.1 50 j) (e2 : w'.2 51 = w.2 51) (e3 : w'.2 53 = w.2 53) (e4 : w'.2 20 = w.2 20) (e5 : w'.1 o 4 = w.1 o 4) (e6 : w'.2 (o + 1) = w.2 (o + 1)) : QR G o q w' := by
  obtain ⟨H1, H2, H3, H4, H5⟩ := H
  refine ⟨?_, fun i r hr => ?_, ?_, ?_, ?_⟩
  · unfold Q50 at H1 ⊢; rw [e1, e1, e1, e1, e1, e1, e1, e1, e1, e1]; exact H1
  · rw [e2]; exact cV_X h (H2 i r hr)
  · rw [e3]; exact H3
  · rw [e4]; exact H4
  · rw [e5, e6]; exact H5
theorem XR_ho (H : XR G sil o K0 s q w) : o = 24 ∨ o = 55 ∨ o = 64 := H.1.1.1.1
/-- frames and what is laid change -/
theorem XR_L (H : XR G sil o K0 s q w) (h : wL o w w') (hu : w'.1 17 6 = ((q_us q1).length : Nat) ∧ (q_us q1).length ≤ 12) (hq : ∀ k, k < 45 → w'.2 18 k = (if k < 42 then G.1 k else q_ct q1 (k - 42)) ∧ -9999 ≤ w'.2 18 k ∧ w'.2 18 k ≤ 9999) (hQ : QR G o q1 w') (hB : QB G q1) (hF : FRm w' (q_fr q1)) (hc : w'.1 33 1 = ((q_fr q1).length : Nat)) : XR G sil o K0 s q1 w' := by
  have ho := XR_ho H
  have g := fun b (h1 : b ≠ 34 ∧ b ≠ 51 ∧ b ≠ 53 ∧ b ≠ 20 ∧ b ≠ 18 ∧ b ≠ o + 1) => h.2 b h1.1 h1.2.1 h1.2.2.1 h1.2.2.2.1 h1.2.2.2.2.1 h1.2.2.2.2.2
  obtain ⟨h1, ⟨h2, h2'⟩, -, -, -, -, h3, h4⟩ := H
  refine ⟨CR_L h1 h ⟨hu.1, ?_, ?_⟩ (fun k hk => ?_), ⟨?_, ?_⟩, hQ, hB, hF, hc, ?_, ?_⟩
  · show (0 : Int) ≤ ((q_us q1).length : Nat)
    omega
  · show ((q_us q1).length : Int) ≤ 12
    omega
  · show w'.2 18 k = (if k < 42 then G.1 k else q_ct q1 (k - 42)) ∧ -9999 ≤ (if k < 42 then G.1 k else q_ct q1 (k - 42)) ∧ (if k < 42 then G.1 k else q_ct q1 (k - 42)) ≤ 9999
    have := hq k hk
    rw [← this.1]
    exact ⟨rfl, this.2⟩
  · rw [g 3 (by omega), g 5 (by omega), g 7 (by omega)]; exact h2
  · rw [g 3 (by omega)]; exact ⟨h2'.1, rG_L ho h2'.2 h⟩
  · rw [h.1 41 10 (by omega) (by omega) (by omega) (by omega)]; exact h3
  · rw [h.1 41 12 (by omega) (by omega) (by omega) (by omega)]; exact h4
/-- what is asked stays -/
theorem XR_18 (H : XR G sil o K0 s q w) : ∀ k, k < 45 → w.2 18 k = (if k < 42 then G.1 k else q_ct q (k - 42)) ∧ -9999 ≤ w.2 18 k ∧ w.2 18 k ≤ 9999 := fun k hk => by
  have h : w.2 18 k = (if k < 42 then G.1 k else q_ct q (k - 42)) ∧ -9999 ≤ (if k < 42 then G.1 k else q_ct q (k - 42)) ∧ (if k < 42 then G.1 k else q_ct q (k - 42)) ≤ 9999 := H.1.1.2.2.2 k hk
  exact ⟨h.1, by rw [h.1]; exact h.2⟩
theorem XR_us (H : XR G sil o K0 s q w) : w.1 17 6 = ((q_us q).length : Nat) ∧ (q_us q).length ≤ 12 := by
  have h := H.1.1.2.1.2.2
  have h2 : ((q_us q).length : Int) ≤ 12 := h.2.2
  exact ⟨h.1, by omega⟩
/-- frames alone change -/
theorem XR_S (H : XR G sil o K0 s q w) (h : wL o w w') (l : List F_) (e1 : ∀ j, w'.1 50 j = w.1 50 j) (e2 : w'.2 51 = w.2 51 ∧ w'.2 53 = w.2 53 ∧ w'.2 20 = w.2 20 ∧ w'.2 18 = w.2 18 ∧ w'.1 o 4 = w.1 o 4 ∧ w'.2 (o + 1) = w.2 (o + 1) ∧ w'.1 17 6 = w.1 17 6) (hF : FRm w' l) (hc : w'.1 33 1 = (l.length : Nat)) : XR G sil o K0 s (p_fr q l) w' := by
  obtain ⟨a1, a2, a3, a4, a5, a6, a7⟩ := e2
  exact XR_L (q1 := p_fr q l) H h (by rw [a7]; exact XR_us (q := q) H) (by rw [a4]; exact XR_18 (q := q) H) (QR_X H.2.2.1 (hX_L (XR_ho H) h) e1 a1 a2 a3 a5 a6) H.2.2.2.1 hF hc
theorem XR_top {f : F_} {S : List F_} (H : XR G sil o K0 s q w) (hf : q_fr q = f :: S) : w.1 33 1 = (S.length : Int) + 1 ∧ FR1 w S.length f ∧ FRm w S := by
  have h := H.2.2.2.2
  rw [hf] at h
  exact ⟨h.2.1, h.1⟩
theorem XR_po {f : F_} {S : List F_} (H : XR G sil o K0 s q w) (hf : q_fr q = f :: S) : XR G sil o K0 s (p_fr q S) (w_po w) := by
  have ho := XR_ho H
  obtain ⟨h1, h2, h3⟩ := XR_top H hf
  refine XR_S H (wL_po w) S (fun j => by rw [w_po1, if_neg (by omega)]) ⟨rfl, rfl, rfl, rfl, by rw [w_po1, if_neg (by omega)], rfl, by rw [w_po1, if_neg (by omega)]⟩ (FRm_X (hX_L ho (wL_po w)) S (fun _ _ => rfl) h3) ?_
  rw [w_po1, if_pos ⟨rfl, rfl⟩, h1]
  split <;> omega
theorem XR_pu {x y : Int} {f : F_} (H : XR G sil o K0 s q w) (hF : FR1 (w_pu w x y) (q_fr q).length f) : XR G sil o K0 s (p_fr q (f :: q_fr q)) (w_pu w x y) := by
  have ho := XR_ho H
  have hc := H.2.2.2.2.2.1
  refine XR_S H (wL_pu w x y) (f :: q_fr q) (fun j => by rw [w_pu1, if_neg (by omega)]) ⟨w_pu2 w x y (by decide), w_pu2 w x y (by decide), w_pu2 w x y (by decide), w_pu2 w x y (by decide), by rw [w_pu1, if_neg (by omega)], w_pu2 w x y (by omega), by rw [w_pu1, if_neg (by omega)]⟩ ⟨hF, FRm_X (hX_L ho (wL_pu w x y)) (q_fr q) (fun k hk => ?_) H.2.2.2.2.1⟩ ?_
  · rw [pu_34 hc, if_neg (by omega), if_neg (by omega), if_neg (by omega)]
  · rw [w_pu1, if_pos ⟨rfl, rfl⟩, hc]
    rfl
theorem XR_pu0 {y : Int} {v : T_} (H : XR G sil o K0 s q w) (hv : cV w v y) : XR G sil o K0 s (p_fr q ((0, v, 0, 0, 0) :: q_fr q)) (w_pu w 7 y) := by
  refine XR_pu H ⟨?_, ?_⟩
  · rw [pu_34 H.2.2.2.2.2.1, if_pos rfl]
  · rw [pu_34 H.2.2.2.2.2.1, if_neg (by omega), if_pos rfl]
    exact cV_X (hX_L (XR_ho H) (wL_pu w 7 y)) hv
theorem XR_pu5 {y : Int} {v : T_} (H : XR G sil o K0 s q w) (hN9 : hN (w.1 13 2) (w.2 13) (fW w) y 9) (hv : cV w v (pH (w.2 13) y 1)) : XR G sil o K0 s (p_fr q ((5, v, 0, 0, 0) :: q_fr q)) (w_pu w 8 y) := by
  have hc := H.2.2.2.2.2.1
  have X := hX_L (XR_ho H) (wL_pu w 8 y)
  refine XR_pu H ⟨?_, ?_, ?_, ?_⟩
  · rw [pu_34 hc, if_pos rfl]
  · rw [pu_34 hc, if_neg (by omega), if_neg (by omega), if_pos (by omega)]
  · rw [pu_34 hc, if_neg (by omega), if_pos rfl]
    exact hN_X X hN9
  · rw [pu_34 hc, if_neg (by omega), if_pos rfl, w_pu2 w 8 y (by decide)]
    exact cV_X X hv
end
