/-! ===== rows of names, functions ===== -/
def rGz (Γ : rG_) (k : Nat) (z : Bool) : rG_ := (Γ.1, Γ.2.1, Γ.2.2.1, fun r => if r = k then z else Γ.2.2.2 r)
def rGf (Γ : rG_) (k : Nat) (t : T_) : rG_ := (Γ.1, fun f => if f = k then t else Γ.2.1 f, Γ.2.2)
theorem r_copy_b (w : W_) (x : Int) {b : Nat} (h : b ≠ 84) : (r_copy w x).2 b = w.2 b := by
  funext k
  show (if b = 84 ∧ 10 * w.1 73 15 ≤ (k : Int) ∧ (k : Int) < 10 * w.1 73 15 + 10 then _ else w.2 b k) = _
  rw [if_neg (fun z => h z.1)]
theorem r_copy_lo (w : W_) (x : Int) {r m rw : Nat} (e : w.1 73 15 = (rw : Int)) (h : r < rw) (hm : m < 10) : (r_copy w x).2 84 (10 * r + m) = w.2 84 (10 * r + m) := by
  show (if 84 = 84 ∧ 10 * w.1 73 15 ≤ ((10 * r + m : Nat) : Int) ∧ ((10 * r + m : Nat) : Int) < 10 * w.1 73 15 + 10 then _ else w.2 84 (10 * r + m)) = _
  rw [if_neg (by omega)]
theorem r_copy_hi (w : W_) (row : Nat) {m rw : Nat} (e : w.1 73 15 = (rw : Int)) (hm : m < 10) : (r_copy w (row : Int)).2 84 (10 * rw + m) = w.2 84 (10 * row + m) := by
  show (if 84 = 84 ∧ 10 * w.1 73 15 ≤ ((10 * rw + m : Nat) : Int) ∧ ((10 * rw + m : Nat) : Int) < 10 * w.1 73 15 + 10 then w.2 84 (((10 * rw + m : Nat) : Int) - 10 * w.1 73 15 + 10 * (row : Int)).toNat else w.2 84 (10 * rw + m)) = _
  rw [if_pos ⟨rfl, by omega, by omega⟩, show (((10 * rw + m : Nat) : Int) - 10 * w.1 73 15 + 10 * (row : Int)).toNat = 10 * row + m by omega]
section
variable {C : C_} {sil : Bool} {D : Prop} {qq : Int} {ft : Nat} {s s1 : S_} {w w1 : W_} {Γ Γ1 : rG_} {n : Nat} {hb : Bool} {u : Nat → Bool} {E : N_} {row : Nat} {R : Int}
/-- a new row, told by a copy or by nothing: what comes of the tables -/
theorem rNew_X {rw : Nat} {z : Bool} (e : w.1 73 15 = (rw : Int)) (h1 : ∀ j, j = 5 ∨ j = 17 ∨ j = 21 ∨ j = 26 → w1.1 73 j = w.1 73 j) (h15 : w1.1 73 15 = w.1 73 15 + 1) (hb' : ∀ b, 77 ≤ b → b ≤ 97 → b ≠ 84 → w1.2 b = w.2 b) (hlo : ∀ r m : Nat, r < rw → m < 10 → w1.2 84 (10 * r + m) = w.2 84 (10 * r + m)) : rXT w Γ w1 (rGz Γ rw z) R := by
  have B : ∀ b k, 77 ≤ b → b ≤ 97 → b ≠ 84 → w1.2 b k = w.2 b k := fun b k q0 q1 q2 => by rw [hb' b q0 q1 q2]
  refine ⟨⟨⟨?_, ?_, ?_, ?_, ?_⟩, fun i _ _ => ⟨⟨B _ _ (by decide) (by decide) (by decide), B _ _ (by decide) (by decide) (by decide), B _ _ (by decide) (by decide) (by decide), B _ _ (by decide) (by decide) (by decide)⟩, ⟨B _ _ (by decide) (by decide) (by decide), B _ _ (by decide) (by decide) (by decide)⟩, B _ _ (by decide) (by decide) (by decide), B _ _ (by decide) (by decide) (by decide), B _ _ (by decide) (by decide) (by decide)⟩⟩, ⟨fun r m q _ hm => hlo r m (by omega) hm, fun r q => ?_⟩, fun f _ => ⟨⟨B _ _ (by decide) (by decide) (by decide), B _ _ (by decide) (by decide) (by decide), B _ _ (by decide) (by decide) (by decide)⟩, rfl⟩, fun p _ => ⟨⟨B _ _ (by decide) (by decide) (by decide), B _ _ (by decide) (by decide) (by decide), fun _ => ⟨B _ _ (by decide) (by decide) (by decide), B _ _ (by decide) (by decide) (by decide)⟩⟩, rfl⟩, fun c _ => ⟨⟨B _ _ (by decide) (by decide) (by decide), B _ _ (by decide) (by decide) (by decide), B _ _ (by decide) (by decide) (by decide), B _ _ (by decide) (by decide) (by decide), B _ _ (by decide) (by decide) (by decide)⟩, fun s _ => B _ _ (by decide) (by decide) (by decide), rfl⟩⟩
  · rw [h1 5 (by omega)]; exact Int.le_refl _
  · omega
  · rw [h1 17 (by omega)]; exact Int.le_refl _
  · rw [h1 21 (by omega)]; exact Int.le_refl _
  · rw [h1 26 (by omega)]; exact Int.le_refl _
  · show (if r = rw then z else Γ.2.2.2 r) = _
    rw [if_neg (by omega)]
/-- a row of names is told by another one -/
theorem rCopy {rw : Nat} (z : Bool) (H : rRC C sil D qq ft s w Γ) (e : w.1 73 15 = (rw : Int)) (hrow : row < rw) (hrw : s_rw s < 2040) : rRC C sil D qq ft (u_rw s (s_rw s + 1)) (r_copy w (row : Int)) (rGz Γ rw z) ∧ rPO n hb s (u_rw s (s_rw s + 1)) w Γ (r_copy w (row : Int)) (rGz Γ rw z) R ∧ (∀ u E, rNF w Γ u E row → rNF (r_copy w (row : Int)) (rGz Γ rw z) u E rw) ∧ (r_copy w (row : Int)).1 73 15 = ((rw + 1 : Nat) : Int) ∧ (rGz Γ rw z).2.2.2 rw = z := by
  have N : ∀ a j, ¬ (a = 73 ∧ j = 15) → (r_copy w (row : Int)).1 a j = w.1 a j := fun a j q => by rw [r_copy1, if_neg q]
  have e15 : (r_copy w (row : Int)).1 73 15 = w.1 73 15 + 1 := by rw [r_copy1, if_pos ⟨rfl, rfl⟩]
  have X : ∀ R, rXT w Γ (r_copy w (row : Int)) (rGz Γ rw z) R := fun R => rNew_X e (fun j q => N 73 j (by omega)) e15 (fun b _ _ q => r_copy_b w _ q) (fun r m q hm => r_copy_lo w _ e q hm)
  have H0 := H
  obtain ⟨a1, ⟨a2, a2'⟩, ⟨b1, b2, b3, b4⟩, a4, -, -, -, ⟨c1, c2, c3, c4, c5⟩, -⟩ := H
  have eN : ∀ u E, rNF w Γ u E row → rNF (r_copy w (row : Int)) (rGz Γ rw z) u E rw := fun u E h m hm hu => by
    obtain ⟨q1, q2⟩ := h m hm hu
    rw [r_copy_hi w row e hm]
    exact ⟨q1, fun v hv => rVF_mono (X (-1)) (q2 v hv)⟩
  have H' : rHH (r_copy w (row : Int)) (rGz Γ rw z) := by
    refine rHH_of a1 (X (-1)) (rOK_m _) (fun c q0 q1 => ?_) (fun p q => Or.inl ⟨?_, ?_, ?_⟩) (fun f q0 q1 => ?_)
    · rw [N 73 26 (by omega)] at q1; omega
    · rw [N 73 21 (by omega)] at q; exact q
    · rw [r_copy_b w _ (by decide)]
    · rw [r_copy_b w _ (by decide)]
    · rw [N 73 17 (by omega)] at q1; omega
  refine ⟨rRC_mk (qq' := qq) H0 (X (-1)) (rOK_m _) H' (rFR_w (s := s) a2 (N _ _ (by omega)) (N _ _ (by omega)) (r_copy_b w _ (by decide))) a2' ⟨?_, ?_, ⟨?_, ?_⟩, ?_⟩ (rS2_w a4 (N _ _ (by omega)) (N _ _ (by omega)) (N _ _ (by omega)) ⟨rfl, rfl, rfl⟩) (fun j q => N 73 j (by omega)) (fun b q _ _ => r_copy_b w _ (by omega)) ⟨rfl, rfl, rfl, rfl⟩ ⟨?_, ?_, ?_, ?_, ?_⟩, ⟨X R, rOt_mk (fun a j q => N a j (by omega)) (fun b q => r_copy_b w _ (by omega)), ⟨N 73 33 (by omega), fun i _ => by rw [r_copy_b w _ (by decide)]⟩, ⟨by rw [N 73 35 (by omega)]; exact Int.le_refl _, fun i _ => by rw [r_copy_b w _ (by decide)], fun _ => N 73 35 (by omega)⟩, ⟨by rw [N 73 40 (by omega)]; exact Int.le_refl _, Nat.le_refl _, ⟨fun _ => N 73 40 (by omega), fun _ => rfl⟩⟩, by rw [N 73 45 (by omega)]; omega, by rw [N 73 21 (by omega)]; exact Int.le_refl _⟩, eN, by rw [e15, e]; rfl, ?_⟩
  · rw [N 73 39 (by omega)]; exact b1
  · rw [N 73 43 (by omega)]; exact b2
  · rw [e15, b3.1]; rfl
  · show s_rw s + 1 ≤ 2040; omega
  · rw [N 73 80 (by omega), N 73 81 (by omega), N 73 79 (by omega)]; exact b4
  · rw [N 73 26 (by omega), N 73 21 (by omega), N 73 33 (by omega), N 73 35 (by omega), r_copy_b w _ (by decide)]; exact c1
  · rw [N 73 21 (by omega)]; exact c2
  · rw [N 73 17 (by omega)]
    show 0 ≤ w.1 73 17 ∧ w.1 73 17 ≤ ((s_rw s + 1 : Nat) : Int)
    omega
  · rw [N 73 33 (by omega), N 73 35 (by omega)]; exact c4
  · rw [N 73 5 (by omega)]; exact c5
  · show (if rw = rw then z else _) = z
    rw [if_pos rfl]
theorem rNF_clos {e : T_} {E : N_} (h : rNF w Γ u E row) (hu : ∀ m, m < 10 → e_use e m = true → u m = true) : rNF w Γ (e_use e) (n_get (n_clos E (e_use e) 10)) row := by
  intro m hm q
  obtain ⟨q1, q2⟩ := h m hm (hu m hm q)
  rw [n_get_clos, if_pos ⟨hm, q⟩]
  exact ⟨q1, q2⟩
/-- the name of a function's own -/
def rOw (own : Option Nat) : Int := match own with
  | none => -1
  | some m => (m : Int)
/-- a function is made -/
theorem rFun {e : T_} {x z : Int} {own : Option Nat} (kk : Nat) (H : rRC C sil D qq ft s w Γ) (hN : rNF w Γ u E row) (hrow : (row : Int) < w.1 73 15) (hrw : s_rw s < 2040) (hu : ∀ m, m < 10 → e_use e m = true → u m = true) (hE : rEN w 0 (w.1 73 5) e (some own) x) (hk : e_kind e = 16) (ho : e_own e = own) (hm : ∀ m, own = some m → m < 10) (hz : z = rOw own) : ∃ Γ1, rRC C sil D qq ft (u_nd (u_rw s (s_rw s + 1)) kk) (r_fun w x (row : Int) z) Γ1 ∧ rPO n hb s (u_nd (u_rw s (s_rw s + 1)) kk) w Γ (r_fun w x (row : Int) z) Γ1 R ∧ rVF (r_fun w x (row : Int) z) Γ1 (.tag 12 (.append e (n_clos E (e_use e) 10))) (8 * w.1 73 17 + 3) := by
  have S1 := H.2.2.1.2.2.1
  have S6 := H.2.2.2.2.2.2.2.1
  have RW : ∃ rw : Nat, w.1 73 15 = (rw : Int) ∧ rw = s_rw s := ⟨s_rw s, S1.1, rfl⟩
  obtain ⟨rw, e15, erw⟩ := RW
  have S6c := S6.2.2.1
  have FN : ∃ f : Nat, w.1 73 17 = (f : Int) := ⟨(w.1 73 17).toNat, by omega⟩
  obtain ⟨f, e17⟩ := FN
  have ef : (w.1 73 17).toNat = f := by omega
  obtain ⟨H1, P1, N1, -, Z1⟩ := rCopy (row := row) (n := n) (hb := hb) (R := R) true H e15 (by omega) hrw
  have V : ∃ w2, r_fun w x (row : Int) z = w2 := ⟨_, rfl⟩
  obtain ⟨w2, ew⟩ := V
  have c1 : ∀ a j, ¬ (a = 73 ∧ j = 17) → w2.1 a j = (r_copy w (row : Int)).1 a j := fun a j q => by
    rw [← ew]
    unfold r_fun
    rw [w_f_ne _ _ _ _ _ _ q]
    rfl
  have c17 : w2.1 73 17 = ((f + 1 : Nat) : Int) := by
    rw [← ew]
    show w.1 73 17 + 1 = _
    omega
  have cb : ∀ b, b ≠ 85 → b ≠ 86 → b ≠ 87 → w2.2 b = (r_copy w (row : Int)).2 b := fun b q1 q2 q3 => by
    rw [← ew]
    unfold r_fun
    rw [w_f2, w_a_2ne _ _ _ q3, w_a_2ne _ _ _ q2]
    funext k
    show (if b = 84 ∧ 10 * w.1 73 15 ≤ (k : Int) ∧ (k : Int) < 10 * w.1 73 15 + 10 then (w_a w 85 _ x).2 84 _ else (w_a w 85 _ x).2 b k) = if b = 84 ∧ 10 * w.1 73 15 ≤ (k : Int) ∧ (k : Int) < 10 * w.1 73 15 + 10 then w.2 84 _ else w.2 b k
    rw [w_a_2ne _ _ _ (by decide), w_a_2ne _ _ _ q1]
    rfl
  have f85 : ∀ k, w2.2 85 k = if k = f then x else w.2 85 k := fun k => by
    rw [← ew]
    unfold r_fun
    rw [w_f2, w_a_2ne _ _ _ (by decide), w_a_2ne _ _ _ (by decide), r_copy_b _ _ (by decide)]
    show (if 85 = 85 ∧ k = (w.1 73 17).toNat then x else w.2 85 k) = _
    rw [ef]
    by_cases d : k = f
    · rw [if_pos ⟨rfl, d⟩, if_pos d]
    · rw [if_neg (fun q => d q.2), if_neg d]
  have f86 : ∀ k, w2.2 86 k = if k = f then (rw : Int) else w.2 86 k := fun k => by
    rw [← ew]
    unfold r_fun
    rw [w_f2, w_a_2ne _ _ _ (by decide)]
    show (if 86 = 86 ∧ k = (w.1 73 17).toNat then w.1 73 15 else (r_copy (w_a w 85 _ x) (row : Int)).2 86 k) = _
    rw [ef, e15, r_copy_b _ _ (by decide), w_a_2ne _ _ _ (by decide)]
    by_cases d : k = f
    · rw [if_pos ⟨rfl, d⟩, if_pos d]
    · rw [if_neg (fun q => d q.2), if_neg d]
  have f87 : ∀ k, w2.2 87 k = if k = f then z else w.2 87 k := fun k => by
    rw [← ew]
    unfold r_fun
    rw [w_f2]
    show (if 87 = 87 ∧ k = (w.1 73 17).toNat then z else (w_a (r_copy (w_a w 85 _ x) (row : Int)) 86 _ _).2 87 k) = _
    rw [ef, w_a_2ne _ _ _ (by decide), r_copy_b _ _ (by decide), w_a_2ne _ _ _ (by decide)]
    by_cases d : k = f
    · rw [if_pos ⟨rfl, d⟩, if_pos d]
    · rw [if_neg (fun q => d q.2), if_neg d]
  rw [ew]
  have d17 : (r_copy w (row : Int)).1 73 17 = (f : Int) := by rw [r_copy1, if_neg (by omega)]; exact e17
  have l85 := r_copy_b w (row : Int) (b := 85) (by decide)
  have l86 := r_copy_b w (row : Int) (b := 86) (by decide)
  have l87 := r_copy_b w (row : Int) (b := 87) (by decide)
  generalize r_copy w (row : Int) = w1 at H1 P1 N1 c1 cb d17 l85 l86 l87
  generalize rGz Γ rw true = G at H1 P1 N1 Z1
  have B : ∀ b k, b ≠ 85 → b ≠ 86 → b ≠ 87 → w2.2 b k = w1.2 b k := fun b k q1 q2 q3 => by rw [cb b q1 q2 q3]
  have GF : (rGf G f (.tag 12 (.append e (n_clos E (e_use e) 10)))).2.1 f = .tag 12 (.append e (n_clos E (e_use e) 10)) := by
    show (if f = f then _ else _) = _
    rw [if_pos rfl]
  have X2 : ∀ R, rXT w1 G w2 (rGf G f (.tag 12 (.append e (n_clos E (e_use e) 10)))) R := fun R => by
    refine ⟨⟨⟨?_, ?_, ?_, ?_, ?_⟩, fun i _ _ => ⟨⟨B _ _ (by decide) (by decide) (by decide), B _ _ (by decide) (by decide) (by decide), B _ _ (by decide) (by decide) (by decide), B _ _ (by decide) (by decide) (by decide)⟩, ⟨B _ _ (by decide) (by decide) (by decide), B _ _ (by decide) (by decide) (by decide)⟩, B _ _ (by decide) (by decide) (by decide), B _ _ (by decide) (by decide) (by decide), B _ _ (by decide) (by decide) (by decide)⟩⟩, ⟨fun r m _ _ _ => B _ _ (by decide) (by decide) (by decide), fun r _ => rfl⟩, fun g q => ?_, fun p _ => ⟨⟨B _ _ (by decide) (by decide) (by decide), B _ _ (by decide) (by decide) (by decide), fun _ => ⟨B _ _ (by decide) (by decide) (by decide), B _ _ (by decide) (by decide) (by decide)⟩⟩, rfl⟩, fun c _ => ⟨⟨B _ _ (by decide) (by decide) (by decide), B _ _ (by decide) (by decide) (by decide), B _ _ (by decide) (by decide) (by decide), B _ _ (by decide) (by decide) (by decide), B _ _ (by decide) (by decide) (by decide)⟩, fun s _ => B _ _ (by decide) (by decide) (by decide), rfl⟩⟩
    · rw [c1 73 5 (by omega)]; exact Int.le_refl _
    · rw [c1 73 15 (by omega)]; exact Int.le_refl _
    · omega
    · rw [c1 73 21 (by omega)]; exact Int.le_refl _
    · rw [c1 73 26 (by omega)]; exact Int.le_refl _
    · have gf : g ≠ f := by omega
      refine ⟨⟨by rw [f85, if_neg gf, l85], by rw [f86, if_neg gf, l86], by rw [f87, if_neg gf, l87]⟩, ?_⟩
      show (if g = f then _ else _) = _
      rw [if_neg gf]
  have n15 : w1.1 73 15 = ((s_rw s + 1 : Nat) : Int) := H1.2.2.1.2.2.1.1
  have H2 : rHH w2 (rGf G f (.tag 12 (.append e (n_clos E (e_use e) 10)))) := by
    refine rHH_of H1.1 (X2 (-1)) (rOK_m _) (fun c q0 q1 => ?_) (fun p q => Or.inl ⟨?_, ?_, ?_⟩) (fun g q0 q1 => ?_)
    · rw [c1 73 26 (by omega)] at q1; omega
    · rw [c1 73 21 (by omega)] at q; exact q
    · rw [cb 90 (by decide) (by decide) (by decide)]
    · rw [cb 91 (by decide) (by decide) (by decide)]
    · have gf : g = f := by omega
      rw [gf]
      refine ⟨e, n_clos E (e_use e) 10, own, GF, hk, ?_, ho, hm, ?_, rw, ?_, ?_, Z1, ?_⟩
      · rw [f85, if_pos rfl]
        exact rEN_X (X2 (-1)) (rEN_X P1.1 hE)
      · rw [f87, if_pos rfl, hz]
        cases own <;> rfl
      · rw [f86, if_pos rfl]
      · rw [c1 73 15 (by omega), n15]; omega
      · exact rNF_mono (X2 (-1)) (by rw [n15]; omega) (by omega) (rNF_clos (N1 u E hN) hu)
  have H1' := H1
  obtain ⟨q1, ⟨q2, q2'⟩, ⟨b1, b2, b3, b4⟩, q4, -, -, -, ⟨k1, k2, k3, k4, k5⟩, -⟩ := H1'
  refine ⟨_, rRC_mk (qq' := qq) (s' := u_nd (u_rw s (s_rw s + 1)) kk) H1 (X2 (-1)) (rOK_m _) H2 (rFR_w (s := s) q2 (c1 _ _ (by omega)) (c1 _ _ (by omega)) (cb _ (by decide) (by decide) (by decide))) q2' ⟨?_, ?_, ?_, ?_⟩ (rS2_w q4 (c1 _ _ (by omega)) (c1 _ _ (by omega)) (c1 _ _ (by omega)) ⟨rfl, rfl, rfl⟩) (fun j q => c1 73 j (by omega)) (fun b q _ _ => cb b (by omega) (by omega) (by omega)) ⟨rfl, rfl, rfl, rfl⟩ ⟨?_, ?_, ?_, ?_, ?_⟩, rPO_trans (n2 := n) (hb2 := hb) (R2 := R) P1 ⟨X2 R, rOt_mk (fun a j q => c1 a j (by omega)) (fun b q => cb b (by omega) (by omega) (by omega)), ⟨c1 73 33 (by omega), fun i _ => by rw [cb 98 (by decide) (by decide) (by decide)]⟩, ⟨by rw [c1 73 35 (by omega)]; exact Int.le_refl _, fun i _ => by rw [cb 99 (by decide) (by decide) (by decide)], fun _ => c1 73 35 (by omega)⟩, ⟨by rw [c1 73 40 (by omega)]; exact Int.le_refl _, Nat.le_refl _, ⟨fun _ => c1 73 40 (by omega), fun _ => rfl⟩⟩, by rw [c1 73 45 (by omega)]; omega, by rw [c1 73 21 (by omega)]; exact Int.le_refl _⟩ (Nat.le_refl _) (Nat.le_refl _) (fun q => q) (fun q => q) (Or.inl rfl) (Or.inl rfl), vv_12 _, Or.inr (Or.inr (Or.inr (Or.inl ⟨f, GF.symm, rfl, by rw [e17], by omega⟩)))⟩
  · rw [c1 73 39 (by omega)]; exact b1
  · rw [c1 73 43 (by omega)]; exact b2
  · rw [c1 73 15 (by omega)]; exact b3
  · rw [c1 73 80 (by omega), c1 73 81 (by omega), c1 73 79 (by omega)]; exact b4
  · rw [c1 73 26 (by omega), c1 73 21 (by omega), c1 73 33 (by omega), c1 73 35 (by omega), cb 90 (by decide) (by decide) (by decide)]; exact k1
  · rw [c1 73 21 (by omega)]; exact k2
  · rw [c17]
    show (0 : Int) ≤ ((f + 1 : Nat) : Int) ∧ ((f + 1 : Nat) : Int) ≤ ((s_rw s + 1 : Nat) : Int)
    have := S6.2.2.1
    omega
  · rw [c1 73 33 (by omega), c1 73 35 (by omega)]; exact k4
  · rw [c1 73 5 (by omega)]; exact k5
end
