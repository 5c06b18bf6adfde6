/-! ===== a file is read and run ===== -/
theorem fcz_1 {s s1 : S_} {f : Nat} (hf : f < 3) (h0 : s_fs s f = 0) (h1 : s_fs s1 f ≠ 0) (he : ∀ g, g ≠ f → s_fs s1 g = s_fs s g) : fcz s1 + 1 = fcz s := by
  unfold fcz
  have F : f = 0 ∨ f = 1 ∨ f = 2 := by omega
  rcases F with rfl | rfl | rfl
  · rw [he 1 (by decide), he 2 (by decide), if_neg h1, if_pos h0]; try omega
  · rw [he 0 (by decide), he 2 (by decide), if_neg h1, if_pos h0]; try omega
  · rw [he 0 (by decide), he 1 (by decide), if_neg h1, if_pos h0]; try omega
theorem fcz_e3 {s s1 : S_} (he : ∀ g, g < 3 → (s_fs s1 g = 0 ↔ s_fs s g = 0)) : fcz s1 = fcz s := by
  unfold fcz
  have a := he 0 (by decide)
  have b := he 1 (by decide)
  have c := he 2 (by decide)
  congr 1
  · congr 1
    · by_cases z : s_fs s 0 = 0
      · rw [if_pos z, if_pos (a.2 z)]
      · rw [if_neg z, if_neg (fun q => z (a.1 q))]
    · by_cases z : s_fs s 1 = 0
      · rw [if_pos z, if_pos (b.2 z)]
      · rw [if_neg z, if_neg (fun q => z (b.1 q))]
  · by_cases z : s_fs s 2 = 0
    · rw [if_pos z, if_pos (c.2 z)]
    · rw [if_neg z, if_neg (fun q => z (c.1 q))]
section
variable {C : C_} {sil : Bool} {D : Prop} {qq qq' : Int} {ft : Nat} {s s' s1 s2 : S_} {w w' w0 w1 : W_} {Γ Γ1 Γ' : rG_} {n n1 fr L : Nat} {hb : Bool} {u : Nat → Bool} {v : T_} {E E1 : N_} {row rw : Nat} {R : Int} {rec : K_}
theorem r_new_1 (w : W_) {a j : Nat} (h : ¬ (a = 73 ∧ j = 15)) : (r_new w).1 a j = w.1 a j := by
  unfold r_new
  rw [w_f_ne _ _ _ _ _ _ h]
  rfl
theorem r_new_15 (w : W_) : (r_new w).1 73 15 = w.1 73 15 + 1 := by
  unfold r_new
  rw [w_f1, w_u_at, if_pos ⟨rfl, rfl⟩]
theorem r_new_b (w : W_) {b : Nat} (h : b ≠ 84) : (r_new w).2 b = w.2 b := by
  funext k
  show (if b = 84 ∧ (10 * w.1 73 15).toNat ≤ k ∧ k < (10 * w.1 73 15 + 10).toNat then 6 else w.2 b k) = _
  rw [if_neg (fun z => h z.1)]
theorem r_new_lo (w : W_) {r m rw : Nat} (e : w.1 73 15 = (rw : Int)) (h : r < rw) (hm : m < 10) : (r_new w).2 84 (10 * r + m) = w.2 84 (10 * r + m) := by
  show (if 84 = 84 ∧ (10 * w.1 73 15).toNat ≤ 10 * r + m ∧ 10 * r + m < (10 * w.1 73 15 + 10).toNat then 6 else w.2 84 (10 * r + m)) = _
  rw [if_neg (by omega)]
theorem r_new_hi (w : W_) {m rw : Nat} (e : w.1 73 15 = (rw : Int)) (hm : m < 10) : (r_new w).2 84 (10 * rw + m) = 6 := by
  show (if 84 = 84 ∧ (10 * w.1 73 15).toNat ≤ 10 * rw + m ∧ 10 * rw + m < (10 * w.1 73 15 + 10).toNat then 6 else w.2 84 (10 * rw + m)) = _
  rw [if_pos ⟨rfl, by omega, by omega⟩]
/-- a new row of names -/
theorem rNew (z : Bool) (H : rRC C sil D qq ft s w Γ) (e : w.1 73 15 = (rw : Int)) (hrw : s_rw s < 2040) : rRC C sil D qq ft (u_rw s (s_rw s + 1)) (r_new w) (rGz Γ rw z) ∧ rPO n hb s (u_rw s (s_rw s + 1)) w Γ (r_new w) (rGz Γ rw z) R ∧ (∀ u, rNF (r_new w) (rGz Γ rw z) u n_none rw) ∧ (r_new w).1 73 15 = ((rw + 1 : Nat) : Int) ∧ (rGz Γ rw z).2.2.2 rw = z := by
  have N : ∀ a j, ¬ (a = 73 ∧ j = 15) → (r_new w).1 a j = w.1 a j := fun a j q => r_new_1 w q
  have e15 := r_new_15 w
  have X : ∀ R, rXT w Γ (r_new w) (rGz Γ rw z) R := fun R => rNew_X e (fun j q => N 73 j (by omega)) e15 (fun b _ _ q => r_new_b w q) (fun r m q hm => r_new_lo w e q hm)
  have H0 := H
  obtain ⟨a1, ⟨a2, a2'⟩, ⟨b1, b2, b3, b4⟩, a4, -, -, -, ⟨c1, c2, c3, c4, c5⟩, -⟩ := H
  have eN : ∀ u, rNF (r_new w) (rGz Γ rw z) u n_none rw := fun u m hm hu => ⟨fun _ => r_new_hi w e hm, fun v hv => by cases hv⟩
  have H' : rHH (r_new w) (rGz Γ rw z) := by
    refine rHH_of a1 (X (-1)) (rOK_m _) (fun c q0 q1 => ?_) (fun p q => Or.inl ⟨?_, ?_, ?_⟩) (fun f q0 q1 => ?_)
    · rw [N 73 26 (by omega)] at q1; omega
    · rw [N 73 21 (by omega)] at q; exact q
    · rw [r_new_b w (by decide)]
    · rw [r_new_b w (by decide)]
    · rw [N 73 17 (by omega)] at q1; omega
  refine ⟨rRC_mk (qq' := qq) H0 (X (-1)) (rOK_m _) H' (rFR_w (s := s) a2 (N _ _ (by omega)) (N _ _ (by omega)) (r_new_b w (by decide))) a2' ⟨?_, ?_, ⟨?_, ?_⟩, ?_⟩ (rS2_w a4 (N _ _ (by omega)) (N _ _ (by omega)) (N _ _ (by omega)) ⟨rfl, rfl, rfl⟩) (fun j q => N 73 j (by omega)) (fun b q _ _ => r_new_b w (by omega)) ⟨rfl, rfl, rfl, rfl⟩ ⟨?_, ?_, ?_, ?_, ?_⟩, ⟨X R, rOt_mk (fun a j q => N a j (by omega)) (fun b q => r_new_b w (by omega)), ⟨N 73 33 (by omega), fun i _ => by rw [r_new_b w (by decide)]⟩, ⟨by rw [N 73 35 (by omega)]; exact Int.le_refl _, fun i _ => by rw [r_new_b w (by decide)], fun _ => N 73 35 (by omega)⟩, ⟨by rw [N 73 40 (by omega)]; exact Int.le_refl _, Nat.le_refl _, ⟨fun _ => N 73 40 (by omega), fun _ => rfl⟩⟩, by rw [N 73 45 (by omega)]; omega, by rw [N 73 21 (by omega)]; exact Int.le_refl _⟩, eN, by rw [e15, e]; rfl, ?_⟩
  · rw [N 73 39 (by omega)]; exact b1
  · rw [N 73 43 (by omega)]; exact b2
  · rw [e15, b3.1]; rfl
  · show s_rw s + 1 ≤ 2040; omega
  · rw [N 73 80 (by omega), N 73 81 (by omega), N 73 79 (by omega)]; exact b4
  · rw [N 73 26 (by omega), N 73 21 (by omega), N 73 33 (by omega), N 73 35 (by omega), r_new_b w (by decide)]; exact c1
  · rw [N 73 21 (by omega)]; exact c2
  · rw [N 73 17 (by omega)]
    show 0 ≤ w.1 73 17 ∧ w.1 73 17 ≤ ((s_rw s + 1 : Nat) : Int)
    omega
  · rw [N 73 33 (by omega), N 73 35 (by omega)]; exact c4
  · rw [N 73 5 (by omega)]; exact c5
  · show (if rw = rw then z else _) = z
    rw [if_pos rfl]
/-- a row that is never told again -/
theorem rGz_t {r : Nat} (h : Γ.2.2.2 r = true) : (rGz Γ rw true).2.2.2 r = true := by
  show (if r = rw then true else Γ.2.2.2 r) = true
  rw [h]
  split <;> rfl
theorem rLF_fz {t : T_} {c : Nat} (h : rLF w Γ t c) : rLF w (rGz Γ rw true) t c := by
  unfold rLF at h ⊢
  split at h
  · exact h
  · exact h
  · exact h
  · exact h
  · exact h
  · exact h
  · obtain ⟨h1, h2, h3, row, h4, h5, h6, h7⟩ := h
    exact ⟨h1, h2, h3, row, h4, h5, rGz_t h6, h7⟩
  · exact h
  · exact h
  · exact h
  · exact h.elim
theorem rHH_fz (H : rHH w Γ) : rHH w (rGz Γ rw true) := by
  obtain ⟨h1, h2, h3, h4, h5⟩ := H
  refine ⟨h1, h2, fun c q0 q1 => ?_, fun p q => h4 p q, fun f q => ?_⟩
  · obtain ⟨g1, g2, g3⟩ := h3 c q0 q1
    refine ⟨g1, g2, ?_⟩
    rcases g3 with g | ⟨g4, t, g5, g6⟩
    · exact Or.inl g
    · exact Or.inr ⟨g4, t, g5, rLF_fz g6⟩
  · obtain ⟨e, cl, own, g1, g2, g3, g4, g5, g6, row, g7, g8, g9, g10⟩ := h5 f q
    exact ⟨e, cl, own, g1, g2, g3, g4, g5, g6, row, g7, g8, rGz_t g9, g10⟩
theorem rXT_fz (X : rXT w Γ w' Γ1 R) (h : w.1 73 15 ≤ (rw : Int)) : rXT w Γ w' (rGz Γ1 rw true) R := by
  obtain ⟨a1, ⟨a2, a3⟩, a4, a5, a6⟩ := X
  refine ⟨a1, ⟨a2, fun r q => ?_⟩, a4, a5, a6⟩
  show (if r = rw then true else Γ1.2.2.2 r) = _
  rw [if_neg (by omega)]
  exact a3 r q
theorem rIT_fz {ar fm : Nat} : ∀ (n : Nat) (l : List T_), rIT ar w Γ fm n l → rIT ar w (rGz Γ rw true) fm n l := by
  intro n
  induction n with
  | zero => intro l h; exact h
  | succ n ih =>
    intro l h
    obtain ⟨l1, l2, h1, h2, h3⟩ := h
    exact ⟨l1, l2, ih l1 h1, h2, h3⟩
/-- a file's end: its names -/
theorem rRC_end {f : Nat} {F : Nat → Nat} {G : Nat → N_} (H : rRC C sil D qq ft s w Γ) (hf : f < 3) (h1 : s_fs s f = 1) (hF : ∀ g, F g = if g = f then 2 else s_fs s g) (hG : ∀ g, G g = if g = f then E else s_fe s g) (hr : w.2 101 f = (rw : Int)) (hr2 : (rw : Int) < w.1 73 15) (hN : rNF w Γ (fun _ => true) E rw) : rRC C sil D qq ft (u_fs s F G) (w_a w 100 f 2) (rGz Γ rw true) := by
  have cb : ∀ b, b ≠ 100 → (w_a w 100 f 2).2 b = w.2 b := fun b q => w_a_2ne _ _ _ q
  have e100 : ∀ k, (w_a w 100 f 2).2 100 k = if k = f then 2 else w.2 100 k := fun k => by
    show (if 100 = 100 ∧ k = f then 2 else w.2 100 k) = _
    by_cases d : k = f
    · rw [if_pos ⟨rfl, d⟩, if_pos d]
    · rw [if_neg (fun q => d q.2), if_neg d]
  have c1 : (w_a w 100 f 2).1 = w.1 := rfl
  generalize w_a w 100 f 2 = w' at cb e100 c1 ⊢
  have X : rXT w Γ w' Γ (-1) := rXT_same (fun j _ => by rw [c1]) (fun b _ q => cb b (by omega))
  have H' : rHH w' Γ := rHH_same H.1 (fun j _ => by rw [c1]) (fun b _ q => cb b (by omega))
  obtain ⟨q1, ⟨q2, q2'⟩, q3, q8, q9, q10, q11, q12, q13⟩ := H
  refine ⟨rHH_fz H', ⟨rFR_w (s := s) q2 (by rw [c1]) (by rw [c1]) (cb _ (by omega)), q2'⟩, ?_, rS2_w q8 (by rw [c1]) (by rw [c1]) (by rw [c1]) ⟨rfl, rfl, rfl⟩, ?_, fun g hg => ?_, ?_, ?_, ?_⟩
  · unfold rS1 at q3 ⊢
    rw [c1]
    exact q3
  · unfold rS3 at q9 ⊢
    rw [c1, cb 104 (by omega), cb 103 (by omega), cb 74 (by omega), cb 75 (by omega), cb 76 (by omega)]
    exact q9
  · have eF : s_fs (u_fs s F G) g = if g = f then 2 else s_fs s g := hF g
    have eG : s_fe (u_fs s F G) g = if g = f then E else s_fe s g := hG g
    rw [eF, eG, e100, cb 101 (by omega), c1]
    by_cases d : g = f
    · rw [if_pos d, if_pos d, if_pos d]
      refine ⟨rfl, Nat.le_refl _, fun _ => ⟨rw, by rw [d]; exact hr, hr2, ?_, ?_⟩⟩
      · show (if rw = rw then true else _) = true
        rw [if_pos rfl]
      · have z : rNF w' Γ (fun _ => true) E rw := rNF_mono X hr2 (by omega) hN
        exact z
    · rw [if_neg d, if_neg d, if_neg d]
      obtain ⟨z1, z2, z3⟩ := q10 g hg
      refine ⟨z1, z2, fun q => ?_⟩
      obtain ⟨r', y1, y2, y3, y4⟩ := z3 q
      have z : rNF w' Γ (fun _ => true) (s_fe s g) r' := rNF_mono X y2 (by omega) y4
      exact ⟨r', y1, y2, rGz_t y3, z⟩
  · unfold rS5 at q11 ⊢
    rw [c1, cb 114 (by omega), cb 115 (by omega), cb 116 (by omega), cb 117 (by omega), cb 118 (by omega), cb 119 (by omega), cb 120 (by omega), cb 121 (by omega)]
    exact q11
  · have ef : fcz (u_fs s F G) = fcz s := fcz_e3 fun g hg => by
      show F g = 0 ↔ s_fs s g = 0
      rw [hF g]
      by_cases d : g = f
      · rw [if_pos d, d, h1]
        constructor <;> intro q <;> omega
      · rw [if_neg d]
    have et : s_tb (u_fs s F G) = s_tb s := rfl
    have er : s_rw (u_fs s F G) = s_rw s := rfl
    unfold rS6 at q12 ⊢
    rw [c1, cb 90 (by omega), ef, et, er]
    exact q12
  · unfold rTl at q13 ⊢
    obtain ⟨⟨n, t1, t2⟩, t3, t4⟩ := q13
    have z : rIT 99 w' Γ ft n (rFL (s_tl s)) := rIT_mono X n _ (fun i _ => by rw [cb 99 (by omega)]) t2
    exact ⟨⟨n, by rw [c1]; exact t1, rIT_fz n _ z⟩, t3, t4⟩
/-- a file is read: E's state -/
theorem rRC_read {f : Nat} {l : List Int} {nt : Nat} {fl : List Int} {F : Nat → Nat} (H : rRC C sil D qq ft s w Γ) (hf : f < 3) (h0 : s_fs s f = 0) (hF : ∀ g, F g = if g = f then 1 else s_fs s g) (Q : rRQ (w_f (w_f (w_a w 100 f 1) 73 13 (f : Int)) 73 14 0) w1 l) (hl : f_list C l (u_fs s F (s_fe s)) = u_flt (u_fs s F (s_fe s)) nt fl) (hn : nt = s_nt s + l.length) (hnt : nt ≤ 1000000) (h5 : w1.1 73 5 ≤ w.1 73 5 + 240) : rRC C sil D (qq - 1) ft (u_flt (u_fs s F (s_fe s)) nt fl) w1 Γ ∧ rPO n hb s (u_flt (u_fs s F (s_fe s)) nt fl) w Γ w1 Γ R := by
  have n0 : ∀ a j, ¬ (a = 73 ∧ (j = 13 ∨ j = 14)) → (w_f (w_f (w_a w 100 f 1) 73 13 (f : Int)) 73 14 0).1 a j = w.1 a j := fun a j q => by
    rw [w_f_ne _ _ _ _ _ _ (by omega), w_f_ne _ _ _ _ _ _ (by omega)]; rfl
  have b0 : ∀ b, b ≠ 100 → (w_f (w_f (w_a w 100 f 1) 73 13 (f : Int)) 73 14 0).2 b = w.2 b := fun b q => by
    rw [w_f2, w_f2]; exact w_a_2ne _ _ _ q
  have e0 : ∀ k, (w_f (w_f (w_a w 100 f 1) 73 13 (f : Int)) 73 14 0).2 100 k = if k = f then 1 else w.2 100 k := fun k => by
    show (if 100 = 100 ∧ k = f then 1 else w.2 100 k) = _
    by_cases d : k = f
    · rw [if_pos ⟨rfl, d⟩, if_pos d]
    · rw [if_neg (fun q => d q.2), if_neg d]
  generalize w_f (w_f (w_a w 100 f 1) 73 13 (f : Int)) 73 14 0 = w0 at n0 b0 e0 Q
  obtain ⟨⟨r1, r2⟩, ⟨r3, r4, r5⟩, ⟨r6, r7⟩, r8⟩ := Q
  have c1 : ∀ a j, ¬ (a = 73 ∧ (j = 5 ∨ j = 13 ∨ j = 14 ∨ j = 40 ∨ j = 41)) → w1.1 a j = w.1 a j := fun a j q => by rw [r1 a j (by omega), n0 a j (by omega)]
  have cb : ∀ b, b < 77 ∨ 83 < b → b ≠ 102 → b ≠ 100 → w1.2 b = w.2 b := fun b q0 q1 q2 => by rw [r2 b q0 q1, b0 b q2]
  have e100 : ∀ k, w1.2 100 k = if k = f then 1 else w.2 100 k := fun k => by rw [r2 100 (by omega) (by omega)]; exact e0 k
  have w5 : w0.1 73 5 = w.1 73 5 := n0 73 5 (by omega)
  have A : rAN w w1 0 (w.1 73 5) := fun i q0 q1 => by
    have z := r5 i q0 (by omega)
    rw [b0 77 (by decide), b0 78 (by decide), b0 79 (by decide), b0 80 (by decide), b0 81 (by decide), b0 82 (by decide), b0 83 (by decide)] at z
    exact z
  have X : ∀ R, rXT w Γ w1 Γ R := fun R => by
    have B : ∀ b k, 84 ≤ b → b ≤ 97 → w1.2 b k = w.2 b k := fun b k q0 q1 => by rw [cb b (by omega) (by omega) (by omega)]
    refine ⟨⟨⟨by omega, ?_, ?_, ?_, ?_⟩, A⟩, ⟨fun r m _ _ _ => B _ _ (by decide) (by decide), fun _ _ => rfl⟩, fun f _ => ⟨⟨B _ _ (by decide) (by decide), B _ _ (by decide) (by decide), B _ _ (by decide) (by decide)⟩, rfl⟩, fun p _ => ⟨⟨B _ _ (by decide) (by decide), B _ _ (by decide) (by decide), fun _ => ⟨B _ _ (by decide) (by decide), B _ _ (by decide) (by decide)⟩⟩, rfl⟩, fun c _ => ⟨⟨B _ _ (by decide) (by decide), B _ _ (by decide) (by decide), B _ _ (by decide) (by decide), B _ _ (by decide) (by decide), B _ _ (by decide) (by decide)⟩, fun s _ => B _ _ (by decide) (by decide), rfl⟩⟩
    · rw [c1 73 15 (by omega)]; exact Int.le_refl _
    · rw [c1 73 17 (by omega)]; exact Int.le_refl _
    · rw [c1 73 21 (by omega)]; exact Int.le_refl _
    · rw [c1 73 26 (by omega)]; exact Int.le_refl _
  have H' : rHH w1 Γ := by
    refine rHH_of H.1 (X (-1)) (rOK_m _) (fun c q0 q1 => ?_) (fun p q => Or.inl ⟨?_, ?_, ?_⟩) (fun f q0 q1 => ?_)
    · rw [c1 73 26 (by omega)] at q1; omega
    · rw [c1 73 21 (by omega)] at q; exact q
    · rw [cb 90 (by omega) (by omega) (by omega)]
    · rw [cb 91 (by omega) (by omega) (by omega)]
    · rw [c1 73 17 (by omega)] at q1; omega
  obtain ⟨q1, ⟨q2, q2'⟩, q3, q8, q9, q10, q11, q12, q13⟩ := H
  have FR : rFR (u_flt (u_fs s F (s_fe s)) nt fl) w1 := by
    rw [← hl]
    refine r8 C _ (by rw [n0 73 62 (by omega)]; exact q9.1.1) (rFR_w (s := s) q2 (n0 73 40 (by omega)) (n0 73 41 (by omega)) (b0 102 (by decide)))
  have w40 : w1.1 73 40 = w.1 73 40 + ((l.length : Nat) : Int) := by rw [r7, n0 73 40 (by omega)]
  have z12 := q12
  refine ⟨⟨H', ⟨FR, hnt⟩, ?_, rS2_w q8 (c1 _ _ (by omega)) (c1 _ _ (by omega)) (c1 _ _ (by omega)) ⟨rfl, rfl, rfl⟩, ?_, fun g hg => ?_, ?_, ?_, ?_⟩, X R, ⟨fun a j q => c1 a j (by omega), fun b q => cb b (by omega) (by omega) (by omega), fun g hg q => ?_⟩, ⟨c1 73 33 (by omega), fun i _ => by rw [cb 98 (by omega) (by omega) (by omega)]⟩, ⟨by rw [c1 73 35 (by omega)]; exact Int.le_refl _, fun i _ => by rw [cb 99 (by omega) (by omega) (by omega)], fun _ => c1 73 35 (by omega)⟩, ⟨by omega, by show s_nt s ≤ nt; omega, ⟨fun q => by have q : nt = s_nt s := q; omega, fun q => by show nt = s_nt s; omega⟩⟩, by rw [c1 73 45 (by omega)]; omega, by rw [c1 73 21 (by omega)]; exact Int.le_refl _⟩
  · unfold rS1 at q3 ⊢
    rw [c1 73 39 (by omega), c1 73 43 (by omega), c1 73 15 (by omega), c1 73 80 (by omega), c1 73 81 (by omega), c1 73 79 (by omega)]
    exact q3
  · unfold rS3 at q9 ⊢
    rw [c1 73 62 (by omega), c1 73 47 (by omega), cb 104 (by omega) (by omega) (by omega), cb 103 (by omega) (by omega) (by omega), cb 74 (by omega) (by omega) (by omega), cb 75 (by omega) (by omega) (by omega), cb 76 (by omega) (by omega) (by omega)]
    exact q9
  · have eF : s_fs (u_flt (u_fs s F (s_fe s)) nt fl) g = if g = f then 1 else s_fs s g := hF g
    have eG : s_fe (u_flt (u_fs s F (s_fe s)) nt fl) g = s_fe s g := rfl
    rw [eF, eG, e100, cb 101 (by omega) (by omega) (by omega), c1 73 15 (by omega)]
    by_cases d : g = f
    · rw [if_pos d, if_pos d]
      exact ⟨rfl, by decide, fun q => by cases q⟩
    · rw [if_neg d, if_neg d]
      obtain ⟨z1, z2, z3⟩ := q10 g hg
      refine ⟨z1, z2, fun q => ?_⟩
      obtain ⟨r', y1, y2, y3, y4⟩ := z3 q
      exact ⟨r', y1, y2, y3, rNF_mono (X (-1)) y2 (by omega) y4⟩
  · unfold rS5 at q11 ⊢
    rw [c1 73 70 (by omega), cb 114 (by omega) (by omega) (by omega), cb 115 (by omega) (by omega) (by omega), cb 116 (by omega) (by omega) (by omega), cb 117 (by omega) (by omega) (by omega), cb 118 (by omega) (by omega) (by omega), cb 119 (by omega) (by omega) (by omega), cb 120 (by omega) (by omega) (by omega), cb 121 (by omega) (by omega) (by omega)]
    exact q11
  · have ef : fcz (u_flt (u_fs s F (s_fe s)) nt fl) + 1 = fcz s := fcz_1 hf h0 (by
      show F f ≠ 0
      rw [hF f, if_pos rfl]; decide) (fun g hg => by
      show F g = s_fs s g
      rw [hF g, if_neg hg])
    have et : s_tb (u_flt (u_fs s F (s_fe s)) nt fl) = s_tb s := rfl
    have er : s_rw (u_flt (u_fs s F (s_fe s)) nt fl) = s_rw s := rfl
    obtain ⟨⟨k1, k1', k1''⟩, k2, k3, k4, k5⟩ := z12
    unfold rS6
    rw [c1 73 26 (by omega), c1 73 21 (by omega), c1 73 33 (by omega), c1 73 35 (by omega), c1 73 17 (by omega), cb 90 (by omega) (by omega) (by omega), et, er]
    refine ⟨⟨by omega, by omega, k1''⟩, k2, k3, k4, by omega⟩
  · unfold rTl at q13 ⊢
    obtain ⟨⟨n, t1, t2⟩, t3, t4⟩ := q13
    exact ⟨⟨n, by rw [c1 73 35 (by omega)]; exact t1, rIT_mono (X (-1)) n _ (fun i _ => by rw [cb 99 (by omega) (by omega) (by omega)]) t2⟩, t3, t4⟩
  · have gf : g ≠ f := fun d => by
      have z := (q10 g hg).1
      rw [d, h0] at z
      rw [d, z] at q
      exact q rfl
    rw [e100, if_neg gf, cb 101 (by omega) (by omega) (by omega)]
    exact ⟨rfl, rfl⟩
end
