/-! ===== the class runs as the evaluator: the body of a call that may be kept ===== -/
theorem fW0_eq {w w' : W_} (e2 : ∀ b, b ≠ 7 → w'.2 b = w.2 b) (e7 : ∀ f, f < 3 → w'.2 7 f = w.2 7 f) (e : T_) (H : fW0 w e) : fW0 w' e := by
  cases e with
  | nest x t => trivial
  | tag j e =>
    show fR (w'.2 3) (w'.2 5) (w'.2 37) (w'.2 46) e ∧ tI0 (w'.2 3) (w'.2 5) (w'.2 7) e
    rw [e2 3 (by decide), e2 5 (by decide), e2 37 (by decide), e2 46 (by decide)]
    exact ⟨H.1, tI0_eq e7 H.2⟩
  | nil => exact H
  | line => exact H
  | align _ => exact H
  | text _ => exact H
  | group _ _ => exact H
  | append _ _ => exact H
theorem eW0_eq {w w' : W_} (e2 : ∀ b, b ≠ 7 → w'.2 b = w.2 b) (e7 : ∀ f, f < 3 → w'.2 7 f = w.2 7 f) {m : Nat} {hb : Bool} {t : T_} (H : eW0 w m hb t) : eW0 w' m hb t := by
  show eR (w'.2 3) (w'.2 5) (w'.2 37) (w'.2 46) m hb t ∧ tI0 (w'.2 3) (w'.2 5) (w'.2 7) t
  rw [e2 3 (by decide), e2 5 (by decide), e2 37 (by decide), e2 46 (by decide)]
  exact ⟨H.1, tI0_eq e7 H.2⟩
theorem CR_eq {C : C_} {sil : Bool} {o a0 : Nat} {D : Prop} {K0 K1 : Int} {s : S_} {w w' : W_} (H : CR C sil o a0 D K0 s w) (e1 : w'.1 = w.1) (e2 : ∀ b, b ≠ 7 → w'.2 b = w.2 b) (e7 : ∀ f, f < 3 → w'.2 7 f = w.2 7 f) (h1 : hI (w.1 13 2) (w.2 13) (w'.2 7)) (h2 : gN (w.1 13 2) (w'.2 7)) (h3 : mU (w.1 13 2) (w.1 13 3) (w.2 13) (w.2 11) (w'.2 7) (s_me s)) (h4 : w.1 13 2 ≤ K1 + s_nd s ∧ K1 ≤ 238000) : CR C sil o a0 D K1 s w' := by
  obtain ⟨Ha, Hb, ⟨c0, c4, c5, c6, c7⟩, ⟨m1, m2, m3, m4, m5⟩⟩ := H
  have ho := Ha.1.1
  refine ⟨?_, ?_, ⟨⟨?_, ?_, ?_⟩, ?_, fun f hf hq m hm => ?_, ?_, c7⟩, ?_, m2, ?_, fun r hr => ⟨(m4 r hr).1, ?_⟩, ?_⟩
  · unfold CRa at Ha ⊢
    rw [e1, e2 (o + 3) (by omega), e2 18 (by decide)]
    exact Ha
  · unfold CRb at Hb ⊢
    rw [e1, e2 22 (by decide)]
    exact Hb
  · rw [e1]; exact c0.1
  · rw [e1, e2 13 (by decide)]; exact h1
  · rw [e1]; exact h2
  · rw [e2 46 (by decide)]; exact c4
  · have z := c5 f hf hq m hm
    rw [e2 44 (by decide)]
    show match s_fe s f m with
      | none => _
      | some v => vR (w'.1 13 2) (w'.2 13) (fW0 w') v (w.2 44 (f * 10 + m))
    cases q : s_fe s f m with
    | none => rw [q] at z; exact z
    | some v =>
      rw [q] at z
      exact vR_mono c6.1 (by rw [e1]; exact Int.le_refl _) (fun k _ => by rw [e2 13 (by decide)]) (fW0_eq e2 e7) z
  · rw [e1]; exact ⟨c6.1, h4⟩
  · rw [e1]; exact m1
  · rw [e1, e2 11 (by decide), e2 13 (by decide)]; exact m3
  · rw [e2 3 (by decide), e2 5 (by decide)]; exact tI0_eq e7 (m4 r hr).2
  · rw [e1, e2 13 (by decide), e2 11 (by decide)]; exact h3
theorem pH_k (a : Nat → Int) (k f : Nat) : pH a (30000 + (k : Int)) f = a (8 * k + f) := by
  unfold pH
  rw [if_neg (by omega)]
  exact congrArg a (by omega)
def rgL (n n' : Int) : List Int := (List.range (n' - n).toNat).map fun (j : Nat) => 30000 + n + (j : Int)
theorem rgL_mem {n n' x : Int} : x ∈ rgL n n' ↔ 30000 + n ≤ x ∧ x < 30000 + n' := by
  unfold rgL
  rw [List.mem_map]
  constructor
  · rintro ⟨j, hj, rfl⟩
    have := List.mem_range.mp hj
    omega
  · intro h
    exact ⟨(x - 30000 - n).toNat, List.mem_range.mpr (by omega), by omega⟩
theorem rgL_len (n n' : Int) : (rgL n n').length = (n' - n).toNat := by
  unfold rgL
  rw [List.length_map, List.length_range]
section
variable {C : C_} {sil : Bool} {o a1 : Nat} {D' : Prop} {K0 : Int} {s6 sb : S_} {fr : Nat} {Q : Option am_V → W_ → Prop} {i : Int} {v : T_}
theorem kp_run {m : Nat} (h2 : ∀ K0, cSK C sil o K0 (ev C m)) {W : W_} {fn y e : T_} {E0 Eb : N_} {yz nn : Int} {id' : Nat} {a' b' c' : T_} {hb' : Bool} (hD' : D') (R : RD C sil o a1 D' K0 false s6 (n_body e (n_clos E0 (e_use e) 10) y fn) W) (he0 : e = ce 16 nn id' a' b' c') (he : eW W 0 hb' e) (heB : eW W 0 false (e_part e)) (due : W.1 41 10 = e_id (e_part e)) (hfx : fn = .tag 12 (.append e (n_clos E0 (e_use e) 10))) (cf : k_fit e (n_clos E0 (e_use e) 10) = true) (hy : y = vN yz) (hD6 : e_imp (e_part e) = false ∧ n_ni (n_body e (n_clos E0 (e_use e) 10) y fn)) (hf : 20 ≤ fr) (hi : 0 ≤ i) (hr : ev C m sil (e_part e) (n_body e (n_clos E0 (e_use e) 10) y fn) false s6 = some (v, Eb, sb)) (ib : i + 12 * (s_b sb : Int) ≤ 900000 + 12 * (s_b s6 : Int)) (hB : s_b sb ≤ 90000 ∧ s_nt sb ≤ 900000) (hnd : s_nd sb ≤ s_nd s6 + 3950)
    (K : ∀ i' w', i ≤ i' → i' + 12 * (s_b s6 : Int) ≤ i + 12 * (s_b sb : Int) → RD C sil o a1 D' K0 false sb Eb w' → w'.1 33 1 = W.1 33 1 → fQ (W.1 33 1) false W w' → vW_ w' v (w'.1 41 11) → w'.1 41 10 = -1 → kU (w'.1 13 2) (w'.1 13 3) (w'.2 13) (w'.2 11) (w'.2 7) (s_me sb) (e_id e / 60) (w'.1 41 11) → dr fr Q i' w') : dr fr Q i W := by
  obtain ⟨hk, U, u1, u2, u3⟩ := R.1.2.2.2.2.2.2.2
  obtain ⟨f, hff, hfin⟩ := he.2
  have f3 := hff.1.1
  have hce : isce e := ⟨_, _, _, _, _, _, he0⟩
  have hf3 : e_id e / 60 = f := tI_fid hff.1.1 hff.1.2 hfin hce
  have hI0 : hI (W.1 13 2) (W.2 13) (W.2 7) := R.1.2.2.1.1.2.1
  have hg0 : gN (W.1 13 2) (W.2 7) := CR_gN R.1
  have hn0 : 0 ≤ W.1 13 2 := R.1.2.2.1.2.2.2.1.1
  have hnK := R.1.2.2.1.2.2.2.1
  have hoW := RD_oK R.1
  obtain ⟨LF, l1, l2, l3, l4⟩ := body_ns hI0 hfx hy cf R.2.1
  have e1 : (gW W (gG (W.1 13 2) LF U f)).1 = W.1 := rfl
  have e2 : ∀ b, b ≠ 7 → (gW W (gG (W.1 13 2) LF U f)).2 b = W.2 b := fun b hb => gW_2 _ _ hb
  have e7 : ∀ f', f' < 3 → (gW W (gG (W.1 13 2) LF U f)).2 7 f' = W.2 7 f' := fun f' hf' => gW_lo _ _ (by omega)
  have hg : ∀ k, 2147483648 ≤ k → (gW W (gG (W.1 13 2) LF U f)).2 7 k = gG (W.1 13 2) LF U f k := fun k hk => gW_hi _ _ hk
  have hg7w : ∀ k, k < 2147483648 → (gW W (gG (W.1 13 2) LF U f)).2 7 k = W.2 7 k := fun k hk => gW_lo _ _ hk
  refine dr_gW (g := gG (W.1 13 2) LF U f) ?_
  generalize gW W (gG (W.1 13 2) LF U f) = W' at *
  have uU : ∀ f', f' < 3 → ∀ x, x ∈ U f' → 30000 ≤ x := fun f' hf' x hx => ((u1 f' hf').1 x hx).1.1
  have tIf : ∀ t, e_in t (tx (W.2 3) (W.2 5) (W.2 7) f) → tI (W'.2 3) (W'.2 5) (W'.2 7) t := fun t ht => ⟨f, ⟨⟨f3, by rw [e7 f f3]; exact hff.1.2⟩, (gG_F hg f3).mpr rfl⟩, by rw [e2 3 (by decide), e2 5 (by decide), tx_eq (e7 f f3)]; exact ht⟩
  have hin : e_in (e_part e) e := by
    have hpe : e_part e = a' := by rw [he0]; rfl
    rw [hpe]
    have z := e_in_refl e
    rw [he0] at z ⊢
    exact (e_in_c z).1
  have hI' : hI (W.1 13 2) (W.2 13) (W'.2 7) := fun k hk => by
    obtain ⟨z1, z2, -⟩ := hI0 k hk
    refine ⟨z1, z2, fun hA => ?_⟩
    have p1 := pH_k (W.2 13) k 1
    have p2 := pH_k (W.2 13) k 2
    rcases (gG_A hg (by omega)).mp hA with q | q | q
    · omega
    · obtain ⟨-, g1, g2⟩ := l2 _ q
      rw [p1] at g1
      rw [p2] at g2
      exact ⟨fun x0 => (gG_A hg x0).mpr (Or.inr (Or.inl (g1 x0))), fun x0 => (gG_A hg x0).mpr (Or.inr (Or.inl (g2 x0)))⟩
    · obtain ⟨-, g1, g2⟩ := (u1 f f3).1 _ q
      rw [p1] at g1
      rw [p2] at g2
      exact ⟨fun x0 => (gG_A hg x0).mpr (Or.inr (Or.inr (g1 x0))), fun x0 => (gG_A hg x0).mpr (Or.inr (Or.inr (g2 x0)))⟩
  have gN' : gN (W.1 13 2) (W'.2 7) := by
    refine ⟨fun x hx => ⟨(gG_A hg (by omega)).mpr (Or.inl hx), fun f' hf' => (gG_R hg (by omega) hf').mpr (Or.inl hx)⟩, fun f' hf' hF x x0 => ?_⟩
    have ef := (gG_F hg hf').mp hF
    subst ef
    rw [gG_R hg x0 hf', gG_A hg x0]
    constructor
    · rintro (q | ⟨-, q⟩ | q)
      · exact Or.inl q
      · exact Or.inr (Or.inl q)
      · exact Or.inr (Or.inr q)
    · rintro (q | q | q)
      · exact Or.inl q
      · exact Or.inr (Or.inl ⟨rfl, q⟩)
      · exact Or.inr (Or.inr q)
  have mU' : mU (W.1 13 2) (W.1 13 3) (W.2 13) (W.2 11) (W'.2 7) (s_me s6) := ⟨hk, U, fun f' hf' => ⟨(u1 f' hf').1, (u1 f' hf').2.1, fun x hx => (gG_R hg (uU f' hf' x hx) hf').mpr (Or.inr (Or.inr hx)), fun x x0 hL => (gG_L hg x0 hf').mp hL⟩, u2, u3⟩
  have R' : RD C sil o a1 D' (W.1 13 2 - s_nd s6) false s6 (n_body e (n_clos E0 (e_use e) 10) y fn) W' := by
    refine ⟨CR_eq (K1 := W.1 13 2 - s_nd s6) R.1 e1 e2 e7 hI' gN' mU' ⟨by omega, by omega⟩, ?_, (fun q => Bool.noConfusion q), by rw [e1]; exact R.2.2.2.1, by rw [e1]; exact R.2.2.2.2.1, R.2.2.2.2.2.1, by rw [e2 3 (by decide)]; exact R.2.2.2.2.2.2.1, ?_, Or.inl hD'⟩
    · have z := l4 (fW W') (fun y hy => fun y0 => (gG_A hg y0).mpr (Or.inr (Or.inl hy))) ⟨⟨16, nn, id', a', b', c', hb', he0, Or.inl rfl, by rw [e2 3 (by decide), e2 5 (by decide), e2 37 (by decide), e2 46 (by decide)]; exact he.1⟩, tIf e hfin⟩
      show nR (W'.1 13 2) (W'.2 13) (fW W') _ (W'.2 42) (W'.1 41 12).toNat
      rw [e1, e2 13 (by decide), e2 42 (by decide)]
      exact z
    · rw [e2 3 (by decide), e2 5 (by decide)]
      exact flO_eq e7 R.2.2.2.2.2.2.2.1
  have heB' : eW W' 0 false (e_part e) := ⟨by rw [e2 3 (by decide), e2 5 (by decide), e2 37 (by decide), e2 46 (by decide)]; exact heB.1, tIf _ (e_in_tr hin _ hfin)⟩
  refine h2 _ _ _ _ _ _ _ _ hr a1 D' W' fr Q i R' heB' (by rw [e1]; exact due) (fun _ => hD6) hf hi ib hB fun i7 w7 j1 j2 R7 c7 Q7 v7 d7 => ?_
  have X7 : xP W' w7 := Q7.2.2.2
  have x7 : w7.2 7 = W'.2 7 := X7.2.2.1.2.2.2.2.2.1
  have hg7 : ∀ k, 2147483648 ≤ k → w7.2 7 k = gG (W.1 13 2) LF U f k := fun k hk => by rw [x7]; exact hg k hk
  have z2 : ∀ b, b ≠ 7 → (gW w7 (W.2 7)).2 b = w7.2 b := fun b hb => gW_2 _ _ hb
  have z1 : (gW w7 (W.2 7)).1 = w7.1 := rfl
  have z7 : (gW w7 (W.2 7)).2 7 = W.2 7 := by
    funext k
    by_cases c : k < 2147483648
    · rw [gW_lo _ _ c, x7, hg7w k c]
    · rw [gW_hi _ _ (by omega)]
  have z7' : ∀ f', f' < 3 → (gW w7 (W.2 7)).2 7 f' = w7.2 7 f' := fun f' hf' => gW_lo _ _ (by omega)
  refine dr_gW (g := W.2 7) ?_
  generalize gW w7 (W.2 7) = w8 at *
  have hle : W.1 13 2 ≤ w7.1 13 2 := by
    have := X7.1.1
    rw [e1] at this
    exact this
  have a13 : ∀ k : Nat, (k : Int) < 8 * W.1 13 2 → w7.2 13 k = W.2 13 k := fun k hk => by
    have := X7.1.2 k (by rw [e1]; exact hk)
    rw [e2 13 (by decide)] at this
    exact this
  have hI7 : hI (w7.1 13 2) (w7.2 13) (w7.2 7) := R7.1.2.2.1.1.2.1
  obtain ⟨k7, U7, v1, v2, v3⟩ := R7.1.2.2.2.2.2.2.2
  have n7K := R7.1.2.2.1.2.2.2.1
  have lU : ∀ x, x ∈ U f → x ∈ U7 f := fun x hx => (v1 f f3).2.2.2 x (uU f f3 x hx) ((gG_L hg7 (uU f f3 x hx) f3).mpr hx)
  have l0 : ∀ x, x ∈ LF → 30000 ≤ x := fun x hx => (l2 x hx).1.1
  have Sub : ∀ x : Int, 30000 ≤ x → gA (w7.2 7) x → gA (W.2 7) x := fun x x0 hA => by
    rcases (gG_A hg7 x0).mp hA with q | q | q
    · exact (hg0.1 x q).1
    · exact l3 x q x0
    · exact (hg0.2 f f3 hff.2 x x0).mp ((u1 f f3).2.2.1 x q)
  have SubR : ∀ f', f' < 3 → ∀ x : Int, 30000 ≤ x → gR (w7.2 7) f' x → gR (W.2 7) f' x := fun f' hf' x x0 hR => by
    rcases (gG_R hg7 x0 hf').mp hR with q | ⟨rfl, q⟩ | q
    · exact (hg0.1 x q).2 f' hf'
    · exact (hg0.2 f' f3 hff.2 x x0).mpr (l3 x q x0)
    · exact (u1 f' hf').2.2.1 x q
  have hI8 : hI (w7.1 13 2) (w7.2 13) (w8.2 7) := fun k hk => by
    rw [z7]
    obtain ⟨y1, y2, y3⟩ := hI7 k hk
    refine ⟨y1, y2, fun hA => ?_⟩
    by_cases c : (k : Int) < W.1 13 2
    · exact (nd1_eq (fun i hi => a13 _ (by omega)) (hI0 k c)).2.2 hA
    · obtain ⟨g1, g2⟩ := y3 ((gG_A hg7 (by omega)).mpr (Or.inl (by omega)))
      exact ⟨fun x0 => Sub _ x0 (g1 x0), fun x0 => Sub _ x0 (g2 x0)⟩
  have gN8 : gN (w7.1 13 2) (w8.2 7) := by
    rw [z7]
    exact gN_mono hle hg0
  have wU : ∀ f', f' < 3 → cl (w7.1 13 2) (w7.2 13) (U7 f') ∧ (U7 f').length ≤ 3961 * rN (s_me sb) f' ∧ (∀ x, x ∈ U7 f' → gR (W.2 7) f' x) ∧ ∀ x : Int, 30000 ≤ x → gL (W.2 7) f' x → x ∈ U7 f' := fun f' hf' => by
    obtain ⟨y1, y2, y3, y4⟩ := v1 f' hf'
    exact ⟨y1, y2, fun x hx => SubR f' hf' x (y1 x hx).1.1 (y3 x hx), fun x x0 hL => y4 x x0 ((gG_L hg7 x0 hf').mpr ((u1 f' hf').2.2.2 x x0 hL))⟩
  have mU8 : mU (w7.1 13 2) (w7.1 13 3) (w7.2 13) (w7.2 11) (w8.2 7) (s_me sb) := by
    rw [z7]
    exact ⟨k7, U7, wU, v2, v3⟩
  have FM : ∀ t, fW w7 t → fW w8 t := fun t h => by
    cases t with
    | nest x t =>
      show 30000 ≤ x → gA (w8.2 7) x
      rw [z7]
      exact fun x0 => Sub x x0 (h x0)
    | tag j t =>
      show fR (w8.2 3) (w8.2 5) (w8.2 37) (w8.2 46) t ∧ tI (w8.2 3) (w8.2 5) (w8.2 7) t
      rw [z2 3 (by decide), z2 5 (by decide), z2 37 (by decide), z2 46 (by decide), z7]
      refine ⟨h.1, ?_⟩
      obtain ⟨f', ⟨⟨q1, q2⟩, q3⟩, q4⟩ := h.2
      have ef : f' = f := (gG_F hg7 q1).mp q3
      subst ef
      have e77 : W.2 7 f' = w7.2 7 f' := by rw [← z7]; exact z7' f' q1
      exact ⟨f', ⟨⟨q1, by rw [e77]; exact q2⟩, hff.2⟩, by rw [tx_eq e77]; exact q4⟩
    | nil => exact h
    | line => exact h
    | align _ => exact h
    | text _ => exact h
    | group _ _ => exact h
    | append _ _ => exact h
  have h07 : 0 ≤ w7.1 13 2 := by omega
  have VM : ∀ (u : T_) (x : Int), vW_ w7 u x → vW_ w8 u x := fun u x h => by
    have z := vR_mono (n' := w8.1 13 2) (a' := w8.2 13) h07 (by rw [z1]; exact Int.le_refl _) (fun k _ => by rw [z2 13 (by decide)]) FM h
    exact z
  have R8 : RD C sil o a1 D' K0 false sb Eb w8 := by
    refine ⟨CR_eq (K1 := K0) R7.1 z1 z2 z7' hI8 gN8 mU8 ⟨by omega, hnK.2.2⟩, fun m' hm' => ?_, (fun q => Bool.noConfusion q), by rw [z1]; exact R7.2.2.2.1, by rw [z1]; exact R7.2.2.2.2.1, R7.2.2.2.2.2.1, by rw [z2 3 (by decide)]; exact R7.2.2.2.2.2.2.1, ?_, Or.inl hD'⟩
    · have h9 := R7.2.1 m' hm'
      rw [z1, z2 42 (by decide)]
      cases q : Eb m' with
      | none => rw [q] at h9; exact h9
      | some u =>
        rw [q] at h9
        have z := VM _ _ h9
        unfold vW_ at z
        rw [z1] at z
        exact z
    · rw [z2 3 (by decide), z2 5 (by decide)]
      exact flO_eq z7' R7.2.2.2.2.2.2.2.1
  have X8 : xP W w8 := by
    have ab : ∀ b, b ≠ 7 → w7.2 b = W'.2 b → w8.2 b = W.2 b := fun b hb q => by rw [z2 b hb, q, e2 b hb]
    have ow : w_o W' = w_o W := by unfold w_o; rw [e1]
    obtain ⟨y1, y2, ⟨y3, y4, y5, y6, y7, y8, y9⟩, ⟨y10, y11, y12⟩, y13⟩ := X7
    rw [ow] at y11 y12
    refine ⟨⟨by rw [z1]; exact hle, fun k hk => by rw [z2 13 (by decide)]; exact a13 k hk⟩, fun j => by rw [z1, y2 j, e1], ⟨ab _ (by decide) y3, ab _ (by decide) y4, ab _ (by decide) y5, ab _ (by decide) y6, ab _ (by decide) y7, z7, ?_⟩, ⟨by rw [z1, y10, e1], ab _ (by omega) y11, by rw [z1, y12, e1]⟩, fun m hb t q => eW0_eq z2 z7' (y13 m hb t (eW0_eq e2 e7 q))⟩
    obtain ⟨q1, q2, q3⟩ := y9
    rw [e1] at q1 q2
    unfold rQ at q3
    rw [ow] at q3
    exact ⟨by rw [z1]; exact q1, fun k hk => by rw [z2 22 (by decide), q2 k hk, e2 22 (by decide)], fun a j p1 p2 p3 p4 p5 p6 p7 => by rw [z1, q3.1 a j p1 p2 p3 p4 p5 p6 p7, e1], fun b p1 p2 p3 p4 p5 p6 p7 p8 p9 pa pb => by
      by_cases c : b = 7
      · rw [c]; exact z7
      · exact ab b c (q3.2 b p1 p2 p3 p4 p5 p6 p7 p8 p9 pa pb)⟩
  have Q8 : fQ (W.1 33 1) false W w8 := by
    obtain ⟨⟨y1, y2⟩, y3, y4, -⟩ := Q7
    rw [e1] at y1 y2 y3 y4
    refine ⟨⟨by rw [z1]; exact y1, by rw [z1]; exact y2⟩, fun k hk => ?_, fun k hk => ?_, X8⟩
    · have z := y3 k hk
      rw [e2 34 (by decide)] at z
      rw [z2 34 (by decide)]
      exact z
    · rw [z2 42 (by decide), y4 k hk, e2 42 (by decide)]
  have hx7 := cpx_of h07 v7.1
  refine K i7 w8 j1 j2 R8 (by rw [z1, c7, e1]) Q8 (by rw [z1]; exact VM _ _ v7) (by rw [z1]; exact d7) ?_
  rw [z1, z2 13 (by decide), z2 11 (by decide), z7, hf3]
  have hcA : ∀ x : Int, 30000 ≤ x → x < 30000 + w7.1 13 2 → gA (w7.2 7) x → x ∈ U7 f ++ (LF ++ rgL (W.1 13 2) (w7.1 13 2)) := fun x x0 x1 hA => by
    rcases (gG_A hg7 x0).mp hA with q | q | q
    · exact List.mem_append_right _ (List.mem_append_right _ (rgL_mem.mpr ⟨q, x1⟩))
    · exact List.mem_append_right _ (List.mem_append_left _ q)
    · exact List.mem_append_left _ (lU x q)
  refine ⟨k7, fun f' => if f' = f then U7 f ++ (LF ++ rgL (W.1 13 2) (w7.1 13 2)) else U7 f', fun f' hf' => ?_, fun i r hr' h30 => ?_, fun x0 => ?_, fun k hk => ?_⟩
  · obtain ⟨y1, y2, y3, y4⟩ := wU f' hf'
    dsimp only
    by_cases c : f' = f
    · subst c
      rw [if_pos rfl, if_pos rfl]
      have l2' := cl_mono hle a13 l2
      refine ⟨fun x hx => ?_, ?_, fun x hx => ?_, fun x x0 hL => List.mem_append_left _ (y4 x x0 hL)⟩
      · rcases List.mem_append.mp hx with q | q
        · obtain ⟨g1, g2, g3⟩ := y1 x q
          exact ⟨g1, fun z => List.mem_append_left _ (g2 z), fun z => List.mem_append_left _ (g3 z)⟩
        · rcases List.mem_append.mp q with q | q
          · obtain ⟨g1, g2, g3⟩ := l2' x q
            exact ⟨g1, fun z => List.mem_append_right _ (List.mem_append_left _ (g2 z)), fun z => List.mem_append_right _ (List.mem_append_left _ (g3 z))⟩
          · obtain ⟨b0, b1⟩ := rgL_mem.mp q
            obtain ⟨k, hk⟩ : ∃ k : Nat, x = 30000 + (k : Int) := ⟨(x - 30000).toNat, by omega⟩
            subst hk
            obtain ⟨⟨⟨-, r1⟩, -, r2⟩, -, r3⟩ := hI7 k (by omega)
            obtain ⟨g1, g2⟩ := r3 ((gG_A hg7 (by omega)).mpr (Or.inl b0))
            rw [pH_k, pH_k]
            exact ⟨⟨by omega, by omega⟩, fun z => hcA _ z (by omega) (g1 z), fun z => hcA _ z (by omega) (g2 z)⟩
      · rw [List.length_append, List.length_append, rgL_len]
        have hd : (w7.1 13 2 - W.1 13 2).toNat ≤ 3950 := by omega
        omega
      · rcases List.mem_append.mp hx with q | q
        · exact y3 x q
        · rcases List.mem_append.mp q with q | q
          · exact (hg0.2 f' f3 hff.2 x (l0 x q)).mpr (l3 x q (l0 x q))
          · exact (hg0.1 x (rgL_mem.mp q).1).2 f' hf'
    · rw [if_neg c, if_neg (fun q => c q.symm)]
      exact ⟨y1, y2, y3, y4⟩
  · have z := v2 i r hr' h30
    dsimp only
    by_cases c : r_id r / 60 = f
    · rw [if_pos c]
      rw [c] at z
      exact List.mem_append_left _ z
    · rw [if_neg c]
      exact z
  · dsimp only
    rw [if_pos rfl]
    exact hcA _ x0 hx7.1.2 (hx7.2 x0)
  · obtain ⟨f', hf', hx⟩ := v3 k hk
    refine ⟨f', hf', ?_⟩
    dsimp only
    by_cases c : f' = f
    · rw [if_pos c]
      rw [c] at hx
      exact List.mem_append_left _ hx
    · rw [if_neg c]
      exact hx
end
