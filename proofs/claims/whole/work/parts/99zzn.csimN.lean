/-! ===== the class runs as the evaluator: the turn of a call ===== -/
theorem vR_cd {n : Int} {a : Nat → Int} {F P : T_ → Prop} {S : Int → Prop} (hPF : ∀ e, P e → isFL e → F (.tag 0 e)) (hS : ∀ x, 30000 ≤ x → S x → F (.nest x .nil) ∧ (30000 ≤ pH a x 1 → S (pH a x 1)) ∧ (30000 ≤ pH a x 2 → S (pH a x 2))) : ∀ (v : T_) (x : Int), cR n a (fun _ => True) v x → v_cd P v → (30000 ≤ x → S x) → cR n a F v x := by
  have hN' : ∀ x k, hN n a (fun _ => True) x k → (30000 ≤ x → S x) → hN n a F x k := fun x k h hs => ⟨h.1, h.2.1, h.2.2.1, h.2.2.2.1, (hS x h.1.1 (hs h.1.1)).1⟩
  have c1 : ∀ x k, hN n a (fun _ => True) x k → (30000 ≤ x → S x) → 30000 ≤ pH a x 1 → S (pH a x 1) := fun x k h hs => (hS x h.1.1 (hs h.1.1)).2.1
  have c2 : ∀ x k, hN n a (fun _ => True) x k → (30000 ≤ x → S x) → 30000 ≤ pH a x 2 → S (pH a x 2) := fun x k h hs => (hS x h.1.1 (hs h.1.1)).2.2
  intro v x
  induction v, x using cR.induct (a := a) with
  | case1 m x => intro h _ _; exact h
  | case2 x => intro h _ _; exact h
  | case3 x => intro h _ _; exact h
  | case4 x => intro h _ _; exact h
  | case5 m t x => intro h _ hs; exact ⟨hN' _ _ h.1 hs, h.2⟩
  | case6 t x => intro h _ hs; exact hN' _ _ h hs
  | case7 m t x => intro h _ hs; exact ⟨hN' _ _ h.1 hs, h.2⟩
  | case8 m t x => intro h _ hs; exact ⟨hN' _ _ h.1 hs, h.2⟩
  | case9 id v x ih => intro h hc hs; exact ⟨hN' _ _ h.1 hs, h.2.1, h.2.2.1, ih h.2.2.2.1 hc (c1 _ _ h.1 hs), h.2.2.2.2⟩
  | case10 c m t x => intro h _ hs; exact ⟨hN' _ _ h.1 hs, h.2⟩
  | case11 e cl x ih => intro h hc hs; exact ⟨hN' _ _ h.1 hs, h.2.1, hPF _ hc.1.1 hc.1.2, ih h.2.2.2.1 hc.2 (c1 _ _ h.1 hs), h.2.2.2.2⟩
  | case12 l r x ih1 ih2 => intro h hc hs; exact ⟨hN' _ _ h.1 hs, ih1 h.2.1 hc.1 (c1 _ _ h.1 hs), ih2 h.2.2 hc.2 (c2 _ _ h.1 hs)⟩
  | case13 v x ih =>
    intro h hc hs
    rw [v_cd_9] at hc
    have h : hN n a (fun _ => True) x 9 ∧ cR n a (fun _ => True) v (pH a x 1) := by cases v <;> exact h
    have g : hN n a F x 9 ∧ cR n a F v (pH a x 1) := ⟨hN' _ _ h.1 hs, ih h.2 hc (c1 _ _ h.1 hs)⟩
    cases v <;> exact g
  | case14 p m t x => intro h _ hs; exact ⟨hN' _ _ h.1 hs, h.2⟩
  | case15 m e f x ih => intro h hc hs; exact ⟨hN' _ _ h.1 hs, h.2.1, h.2.2.1, h.2.2.2.1, h.2.2.2.2.1, h.2.2.2.2.2.1, ih h.2.2.2.2.2.2.1 hc (c1 _ _ h.1 hs), h.2.2.2.2.2.2.2⟩
  | case16 e cl x ih => intro h hc hs; exact ⟨hN' _ _ h.1 hs, h.2.1, hPF _ hc.1.1 hc.1.2, ih h.2.2.2.1 hc.2 (c1 _ _ h.1 hs), h.2.2.2.2⟩
  | case17 l r x ih1 ih2 =>
    intro h hc hs
    obtain ⟨h1, h2, h3, h4, h5, h6, h7⟩ := h
    exact ⟨hN' _ _ h1 hs, h2, h3, ih1 h4 hc.1 (c1 _ _ h1 hs), h5, ih2 h6 hc.2 (c2 _ _ h1 hs), h7⟩
  | case18 m v r x ih1 ih2 =>
    intro h hc hs
    obtain ⟨h1, h2, h3, h4, h5, h6⟩ := h
    exact ⟨hN' _ _ h1 hs, h2, h3, ih1 h4 hc.1 (c1 _ _ h1 hs), h5, ih2 h6 hc.2 (c2 _ _ h1 hs)⟩
  | case19 t x =>
    intro h
    unfold cR at h
    split at h <;> first | exact h.elim | (exfalso; simp_all)
section
variable {C : C_} {sil : Bool} {o a0 : Nat} {D : Prop} {K0 : Int} {hb : Bool} {s s1 : S_} {E E1 : N_} {w : W_} {fr : Nat} {Q : Option am_V → W_ → Prop} {i : Int} {k : Nat} {n : Int} {id : Nat} {a b c v : T_}

theorem k_nums_rg {w : W_} {e : T_} {E0 : N_} {x : Int} (hp : cR (w.1 13 2) (w.2 13) (fW w) (n_clos E0 (e_use e) 10) x) : ∀ m z, k_nums e (n_clos E0 (e_use e) 10) m = some z → -9999 ≤ z ∧ z ≤ 9999 := by
  have G : ∀ (cl : T_) (x : Int), cR (w.1 13 2) (w.2 13) (fW w) cl x → ∀ m z, n_get cl m = some (vN z) → -9999 ≤ z ∧ z ≤ 9999 := by
    intro cl
    induction cl with
    | append a r iha ihr =>
      intro x h m z hz
      cases a with
      | tag j v =>
        obtain ⟨h1, h2, h3, h4, h5, h6⟩ := h
        have hz : (if m = j then some v else n_get r m) = some (vN z) := hz
        by_cases c : m = j
        · rw [if_pos c] at hz
          injection hz with hz
          rw [hz] at h4
          exact h4.2
        · rw [if_neg c] at hz
          exact ihr _ h6 m z hz
      | _ => exact h.elim
    | _ => intro x h m z hz; cases hz
  intro m z h
  unfold k_nums at h
  split at h
  · cases q : n_get (n_clos E0 (e_use e) 10) m with
    | none => rw [q] at h; cases h
    | some v =>
      rw [q] at h
      have h : v_num v = some z := h
      obtain ⟨y, e1, e2⟩ := v_num_some (v := v) (by rw [h]; rfl)
      rw [e2] at h
      cases h
      rw [e1] at q
      exact G _ _ hp m _ q
  · cases h
theorem fl_imp {a3 a5 a37 a46 : Nat → Int} {hb : Bool} {e : T_} (he : eR a3 a5 a37 a46 0 hb e) (h16 : e_kind e = 16) (hfl : ∃ k n id a b c, e = ce k n id a b c) (hi : e_imp (e_part e) = false) : e_imp e = false := by
  obtain ⟨k, n, id, a, b, c, rfl⟩ := hfl
  have k16 : k = 16 := h16
  subst k16
  obtain ⟨-, -, -, -, -, -, -, -, hs1, hs2⟩ := he
  have hi : e_imp a = false := hi
  show (((16 : Nat) == 29) || e_imp a || e_imp b || e_imp c) = false
  rw [hi, hs2 (by decide)]
  rcases hs1 (by decide) with q | ⟨z, q, -⟩ <;> rw [q] <;> rfl
theorem n_clos_cd' {P : T_ → Prop} {E : N_} {u : Nat → Bool} : ∀ k, (∀ m v, m < k → u m = true → E m = some v → v_cd P v) → v_cd P (n_clos E u k) := by
  intro k
  induction k with
  | zero => intro _; exact trivial
  | succ k ih =>
    intro h
    rw [n_clos]
    split
    · rename_i v hu hv
      exact ⟨h k _ (Nat.lt_succ_self k) hu hv, ih fun m v hm => h m v (by omega)⟩
    · exact ih fun m v hm => h m v (by omega)
theorem body_cd {e : T_} {E0 : N_} {z : Int} (hfl : isFL e) (hk : k_fit e (n_clos E0 (e_use e) 10) = true) : n_cd (fun t => e_in t e ∨ t = .nil) (n_body e (n_clos E0 (e_use e) 10) (vN z) (.tag 12 (.append e (n_clos E0 (e_use e) 10)))) := by
  have hc : v_cd (fun t => e_in t e ∨ t = .nil) (n_clos E0 (e_use e) 10) := n_clos_cd' 10 fun m v hm hu hv => by
    have z := (k_fit_iff.mp hk).2 m hm hu
    cases q : k_nums e (n_clos E0 (e_use e) 10) m with
    | none => rw [q] at z; cases z
    | some x =>
      have y := k_num_E hm hu q
      rw [hv] at y
      injection y with y
      rw [y]
      exact trivial
  exact n_body_cd hc trivial ⟨⟨Or.inl (e_in_refl e), hfl⟩, hc⟩
/-- behind a body -/
theorem sim_leave {m : Nat} {fn y : T_} {V w0 w7 : W_} {fv yv kp : Int} {e cl : T_} {E0 : N_} {sb : S_} {Eb : N_} {rn : Nat} {me : List R_} {D' : Prop}
    (RV : RD C sil o a0 D K0 hb s E V) (cV : V.1 33 1 = w0.1 33 1 + 1) (hc0 : 0 ≤ w0.1 33 1) (qV : fQ (w0.1 33 1) hb w0 V) (f0 : f_t V 0 = 3) (f1 : f_t V 1 = id) (f2 : f_t V 2 = 3) (f5 : f_t V 5 = kp) (vf : vW_ V fn fv) (vy : vW_ V y yv) (hfn : fn = .tag 12 (.append e cl)) (hcl : cl = n_clos E0 (e_use e) 10) (tIe : tI (V.2 3) (V.2 5) (V.2 7) e) (hide : e_id e < 180) (hid : id < 180) (hmq : hb = true → w0.1 41 13 < w0.1 33 1)
    (hkp : kp = if r_keep C sil fn y s = true then 1 else 0) (hf : 20 ≤ fr) (hi : 0 ≤ i) (hib : i ≤ 990000) (hD : D → D') (hDk : r_keep C sil fn y s = true → D')
    (hrun : ev C m sil (e_part e) (n_body e cl y fn) false (s_in (u_rn s rn (s_tk s))) = some (v, Eb, sb)) (hme : ¬ (r_keep C sil fn y s = true ∧ s_nt sb = s_nt s ∧ (s_me sb).length < 60) ∧ me = s_me sb ∨ (r_keep C sil fn y s = true ∧ s_nt sb = s_nt s ∧ (s_me sb).length < 60) ∧ me = s_me sb ++ [r_rec C fn y v (u_rn s rn (s_tk s)) sb])
    (R7 : RD C sil o (V.1 17 3).toNat D' K0 false sb Eb w7) (c7 : w7.1 33 1 = V.1 33 1) (Q7 : fQ (V.1 33 1) false (w_en V fv yv (e_id e) o) w7) (X6 : xP V (w_en V fv yv (e_id e) o)) (v7 : vW_ w7 v (w7.1 41 11)) (d7 : w7.1 41 10 = -1) (hU : r_keep C sil fn y s = true → kU (w7.1 13 2) (w7.1 13 3) (w7.2 13) (w7.2 11) (w7.2 7) (s_me sb) (e_id e / 60) (w7.1 41 11))
    (K : ∀ Z, RD C sil o a0 D K0 hb (s_out (u_rn s rn (s_tk s)) sb me) E Z → Z.1 33 1 = V.1 33 1 → fQ (w0.1 33 1) hb w0 Z → vW_ Z v (Z.1 41 11) → Z.1 41 10 = -1 → dr fr Q (i + 1) (w_po Z)) : dr fr Q i w7 := by
  have ho' := RV.1.1.1.1
  have hoV := RD_oK RV.1
  have hcnV := RV.1.2.2.1.2.2.2
  have hcn7 := R7.1.2.2.1.2.2.2
  have hctV : 1 ≤ V.1 33 1 ∧ V.1 33 1 < 24000 := by have := RV.2.2.2.1; omega
  have hct7 : 1 ≤ w7.1 33 1 ∧ w7.1 33 1 < 24000 := by rw [c7]; exact hctV
  have E33 : (w_en V fv yv (e_id e) o).1 33 1 = V.1 33 1 := by rw [en_1 ho', if_neg (by decide), if_neg (by decide), if_neg (by omega), if_neg (by decide), if_neg (by decide)]
  have E12 : (w_en V fv yv (e_id e) o).1 41 12 = V.1 41 12 + 1 := by rw [en_1 ho', if_neg (by decide), if_pos ⟨rfl, rfl⟩]
  have E13 : (w_en V fv yv (e_id e) o).1 41 13 = V.1 41 13 := by rw [en_1 ho', if_neg (by decide), if_neg (by decide), if_neg (by omega), if_neg (by decide), if_neg (by decide)]
  have F6 := fun g hg => en_F (w := V) (x := fv) (y := yv) (id := (e_id e : Int)) (g := g) ho' hctV.1 hg
  have low34 := fun k hk => en_34b (o := o) (w := V) (x := fv) (y := yv) (id := (e_id e : Int)) k hctV.1 hk
  obtain ⟨-, low42⟩ := en_42 (o := o) (w := V) (x := fv) (y := yv) ho' hfn (id := e_id e) rfl RV.2.2.2.2.1.1 hcnV.1.1 vf vy
  generalize w_en V fv yv (e_id e) o = W6 at *
  have F7 : ∀ g : Int, 0 ≤ g ∧ g < 13 → f_t w7 g = if g = 9 then V.1 41 15 else if g = 8 then V.1 17 4 else if g = 7 then V.1 17 5 else if g = 6 then V.1 17 3 else if g = 4 then yv else if g = 3 then fv else f_t V g := fun g hg => by
    have Q7' : fQ (W6.1 33 1) false W6 w7 := by rw [E33]; exact Q7
    rw [f_t_Q Q7' (by rw [c7, E33]) (by rw [E33]; exact hctV.1) (fun q => Bool.noConfusion q) hg, F6 g hg.1]
  have X7 : xP V w7 := xP_tr X6 Q7.2.2.2
  have m0 := ev_M C m _ _ _ _ _ _ _ _ hrun (Nat.le_refl _)
  have hdp : s_dp sb = s_dp s + 1 := m0.2.2.2.2.2.1
  have htl : s_tl sb = s_tl s := m0.2.2.2.2.2.2.2.1 rfl
  have hb7 : s_b s ≤ s_b sb := m0.1
  -- the stage, the end of the body
  have R8 := RD_fs (f := 2) (x := 4) R7 hct7.1 (by decide) (fun q => Bool.noConfusion q)
  have ho7 := RD_oK R7.1
  have O8 : oQ (w0.1 33 1) w7 (w_fs w7 2 4) := oQ_fs ho7 (by rw [c7, cV]; omega) (by rw [c7, cV]; omega) (by decide)
  have F8 : ∀ g : Int, 0 ≤ g ∧ g < 13 → f_t (w_fs w7 2 4) g = if g = 2 then 4 else f_t w7 g := fun g hg => f_t_fs0 hct7.1 (by decide) hg.1
  have X8 := xP_tr X7 O8.2.2.2
  have h17 : V.1 17 3 = ((V.1 17 3).toNat : Int) := by
    obtain ⟨⟨n, n1, -⟩, -⟩ := RV.1.2.1
    omega
  have hA8 := X8.2.2.1.2.2.2.2.2.2
  have C9 := CR_lv (V := V) (s := u_rn s rn (s_tk s)) RV.1.2.1 h17 R8.1 hD (by rw [F8 9 (by decide), if_neg (by decide), F7 9 (by decide)]; rfl) hdp (fun k hk => hA8.2.1 k (by omega)) (by have := hA8.1; omega)
  have n33 : (w_lv (w_fs w7 2 4)).1 33 1 = V.1 33 1 := c7
  have n12 : (w_lv (w_fs w7 2 4)).1 41 12 = V.1 41 12 := by
    show w7.1 41 12 - 1 = _
    rw [Q7.1.1, E12]
    omega
  have n13 : (w_lv (w_fs w7 2 4)).1 41 13 = V.1 41 13 := by
    show w7.1 41 13 = _
    rw [Q7.1.2, E13]
  have n11 : (w_lv (w_fs w7 2 4)).1 41 11 = w7.1 41 11 := rfl
  have n10 : (w_lv (w_fs w7 2 4)).1 41 10 = w7.1 41 10 := rfl
  have n2 : (w_lv (w_fs w7 2 4)).2 = (w_fs w7 2 4).2 := rfl
  have s42 : ∀ k : Nat, (k : Int) < 10 * (V.1 41 12 + 1) → (w_lv (w_fs w7 2 4)).2 42 k = V.2 42 k := fun k hk => by
    rw [n2, w_fs2 _ _ _ (by decide), Q7.2.2.1 k (by rw [E12]; exact hk)]
    exact low42 k hk
  have s34 : ∀ k : Nat, (k : Int) < 13 * w0.1 33 1 → (w_lv (w_fs w7 2 4)).2 34 k = V.2 34 k := fun k hk => by
    rw [n2, O8.2.1 k hk]
    rcases Q7.2.1 k (by rw [cV]; omega) with ⟨r, -⟩ | r
    · exact Bool.noConfusion r
    · rw [r]; exact low34 k (by rw [cV]; omega)
  have X9 : xP V (w_lv (w_fs w7 2 4)) := by
    refine xP_tr X8 ⟨⟨Int.le_refl _, fun _ _ => rfl⟩, fun j => ?_, ⟨rfl, rfl, rfl, rfl, rfl, rfl, Int.le_refl _, fun _ _ => rfl, rQ_1 (fun a j q => by unfold w_lv; rw [w_f1, w_u_at, if_neg (by omega), w_f1, w_u_at, if_neg (by omega), w_f1, w_u_at, if_neg (by omega)]) (fun _ _ => rfl)⟩, ⟨rfl, rfl, ?_⟩, fun _ _ _ q => q⟩
    · rfl
    · have hw := oK_x X8 hoV
      unfold w_lv
      rw [w_f1, w_u_at, if_neg (by omega), w_f1, w_u_at, if_neg (by omega), w_f1, w_u_at, if_neg (by omega)]
  have v9 : vW_ (w_lv (w_fs w7 2 4)) v (w7.1 41 11) := vW_S (wS_fs w7 2 4) v7
  have f9k : ∀ g : Int, f_t (w_lv (w_fs w7 2 4)) g = f_t (w_fs w7 2 4) g := fun g => rfl
  -- everything else of RD, where the heap, rows and frames stay
  have fin : ∀ (Z : W_) (me : List R_), CR C sil o a0 D K0 (s_out (u_rn s rn (s_tk s)) sb me) Z → (∀ a j, ¬ (a = 10 ∧ j = 1) → Z.1 a j = (w_lv (w_fs w7 2 4)).1 a j) → (∀ b, b ≠ 11 → b ≠ 48 → Z.2 b = (w_lv (w_fs w7 2 4)).2 b) → RD C sil o a0 D K0 hb (s_out (u_rn s rn (s_tk s)) sb me) E Z ∧ Z.1 33 1 = V.1 33 1 ∧ fQ (w0.1 33 1) hb w0 Z ∧ vW_ Z v (Z.1 41 11) ∧ Z.1 41 10 = -1 := by
    intro Z me hC z1 z2
    have XZ : xP (w_lv (w_fs w7 2 4)) Z := by
      have hw := oK_x X9 hoV
      refine ⟨⟨by rw [z1 13 2 (by decide)]; exact Int.le_refl _, fun k _ => by rw [z2 13 (by decide) (by decide)]⟩, fun j => z1 50 j (by omega), ⟨z2 _ (by decide) (by decide), z2 _ (by decide) (by decide), z2 _ (by decide) (by decide), z2 _ (by decide) (by decide), z2 _ (by decide) (by decide), z2 _ (by decide) (by decide), by rw [z1 17 3 (by decide)]; exact Int.le_refl _, fun k _ => by rw [z2 22 (by decide) (by decide)], rQ_1 (fun a j q => z1 a j (by omega)) (fun b q => z2 b (by omega) (by omega))⟩, ⟨z1 17 7 (by decide), z2 _ (by omega) (by omega), z1 _ 4 (by omega)⟩, fun m hb t q => ?_⟩
      unfold eW0 at q ⊢
      rw [z2 3 (by decide) (by decide), z2 5 (by decide) (by decide), z2 37 (by decide) (by decide), z2 46 (by decide) (by decide), z2 7 (by decide) (by decide)]
      exact q
    have XA := xP_tr X9 XZ
    have c33 : Z.1 33 1 = V.1 33 1 := (z1 33 1 (by decide)).trans n33
    have c12 : Z.1 41 12 = V.1 41 12 := (z1 41 12 (by decide)).trans n12
    have c13 : Z.1 41 13 = V.1 41 13 := (z1 41 13 (by decide)).trans n13
    have QF : fQ (w0.1 33 1) false V Z := ⟨⟨c12, c13⟩, fun k hk => Or.inr (by rw [z2 34 (by decide) (by decide)]; exact s34 k hk), fun k hk => by rw [z2 42 (by decide) (by decide)]; exact s42 k (by omega), XA⟩
    have QH : fQ (w0.1 33 1) hb V Z := ⟨QF.1, fun k hk => Or.inr (by rw [z2 34 (by decide) (by decide)]; exact s34 k hk), QF.2.2.1, XA⟩
    have hmk : mkR hb (s_out (u_rn s rn (s_tk s)) sb me) Z := by
      intro q
      obtain ⟨b1, b2, b3, b4, b5⟩ := RV.2.2.1 q
      have ht13 : V.1 41 13 < w0.1 33 1 := by
        have hh := hmq q
        rw [qV.1.2]
        exact hh
      have ew : ∀ f : Int, 0 ≤ f → f < 13 → wg (Z.2 34) (Z.1 41 13 * 13 + f) = wg (V.2 34) (V.1 41 13 * 13 + f) := fun f f0 f1 => by
        unfold wg
        rw [c13, if_neg (by omega), if_neg (by omega)]
        rw [z2 34 (by decide) (by decide)]
        exact s34 _ (by omega)
      have etl : s_tl (s_out (u_rn s rn (s_tk s)) sb me) = s_tl s := htl
      rw [etl, ew 5 (by decide) (by decide), ew 7 (by decide) (by decide), ew 8 (by decide) (by decide), c13, c33]
      exact ⟨b1, cW_x XA b2, b3, b4, b5⟩
    refine ⟨⟨hC, fun k hk => ?_, hmk, ?_, ?_, ?_, ?_, ?_⟩, c33, fQ_tr qV QH, ?_, ?_⟩
    · have h9 := RV.2.1 k hk
      have hr0 := RV.2.2.2.2.1.1
      rw [c12, z2 42 (by decide) (by decide), s42 _ (by omega)]
      cases q : E k with
      | none => rw [q] at h9; exact h9
      | some u => rw [q] at h9; exact vW_x XA hcnV.1.1 h9
    · rw [c33, ← c7]
      exact R7.2.2.2.1
    · rw [c12]
      have z := R7.2.2.2.2.1.2
      rw [Q7.1.1, E12] at z
      refine ⟨RV.2.2.2.2.1.1, ?_⟩
      show V.1 41 12 ≤ (s_rw sb : Int)
      omega
    · show s_lt sb ≤ s_b sb
      exact R7.2.2.2.2.2.1
    · rw [z2 3 (by decide) (by decide), n2, w_fs2 _ _ _ (by decide)]; exact R7.2.2.2.2.2.2.1
    · rw [z2 3 (by decide) (by decide), z2 5 (by decide) (by decide), z2 7 (by decide) (by decide), n2, w_fs2 _ _ _ (by decide), w_fs2 _ _ _ (by decide), w_fs2 _ _ _ (by decide)]; exact ⟨R7.2.2.2.2.2.2.2.1, by rw [X7.2.2.1.2.2.2.2.2.1]; exact RV.2.2.2.2.2.2.2.2⟩
    · rw [z1 41 11 (by decide), n11]; exact vW_x XZ hcn7.1.1 v9
    · rw [z1 41 10 (by decide), n10]; exact d7
  have f70 : f_t w7 0 = 3 := by rw [F7 0 (by decide)]; exact f0
  have f71 : f_t w7 1 = (id : Int) := by rw [F7 1 (by decide)]; exact f1
  have f72 : f_t w7 2 = 3 := by rw [F7 2 (by decide)]; exact f2
  have f75 : f_t w7 5 = kp := by rw [F7 5 (by decide)]; exact f5
  have f77 : f_t w7 7 = V.1 17 5 := by rw [F7 7 (by decide)]; rfl
  have f79 : f_t w7 9 = V.1 41 15 := by rw [F7 9 (by decide)]; rfl
  have e5V : V.1 17 5 = (s_nt s : Int) := RV.1.1.2.1.2.1
  have e57 : w7.1 17 5 = (s_nt sb : Int) := R7.1.1.2.1.2.1
  have d15 := R7.1.2.1.2.2.1
  have d15V := RV.1.2.1.2.2.1
  have r15 : am_rg (w7.1 41 15) := by unfold am_rg; omega
  have r79 : am_rg (f_t w7 9) := by rw [f79]; unfold am_rg; omega
  have r75 : am_rg (f_t w7 5) := by rw [f75, hkp]; unfold am_rg; split <;> omega
  have r77 : am_rg (f_t w7 7) := by rw [f77, e5V]; unfold am_rg; omega
  by_cases ck : r_keep C sil fn y s = true ∧ s_nt sb = s_nt s
  · -- it may be kept
    obtain ⟨ck1, ck2⟩ := ck
    have kp1 : kp = 1 := by rw [hkp, if_pos ck1]
    have hsil : sil = false := by
      unfold r_keep at ck1
      cases sil with
      | false => rfl
      | true => cases ck1
    subst hsil
    have kn : (v_num y).isSome = true ∧ k_fit e cl = true := by
      unfold r_keep at ck1
      rw [hfn] at ck1
      have ck1 : (true && (v_num y).isSome && k_fit e cl) = true := ck1
      rw [Bool.and_eq_true, Bool.and_eq_true] at ck1
      exact ⟨ck1.1.2, ck1.2⟩
    obtain ⟨yz, hyz, hyn⟩ := v_num_some kn.1
    have vyr : yv = yz ∧ -9999 ≤ yz ∧ yz ≤ 9999 := by
      have z := vy.1
      rw [hyz] at z
      exact z
    obtain ⟨m1, m2, m3, m4, -⟩ := C9.2.2.2
    have m1 : (w_lv (w_fs w7 2 4)).1 10 1 = ((s_me sb).length : Int) := m1
    have m2 : (s_me sb).length ≤ 60 := m2
    have vf9 : vW_ (w_lv (w_fs w7 2 4)) fn fv := vW_x X9 hcnV.1.1 vf
    have c13h : (w_lv (w_fs w7 2 4)).1 13 2 = w7.1 13 2 := rfl
    rw [hfn] at vf9
    have h96 := lk_96 vf9 (by rw [c13h]; omega)
    rw [if_pos kn.2] at h96
    have vfx := vf9.1.1.1
    have p3 := vf9.1.2.1
    have pcl := vf9.1.2.2.2.1
    rw [hcl] at pcl
    have hrg := k_nums_rg pcl
    rw [← hcl] at hrg
    have g8 : ∀ g : Int, 0 ≤ g ∧ g < 13 → g ≠ 2 → f_t (w_lv (w_fs w7 2 4)) g = f_t w7 g := fun g hg g2 => by rw [f9k, F8 g hg, if_neg g2]
    have C9b := C9.2.1.1
    obtain ⟨p, p1, p2, p3', p4, p5⟩ := C9b
    have hb900 : s_tb sb ≤ 2000 := hcn7.2.2.1
    have hp20 : (w_lv (w_fs w7 2 4)).1 17 3 ≤ 20000 := by
      rw [p1]
      have p3' : p ≤ 46 * min (s_b sb) 300 + s_tb sb := p3'
      omega
    have ha17 : V.1 17 3 ≤ (w_lv (w_fs w7 2 4)).1 17 3 := hA8.1
    have h100 := lk_100 (w := w_lv (w_fs w7 2 4)) (fn := fv) (arg := yv) (v := w7.1 41 11) (b0 := V.1 17 4) (a0 := V.1 17 3) (nest := w7.1 41 15 - w7.1 41 14) (id := (e_id e : Int)) (P1 := fun w' => n48 (w_lv (w_fs w7 2 4)) w' ∧ (k_fit e cl = true → ∀ m : Nat, m < 10 → w'.2 48 m = (k_nums e cl m).getD 20005))
      (by rw [g8 3 (by decide) (by decide), F7 3 (by decide)]; rfl) (by rw [g8 4 (by decide) (by decide), F7 4 (by decide)]; rfl) (by rw [g8 8 (by decide) (by decide), F7 8 (by decide)]; rfl) (by rw [g8 6 (by decide) (by decide), F7 6 (by decide)]; rfl) n11 ⟨by omega, by rw [c13h] at vfx; omega⟩ p3 (by rw [n33]; exact hctV) (by rw [m1]; omega) ⟨by omega, ha17⟩ hp20 (fun k k0 k1 => by
        have k1 : k < (p : Int) := by rw [← p1]; exact k1
        rw [wg_w, wg_n (n := k.toNat) (by omega)]
        exact p4 k.toNat (by omega)) h96 (fun w1 q => q.1)
    refine dr_3 (f := 8) (by omega) d7 hct7 f70 (lk_94k f71 f72 hct7 r15 r79 r75 r77 ⟨by rw [f75, kp1]; decide, by rw [f77, e57, e5V, ck2]⟩ h100 (fun W' hP => ?_)) (by omega) (by omega) fun w9 hw9 => ?_
    · obtain ⟨w1, ⟨q1, -⟩, q2⟩ := hP
      rcases q2 with ⟨-, q2⟩ | ⟨-, q2⟩
      · rw [q2, q1.1, n33]; exact hctV
      · have e33 : W'.1 33 1 = w1.1 33 1 := by rw [q2.1]; rfl
        rw [e33, q1.1, n33]; exact hctV
    · obtain ⟨W', ⟨w1, ⟨q1, q1'⟩, q2⟩, rfl⟩ := hw9
      rcases q2 with ⟨q3, q2⟩ | ⟨q3, q2⟩
      · -- the memory is full
        have hlen : ¬ (s_me sb).length < 60 := by omega
        have eme : me = s_me sb := by
          rcases hme with ⟨-, e⟩ | ⟨e, -⟩
          · exact e
          · exact absurd e.2.2 hlen
        rw [q2]
        rw [eme] at K
        obtain ⟨z1, z2, z3, z4, z5⟩ := fin w1 (s_me sb) (CR_48 C9 q1) (fun a j _ => by rw [q1.1]) (fun b _ b2 => q1.2 b b2)
        exact K w1 z1 z2 z3 z4 z5
      · have hlen : (s_me sb).length < 60 := by omega
        have eme : me = s_me sb ++ [r_rec C fn y v (u_rn s rn (s_tk s)) sb] := by
          rcases hme with ⟨e, -⟩ | ⟨-, e⟩
          · exact absurd ⟨ck1, ck2, hlen⟩ e
          · exact e
        have l0 : s_b s ≤ s_lt sb := m0.2.2.2.1
        have hE : e_imp (e_part e) = false := (k_fit_iff.mp kn.2).1
        have hrec : KR (r_rec C fn y v (u_rn s rn (s_tk s)) sb) := by
          have hv0 : (v_num y).getD 0 = yz := by rw [hyz]; rfl
          have efn : r_fn (r_rec C fn y v (u_rn s rn (s_tk s)) sb) = fn := rfl
          have earg : r_arg (r_rec C fn y v (u_rn s rn (s_tk s)) sb) = yz := hv0
          refine ⟨C, m, Eb, u_rn s rn (s_tk s), sb, by rw [efn, hfn]; rfl, by rw [efn, hfn]; exact kn.2, ⟨E0, by rw [efn, hfn]; exact hcl⟩, ?_, ck2, ?_, ?_, fun j z hz => ?_, fun q hq => ?_⟩
          · rw [efn, earg, hfn]
            rw [hyz, hfn] at hrun
            exact hrun
          · rw [efn, earg]
            conv => lhs; rw [hyz]
            rfl
          · rw [earg]
            obtain ⟨y1, y2⟩ := R7.1.2.1.2.2.2.1 (hDk ck1)
            have hlt := R7.2.2.2.2.2.1
            refine ⟨vyr.2.1, vyr.2.2, ?_, ?_, ?_⟩
            · show s_sn sb ≤ 1000
              omega
            · show s_lt sb - s_b s ≤ 100000
              omega
            · obtain ⟨⟨k', n', id', a', b', c', hb', e', -⟩, -⟩ := vf9.1.2.2.1
              exact ⟨k', n', id', a', b', c', by rw [efn, hfn]; exact e'⟩
          · have hz : k_nums (v_code fn) (v_clos fn) j = some z := hz
            rw [hfn] at hz
            exact hrg j z hz
          · obtain ⟨⟨k', n', id', a', b', c', hb', e', hk', eR'⟩, -⟩ := vf9.1.2.2.1
            have hfl : isFL e := ⟨k', n', id', a', b', c', e', hk'⟩
            have hEe : e_imp e = false := fl_imp eR' vf9.1.2.2.2.2.2 ⟨k', n', id', a', b', c', e'⟩ hE
            have hin : e_in (e_part e) e := by
              have hpe : e_part e = a' := by rw [e']; rfl
              rw [hpe]
              have z := e_in_refl e
              rw [e'] at z ⊢
              exact (e_in_c z).1
            have hC := ev_C (P := fun t => e_in t e ∨ t = .nil) (cP_in hEe) C m _ _ _ _ _ _ _ _ hrun (Or.inl hin) (by
              have g := kn.2
              rw [hcl] at g
              rw [hyz, hfn, hcl]
              exact body_cd hfl g)
            have hq : s_as sb q = true := hq
            rcases hC.1.2 q hq with z | ⟨z1, z2⟩
            · cases z
            · refine ⟨z1, ?_⟩
              have a := R7.1.1.2.2.2 q z1
              cases b : C.1 q with
              | none => rw [b] at z2; cases z2
              | some u =>
                rw [b] at a
                exact ⟨u, b, a.2⟩
        have ekp : w_kp w1 (e_id e) yv (w7.1 41 11) ((w_lv (w_fs w7 2 4)).1 17 4 - V.1 17 4) (w7.1 41 15 - w7.1 41 14) ((w_lv (w_fs w7 2 4)).1 41 16 - V.1 17 4) = w_kp w1 (r_id (r_rec C fn y v (u_rn s rn (s_tk s)) sb)) (r_arg (r_rec C fn y v (u_rn s rn (s_tk s)) sb)) (w7.1 41 11) (r_b (r_rec C fn y v (u_rn s rn (s_tk s)) sb)) (r_sn (r_rec C fn y v (u_rn s rn (s_tk s)) sb)) (r_lt (r_rec C fn y v (u_rn s rn (s_tk s)) sb)) := by
          have g1 : (w_lv (w_fs w7 2 4)).1 17 4 = (s_b sb : Int) := R7.1.1.2.1.1
          have g2 : V.1 17 4 = (s_b s : Int) := RV.1.1.2.1.1
          obtain ⟨y1, y2⟩ := R7.1.2.1.2.2.2.1 (hDk ck1)
          have g3 : w7.1 41 14 = (s_dp sb : Int) := R7.1.2.1.2.1.1
          have g4 : (w_lv (w_fs w7 2 4)).1 41 16 = w7.1 41 16 := rfl
          have h1 : (s_b sb : Int) - (s_b s : Int) = ((s_b sb - s_b s : Nat) : Int) := by omega
          have h2 : (s_lt sb : Int) - (s_b s : Int) = ((s_lt sb - s_b s : Nat) : Int) := by omega
          have h3 : w7.1 41 15 - w7.1 41 14 = (s_sn sb : Int) := by omega
          have h4 : yv = (v_num y).getD 0 := by
            rw [hyz]
            exact vyr.1
          rw [g1, g2, g4, y2, h3, h1, h2, h4, hfn]
          rfl
        rw [ekp] at q2
        have q2' : tA (w_kp w1 (r_id (r_rec C fn y v (u_rn s rn (s_tk s)) sb)) (r_arg (r_rec C fn y v (u_rn s rn (s_tk s)) sb)) (w7.1 41 11) (r_b (r_rec C fn y v (u_rn s rn (s_tk s)) sb)) (r_sn (r_rec C fn y v (u_rn s rn (s_tk s)) sb)) (r_lt (r_rec C fn y v (u_rn s rn (s_tk s)) sb))) W' (w1.1 10 1) ((V.1 17 3).toNat : Int) (w1.1 17 3) := by
          rw [q1.1, ← h17]
          exact q2
        obtain ⟨z1, z2, z3⟩ := CR_kp (r := r_rec C fn y v (u_rn s rn (s_tk s)) sb) C9 q1 (fun j hj => by
            rw [q1' kn.2 j hj]
            show _ = (k_nums (v_code fn) (v_clos fn) j).getD 20005
            rw [hfn]
            rfl) hlen q2' ⟨cR_mono (Int.le_refl _) (fun _ _ => rfl) (fun _ _ => trivial) v _ v9.1, v9.2⟩ hrec (by
            have hx := X9.2.2.1
            rw [hx.2.2.2.1, hx.2.2.2.2.1, hx.2.2.2.2.2.1]
            show tI0 _ _ _ (v_code fn)
            rw [hfn]
            exact tI_0 tIe) (by
            have z := hU ck1
            have g : ∀ b, b ≠ 34 → (w_lv (w_fs w7 2 4)).2 b = w7.2 b := fun b hb => w_fs2 w7 2 4 hb
            rw [g 13 (by decide), g 11 (by decide), g 7 (by decide)]
            have e' : r_id (r_rec C fn y v (u_rn s rn (s_tk s)) sb) = e_id e := by
              show e_id (v_code fn) = _
              rw [hfn]
              rfl
            rw [e']
            exact z) (fun q hq => by
            obtain ⟨⟨p', p1', -, -, p4', p5'⟩, -⟩ := R8.1.2.1
            have z := p5' q hq
            show s_as sb q = true ↔ _
            rw [z]
            constructor
            · rintro ⟨j, j1, j2, j3⟩
              refine ⟨(j : Int), by omega, ?_, ?_⟩
              · show (j : Int) < (w_fs w7 2 4).1 17 3
                rw [p1']; omega
              · rw [wg_w, wg_n (n := j) rfl]; exact j3
            · rintro ⟨j, j1, j2, j3⟩
              have j2 : j < (w_fs w7 2 4).1 17 3 := j2
              rw [p1'] at j2
              refine ⟨j.toNat, by omega, by omega, ?_⟩
              rw [wg_w, wg_n (n := j.toNat) (by omega)] at j3
              exact j3) rfl
        obtain ⟨y1, y2, y3, y4, y5⟩ := fin W' _ z1 z2 z3
        rw [eme] at K
        exact K W' y1 y2 y3 y4 y5
  · -- it isn't kept
    have eme : me = s_me sb := by
      rcases hme with ⟨-, e⟩ | ⟨e, -⟩
      · exact e
      · exact absurd ⟨e.1, e.2.1⟩ ck
    have hk7 : f_t w7 5 = 0 ∨ f_t w7 7 ≠ w7.1 17 5 := by
      by_cases c : r_keep C sil fn y s = true
      · refine Or.inr ?_
        rw [f77, e57, e5V]
        intro q
        exact ck ⟨c, by omega⟩
      · refine Or.inl ?_
        rw [f75, hkp, if_neg c]
    refine dr_3 (f := 8) (by omega) d7 hct7 f70 (lk_94e f71 f72 hct7 r15 r79 r75 ⟨r77, by rw [e57]; unfold am_rg; omega⟩ hk7) (by omega) (by omega) fun w9 hw9 => ?_
    rw [hw9]
    rw [eme] at K
    obtain ⟨z1, z2, z3, z4, z5⟩ := fin (w_lv (w_fs w7 2 4)) (s_me sb) C9 (fun _ _ _ => rfl) (fun _ _ _ => rfl)
    exact K _ z1 z2 z3 z4 z5
end
