/-! ===== the class runs as the evaluator: a call that is taken ===== -/
theorem r_find_inv {C : C_} {sil : Bool} {fn v : T_} {s : S_} {r : R_} (h : r_find C sil fn v s = some r) : s_dp s + r_sn r < 8 ∧ s_b s + r_lt r < 300 := by
  unfold r_find at h
  split at h
  · split at h
    · split at h
      · split at h
        · rename_i hh
          injection h with h
          rw [← h]
          exact hh
        · cases h
      · cases h
    · cases h
  · cases h
section
variable {C : C_} {sil : Bool} {o a0 : Nat} {D : Prop} {K0 : Int} {hb : Bool} {s s1 : S_} {E E1 : N_} {w : W_} {fr : Nat} {Q : Option am_V → W_ → Prop} {i : Int} {k : Nat} {n : Int} {id : Nat} {a b c v : T_}

theorem take_ct {W w1 : W_} {r : R_} {j : Nat} {fn y : T_} (H : CR C false o a0 D K0 s W) (q1 : n48 W w1) (hir : (s_me s)[j]? = some r) (hr1 : r_find C false fn y s = some r) (hct : 1 ≤ W.1 33 1 ∧ W.1 33 1 < 24000) : ww_Ct 97 4 [.inr (.inr (.inl 41)), .inl (j : Int)] (w_po w1) fun z w' => z = none ∧ tkA (w_tk0 (w_po w1) j o) w' j 45 := by
  obtain ⟨m1, m2, m3, m4, -⟩ := H.2.2.2
  obtain ⟨r1, r2, r3, r4, r5, r6, r7, r8⟩ := m3 j r hir
  obtain ⟨⟨C0, n0, E1, sx, sy, -, -, -, -, -, -, -, -, k9⟩, -⟩ := m4 r (List.mem_of_getElem? hir)
  obtain ⟨f1, f2⟩ := r_find_inv hr1
  have jl : j < (s_me s).length := by
    by_cases c : j < (s_me s).length
    · exact c
    · rw [List.getElem?_eq_none (by omega)] at hir; cases hir
  have e11 : ∀ k, w_g (w_po w1) 11 k = wg (W.2 11) k := fun k => by
    show w_g w1 11 k = _
    rw [wg_w, q1.2 11 (by decide)]
  have E1' : ∀ a i, a ≠ 33 → (w_po w1).1 a i = W.1 a i := fun a i h => by rw [w_po1, if_neg (by omega), q1.1]
  obtain ⟨⟨n, n1, n2, n3, -⟩, ⟨d1, d2⟩, d3, -⟩ := H.2.1
  have hcn := H.2.2.1.2.2.2
  have h14 := d1
  refine lk_97 (w := w_po w1) (x := (j : Int)) (o := o) (by rw [E1' 17 7 (by decide)]; exact H.1.1.2) H.1.1.1 ⟨by omega, by omega⟩ (by rw [E1' 17 3 (by decide)]; omega) (fun q z0 z1 => ?_) (by rw [E1' 41 15 (by decide)]; omega) (by rw [E1' 41 14 (by decide)]; omega) ?_
  · rw [e11, wg_n (n := 61 * j + 16 + q.toNat) (by omega), r8 q.toNat (by omega)]
    cases u : r_as r q.toNat with
    | false => rw [if_neg (by decide)]; exact ⟨by decide, by decide⟩
    | true =>
      obtain ⟨-, z, z1, z2⟩ := k9 _ u
      rw [if_pos rfl, z1]
      show am_rg z
      unfold am_rg
      omega
  · rw [e11, wg_n (n := 61 * j + 4) (by omega), r5]
    omega
theorem sim_take {m : Nat} {fn y e cl : T_} {E0 : N_} {w0 W w1 w' : W_} {r : R_} {j : Nat} {yz : Int} {nn : Int} {id' : Nat} {a' b' c' : T_} {hb' : Bool}
    (RW : RD C false o a0 D K0 hb s E W) (hc : W.1 33 1 = w0.1 33 1 + 1) (hc0 : 0 ≤ w0.1 33 1) (htx : hb = true → w0.1 41 13 < w0.1 33 1) (qW : fQ (w0.1 33 1) hb w0 W) (hfx : fn = .tag 12 (.append e cl)) (hcl : cl = n_clos E0 (e_use e) 10) (heW : eW W 0 hb' e) (he0 : e = ce 16 nn id' a' b' c') (cf : k_fit e cl = true) (hyz : y = vN yz) (hyv : W.1 41 11 = yz) (hd : W.1 41 10 = -1) (q1 : n48 W w1) (q2 : (s_me s)[j]? = some r) (q3 : r_is C (e_id e) (W.1 41 11) (k_nums e cl) r = true) (hr1 : r_find C false fn y s = some r) (q4 : tkA (w_tk0 (w_po w1) j o) w' j 45) (hq2 : o_body (ev C m) C true false fn y (u_rn s (s_rn s) (s_tk s + 1)) = some (v, s1)) (hB : s_b s1 ≤ 90000 ∧ s_nt s1 ≤ 900000)
    (K : ∀ i' w', i ≤ i' → i' + 12 * (s_b s : Int) ≤ i + 3 + 12 * (s_b s1 : Int) → RD C false o a0 D K0 hb s1 E w' → w'.1 33 1 = w0.1 33 1 → fQ (w0.1 33 1) hb w0 w' → vW_ w' v (w'.1 41 11) → w'.1 41 10 = -1 → dr fr Q i' w') : dr fr Q (i + 1) w' := by
  obtain ⟨f1, f2⟩ := r_find_inv hr1
  have hCm := RW.1.2.2.2
  obtain ⟨m1, m2, m3, m4, m5⟩ := hCm
  obtain ⟨r1, r2, r3, r4, r5, r6, r7, r8⟩ := m3 j r q2
  obtain ⟨hK, hTI⟩ := m4 r (List.mem_of_getElem? q2)
  have hK' := hK
  obtain ⟨C0, n0, E1, sx, sy, k1, k2, k3, k4, k5, k6, ⟨k7, k7b, -, -, kce⟩, k8, k9⟩ := hK
  -- the same function
  unfold r_is at q3
  rw [Bool.and_eq_true, Bool.and_eq_true, Bool.and_eq_true, List.all_eq_true, List.all_eq_true] at q3
  obtain ⟨⟨⟨g1, g2⟩, g3⟩, g4⟩ := q3
  have g1 : r_id r = e_id e := eq_of_beq g1
  have g2 : r_arg r = yz := by rw [eq_of_beq g2, hyv]
  have hri : r_id r = e_id (v_code (r_fn r)) := by
    conv => lhs; rw [k6]
    rfl
  have hce : isce e := ⟨16, nn, id', a', b', c', he0⟩
  have hcode : v_code (r_fn r) = e := tI_uniq hTI (tI_0 heW.2) kce hce (by rw [← hri]; exact g1)
  have hfn : r_fn r = fn := by
    rw [hfx]
    exact fn_same hK' he0 hcl hcode cf fun j hj => eq_of_beq (g3 j (List.mem_range.mpr hj))
  have hni : v_ni fn = true := by
    rw [hfx, hcl]
    rw [hcl] at cf
    exact fit_ni' cf
  have hyr : y = vN (r_arg r) := by rw [hyz, g2]
  rw [hyr] at hq2
  have hasq : ∀ q, r_as r q = true → C.1 q = r_an r q := fun q hq => by
    have z := g4 q (List.mem_range.mpr (k9 q hq).1)
    rw [hq] at z
    exact (eq_of_beq z).symm
  obtain ⟨t1, ⟨t2, t3, t4⟩, t5, ⟨t6, t7, t8, t9⟩, ⟨t10, t11⟩, ⟨t12, t13, t14⟩, t15⟩ := take_E hK' hfn f1 f2 hasq hni hq2
  have hl := RW.2.2.2.2.2.1
  have mm := o_body_M (hb := false) (ev_M C m) hq2 hl
  have wm := o_body_W (ev_W C m) hq2
  have sm := (o_body_S (ev_S C m) (fun _ => rfl) hq2 (by rw [hfx]; rfl) hni rfl).1
  have wm : s_nd s1 + 11 * s_tb s ≤ s_nd s + 11 * s_tb s1 + 0 := wm
  have sm1 : s_tb s ≤ 2000 → s_tb s1 ≤ 2000 := sm.1
  have sm2 : s_rw s ≤ 2040 → s_rw s1 ≤ 2040 := sm.2.1
  have sm4 : s_nd s ≤ s_nd s1 := sm.2.2.2.1
  have mtb : s_tb s ≤ s_tb s1 := mm.2.2.2.2.2.2.2.2.1
  have mtb2 : s_tb s1 + s_b s ≤ s_b s1 + s_tb s := mm.2.2.2.2.2.2.2.2.2.1
  have mlt : s_lt s1 ≤ s_b s1 := mm.2.2.2.2.1
  have mrw : s_rw s ≤ s_rw s1 := sm.2.2.2.2
  -- the world
  obtain ⟨a1, a2, ⟨a3, a3'⟩, a4, a5, a6⟩ := q4
  have ho' := RW.1.1.1.1
  have hoW := RD_oK RW.1
  have P1 : ∀ a i, a ≠ 33 → (w_po w1).1 a i = W.1 a i := fun a i h => by rw [w_po1, if_neg (by omega), q1.1]
  have P33 : (w_po w1).1 33 1 = w0.1 33 1 := by
    rw [w_po1, if_pos ⟨rfl, rfl⟩, q1.1, hc]
    split <;> omega
  have e11 : ∀ k, w_g (w_po w1) 11 k = wg (W.2 11) k := fun k => by
    show w_g w1 11 k = _
    rw [wg_w, q1.2 11 (by decide)]
  have T1 : ∀ a i, (w_tk0 (w_po w1) j o).1 a i = if a = o ∧ i = 8 then (w_po w1).1 o 8 + 1 else if a = 17 ∧ i = 4 then (w_po w1).1 17 4 + w_g (w_po w1) 11 ((j : Int) * 61 + 3) else if a = 41 ∧ i = 16 then (w_po w1).1 17 4 + w_g (w_po w1) 11 ((j : Int) * 61 + 5) else if a = 41 ∧ i = 15 then (if (w_po w1).1 41 15 < (w_po w1).1 41 14 + 1 + w_g (w_po w1) 11 ((j : Int) * 61 + 4) then (w_po w1).1 41 14 + 1 + w_g (w_po w1) 11 ((j : Int) * 61 + 4) else (w_po w1).1 41 15) else if a = 41 ∧ i = 11 then w_g (w_po w1) 11 ((j : Int) * 61 + 2) else (w_po w1).1 a i := fun a i => rfl
  rw [e11, e11, e11, e11, wg_n (n := 61 * j + 3) (by omega), wg_n (n := 61 * j + 5) (by omega), wg_n (n := 61 * j + 4) (by omega), wg_n (n := 61 * j + 2) (by omega), r4, r5, r6, P1 41 15 (by decide), P1 41 14 (by decide), P1 17 4 (by decide), P1 o 8 (by omega)] at T1
  have Z1 : ∀ a i, ¬ (a = 17 ∧ (i = 3 ∨ i = 4)) → ¬ (a = 41 ∧ (i = 11 ∨ i = 15 ∨ i = 16)) → ¬ (a = o ∧ i = 8) → a ≠ 33 → w'.1 a i = W.1 a i := fun a i b1 b2 b3 b4 => by
    rw [a1 a i (by omega), T1, if_neg b3, if_neg (by omega), if_neg (by omega), if_neg (by omega), if_neg (by omega), P1 a i b4]
  have Z33 : w'.1 33 1 = w0.1 33 1 := by
    rw [a1 33 1 (by decide), T1, if_neg (by omega), if_neg (by decide), if_neg (by decide), if_neg (by decide), if_neg (by decide)]
    exact P33
  have Z17 : w'.1 17 4 = (s_b s1 : Int) := by
    rw [a1 17 4 (by decide), T1, if_neg (by omega), if_pos ⟨rfl, rfl⟩, RW.1.1.2.1.1, t2]
    omega
  have Z16 : w'.1 41 16 = (s_lt s1 : Int) := by
    rw [a1 41 16 (by decide), T1, if_neg (by omega), if_neg (by decide), if_pos ⟨rfl, rfl⟩, RW.1.1.2.1.1, t3]
    omega
  have Z15 : w'.1 41 15 = if W.1 41 15 < W.1 41 14 + 1 + (r_sn r : Int) then W.1 41 14 + 1 + (r_sn r : Int) else W.1 41 15 := by
    rw [a1 41 15 (by decide), T1, if_neg (by omega), if_neg (by decide), if_neg (by decide), if_pos ⟨rfl, rfl⟩]
  have Z11 : w'.1 41 11 = W.2 11 (61 * j + 2) := by
    rw [a1 41 11 (by decide), T1, if_neg (by omega), if_neg (by decide), if_neg (by decide), if_neg (by decide), if_pos ⟨rfl, rfl⟩]
  have Z8 : w'.1 o 8 = W.1 o 8 + 1 := by
    rw [a1 o 8 (by omega), T1, if_pos ⟨rfl, rfl⟩]
  have b3 : (w_tk0 (w_po w1) j o).1 17 3 = W.1 17 3 := by
    rw [T1, if_neg (by omega), if_neg (by decide), if_neg (by decide), if_neg (by decide), if_neg (by decide), P1 17 3 (by decide)]
  rw [b3] at a3 a3' a4 a5 a6
  have T2 : ∀ b, b ≠ 48 → (w_tk0 (w_po w1) j o).2 b = W.2 b := fun b h => q1.2 b h
  have Z2 : ∀ b, b ≠ 22 → b ≠ 48 → w'.2 b = W.2 b := fun b h1 h2 => (a2 b h1).trans (T2 b h2)
  have e11t : ∀ k, w_g (w_tk0 (w_po w1) j o) 11 k = wg (W.2 11) k := fun k => by rw [wg_w, T2 11 (by decide)]
  have row : ∀ q : Nat, q < 45 → (w_g (w_tk0 (w_po w1) j o) 11 ((j : Int) * 61 + 16 + (q : Int)) ≠ 20005 ↔ r_as r q = true) := fun q hq => by
    rw [e11t, wg_n (n := 61 * j + 16 + q) (by omega), r8 q hq]
    cases u : r_as r q with
    | false => exact ⟨fun z => absurd rfl z, fun z => by cases z⟩
    | true =>
      obtain ⟨-, z, z1, z2⟩ := k9 _ u
      rw [if_pos rfl, z1]
      exact ⟨fun _ => rfl, fun _ => by show z ≠ 20005; omega⟩
  have X : xP W w' := by
    refine ⟨⟨by rw [Z1 13 2 (by omega) (by omega) (by omega) (by decide)]; exact Int.le_refl _, fun k _ => by rw [Z2 13 (by decide) (by decide)]⟩, fun i => Z1 50 i (by omega) (by omega) (by omega) (by decide), ⟨Z2 _ (by decide) (by decide), Z2 _ (by decide) (by decide), Z2 _ (by decide) (by decide), Z2 _ (by decide) (by decide), Z2 _ (by decide) (by decide), Z2 _ (by decide) (by decide), a3, fun k hk => ?_, rQ_1 (fun a j q => Z1 a j (by omega) (by omega) (by rw [(CR_o RW.1).1] at q; omega) (by omega)) (fun b q => Z2 b (by omega) (by omega))⟩, ⟨Z1 _ _ (by omega) (by omega) (by omega) (by decide), Z2 _ (by omega) (by omega), Z1 _ 4 (by omega) (by omega) (by omega) (by omega)⟩, fun m hb t q => ?_⟩
    · rw [a4 k hk, T2 22 (by decide)]
    · unfold eW0 at q ⊢
      rw [Z2 3 (by decide) (by decide), Z2 5 (by decide) (by decide), Z2 37 (by decide) (by decide), Z2 46 (by decide) (by decide), Z2 7 (by decide) (by decide)]
      exact q
  have hcn := RW.1.2.2.1.2.2.2
  obtain ⟨⟨n, n1, n2, n3, n4, n5⟩, ⟨d1, d2⟩, d3, d4, d5, d6⟩ := RW.1.2.1
  have Z14 : w'.1 41 14 = W.1 41 14 := Z1 _ _ (by omega) (by omega) (by omega) (by decide)
  have QH : fQ (w0.1 33 1) hb W w' := ⟨⟨Z1 _ _ (by omega) (by omega) (by omega) (by decide), Z1 _ _ (by omega) (by omega) (by omega) (by decide)⟩, fun k _ => Or.inr (by rw [Z2 34 (by decide) (by decide)]), fun k _ => by rw [Z2 42 (by decide) (by decide)], X⟩
  have Q0 : fQ (w0.1 33 1) false W w' := ⟨QH.1, fun k _ => Or.inr (by rw [Z2 34 (by decide) (by decide)]), QH.2.2⟩
  have hC : CR C false o a0 D K0 s1 w' := by
    refine ⟨?_, ⟨⟨(w'.1 17 3).toNat, by omega, by omega, by omega, fun k hk => ?_, fun q hq => ?_⟩, ⟨by rw [Z14, t8]; exact d1, by rw [t8]; exact d2⟩, ?_, fun z => ⟨?_, Z16⟩, ?_, ?_⟩, ?_, ?_⟩
    · have Ha := RW.1.1
      unfold CRa at Ha ⊢
      rw [Z1 17 7 (by omega) (by omega) (by omega) (by decide), Z17, Z1 17 5 (by omega) (by omega) (by omega) (by decide), Z1 17 6 (by omega) (by omega) (by omega) (by decide), Z1 o 5 (by omega) (by omega) (by omega) (by omega), Z2 (o + 3) (by omega) (by omega), Z2 18 (by decide) (by decide), t6, t7]
      exact ⟨Ha.1, ⟨rfl, Ha.2.1.2⟩, Ha.2.2⟩
    · by_cases c : (k : Int) < W.1 17 3
      · rw [a4 k c, T2 22 (by decide)]
        exact n4 k (by omega)
      · exact (a5 k (by omega) (by omega)).1
    · rw [t5]
      show (s_as s q || r_as r q) = true ↔ _
      rw [Bool.or_eq_true, n5 q hq]
      constructor
      · rintro (⟨k, k1, k2, k3⟩ | hh)
        · exact ⟨k, k1, by omega, by rw [a4 k (by omega), T2 22 (by decide)]; exact k3⟩
        · obtain ⟨k, k1, k2, k3⟩ := a6 (q : Int) (by omega) (by omega) ((row q hq).mpr hh)
          exact ⟨k, by omega, by omega, k3⟩
      · rintro ⟨k, k1, k2, k3⟩
        by_cases c : (k : Int) < W.1 17 3
        · rw [a4 k c, T2 22 (by decide)] at k3
          exact Or.inl ⟨k, k1, by omega, k3⟩
        · have z := (a5 k (by omega) (by omega)).2
          rw [k3] at z
          exact Or.inr ((row q hq).mp z)
    · rw [Z15]
      split <;> omega
    · have z4 := d4 z
      rw [Z15, t8, t4]
      split <;> omega
    · rw [Z16]
      unfold am_rg
      omega
    · rw [Z1 41 17 (by omega) (by omega) (by omega) (by decide)]; exact d6
    · have Hc := RW.1.2.2.1
      unfold CRc fW0 at Hc ⊢
      obtain ⟨⟨c1, c2, c3⟩, c4, c5, ⟨c6, c6', c6''⟩, c7, c8, c9, c10, c11, c12⟩ := Hc
      rw [Z1 o 7 (by omega) (by omega) (by omega) (by omega), Z8, Z1 13 2 (by omega) (by omega) (by omega) (by decide), Z2 46 (by decide) (by decide), Z2 13 (by decide) (by decide), Z2 3 (by decide) (by decide), Z2 5 (by decide) (by decide), Z2 37 (by decide) (by decide), Z2 44 (by decide) (by decide), Z2 7 (by decide) (by decide), t10, t11, t13, t14]
      obtain ⟨c1a, c1b⟩ := c1 rfl
      refine ⟨⟨fun _ => ⟨c1a, by rw [c1b]; rfl⟩, c2, c3⟩, c4, c5, ⟨c6, by omega, c6''⟩, by omega, sm1 c8, sm2 c9, by omega, by omega, by omega⟩
    · unfold CRm
      rw [Z1 10 1 (by omega) (by omega) (by omega) (by decide), Z1 13 3 (by omega) (by omega) (by omega) (by decide), Z1 13 2 (by omega) (by omega) (by omega) (by decide), Z2 11 (by decide) (by decide), Z2 13 (by decide) (by decide), Z2 3 (by decide) (by decide), Z2 5 (by decide) (by decide), Z2 7 (by decide) (by decide), t12]
      exact ⟨m1, m2, m3, m4, m5⟩
  have hv : vW_ w' v (w'.1 41 11) := by
    rw [Z11, t1]
    have hbody : e_imp e = false := fl_imp heW.1 (by rw [he0]; rfl) hce (k_fit_iff.mp cf).1
    have hfl : isFL e := ⟨16, nn, id', a', b', c', he0, Or.inl rfl⟩
    have hin : e_in (e_part e) e := by
      have hpe : e_part e = a' := by rw [he0]; rfl
      rw [hpe]
      have z := e_in_refl e
      rw [he0] at z ⊢
      exact (e_in_c z).1
    have hCd := ev_C (P := fun t => e_in t e ∨ t = .nil) (cP_in hbody) C0 n0 _ _ _ _ _ _ _ _ k4 (Or.inl (by rw [hcode]; exact hin)) (by
      rw [hcode, hfn, hfx]
      show n_cd _ (n_body e cl (vN (r_arg r)) _)
      rw [hcl]
      rw [hcl] at cf
      exact body_cd hfl cf)
    obtain ⟨-, U, u1, u2, -⟩ := m5
    obtain ⟨f, hf, hfin⟩ := heW.2
    have hf3 : r_id r / 60 = f := by
      rw [g1]
      exact tI_fid hf.1.1 hf.1.2 hfin hce
    obtain ⟨w1', -, w3, -⟩ := u1 f hf.1.1
    have hg := CR_gN RW.1
    refine vW_x X hcn.1.1 ⟨vR_cd (P := fun t => e_in t e ∨ t = .nil) (S := fun x => x ∈ U f) (fun u hu hfl' => ?_) (fun x x0 hx => ⟨fun _ => (hg.2 f hf.1.1 hf.2 x x0).mp (w3 x hx), (w1' x hx).2⟩) _ _ r3.1 hCd.2.1 (by rw [← hf3]; exact u2 j r q2), r3.2⟩
    obtain ⟨k', n', i', x', y', z', eu, hk'⟩ := hfl'
    have hce' : isce u := ⟨k', n', i', x', y', z', eu⟩
    rcases hu with hu | hu
    · obtain ⟨hbu, heu⟩ := eR_in e 0 _ heW.1 u hu hce'
      exact ⟨⟨k', n', i', x', y', z', hbu, eu, hk', heu⟩, f, hf, e_in_tr hu _ hfin⟩
    · rw [hu] at hce'
      exact absurd hce' isce_nil
  refine K (i + 1) w' (by omega) (by omega) ⟨hC, fun k hk => ?_, ?_, ?_, ?_, mlt, ?_, ?_⟩ Z33 (fQ_tr qW QH) hv (by rw [Z1 41 10 (by omega) (by omega) (by omega) (by decide)]; exact hd)
  · have h9 := RW.2.1 k hk
    rw [Z2 42 (by decide) (by decide), Z1 41 12 (by omega) (by omega) (by omega) (by decide)]
    cases q : E k with
    | none => rw [q] at h9; exact h9
    | some u => rw [q] at h9; exact vW_x X hcn.1.1 h9
  · intro q
    obtain ⟨b1, b2, b3', b4, b5⟩ := RW.2.2.1 q
    have ht13 : W.1 41 13 < w0.1 33 1 := by
      rw [qW.1.2]
      exact htx q
    rw [t9, Z2 34 (by decide) (by decide), Z1 41 13 (by omega) (by omega) (by omega) (by decide), Z33]
    exact ⟨by omega, cW_x X b2, b3', b4, b5⟩
  · have := RW.2.2.2.1
    rw [Z33]
    omega
  · have := RW.2.2.2.2.1
    rw [Z1 41 12 (by omega) (by omega) (by omega) (by decide)]
    omega
  · rw [Z2 3 (by decide) (by decide)]; exact RW.2.2.2.2.2.2.1
  · rw [Z2 3 (by decide) (by decide), Z2 5 (by decide) (by decide), Z2 7 (by decide) (by decide)]; exact RW.2.2.2.2.2.2.2
end
