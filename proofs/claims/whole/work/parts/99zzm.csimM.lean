/-! ===== the class runs as the evaluator: a body is entered, a call is kept ===== -/
section
variable {C : C_} {sil : Bool} {o a0 : Nat} {D : Prop} {K0 : Int} {hb : Bool} {s s1 : S_} {E E1 : N_} {w : W_} {fr : Nat} {Q : Option am_V → W_ → Prop} {i : Int} {k : Nat} {n : Int} {id : Nat} {a b c v : T_}

theorem en_ct {V : W_} {x y : Int} {fn e cl : T_} {id : Nat} (H : RD C sil o a0 D K0 hb s E V) (hfn : fn = .tag 12 (.append e cl)) (hid : e_id e = id) (hf : vW_ V fn x) (h1 : 1 ≤ V.1 33 1 ∧ V.1 33 1 < 24000) : ww_Ct 98 5 [.inr (.inr (.inl 41)), .inl x, .inl y] V fun r w' => r = none ∧ w' = w_en V x y id o := by
  have Ha := H.1.1
  have hcn := H.1.2.2.1.2.2.2
  have hrow := H.2.2.2.2.1
  rw [hfn] at hf
  obtain ⟨⟨hN1, p3, ⟨⟨kk, n, id', a, b, c, hb', he0, hk, eRx⟩, tIx⟩, pc, ⟨E0, hcl⟩, hk16⟩, -⟩ := hf
  have eid : id' = id := by rw [he0] at hid; exact hid
  have k16 : kk = 16 := by rw [he0] at hk16; exact hk16
  subst eid k16
  have he : eW V 0 hb' e := ⟨eRx, tIx⟩
  rw [he0] at he
  have heR := he.1
  obtain ⟨-, -, -, -, -, -, -, -, hs1, -⟩ := heR
  obtain ⟨⟨i1, i2, i3, i4, i5, i6⟩, -, -, -, -, -, hu⟩ := eW_ce he
  obtain ⟨-, -, hown⟩ := hu (Or.inl rfl)
  have hown := hown rfl
  have hx0 := hN1.1
  rw [hcl] at pc
  have hln : -1 ≤ w_g V 37 ((id' : Int) * 9 + 7) - 1 ∧ w_g V 37 ((id' : Int) * 9 + 7) - 1 < 10 := by
    rw [hown]
    cases ow : e_own (ce 16 n id' a b c) with
    | none => exact ⟨by decide, by decide⟩
    | some j =>
      have hj : j < 10 := by
        rcases hs1 (by decide) with q | ⟨z, q, z1, z2⟩
        · rw [q] at ow; cases ow
        · rw [q] at ow
          have ow : some z.toNat = some j := ow
          injection ow with ow
          omega
      show -1 ≤ (j : Int) ∧ (j : Int) < 10
      omega
  rw [hid] at p3
  exact lk_98 (id := (id' : Int)) (o := o) Ha.1.2 Ha.1.1 h1 ⟨by omega, by omega⟩ p3 ⟨by omega, by omega⟩ ⟨by omega, by omega⟩ (cn_of hcn.1.1 (by omega) 10 10 _ (Nat.le_refl _) (Nat.le_refl _) pc) hln (by omega)
theorem kp_11 {w : W_} {id arg v b nest lt : Int} {n : Nat} (hn : w.1 10 1 = (n : Int)) (k : Nat) : (w_kp w id arg v b nest lt).2 11 k = if 61 * n + 6 ≤ k ∧ k < 61 * n + 16 then w.2 48 (k - (61 * n + 6)) else if k = 61 * n + 5 then lt else if k = 61 * n + 4 then nest else if k = 61 * n + 3 then b else if k = 61 * n + 2 then v else if k = 61 * n + 1 then arg else if k = 61 * n then id else w.2 11 k := by
  have ua : ∀ (A : W_) (q : Nat) (z : Int) (k : Nat), (w_a A 11 q z).2 11 k = if k = q then z else A.2 11 k := fun A q z k => by
    show w_u A.2 11 q z 11 k = _
    rw [w_u_at]
    by_cases c : k = q
    · rw [if_pos ⟨rfl, c⟩, if_pos c]
    · rw [if_neg (fun h => c h.2), if_neg c]
  have uf : ∀ (X : W_) (a j : Nat) (x : Int), (w_f X a j x).2 = X.2 := fun _ _ _ _ => rfl
  have i0 : ((n : Int) * 61 + 0).toNat = 61 * n := by omega
  have i1 : ((n : Int) * 61 + 1).toNat = 61 * n + 1 := by omega
  have i2 : ((n : Int) * 61 + 2).toNat = 61 * n + 2 := by omega
  have i3 : ((n : Int) * 61 + 3).toNat = 61 * n + 3 := by omega
  have i4 : ((n : Int) * 61 + 4).toNat = 61 * n + 4 := by omega
  have i5 : ((n : Int) * 61 + 5).toNat = 61 * n + 5 := by omega
  unfold w_kp w_tnum
  rw [hn, i0, i1, i2, i3, i4, i5]
  dsimp only
  by_cases c : 61 * n + 6 ≤ k ∧ k < 61 * n + 16
  · rw [if_pos c, if_pos ⟨rfl, by omega, by omega⟩]
    have e : ((k : Int) - ((n : Int) * 61 + 6)).toNat = k - (61 * n + 6) := by omega
    rw [e, w_a_2ne _ _ _ (by decide), w_a_2ne _ _ _ (by decide), w_a_2ne _ _ _ (by decide), uf, w_a_2ne _ _ _ (by decide), w_a_2ne _ _ _ (by decide), w_a_2ne _ _ _ (by decide)]
  · rw [if_neg c, if_neg (by omega), ua, ua, ua, uf, ua, ua, ua]
theorem CR_kp {W W1 W2 : W_} {r : R_} {vx : Int} {n0 : Nat} (H : CR C false o a0 D K0 s W) (h48 : n48 W W1) (hn : ∀ m : Nat, m < 10 → W1.2 48 m = (r_nums r m).getD 20005) (hlen : (s_me s).length < 60) (hA : tA (w_kp W1 (r_id r) (r_arg r) vx (r_b r) (r_sn r) (r_lt r)) W2 (W1.1 10 1) n0 (W1.1 17 3)) (hv : vR (W.1 13 2) (W.2 13) (fun _ => True) (r_val r) vx) (hK : KR r) (hT : tI0 (W.2 3) (W.2 5) (W.2 7) (v_code (r_fn r))) (hU : kU (W.1 13 2) (W.1 13 3) (W.2 13) (W.2 11) (W.2 7) (s_me s) (r_id r / 60) vx) (has : ∀ q : Nat, q < 45 → (r_as r q = true ↔ ∃ i : Int, (n0 : Int) ≤ i ∧ i < W.1 17 3 ∧ w_g W 22 i = q)) (han : r_an r = C.1) : CR C false o a0 D K0 (u_me s (s_me s ++ [r])) W2 ∧ (∀ a j, ¬ (a = 10 ∧ j = 1) → W2.1 a j = W.1 a j) ∧ ∀ b, b ≠ 11 → b ≠ 48 → W2.2 b = W.2 b := by
  obtain ⟨e1, e2⟩ := h48
  obtain ⟨t1, t2, t3, t4⟩ := hA
  obtain ⟨Ha, Hb, Hc, Hm⟩ := H
  have ho := Ha.1.1
  have hAC := Ha.2.2.2
  obtain ⟨m1, m2, m3, m4, -⟩ := Hm
  have c10 : W1.1 10 1 = ((s_me s).length : Int) := by rw [e1]; exact m1
  have k1 : ∀ a j, (w_kp W1 (r_id r) (r_arg r) vx (r_b r) (r_sn r) (r_lt r)).1 a j = if a = 10 ∧ j = 1 then W1.1 10 1 + 1 else W1.1 a j := fun a j => rfl
  have E1 : ∀ a j, ¬ (a = 10 ∧ j = 1) → W2.1 a j = W.1 a j := fun a j q => by rw [t1, k1, if_neg q, e1]
  have E10 : W2.1 10 1 = ((s_me s).length : Int) + 1 := by rw [t1, k1, if_pos ⟨rfl, rfl⟩, c10]
  have E2 : ∀ b, b ≠ 11 → b ≠ 48 → W2.2 b = W.2 b := fun b q1 q2 => by rw [t2 b q1, w_kp_2ne _ _ _ _ _ _ _ q1, e2 b q2]
  have K11 := fun k => kp_11 (w := W1) (id := (r_id r : Int)) (arg := r_arg r) (v := vx) (b := (r_b r : Int)) (nest := (r_sn r : Int)) (lt := (r_lt r : Int)) c10 k
  have L11 : ∀ k : Nat, k < 61 * (s_me s).length + 16 → W2.2 11 k = (w_kp W1 (r_id r) (r_arg r) vx (r_b r) (r_sn r) (r_lt r)).2 11 k := fun k hk => t3 k (Or.inl (by rw [c10]; omega))
  have Old : ∀ k : Nat, k < 61 * (s_me s).length → W2.2 11 k = W.2 11 k := fun k hk => by
    rw [L11 k (by omega), K11, if_neg (by omega), if_neg (by omega), if_neg (by omega), if_neg (by omega), if_neg (by omega), if_neg (by omega), if_neg (by omega), e2 11 (by decide)]
  refine ⟨⟨?_, ?_, ?_, ⟨?_, ?_, fun i r' hr' => ?_, fun r' hr' => ?_, ?_⟩⟩, E1, E2⟩
  · unfold CRa at Ha ⊢
    rw [E1 17 7 (by omega), E1 17 4 (by omega), E1 17 5 (by omega), E1 17 6 (by omega), E1 o 5 (by omega), E2 (o + 3) (by omega) (by omega), E2 18 (by decide) (by decide)]
    exact Ha
  · unfold CRb at Hb ⊢
    rw [E1 17 3 (by omega), E2 22 (by decide) (by decide), E1 41 14 (by omega), E1 41 15 (by omega), E1 41 16 (by omega), E1 41 17 (by omega)]
    exact Hb
  · unfold CRc fW0 at Hc ⊢
    rw [E1 o 7 (by omega), E1 o 8 (by omega), E1 13 2 (by omega), E2 46 (by decide) (by decide), E2 13 (by decide) (by decide), E2 3 (by decide) (by decide), E2 5 (by decide) (by decide), E2 37 (by decide) (by decide), E2 44 (by decide) (by decide), E2 7 (by decide) (by decide)]
    exact Hc
  · rw [E10]
    show _ = (((s_me s ++ [r]).length : Nat) : Int)
    rw [List.length_append]
    rfl
  · show (s_me s ++ [r]).length ≤ 60
    rw [List.length_append]
    show (s_me s).length + 1 ≤ 60
    omega
  · have hr' : (s_me s ++ [r])[i]? = some r' := hr'
    rw [E1 13 2 (by omega), E2 13 (by decide) (by decide)]
    by_cases c : i < (s_me s).length
    · rw [List.getElem?_append_left c] at hr'
      obtain ⟨r1, r2, r3, r4, r5, r6, r7, r8⟩ := m3 i r' hr'
      refine ⟨by rw [Old _ (by omega)]; exact r1, by rw [Old _ (by omega)]; exact r2, by rw [Old _ (by omega)]; exact r3, by rw [Old _ (by omega)]; exact r4, by rw [Old _ (by omega)]; exact r5, by rw [Old _ (by omega)]; exact r6, fun m hm => by rw [Old _ (by omega)]; exact r7 m hm, fun q hq => by rw [Old _ (by omega)]; exact r8 q hq⟩
    · rw [List.getElem?_append_right (by omega)] at hr'
      have ei : i = (s_me s).length := by
        by_cases c2 : i - (s_me s).length = 0
        · omega
        · rw [List.getElem?_eq_none (by show 1 ≤ i - (s_me s).length; omega)] at hr'
          cases hr'
      rw [ei, Nat.sub_self] at hr'
      have er : r = r' := by
        have hr' : some r = some r' := hr'
        injection hr'
      rw [← er, ei]
      refine ⟨?_, ?_, ?_, ?_, ?_, ?_, fun m hm => ?_, fun q hq => ?_⟩
      · rw [L11 _ (by omega), K11, if_neg (by omega), if_neg (by omega), if_neg (by omega), if_neg (by omega), if_neg (by omega), if_neg (by omega), if_pos rfl]
      · rw [L11 _ (by omega), K11, if_neg (by omega), if_neg (by omega), if_neg (by omega), if_neg (by omega), if_neg (by omega), if_pos rfl]
      · rw [L11 _ (by omega), K11, if_neg (by omega), if_neg (by omega), if_neg (by omega), if_neg (by omega), if_pos rfl]
        exact hv
      · rw [L11 _ (by omega), K11, if_neg (by omega), if_neg (by omega), if_neg (by omega), if_pos rfl]
      · rw [L11 _ (by omega), K11, if_neg (by omega), if_neg (by omega), if_pos rfl]
      · rw [L11 _ (by omega), K11, if_neg (by omega), if_pos rfl]
      · rw [L11 _ (by omega), K11, if_pos (by omega)]
        have e : 61 * (s_me s).length + 6 + m - (61 * (s_me s).length + 6) = m := by omega
        rw [e]
        exact hn m hm
      · obtain ⟨A, B⟩ := t4 (q : Int) (by omega) (by omega)
        have ix : (W1.1 10 1 * 61 + 16 + (q : Int)).toNat = 61 * (s_me s).length + 16 + q := by rw [c10]; omega
        rw [ix] at A B
        have g22 : ∀ i, w_g (w_kp W1 (r_id r) (r_arg r) vx (r_b r) (r_sn r) (r_lt r)) 22 i = w_g W 22 i := fun i => by rw [wg_w, wg_w, w_kp_2ne _ _ _ _ _ _ _ (by decide), e2 22 (by decide)]
        have g18 : w_g (w_kp W1 (r_id r) (r_arg r) vx (r_b r) (r_sn r) (r_lt r)) 18 (q : Int) = W.2 18 q := by rw [wg_w, w_kp_2ne _ _ _ _ _ _ _ (by decide), e2 18 (by decide), wg_n (n := q) rfl]
        rw [g18] at A
        have h17 : W1.1 17 3 = W.1 17 3 := by rw [e1]
        cases qa : r_as r q with
        | true =>
          obtain ⟨i, i1, i2, i3⟩ := (has q hq).mp qa
          rw [if_pos rfl, A ⟨i, i1, by rw [h17]; exact i2, by rw [g22]; exact i3⟩, han]
          have z := hAC q hq
          cases y : C.1 q with
          | none => rw [y] at z; exact z
          | some u => rw [y] at z; exact z.1
        | false =>
          rw [if_neg Bool.false_ne_true, B fun i i1 i2 i3 => ?_]
          have : r_as r q = true := (has q hq).mpr ⟨i, i1, by rw [← h17]; exact i2, by rw [← g22]; exact i3⟩
          rw [qa] at this
          cases this
  · rw [E2 3 (by decide) (by decide), E2 5 (by decide) (by decide), E2 7 (by decide) (by decide)]
    have hr' : r' ∈ s_me s ++ [r] := hr'
    rcases List.mem_append.mp hr' with q | q
    · exact m4 r' q
    · have e : r' = r := List.mem_singleton.mp q
      rw [e]
      exact ⟨hK, hT⟩
  · rw [E1 13 2 (by omega), E1 13 3 (by omega), E2 13 (by decide) (by decide), E2 7 (by decide) (by decide)]
    obtain ⟨hk, U, u1, u2, u3, u4⟩ := hU
    refine ⟨hk, U, fun f hf => ?_, fun i r' hr' h30 => ?_, u4⟩
    · obtain ⟨v1, v2, v3⟩ := u1 f hf
      refine ⟨v1, ?_, v3⟩
      show (U f).length ≤ 3961 * rN (s_me s ++ [r]) f
      rw [rN_app]
      exact v2
    · have hr' : (s_me s ++ [r])[i]? = some r' := hr'
      by_cases c : i < (s_me s).length
      · rw [List.getElem?_append_left c] at hr'
        rw [Old _ (by omega)] at h30 ⊢
        exact u2 i r' hr' h30
      · rw [List.getElem?_append_right (by omega)] at hr'
        have ei : i = (s_me s).length := by
          by_cases c2 : i - (s_me s).length = 0
          · omega
          · rw [List.getElem?_eq_none (by show 1 ≤ i - (s_me s).length; omega)] at hr'
            cases hr'
        rw [ei, Nat.sub_self] at hr'
        have er : r = r' := by
          have hr' : some r = some r' := hr'
          injection hr'
        have ev : W2.2 11 (61 * i + 2) = vx := by
          rw [ei, L11 _ (by omega), K11, if_neg (by omega), if_neg (by omega), if_neg (by omega), if_neg (by omega), if_pos rfl]
        rw [ev] at h30 ⊢
        rw [← er]
        exact u3 h30
end
