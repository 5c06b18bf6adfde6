/-! ===== realizing: labels, things, which rule ===== -/
section
variable {sil : Bool} {s s1 : S_} {w w' : W_} {Γ Γ' : rG_} {G : G_} {q q1 : Q_} {fr K L : Nat} {P : Option am_V → W_ → Prop} {y : Int}
/-- a label -/
theorem rX_e3 {c n m : Nat} {l : List F_} (H : rXC G sil s q w Γ) (h52 : w.1 73 52 = (n : Int)) (hT : rST w Γ 910 (rLm s) n l) (e : lT (q_fr q) = l) (hK : rKf (q_fr q)) (hc : 0 < c ∧ c < 8192) (hk : w.2 92 c = 2) (ha : w.2 93 c = (m : Int)) (hm : m < 10) (h1 : 1 ≤ fr) (LL : ∀ w', rXR G sil s (q_label m q) w' Γ → zr234 (fr + 3) P 23 y w') : zs230 fr (rGo (fr + 3) P y) 34 (c : Int) w := by
  have cc : ((c : Int)).toNat = c := by omega
  refine lk_230d (k := 2) (by omega) (by rw [cc]; exact hk) (by omega) (by omega) (lk_230l (R := fun w' => rXC G sil s (q_label m q) w' Γ ∧ w'.1 = w.1 ∧ ∀ b, b ≠ 105 → b ≠ 106 → w'.2 b = w.2 b) h1 (by omega) rfl ?_ ?_)
  · rw [cc, ha]
    exact lk_229 H hm
  · rintro w1 ⟨g1, g2, g3⟩
    refine ⟨rfl, LL w1 (rX_fin (l := l) (n := n) g1 (by rw [q_label_f]; exact e) (by rw [g2]; exact h52) (rST_w (w := w) (fun j _ => by rw [g2]) (fun b _ _ => g3 b (by omega) (by omega)) ⟨g3 107 (by decide) (by decide), g3 108 (by decide) (by decide), g3 109 (by decide) (by decide), g3 110 (by decide) (by decide)⟩ hT) (by rw [q_label_f]; exact hK))⟩
theorem q_ly0_f (n d : Int) (q : Q_) : q_fr (q_ly0 n d q) = q_fr q := rfl
/-- a thing is laid -/
theorem rX_lay {n d : Int} (H : rXC G sil s q w Γ) (hd : 0 ≤ d ∧ d ≤ 9999) (ht : (q_th q).length + 1 ≤ q_el q) (hp : q_pg q + (q_wi q : Nat) + 1 ≤ 2 * (q_el q : Nat)) : rXC G sil s (q_lay G n d q) (r_ly (if w.1 73 3 < w.1 73 67 + d ∧ w.1 73 58 < w.1 73 67 then r_nl w else w) n d) Γ := by
  obtain ⟨-, -, ⟨⟨⟨-, x2, -, -⟩, ⟨-, -, x7, -⟩, x9, -⟩, ⟨b1, b1', -, -⟩, ⟨-, -, b2, b2'⟩, ⟨-, -, -, -, b7, b8⟩, -⟩, -⟩ := id H
  rw [q_lay_0, x2, x7, x9]
  by_cases c : G.2.2.2.1 < q_pn q + d ∧ q_in q < q_pn q
  · rw [if_pos c, if_pos c]
    have z := rX_nl H hp
    rw [q_nl_f] at z ⊢
    exact rX_ly z hd (by show q_in q + d ≤ 10002; omega) ht
  · rw [if_neg c, if_neg c]
    exact rX_ly H hd (by omega) ht
/-- .. and what waits -/
theorem rX_ely {n : Nat} {l : List F_} {x d : Int} (H : rXC G sil s q w Γ) (h52 : w.1 73 52 = (n : Int)) (hT : rST w Γ 910 (rLm s) n l) (e : lT (q_fr q) = l) (hK : rKf (q_fr q)) (hd : 0 ≤ d ∧ d ≤ 9999) (ht : (q_th q).length + 1 ≤ q_el q) (hp : q_pg q + (q_wi q : Nat) + 1 ≤ 2 * (q_el q : Nat)) (hel : q_el q ≤ 200) (h1 : 2 ≤ fr) : ww_Ct 222 fr [.inr (.inr (.inl 73)), .inl x, .inl d] w fun r w' => r = none ∧ rXR G sil s (q_lay G x d q) w' Γ := by
  have R := rX_rn H
  obtain ⟨-, -, ⟨⟨⟨-, x2, -, -⟩, ⟨-, -, x7, x8⟩, x9, -⟩, ⟨b1, b1', -, -⟩, ⟨-, -, b2, b2'⟩, ⟨-, -, -, -, b7, b8⟩, -⟩, -⟩ := id H
  have z := rX_lay (n := x) H hd ht hp
  refine (lk_222f h1 (x0 := x) (x1 := d) (w := w) (by omega) (by unfold am_rg; omega) R).mono ?_
  rintro r w1 ⟨rfl, hw1⟩
  rw [← hw1] at z
  have efr : q_fr (q_lay G x d q) = q_fr q := by
    rw [q_lay_0, q_ly0_f]
    split
    · rw [q_nl_f]
    · rfl
  have F : (∀ j, j < 65 → w1.1 73 j = w.1 73 j) ∧ ∀ b, b ≠ 105 → b ≠ 113 → w1.2 b = w.2 b := by
    rw [hw1]
    have m0 : ∃ m : Nat, (if w.1 73 3 < w.1 73 67 + d ∧ w.1 73 58 < w.1 73 67 then r_nl w else w).1 73 68 = (m : Int) := by
      refine ⟨(q_th q).length, ?_⟩
      split
      · rw [r_nl_ne w (by decide)]; exact x8
      · exact x8
    obtain ⟨m, hm⟩ := m0
    obtain ⟨⟨-, -, a1⟩, a2, -⟩ := r_ly_v (n := x) (d := d) hm
    refine ⟨fun j hj => ?_, fun b p1 p2 => ?_⟩
    · rw [a1 j (by omega) (by omega)]
      split
      · exact r_nl_ne w (by omega)
      · rfl
    · rw [a2 b p1 p2]
      split
      · rw [r_nl_2]
      · rfl
  refine ⟨rfl, rX_fin (l := l) (n := n) z (by rw [efr]; exact e) (by rw [F.1 52 (by omega)]; exact h52) (rST_w (w := w) (fun j _ => F.1 j (by omega)) (fun b _ _ => F.2 b (by omega) (by omega)) ⟨F.2 107 (by decide) (by decide), F.2 108 (by decide) (by decide), F.2 109 (by decide) (by decide), F.2 110 (by decide) (by decide)⟩ hT) (by rw [efr]; exact hK)⟩
theorem us_elem {us : List Nat} {id : Nat} (hid : id < 1000) (hus : ∀ (i j : Nat), us[i]? = some j → w.2 112 i = 100 * ((j / 60 : Nat) : Int) + ((j % 60 : Nat) : Int) ∧ j < 1000) : us.elem id = true ↔ ∃ k : Nat, (k : Int) < ((us.length : Nat) : Int) ∧ w.2 112 k = 100 * ((id / 60 : Nat) : Int) + ((id % 60 : Nat) : Int) := by
  constructor
  · intro h
    have h := List.mem_iff_getElem?.1 (List.elem_iff.1 h)
    obtain ⟨i, hi⟩ := h
    have z := (List.getElem?_eq_some_iff.1 hi).1
    exact ⟨i, by omega, (hus i id hi).1⟩
  · rintro ⟨k, hk, e⟩
    have z : us[k]? = some (us[k]'(by omega)) := List.getElem?_eq_getElem (by omega)
    obtain ⟨z1, z2⟩ := hus k _ z
    have ee : us[k]'(by omega) = id := by
      generalize us[k]'(by omega) = j at z1 z2
      omega
    refine List.elem_iff.2 (List.mem_iff_getElem?.2 ⟨k, ?_⟩)
    rw [z, ee]
/-- a rule's SHOW -/
theorem rLF_11 {r : T_} {c : Nat} (h : rLF w Γ r c) (hk : w.2 92 c = 19) : ∃ (n : Nat) (e f : T_), r = .tag 11 (.tag n (.append e f)) ∧ w.2 93 c = (n : Int) ∧ n < 100 ∧ rEN w 0 (w.1 73 5) e (some none) (w.2 95 c) ∧ ∃ k : Nat, w.2 94 c = k ∧ (k : Int) < w.1 73 17 ∧ Γ.2.1 k = f ∧ v_isF f = true ∧ e_kind e = 19 := by
  unfold rLF at h
  split at h
  all_goals first | (exfalso; have := h.1; omega) | (exfalso; omega) | skip
  · obtain ⟨h1, h2, h3, h4, h5⟩ := h
    exact ⟨_, _, _, rfl, h2, h3, h4, h5⟩
theorem rEN_id {e : T_} {x : Int} (h : rEN w 0 (w.1 73 5) e (some none) x) (hk : e_kind e = 19 ∨ e_kind e = 22 ∨ e_kind e = 16) : (0 ≤ x ∧ x < w.1 73 5) ∧ w.2 79 x.toNat = ((e_id e / 60 : Nat) : Int) ∧ w.2 80 x.toNat = ((e_id e % 60 : Nat) : Int) ∧ e_id e < 1000 := by
  unfold rEN at h
  split at h
  · obtain ⟨⟨⟨p1, p2⟩, -, -, p3, p4⟩, -⟩ := h
    exact ⟨p1, p3, p4, p2⟩
  · rename_i z; cases z
  · exact absurd hk (by decide)
  · rename_i z; cases z
  · exact h.elim
theorem lk_225i {a e : Int} {el : T_} (H : rXC G sil s q w Γ) (ha : q_shown el = a) (ar : am_rg a) (h8 : (q_rl q).length ≤ 5700) (h1 : 2 ≤ fr) : ∀ (j : Nat), j ≤ (q_rl q).length → ∃ x : Int, ((((q_rl q).take j).reverse.find? (q_ruleIs a (q_us q)) = none ∧ x = 0) ∨ (∃ (r : T_) (i : Nat), ((q_rl q).take j).reverse.find? (q_ruleIs a (q_us q)) = some r ∧ (q_rl q)[i]? = some r ∧ x = w.2 111 i)) ∧ ∀ P : Option am_V → W_ → Prop, P (some (.inl x)) w → zr225 fr P 58 e a ((j : Int) - 1) w := by
  obtain ⟨⟨nq, k1, -⟩, h47, -, ⟨⟨y1, y2⟩, y3⟩, -⟩ := id H
  have B := rRC_bd k1
  have S3 := k1.2.2.2.2.1.1
  have e62 : w.1 73 62 = (((q_us q).length : Nat) : Int) := S3.1.symm
  have u12 : (((q_us q).length : Nat) : Int) ≤ 12 := S3.2.2
  intro j
  induction j with
  | zero => exact fun _ => ⟨0, Or.inl ⟨rfl, rfl⟩, fun P LL => lk_225e (by omega) LL⟩
  | succ j ih =>
    intro hj
    have hr : (q_rl q)[j]? = some ((q_rl q)[j]'(by omega)) := List.getElem?_eq_getElem (by omega)
    generalize (q_rl q)[j]'(by omega) = r at hr
    obtain ⟨c1, c2⟩ := y2 j r hr
    have et : ((q_rl q).take (j + 1)).reverse = r :: ((q_rl q).take j).reverse := by
      rw [List.take_add_one, hr, List.reverse_append]; rfl
    rw [et]
    have cr := c1.1
    have cc : (((w.2 111 j).toNat : Nat) : Int) = w.2 111 j := by omega
    have c0 : w.2 111 j ≠ 0 := fun z => by
      have := (rCC_0 k1.1 c1).1 z
      cases this
    have T := (k1.1.2.2.1 (w.2 111 j).toNat (by omega) (by omega)).2.2
    have hL : rLF w Γ r (w.2 111 j).toNat := by
      rcases T with ⟨z, -⟩ | ⟨-, t', z1, z2⟩
      · rw [c2] at z; cases z
      · have z3 : Γ.1 (w.2 111 j).toNat = [r] := c1.2
        rw [z1] at z3
        cases z3
        exact z2
    obtain ⟨n, e1, f, rfl, f1, f2, f3, k, f4, f5, f6, f7, f8⟩ := rLF_11 hL c2
    obtain ⟨i1, i2, i3, i4⟩ := rEN_id f3 (Or.inl f8)
    have ej : (((j + 1 : Nat) : Int) - 1).toNat = j := by omega
    have em : ((j + 1 : Nat) : Int) - 1 + -1 = (j : Int) - 1 := by omega
    have er : q_ruleIs a (q_us q) (.tag 11 (.tag n (.append e1 f))) = ((n : Int) == a && !(q_us q).elem (e_id e1)) := rfl
    have U := us_elem (w := w) i4 y3
    have C := fun (P : Option am_V → W_ → Prop) (hP : ∀ r w', (r = some (.inl 1) ∧ (∃ k : Nat, (k : Int) < w.1 73 62 ∧ w.2 112 k = 100 * w.2 79 (w.2 95 (w.2 111 j).toNat).toNat + w.2 80 (w.2 95 (w.2 111 j).toNat).toNat) ∨ r = some (.inl 0) ∧ ¬ ∃ k : Nat, (k : Int) < w.1 73 62 ∧ w.2 112 k = 100 * w.2 79 (w.2 95 (w.2 111 j).toNat).toNat + w.2 80 (w.2 95 (w.2 111 j).toNat).toNat) ∧ w' = w → P r w') => (lk_223f (fr := fr - 1) (by omega) (x := 100 * w.2 79 (w.2 95 (w.2 111 j).toNat).toNat + w.2 80 (w.2 95 (w.2 111 j).toNat).toNat) (w := w) (by rw [i2, i3]; unfold am_rg; omega) (by omega) (by omega) (fun k hk => by
      have z : (q_us q)[k]? = some ((q_us q)[k]'(by omega)) := List.getElem?_eq_getElem (by omega)
      obtain ⟨z1, z2⟩ := y3 k _ z
      rw [z1]
      unfold am_rg
      omega)).mono hP
    rw [e62] at C
    by_cases c : (n : Int) = a
    · by_cases d : (q_us q).elem (e_id e1) = true
      · have D := U.1 d
        have ef : ((.tag 11 (.tag n (.append e1 f)) : T_) :: ((q_rl q).take j).reverse).find? (q_ruleIs a (q_us q)) = ((q_rl q).take j).reverse.find? (q_ruleIs a (q_us q)) := by
          rw [List.find?_cons, er, d, Bool.not_true, Bool.and_false]
        rw [ef]
        obtain ⟨x, hx, hP⟩ := ih (by omega)
        refine ⟨x, hx, fun P LL => ?_⟩
        refine lk_225g (c := w.2 111 j) (x := (n : Int)) (m := w.2 95 (w.2 111 j).toNat) h1 (by omega) (by rw [ej]) (by omega) f1 ⟨by unfold am_rg; omega, ar⟩ c rfl (by omega) ?_ ?_
        · refine C _ ?_
          rintro r w' ⟨⟨g1, -⟩ | ⟨-, g2⟩, g3⟩
          · exact ⟨g1, g3⟩
          · rw [i2, i3] at g2
            exact absurd D g2
        · rw [em]
          exact hP P LL
      · have D := fun z => d (U.2 z)
        have d' : (q_us q).elem (e_id e1) = false := by
          cases z : (q_us q).elem (e_id e1) with
          | false => rfl
          | true => exact absurd z d
        have ef : ((.tag 11 (.tag n (.append e1 f)) : T_) :: ((q_rl q).take j).reverse).find? (q_ruleIs a (q_us q)) = some (.tag 11 (.tag n (.append e1 f))) := by
          rw [List.find?_cons, er, d', c, beq_self_eq_true]; rfl
        rw [ef]
        refine ⟨w.2 111 j, Or.inr ⟨_, j, rfl, hr, rfl⟩, fun P LL => ?_⟩
        refine lk_225h (c := w.2 111 j) (x := (n : Int)) (m := w.2 95 (w.2 111 j).toNat) h1 (by omega) (by rw [ej]) (by omega) f1 ⟨by unfold am_rg; omega, ar⟩ c rfl (by omega) ?_ LL
        refine C _ ?_
        rintro r w' ⟨⟨-, g2⟩ | ⟨g1, -⟩, g3⟩
        · rw [i2, i3] at g2
          exact absurd g2 D
        · exact ⟨g1, g3⟩
    · have c' : ((n : Int) == a) = false := by
        rw [beq_eq_false_iff_ne]; exact c
      have ef : ((.tag 11 (.tag n (.append e1 f)) : T_) :: ((q_rl q).take j).reverse).find? (q_ruleIs a (q_us q)) = ((q_rl q).take j).reverse.find? (q_ruleIs a (q_us q)) := by
        rw [List.find?_cons, er, c', Bool.false_and]
      rw [ef]
      obtain ⟨x, hx, hP⟩ := ih (by omega)
      refine ⟨x, hx, fun P LL => ?_⟩
      refine lk_225f (c := w.2 111 j) (x := (n : Int)) (by omega) (by rw [ej]) (by omega) f1 ⟨by unfold am_rg; omega, ar⟩ c ?_
      rw [em]
      exact hP P LL
/-- which rule -/
theorem rX_rule {a e : Int} {el : T_} (H : rXC G sil s q w Γ) (ha : q_shown el = a) (ar : am_rg a) (h8 : (q_rl q).length ≤ 5700) (h1 : 2 ≤ fr) : ∃ x : Int, ((q_rule el q = none ∧ x = 0) ∨ (∃ (r : T_) (i : Nat), q_rule el q = some r ∧ (q_rl q)[i]? = some r ∧ x = w.2 111 i)) ∧ ∀ P : Option am_V → W_ → Prop, P (some (.inl x)) w → zr225 fr P 58 e a ((((q_rl q).length : Nat) : Int) - 1) w := by
  have z := lk_225i (e := e) H ha ar h8 h1 (q_rl q).length (Nat.le_refl _)
  rw [List.take_length] at z
  unfold q_rule
  rw [ha]
  exact z
theorem rX_rl {i : Nat} {r : T_} (H : rXC G sil s q w Γ) (hr : (q_rl q)[i]? = some r) : 0 < w.2 111 i ∧ w.2 111 i < 8192 := by
  obtain ⟨⟨nq, k1, -⟩, -, -, ⟨⟨-, y2⟩, -⟩, -⟩ := H
  have B := rRC_bd k1
  obtain ⟨c1, -⟩ := y2 i r hr
  have cr := c1.1
  have c0 : w.2 111 i ≠ 0 := fun z => by
    have := (rCC_0 k1.1 c1).1 z
    cases this
  omega
end
