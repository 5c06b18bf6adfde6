/-! ===== codes in a text: by their places ===== -/
def isce (u : T_) : Prop := ∃ k n id a b c, u = ce k n id a b c
theorem isce_nil : ¬ isce .nil := by
  rintro ⟨k, n, id, a, b, c, h⟩
  cases h
theorem isce_nest (z : Int) (t : T_) : ¬ isce (.nest z t) := by
  rintro ⟨k, n, id, a, b, c, h⟩
  cases h
theorem isce_app (a b : T_) : ¬ isce (.append a b) := by
  rintro ⟨k, n, id, x, y, z, h⟩
  cases h
/-- the codes in a tree stand at places from lo to hi, each at its own -/
def jR (J : J_) (t : T_) (lo hi : Nat) : Prop := (∀ u, isce u → e_in u t → ∃ q, lo ≤ q ∧ q < hi ∧ e_id u = j_id J q) ∧ ∀ u u', isce u → isce u' → e_in u t → e_in u' t → e_id u = e_id u' → u = u'
theorem jR_no {J : J_} {t : T_} {lo hi : Nat} (h : ∀ u, isce u → ¬ e_in u t) : jR J t lo hi := ⟨fun u hu q => absurd q (h u hu), fun u _ hu _ q _ _ => absurd q (h u hu)⟩
theorem jR_nil {J : J_} {lo hi : Nat} : jR J .nil lo hi := jR_no fun u hu q => by
  have q : u = .nil := q
  rw [q] at hu
  exact isce_nil hu
theorem jR_own {J : J_} {lo hi k : Nat} {own : Option Nat} : jR J (j_own k own) lo hi := by
  unfold j_own
  split
  · split
    · exact jR_no fun u hu q => by
        rename_i m _
        have q : u = .nest (m : Int) .nil := q
        rw [q] at hu
        exact isce_nest _ _ hu
    · exact jR_nil
  · exact jR_nil
theorem jR_mono {J : J_} {t : T_} {lo hi lo' hi' : Nat} (h : jR J t lo hi) (h1 : lo' ≤ lo) (h2 : hi ≤ hi') : jR J t lo' hi' := ⟨fun u hu q => by
  obtain ⟨z, z1, z2, z3⟩ := h.1 u hu q
  exact ⟨z, by omega, by omega, z3⟩, h.2⟩
theorem j_id_inj {J : J_} {p q : Nat} (h : j_id J p = j_id J q) : p = q := by
  unfold j_id at h
  omega
theorem jR_ce {J : J_} {k : Nat} {n : Int} {a b c : T_} {p x y z : Nat} (ha : jR J a (p + 1) x) (hb : jR J b x y) (hc : jR J c y z) (h1 : p + 1 ≤ x) (h2 : x ≤ y) (h3 : y ≤ z) : jR J (ce k n (j_id J p) a b c) p z := by
  have L : ∀ u, isce u → e_in u (ce k n (j_id J p) a b c) → u = ce k n (j_id J p) a b c ∧ e_id u = j_id J p ∨ (e_in u a ∧ ∃ q, p + 1 ≤ q ∧ q < x ∧ e_id u = j_id J q) ∨ (e_in u b ∧ ∃ q, x ≤ q ∧ q < y ∧ e_id u = j_id J q) ∨ (e_in u c ∧ ∃ q, y ≤ q ∧ q < z ∧ e_id u = j_id J q) := fun u hu q => by
    rw [e_in_ce] at q
    rcases q with q | q | q | q | q
    · exact Or.inl ⟨q, by rw [q]; rfl⟩
    · rw [q] at hu; exact absurd hu (isce_app _ _)
    · exact Or.inr (Or.inl ⟨q, ha.1 u hu q⟩)
    · exact Or.inr (Or.inr (Or.inl ⟨q, hb.1 u hu q⟩))
    · exact Or.inr (Or.inr (Or.inr ⟨q, hc.1 u hu q⟩))
  refine ⟨fun u hu q => ?_, fun u u' hu hu' q q' e => ?_⟩
  · rcases L u hu q with ⟨-, e⟩ | ⟨-, r, r1, r2, e⟩ | ⟨-, r, r1, r2, e⟩ | ⟨-, r, r1, r2, e⟩
    · exact ⟨p, Nat.le_refl _, by omega, e⟩
    · exact ⟨r, by omega, by omega, e⟩
    · exact ⟨r, by omega, by omega, e⟩
    · exact ⟨r, by omega, by omega, e⟩
  · rcases L u hu q with ⟨g, i1⟩ | ⟨g, r, r1, r2, i1⟩ | ⟨g, r, r1, r2, i1⟩ | ⟨g, r, r1, r2, i1⟩ <;> rcases L u' hu' q' with ⟨g', i2⟩ | ⟨g', r', r1', r2', i2⟩ | ⟨g', r', r1', r2', i2⟩ | ⟨g', r', r1', r2', i2⟩ <;> (rw [i1, i2] at e; have e0 := j_id_inj e)
    · rw [g, g']
    · omega
    · omega
    · omega
    · omega
    · exact ha.2 u u' hu hu' g g' (by rw [i1, i2, e0])
    · omega
    · omega
    · omega
    · omega
    · exact hb.2 u u' hu hu' g g' (by rw [i1, i2, e0])
    · omega
    · omega
    · omega
    · omega
    · exact hc.2 u u' hu hu' g g' (by rw [i1, i2, e0])
theorem jR_ct {J : J_} {k : Nat} {n : Int} {a b : T_} {p x y : Nat} (hn : ∀ b' c', b ≠ .append b' c') (ha : jR J a (p + 1) x) (hb : jR J b x y) (h1 : p + 1 ≤ x) (h2 : x ≤ y) : jR J (ct k n (j_id J p) a b) p y := by
  have L : ∀ u, isce u → e_in u (ct k n (j_id J p) a b) → (e_in u a ∧ ∃ q, p + 1 ≤ q ∧ q < x ∧ e_id u = j_id J q) ∨ (e_in u b ∧ ∃ q, x ≤ q ∧ q < y ∧ e_id u = j_id J q) := fun u hu q => by
    rw [e_in_ct hn] at q
    rcases q with q | q | q
    · obtain ⟨k', n', id', a', b', c', e⟩ := hu
      rw [e] at q
      have q : ce k' n' id' a' b' c' = ct k n (j_id J p) a b := q
      unfold ce ct at q
      injection q with q1 q
      injection q with q2 q
      injection q with q3 q
      injection q with q4 q
      exact absurd q.symm (hn b' c')
    · exact Or.inl ⟨q, ha.1 u hu q⟩
    · exact Or.inr ⟨q, hb.1 u hu q⟩
  refine ⟨fun u hu q => ?_, fun u u' hu hu' q q' e => ?_⟩
  · rcases L u hu q with ⟨-, r, r1, r2, e⟩ | ⟨-, r, r1, r2, e⟩
    · exact ⟨r, by omega, by omega, e⟩
    · exact ⟨r, by omega, by omega, e⟩
  · rcases L u hu q with ⟨g, r, r1, r2, i1⟩ | ⟨g, r, r1, r2, i1⟩ <;> rcases L u' hu' q' with ⟨g', r', r1', r2', i2⟩ | ⟨g', r', r1', r2', i2⟩ <;> (rw [i1, i2] at e; have e0 := j_id_inj e)
    · exact ha.2 u u' hu hu' g g' (by rw [i1, i2, e0])
    · omega
    · omega
    · exact hb.2 u u' hu hu' g g' (by rw [i1, i2, e0])
theorem j_in : ∀ (n : Nat) (J : J_) (m : Option (Bool × Bool)) (own : Option Nat) (p : Nat), jR J (j_go n J m own p).1 p (j_go n J m own p).2.1 := by
  intro n
  induction n with
  | zero => intro J m own p; exact jR_nil
  | succ n ih =>
    intro J m own p
    rcases m with _ | ⟨wh, fm⟩
    · unfold j_go
      by_cases c1 : J.2.2.1 ≤ p
      · rw [if_pos c1]
        exact jR_nil
      · rw [if_neg c1]
        by_cases c2 : J.1 p ≤ 5
        · rw [if_pos c2]
          exact jR_nil
        · rw [if_neg c2]
          by_cases c3 : J.1 p = 8
          · rw [if_pos c3]
            dsimp only
            have h := ih J (some (false, false)) none (p + 1)
            have g := j_go_sz n J (some (false, false)) none (p + 1)
            exact jR_ce h jR_nil jR_nil (by omega) (Nat.le_refl _) (Nat.le_refl _)
          · rw [if_neg c3]
            by_cases c4 : j_par (J.1 p) = 0
            · rw [if_pos c4]
              exact jR_ce (x := p + 1) (y := p + 1) jR_nil jR_nil jR_nil (Nat.le_refl _) (Nat.le_refl _) (Nat.le_refl _)
            · rw [if_neg c4]
              dsimp only
              have ha := ih J none (if J.1 p = 15 then some (J.2.1 p % 10).toNat else none) (p + 1)
              have ga := j_go_sz n J none (if J.1 p = 15 then some (J.2.1 p % 10).toNat else none) (p + 1)
              generalize j_go n J none (if J.1 p = 15 then some (J.2.1 p % 10).toNat else none) (p + 1) = a at ha ga ⊢
              have hb := ih J none none a.2.1
              have gb := j_go_sz n J none none a.2.1
              generalize j_go n J none none a.2.1 = b at hb gb ⊢
              have hc := ih J none none b.2.1
              have gc := j_go_sz n J none none b.2.1
              generalize j_go n J none none b.2.1 = c at hc gc ⊢
              split
              · exact jR_ce (z := a.2.1) ha jR_own jR_nil (by omega) (Nat.le_refl _) (Nat.le_refl _)
              · split
                · exact jR_ce (z := b.2.1) ha hb jR_nil (by omega) (by omega) (Nat.le_refl _)
                · exact jR_ce (z := c.2.1) ha hb hc (by omega) (by omega) (by omega)
    · unfold j_go
      by_cases c1 : J.2.2.1 ≤ p
      · rw [if_pos c1]
        exact jR_nil
      · rw [if_neg c1]
        by_cases c2 : J.1 p = 5 ∧ wh = false
        · rw [if_pos c2]
          exact jR_nil
        · rw [if_neg c2]
          split
          · dsimp only
            have hx : jR J (if J.1 p = 3 then j_go n J none none (p + 1) else if J.1 p = 4 then j_go n J (some (false, true)) none (p + 1) else ((.nil : T_), p + 1, ([] : List Int))).1 (p + 1) (if J.1 p = 3 then j_go n J none none (p + 1) else if J.1 p = 4 then j_go n J (some (false, true)) none (p + 1) else ((.nil : T_), p + 1, ([] : List Int))).2.1 ∧ p + 1 ≤ (if J.1 p = 3 then j_go n J none none (p + 1) else if J.1 p = 4 then j_go n J (some (false, true)) none (p + 1) else ((.nil : T_), p + 1, ([] : List Int))).2.1 := by
              split
              · have g := j_go_sz n J none none (p + 1)
                exact ⟨ih J none none (p + 1), by omega⟩
              · split
                · have g := j_go_sz n J (some (false, true)) none (p + 1)
                  exact ⟨ih J (some (false, true)) none (p + 1), by omega⟩
                · exact ⟨jR_nil, Nat.le_refl _⟩
            generalize (if J.1 p = 3 then j_go n J none none (p + 1) else if J.1 p = 4 then j_go n J (some (false, true)) none (p + 1) else ((.nil : T_), p + 1, ([] : List Int))) = x at hx ⊢
            have hr := ih J (some (wh, fm)) none x.2.1
            have gr := j_go_sz n J (some (wh, fm)) none x.2.1
            exact jR_ct (fun b c => j_go_na _ _ _ _ _ b c) hx.1 hr hx.2 (by omega)
          · dsimp only
            exact jR_mono (ih J (some (wh, fm)) none (p + 1)) (Nat.le_succ _) (Nat.le_refl _)
/-- two codes of the texts at one place are one -/
theorem tI_uniq {a3 a5 a7 : Nat → Int} {u u' : T_} (h : tI0 a3 a5 a7 u) (h' : tI0 a3 a5 a7 u') (hu : isce u) (hu' : isce u') (e : e_id u = e_id u') : u = u' := by
  obtain ⟨f, ⟨f3, fz⟩, hf⟩ := h
  obtain ⟨f', ⟨f3', fz'⟩, hf'⟩ := h'
  have g := j_in 200 (tJ a3 a5 a7 f) (some (true, false)) none 0
  have g' := j_in 200 (tJ a3 a5 a7 f') (some (true, false)) none 0
  have z := (j_go_sz 200 (tJ a3 a5 a7 f) (some (true, false)) none 0).2 (Nat.zero_le _)
  have z' := (j_go_sz 200 (tJ a3 a5 a7 f') (some (true, false)) none 0).2 (Nat.zero_le _)
  have z : (j_go 200 (tJ a3 a5 a7 f) (some (true, false)) none 0).2.1 ≤ (a7 f).toNat := z
  have z' : (j_go 200 (tJ a3 a5 a7 f') (some (true, false)) none 0).2.1 ≤ (a7 f').toNat := z'
  obtain ⟨q, q1, q2, q3⟩ := g.1 u hu hf
  obtain ⟨q', q1', q2', q3'⟩ := g'.1 u' hu' hf'
  rw [q3, q3'] at e
  have e : 60 * f + q = 60 * f' + q' := e
  have ef : f = f' := by omega
  subst ef
  have eq : q = q' := by omega
  exact g.2 u u' hu hu' hf hf' (by rw [q3, q3', eq])
theorem tI_fid {a3 a5 a7 : Nat → Int} {f : Nat} {u : T_} (f3 : f < 3) (fz : (a7 f).toNat ≤ 60) (hf : e_in u (tx a3 a5 a7 f)) (hu : isce u) : e_id u / 60 = f := by
  have g := j_in 200 (tJ a3 a5 a7 f) (some (true, false)) none 0
  have z := (j_go_sz 200 (tJ a3 a5 a7 f) (some (true, false)) none 0).2 (Nat.zero_le _)
  have z : (j_go 200 (tJ a3 a5 a7 f) (some (true, false)) none 0).2.1 ≤ (a7 f).toNat := z
  obtain ⟨q, q1, q2, q3⟩ := g.1 u hu hf
  rw [q3]
  show (60 * f + q) / 60 = f
  omega
/-- what is in a code that the class' tree holds, the tree holds too -/
theorem eR_in {a3 a5 a37 a46 : Nat → Int} : ∀ (T : T_) (m : Nat) (hb : Bool), eR a3 a5 a37 a46 m hb T → ∀ u, e_in u T → isce u → ∃ hb', eR a3 a5 a37 a46 0 hb' u := by
  intro T
  induction T using c_sz.induct with
  | case1 k n id a b c ia ib ic =>
    intro m hb h u q hu
    have q : u = ce k n id a b c ∨ u = .append b c ∨ e_in u a ∨ e_in u b ∨ e_in u c := q
    cases m with
    | zero =>
      have h' := h
      obtain ⟨-, -, h8, h1, h2, h3, -, hs0, hs1, hs2⟩ := h
      have no : ∀ t, e_in u t → (t = .nil ∨ ∃ z : Int, t = .nest z .nil ∧ 0 ≤ z ∧ z < 10) → False := fun t qt ht => by
        rcases ht with rfl | ⟨z, rfl, -⟩
        · have qt : u = .nil := qt
          rw [qt] at hu; exact isce_nil hu
        · have qt : u = .nest z .nil := qt
          rw [qt] at hu; exact isce_nest _ _ hu
      rcases q with q | q | q | q | q
      · rw [q]; exact ⟨hb, h'⟩
      · rw [q] at hu; exact absurd hu (isce_app _ _)
      · by_cases c8 : k = 8
        · exact ia 1 true (h8 c8).2 u q hu
        · by_cases cp : 1 ≤ j_par k
          · exact ia 0 _ (h1 cp).2 u q hu
          · exact (no a q (Or.inl (hs0 (by omega) c8))).elim
      · by_cases cp : 2 ≤ j_par k
        · exact ib 0 _ (h2 cp).2 u q hu
        · exact (no b q (hs1 (by omega))).elim
      · by_cases cp : 3 ≤ j_par k
        · exact ic 0 _ (h3 cp).2 u q hu
        · exact (no c q (Or.inl (hs2 (by omega)))).elim
    | succ m =>
      obtain ⟨-, -, -, -, -, h⟩ := h
      exact h.elim
  | case2 k n id x r hn ix ir =>
    intro m hb h u q hu
    have hn' : ∀ b c, r ≠ .append b c := fun b c q => hn b c q
    have q : e_in u (ct k n id x r) := q
    rw [e_in_ct hn'] at q
    cases m with
    | zero =>
      cases r with
      | append b c => exact absurd rfl (hn' b c)
      | _ => exact h.elim
    | succ m =>
      obtain ⟨-, ⟨-, hx⟩, -, h3, h4, hr⟩ := h
      rcases q with q | q | q
      · obtain ⟨k', n', id', a', b', c', e⟩ := hu
        rw [e] at q
        have q : ce k' n' id' a' b' c' = ct k n id x r := q
        unfold ce ct at q
        injection q with q1 q
        injection q with q2 q
        injection q with q3 q
        injection q with q4 q
        exact absurd q.symm (hn' b' c')
      · by_cases c3 : k = 3
        · exact ix 0 _ (h3 c3).2 u q hu
        · by_cases c4 : k = 4
          · exact ix 2 _ (h4 c4).2 u q hu
          · rw [hx c3 c4] at q
            have q : u = .nil := q
            rw [q] at hu
            exact absurd hu isce_nil
      · exact ir (m + 1) _ hr u q hu
  | case3 e h1 h2 =>
    intro m hb h u q hu
    rw [e_in_oth (fun _ _ _ _ _ _ => h1 _ _ _ _ _ _) (fun _ _ _ _ _ => h2 _ _ _ _ _)] at q
    obtain ⟨k', n', id', a', b', c', e'⟩ := hu
    rw [q] at e'
    exact (h1 _ _ _ _ _ _ e').elim
