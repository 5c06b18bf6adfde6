/-! ===== how deep code is ===== -/
def c_dp : T_ → Nat
  | .tag _ (.nest _ (.tag _ (.append a (.append b c)))) => 1 + max (c_dp a) (max (c_dp b) (c_dp c))
  | .tag _ (.nest _ (.tag _ (.append x r))) => max (1 + c_dp x) (c_dp r)
  | _ => 0
theorem c_dp_ce (k : Nat) (n : Int) (id : Nat) (a b c : T_) : c_dp (ce k n id a b c) = 1 + max (c_dp a) (max (c_dp b) (c_dp c)) := by
  unfold ce
  rw [c_dp]
theorem c_dp_ct (k : Nat) (n : Int) (id : Nat) (x r : T_) (h : ∀ b c, r ≠ .append b c) : c_dp (ct k n id x r) = max (1 + c_dp x) (c_dp r) := by
  unfold ct
  rw [c_dp]
  exact h
theorem c_dp_own (k : Nat) (own : Option Nat) : c_dp (j_own k own) = 0 := by
  unfold j_own
  split
  · split
    · rfl
    · rfl
  · rfl
theorem e_nm_own (k : Nat) (own : Option Nat) (m : Nat) : e_nm (j_own k own) m = false := by
  unfold j_own
  split
  · split
    · rfl
    · rfl
  · rfl
theorem e_imp_own (k : Nat) (own : Option Nat) : e_imp (j_own k own) = false := by
  unfold j_own
  split
  · split
    · rfl
    · rfl
  · rfl
theorem eimp_ce (k : Nat) (n : Int) (id : Nat) (a b c : T_) : e_imp (ce k n id a b c) = (k == 29 || e_imp a || e_imp b || e_imp c) := rfl
theorem eimp_ct {k : Nat} {n : Int} {id : Nat} {x r : T_} (h : ∀ b c, r ≠ .append b c) : e_imp (ct k n id x r) = (e_imp x || e_imp r) := by
  unfold ct
  cases r with
  | append b c => exact absurd rfl (h b c)
  | _ => rfl
def v_ct (V : Nat → Bool) : Nat → Nat
  | 0 => 0
  | n + 1 => v_ct V n + (if V n = true then 1 else 0)
theorem v_ct_le (V : Nat → Bool) : ∀ n, v_ct V n ≤ n := by
  intro n
  induction n with
  | zero => exact Nat.le_refl _
  | succ n ih =>
    show v_ct V n + (if V n = true then 1 else 0) ≤ n + 1
    split <;> omega
theorem v_ct_eq {V V' : Nat → Bool} : ∀ n, (∀ z, z < n → V z = V' z) → v_ct V n = v_ct V' n := by
  intro n
  induction n with
  | zero => intro _; rfl
  | succ n ih =>
    intro h
    show v_ct V n + (if V n = true then 1 else 0) = v_ct V' n + (if V' n = true then 1 else 0)
    rw [ih (fun z q => h z (by omega)), h n (by omega)]
def v_ad (V : Nat → Bool) (x : Nat) : Nat → Bool := fun z => z == x || V z
theorem v_ad_ne {V : Nat → Bool} {x z : Nat} (h : z ≠ x) : v_ad V x z = V z := by
  unfold v_ad
  rw [beq_eq_false_iff_ne.2 h]
  rfl
theorem v_ad_eq {V : Nat → Bool} {x : Nat} : v_ad V x x = true := by
  unfold v_ad
  rw [beq_self_eq_true]
  rfl
theorem v_ct_ad {V : Nat → Bool} {x : Nat} (hV : V x = false) : ∀ n, x < n → v_ct (v_ad V x) n = v_ct V n + 1 := by
  intro n
  induction n with
  | zero => intro h; omega
  | succ n ih =>
    intro h
    show v_ct (v_ad V x) n + (if v_ad V x n = true then 1 else 0) = v_ct V n + (if V n = true then 1 else 0) + 1
    by_cases c : x = n
    · have e : v_ct (v_ad V x) n = v_ct V n := v_ct_eq n (fun z hz => v_ad_ne (by omega))
      have e1 : v_ad V x n = true := by rw [← c]; exact v_ad_eq
      have e2 : V n = false := by rw [← c]; exact hV
      rw [e, if_pos e1, e2]
      rfl
    · rw [ih (by omega), v_ad_ne (fun q => c q.symm)]
      omega
/-- a node's depth -/
theorem rEN_det {w : W_} {hi : Int} (e : T_) (m : Option (Option Nat)) (x : Int) : rEN w 0 hi e m x → ∀ e' m', rEN w 0 hi e' m' x → m.isSome = m'.isSome → c_dp e = c_dp e' := by
  induction e, m, x using rEN.induct (w := w) with
  | case1 k n id a b c own x i1 i2 i3 i4 =>
    intro h e' m' h' hm
    have h : rEN w 0 hi (ce k n id a b c) (some own) x := h
    show c_dp (ce k n id a b c) = c_dp e'
    cases m' with
    | none => cases hm
    | some own' =>
      rw [rEN_ce] at h
      rcases rEN_or h' with ⟨k', n', id', a', b', c', rfl⟩ | rfl
      · rw [rEN_ce] at h'
        obtain ⟨⟨hx, hk, hn, -, -⟩, kr, e8, e82, e1, e2, e3, ea, eb, ec⟩ := h
        obtain ⟨⟨hx', hk', hn', -, -⟩, kr', e8', e82', e1', e2', e3', ea', eb', ec'⟩ := h'
        have ek : k' = k := by omega
        rw [ek] at e8' e1' e2' e3' ea' eb' ec'
        rw [c_dp_ce, c_dp_ce]
        have A : c_dp a = c_dp a' := by
          by_cases q8 : k = 8
          · exact i1 (e8 q8) _ _ (e8' q8) rfl
          · by_cases q1 : 1 ≤ j_par k
            · exact i2 (e1 q1) _ _ (e1' q1) rfl
            · rw [ea q8 (by omega), ea' q8 (by omega)]
        have Bq : c_dp b = c_dp b' := by
          by_cases q2 : 2 ≤ j_par k
          · exact i3 (e2 q2) _ _ (e2' q2) rfl
          · rw [eb (by omega), eb' (by omega), c_dp_own, c_dp_own]
        have Cq : c_dp c = c_dp c' := by
          by_cases q3 : 3 ≤ j_par k
          · exact i4 (e3 q3) _ _ (e3' q3) rfl
          · rw [ec (by omega), ec' (by omega)]
        rw [A, Bq, Cq]
      · unfold rEN at h'
        exfalso
        have h1 := h.1.2.1
        have h2 := h.2.1.1
        have h3 := h'.2.1
        omega
  | case2 k n id y r x i1 i2 i3 =>
    intro h e' m' h' hm
    have h : rEN w 0 hi (.tag k (.nest n (.tag id (.append y r)))) none x := h
    cases m' with
    | some own' => cases hm
    | none =>
      rw [rEN_it] at h
      obtain ⟨⟨hx, hk, hn, -, -⟩, kr, e3, e4, e82, ey, er⟩ := h
      rcases rEN_oi h' with ⟨k', n', id', y', r', rfl⟩ | ⟨rfl, q⟩
      · have h' : rEN w 0 hi (.tag k' (.nest n' (.tag id' (.append y' r')))) none x := h'
        rw [rEN_it] at h'
        obtain ⟨⟨hx', hk', hn', -, -⟩, kr', e3', e4', e82', ey', er'⟩ := h'
        have ek : k' = k := by omega
        rw [ek] at e3' e4' ey'
        show c_dp (ct k n id y r) = c_dp (ct k' n' id' y' r')
        rw [c_dp_ct _ _ _ _ _ (rEN_na er), c_dp_ct _ _ _ _ _ (rEN_na er'), i3 er _ _ er' rfl]
        have Y : c_dp y = c_dp y' := by
          by_cases q3 : k = 3
          · exact i1 (e3 q3) _ _ (e3' q3) rfl
          · by_cases q4 : k = 4
            · exact i2 (e4 q4).1 _ _ (e4' q4).1 rfl
            · rw [ey q3 q4, ey' q3 q4]
        rw [Y]
      · omega
  | case3 own x =>
    intro h e' m' h' hm
    cases m' with
    | none => cases hm
    | some own' =>
      unfold rEN at h
      rcases rEN_or h' with ⟨k', n', id', a', b', c', rfl⟩ | rfl
      · rw [rEN_ce] at h'
        exfalso
        have h1 := h'.1.2.1
        have h2 := h'.2.1.1
        have h3 := h.2.1
        omega
      · rfl
  | case4 x =>
    intro h e' m' h' hm
    have h : x = -1 := by unfold rEN at h; exact h
    cases m' with
    | some own' => cases hm
    | none =>
      rcases rEN_oi h' with ⟨k', n', id', y', r', rfl⟩ | ⟨rfl, q⟩
      · have h' : rEN w 0 hi (.tag k' (.nest n' (.tag id' (.append y' r')))) none x := h'
        rw [rEN_it] at h'
        have := h'.1.1
        omega
      · rfl
  | case5 e m x q1 q2 q3 q4 =>
    intro h
    unfold rEN at h
    split at h <;> first | (exact h.elim) | (exfalso; first | exact q1 _ _ _ _ _ _ _ rfl rfl | exact q2 _ _ _ _ _ rfl rfl | exact q3 _ rfl rfl | exact q4 rfl rfl)
/-- what was not looked at yet is as much as code is deep -/
theorem rEN_dpV {w : W_} {hi : Int} {N : Nat} (hN : hi ≤ N) (e : T_) (m : Option (Option Nat)) (x : Int) : rEN w 0 hi e m x → ∀ V : Nat → Bool, (∀ z : Nat, V z = true → ∃ e' m', rEN w 0 hi e' m' (z : Int) ∧ c_dp e < c_dp e') → v_ct V N + c_dp e ≤ N := by
  induction e, m, x using rEN.induct (w := w) with
  | case1 k n id a b c own x i1 i2 i3 i4 =>
    intro h0 V hV
    have h0 : rEN w 0 hi (ce k n id a b c) (some own) x := h0
    have hV : ∀ z : Nat, V z = true → ∃ e' m', rEN w 0 hi e' m' (z : Int) ∧ c_dp (ce k n id a b c) < c_dp e' := hV
    show v_ct V N + c_dp (ce k n id a b c) ≤ N
    have h := h0
    rw [rEN_ce] at h
    obtain ⟨⟨hx, hk, -, -, -⟩, kr, e8, -, e1, e2, e3, ea, eb, ec⟩ := h
    have ex : ((x.toNat : Nat) : Int) = x := by omega
    have nx : V x.toNat = false := by
      cases q : V x.toNat with
      | false => rfl
      | true =>
        obtain ⟨e', m', g1, g2⟩ := hV _ q
        rw [ex] at g1
        cases m' with
        | none =>
          rcases rEN_oi g1 with ⟨k', n', id', y', r', rfl⟩ | ⟨-, q⟩
          · have g1 : rEN w 0 hi (.tag k' (.nest n' (.tag id' (.append y' r')))) none x := g1
            rw [rEN_it] at g1
            have z1 := g1.1.2.1
            have z2 := g1.2.1
            omega
          · omega
        | some own' =>
          have z := rEN_det _ _ _ h0 _ _ g1 rfl
          omega
    have ct := v_ct_ad nx N (by omega)
    have cl := v_ct_le (v_ad V x.toNat) N
    have U : ∀ t : T_, c_dp t < c_dp (ce k n id a b c) → ∀ z : Nat, v_ad V x.toNat z = true → ∃ e' m', rEN w 0 hi e' m' (z : Int) ∧ c_dp t < c_dp e' := fun t ht z hz => by
      by_cases d : z = x.toNat
      · exact ⟨ce k n id a b c, some own, by rw [d, ex]; exact h0, ht⟩
      · rw [v_ad_ne d] at hz
        obtain ⟨e', m', g1, g2⟩ := hV z hz
        exact ⟨e', m', g1, by omega⟩
    have D := c_dp_ce k n id a b c
    have A : v_ct V N + 1 + c_dp a ≤ N := by
      by_cases q8 : k = 8
      · have z := i1 (e8 q8) _ (U a (by omega)); omega
      · by_cases q1 : 1 ≤ j_par k
        · have z := i2 (e1 q1) _ (U a (by omega)); omega
        · have z : c_dp a = 0 := by rw [ea q8 (by omega)]; rfl
          omega
    have Bq : v_ct V N + 1 + c_dp b ≤ N := by
      by_cases q2 : 2 ≤ j_par k
      · have z := i3 (e2 q2) _ (U b (by omega)); omega
      · have z : c_dp b = 0 := by rw [eb (by omega), c_dp_own]
        omega
    have Cq : v_ct V N + 1 + c_dp c ≤ N := by
      by_cases q3 : 3 ≤ j_par k
      · have z := i4 (e3 q3) _ (U c (by omega)); omega
      · have z : c_dp c = 0 := by rw [ec (by omega)]; rfl
        omega
    omega
  | case2 k n id y r x i1 i2 i3 =>
    intro h0 V hV
    have h := h0
    rw [rEN_it] at h
    obtain ⟨⟨hx, hk, -, -, -⟩, kr, e3, e4, e82, ey, er⟩ := h
    have h0 : rEN w 0 hi (ct k n id y r) none x := h0
    have hV : ∀ z : Nat, V z = true → ∃ e' m', rEN w 0 hi e' m' (z : Int) ∧ c_dp (ct k n id y r) < c_dp e' := hV
    show v_ct V N + c_dp (ct k n id y r) ≤ N
    have D := c_dp_ct k n id y r (rEN_na er)
    have ex : ((x.toNat : Nat) : Int) = x := by omega
    have nx : V x.toNat = false := by
      cases q : V x.toNat with
      | false => rfl
      | true =>
        obtain ⟨e', m', g1, g2⟩ := hV _ q
        rw [ex] at g1
        cases m' with
        | some own' =>
          rcases rEN_or g1 with ⟨k', n', id', a', b', c', rfl⟩ | rfl
          · rw [rEN_ce] at g1
            have z1 := g1.1.2.1
            have z2 := g1.2.1.1
            omega
          · unfold rEN at g1
            have z1 := g1.2.1
            omega
        | none =>
          have z := rEN_det _ _ _ h0 _ _ g1 rfl
          omega
    have ctt := v_ct_ad nx N (by omega)
    have cl := v_ct_le (v_ad V x.toNat) N
    have U : ∀ t : T_, c_dp t < c_dp (ct k n id y r) → ∀ z : Nat, v_ad V x.toNat z = true → ∃ e' m', rEN w 0 hi e' m' (z : Int) ∧ c_dp t < c_dp e' := fun t ht z hz => by
      by_cases d : z = x.toNat
      · exact ⟨ct k n id y r, none, by rw [d, ex]; exact h0, ht⟩
      · rw [v_ad_ne d] at hz
        obtain ⟨e', m', g1, g2⟩ := hV z hz
        exact ⟨e', m', g1, by omega⟩
    have Y : v_ct V N + 1 + c_dp y ≤ N := by
      by_cases q3 : k = 3
      · have z := i1 (e3 q3) _ (U y (by omega)); omega
      · by_cases q4 : k = 4
        · have z := i2 (e4 q4).1 _ (U y (by omega)); omega
        · have z : c_dp y = 0 := by rw [ey q3 q4]; rfl
          omega
    have Rq := i3 er V (fun z hz => by
      obtain ⟨e', m', g1, g2⟩ := hV z hz
      exact ⟨e', m', g1, by omega⟩)
    omega
  | case3 own x =>
    intro _ V _
    have := v_ct_le V N
    show v_ct V N + 0 ≤ N
    omega
  | case4 x =>
    intro _ V _
    have := v_ct_le V N
    show v_ct V N + 0 ≤ N
    omega
  | case5 e m x q1 q2 q3 q4 =>
    intro h
    unfold rEN at h
    split at h <;> first | (exact h.elim) | (exfalso; first | exact q1 _ _ _ _ _ _ _ rfl rfl | exact q2 _ _ _ _ _ rfl rfl | exact q3 _ rfl rfl | exact q4 rfl rfl)
theorem rEN_dp {w : W_} {hi : Int} {N : Nat} (hN : hi ≤ N) {e : T_} {m : Option (Option Nat)} {x : Int} (h : rEN w 0 hi e m x) : c_dp e ≤ N := by
  have z := rEN_dpV hN e m x h (fun _ => false) (fun z q => by cases q)
  omega
/-! ===== the reference looks through a body ===== -/
theorem r_or32 {a b : Int} (a0 : 0 ≤ a) (a1 : a < 1073741824) (b0 : 0 ≤ b) (b1 : b < 1073741824) : (Int32.ofInt a ||| Int32.ofInt b).toInt = ((a.toNat ||| b.toNat : Nat) : Int) := by
  have e : (Int32.ofInt a ||| Int32.ofInt b).toBitVec = BitVec.ofInt 32 a ||| BitVec.ofInt 32 b := rfl
  show (Int32.ofInt a ||| Int32.ofInt b).toBitVec.toInt = _
  rw [e]
  have v1 : (BitVec.ofInt 32 a).toNat = a.toNat := by
    show (a % 4294967296).toNat = _
    omega
  have v2 : (BitVec.ofInt 32 b).toNat = b.toNat := by
    show (b % 4294967296).toNat = _
    omega
  have hlt : a.toNat ||| b.toNat < 2 ^ 30 := Nat.or_lt_two_pow (by omega) (by omega)
  have hn : (BitVec.ofInt 32 a ||| BitVec.ofInt 32 b).toNat = a.toNat ||| b.toNat := by rw [BitVec.toNat_or, v1, v2]
  rw [BitVec.toInt_eq_toNat_of_lt (by rw [hn]; omega), hn]
theorem bz_shl1 : ∀ q, q < 10 → bz_shl 1 ((q : Nat) : Int) = ((2 ^ q : Nat) : Int) := by decide +kernel
theorem bz_nm {B q : Nat} (hB : B < 1024) (hq : q < 10) : bz_or (B : Int) (bz_shl 1 (q : Int)) = ((B ||| 2 ^ q : Nat) : Int) ∧ B ||| 2 ^ q < 1024 ∧ ∀ m, (B ||| 2 ^ q).testBit m = (B.testBit m || (q == m)) := by
  have h2 : 2 ^ q < 2 ^ 10 := Nat.pow_lt_pow_right (by decide) hq
  have h10 : 2 ^ 10 = 1024 := by decide
  refine ⟨?_, ?_, fun m => ?_⟩
  · rw [bz_shl1 q hq]
    unfold bz_or
    generalize 2 ^ q = p at h2
    rw [h10] at h2
    rw [r_or32 (by omega) (by omega) (by omega) (by omega), Int.toNat_natCast, Int.toNat_natCast]
  · have := Nat.or_lt_two_pow (n := 10) (by rw [h10]; exact hB) h2
    rw [h10] at this
    exact this
  · rw [Nat.testBit_or, Nat.testBit_two_pow]
    congr 1
/-- only isFit and inBody have changed -/
def rLK (w w' : W_) (f : Bool) (B : Nat) : Prop := (∀ a j, ¬ (a = 73 ∧ (j = 83 ∨ j = 84)) → w'.1 a j = w.1 a j) ∧ w'.2 = w.2 ∧ w'.1 73 83 = (if f = true then 1 else 0) ∧ w'.1 73 84 = (B : Int) ∧ B < 1024
def rLQ (w w' : W_) (f : Bool) (B : Nat) (u : Nat → Bool) : Prop := ∃ B', rLK w w' f B' ∧ ∀ m, m < 10 → B'.testBit m = (B.testBit m || u m)
theorem rLK_84 {w w' : W_} {f : Bool} {B B' : Nat} (h : rLK w w' f B) (hb : B' < 1024) : rLK w (w_f w' 73 84 (B' : Int)) f B' := by
  obtain ⟨h1, h2, h3, h4, h5⟩ := h
  exact ⟨fun a j q => by rw [w_f_ne _ _ _ _ _ _ (by omega)]; exact h1 a j q, h2, by rw [w_f_ne _ _ _ _ _ _ (by decide)]; exact h3, by rw [w_f1, w_u_at, if_pos ⟨rfl, rfl⟩], hb⟩
theorem rLK_83 {w w' : W_} {f f' : Bool} {B : Nat} {x : Int} (h : rLK w w' f B) (hx : x = if f' = true then 1 else 0) : rLK w (w_f w' 73 83 x) f' B := by
  obtain ⟨h1, h2, h3, h4, h5⟩ := h
  exact ⟨fun a j q => by rw [w_f_ne _ _ _ _ _ _ (by omega)]; exact h1 a j q, h2, by rw [w_f1, w_u_at, if_pos ⟨rfl, rfl⟩]; exact hx, by rw [w_f_ne _ _ _ _ _ _ (by decide)]; exact h4, h5⟩
theorem rLQ_rfl {w w' : W_} {f : Bool} {B : Nat} {u : Nat → Bool} (h : rLK w w' f B) (hu : ∀ m, u m = false) : rLQ w w' f B u := ⟨B, h, fun m _ => by rw [hu, Bool.or_false]⟩
/-- what looking at a node comes to -/
def rL2 (w : W_) (hi : Int) (e : T_) (m : Option (Option Nat)) (x : Int) : Prop := rEN w 0 hi e m x → match m with
  | some _ => ∀ (w0 : W_) (f : Bool) (B fr : Nat), rLK w w0 f B → 3 + c_dp e ≤ fr → ww_Ct 214 fr [.inr (.inr (.inl 73)), .inl x] w0 fun r w' => r = none ∧ rLQ w w' (f && !e_imp e) B (e_nm e)
  | none => ∀ (w0 : W_) (f : Bool) (B fr : Nat) (P : Option am_V → W_ → Prop) (x0 : Int) (v2 : am_V), am_two v2 = false → rLK w w0 f B → 4 + c_dp e ≤ fr → (∀ w', rLQ w w' (f && !e_imp e) B (e_nm e) → P none w') → zr214 fr P 145 x0 v2 (.inl x) w0
theorem lk_214 {w : W_} {hi : Int} (hh : hi ≤ 1024) (e : T_) (m : Option (Option Nat)) (x : Int) : rL2 w hi e m x := by
  induction e, m, x using rEN.induct (w := w) with
  | case1 k n id a b c own x i1 i2 i3 i4 =>
    intro h0
    dsimp only
    have h : rEN w 0 hi (ce k n id a b c) (some own) x := h0
    rw [rEN_ce] at h
    show ∀ (w0 : W_) (f : Bool) (B fr : Nat), rLK w w0 f B → 3 + c_dp (ce k n id a b c) ≤ fr → ww_Ct 214 fr [.inr (.inr (.inl 73)), .inl x] w0 fun r w' => r = none ∧ rLQ w w' (f && !e_imp (ce k n id a b c)) B (e_nm (ce k n id a b c))
    intro w0 f B fr hK hfr
    rw [c_dp_ce] at hfr
    obtain ⟨⟨hx, hk, hn, -, -⟩, kr, e8, e82, e1, e2, e3, ea, eb, ec⟩ := h
    have jp3 := j_par_3 k
    have rp := r_par_j k
    -- the end
    have FIN : ∀ (w1 : W_) (f1 : Bool) (B1 : Nat), rLK w w1 f1 B1 → (k ≠ 8 → f1 = (f && !e_imp (ce k n id a b c)) ∧ ∀ m, m < 10 → B1.testBit m = (B.testBit m || e_nm (ce k n id a b c) m)) → (k = 8 → f1 = f ∧ B1 = B) → zr214 fr (fun r w' => r = none ∧ rLQ w w' (f && !e_imp (ce k n id a b c)) B (e_nm (ce k n id a b c))) 145 x (.inl 1) (.inl (w1.2 82 x.toNat)) w1 := by
      intro w1 f1 B1 K1 h1 h2
      rw [K1.2.1]
      by_cases q8 : k = 8
      · obtain ⟨z1, z2⟩ := h2 q8
        have jb := eb (by rw [q8]; decide)
        have jc := ec (by rw [q8]; decide)
        refine i1 (e8 q8) w1 f1 B1 fr _ x (.inl 1) rfl K1 (by omega) (fun w' g => ⟨rfl, ?_⟩)
        obtain ⟨B', g1, g2⟩ := g
        refine ⟨B', ?_, fun m hm => ?_⟩
        · rw [eimp_ce, jb, jc, e_imp_own, q8, ← z1]
          have z : ((8 : Nat) == 29 || e_imp a || false || e_imp .nil) = e_imp a := by cases e_imp a <;> rfl
          rw [z]; exact g1
        · rw [g2 m hm, z2, e_nm_ce, jb, jc, e_nm_own, q8]
          have z : ((8 : Nat) == 7 && (n % 10).toNat == m || e_nm a m || false || e_nm .nil m) = e_nm a m := by
            have z1 : e_nm .nil m = false := rfl
            rw [z1]
            cases e_nm a m <;> rfl
          rw [z]
      · obtain ⟨z1, z2⟩ := h1 q8
        refine lk_214e rfl (e82 q8) ⟨rfl, B1, ?_, z2⟩
        rw [← z1]; exact K1
    -- a part
    have STEP : ∀ (i : Nat) (t : T_) (ow : Option Nat) (p : Int), i < j_par k → 3 + c_dp t + 1 ≤ fr → w.2 81 (3 * x.toNat + i) = p → rEN w 0 hi t (some ow) p → rL2 w hi t (some ow) p → ∀ (w1 : W_) (f1 : Bool) (B1 : Nat), rLK w w1 f1 B1 → (∀ w2, rLQ w w2 (f1 && !e_imp t) B1 (e_nm t) → zr214 fr (fun r w' => r = none ∧ rLQ w w' (f && !e_imp (ce k n id a b c)) B (e_nm (ce k n id a b c))) 87 x (.inl 1) (.inl ((i + 1 : Nat) : Int)) w2) → zr214 fr (fun r w' => r = none ∧ rLQ w w' (f && !e_imp (ce k n id a b c)) B (e_nm (ce k n id a b c))) 87 x (.inl 1) (.inl ((i : Nat) : Int)) w1 := by
      intro i t ow p hi' ht hp hE hL w1 f1 B1 K1 LL
      refine lk_214cx (k := (k : Int)) (q := ((j_par k : Nat) : Int)) (p := p) (R := fun w2 => rLQ w w2 (f1 && !e_imp t) B1 (e_nm t)) (by omega) (by rw [K1.2.1]; exact hk) (by omega) (by omega) rp (by omega) ?_ (hL hE w1 f1 B1 (fr - 1) K1 (by omega)) (fun w2 g => ?_)
      · rw [K1.2.1, show (3 * x + ((i : Nat) : Int)).toNat = 3 * x.toNat + i by omega]; exact hp
      · have z := LL w2 g
        rw [show (((i + 1 : Nat)) : Int) = (i : Int) + 1 by omega] at z
        exact z
    -- no more parts
    have OUT : ∀ (w1 : W_) (f1 : Bool) (B1 : Nat), rLK w w1 f1 B1 → (k ≠ 8 → f1 = (f && !e_imp (ce k n id a b c)) ∧ ∀ m, m < 10 → B1.testBit m = (B.testBit m || e_nm (ce k n id a b c) m)) → (k = 8 → f1 = f ∧ B1 = B) → zr214 fr (fun r w' => r = none ∧ rLQ w w' (f && !e_imp (ce k n id a b c)) B (e_nm (ce k n id a b c))) 87 x (.inl 1) (.inl ((j_par k : Nat) : Int)) w1 := fun w1 f1 B1 K1 h1 h2 =>
      lk_214cy (k := (k : Int)) (q := ((j_par k : Nat) : Int)) (by omega) (by rw [K1.2.1]; exact hk) (by omega) (by omega) rp (by omega) (by omega) rfl (FIN w1 f1 B1 K1 h1 h2)
    -- from the first part on
    have PARTS : ∀ (w1 : W_) (B1 : Nat), rLK w w1 (f && !(k == 29)) B1 → (∀ m, m < 10 → B1.testBit m = (B.testBit m || (k == 7 && (n % 10).toNat == m))) → (k = 8 → B1 = B) → zr214 fr (fun r w' => r = none ∧ rLQ w w' (f && !e_imp (ce k n id a b c)) B (e_nm (ce k n id a b c))) 87 x (.inl 1) (.inl 0) w1 := by
      intro w1 B1 K1 hB1 hB8
      have z0 : zr214 fr (fun r w' => r = none ∧ rLQ w w' (f && !e_imp (ce k n id a b c)) B (e_nm (ce k n id a b c))) 87 x (.inl 1) (.inl (((0 : Nat)) : Int)) w1 := by
        have J : j_par k = 0 ∨ j_par k = 1 ∨ j_par k = 2 ∨ j_par k = 3 := by omega
        rcases J with J | J | J | J
        · have z := OUT w1 _ B1 K1 (fun q8 => ?_) (fun q8 => ⟨by rw [q8]; cases f <;> rfl, hB8 q8⟩)
          · rw [J] at z; exact z
          · rw [eimp_ce, eb (by omega), ec (by omega), ea q8 J, e_imp_own]
            refine ⟨by cases f <;> cases (k == 29) <;> rfl, fun m hm => ?_⟩
            rw [hB1 m hm, e_nm_ce, e_nm_own]
            have z1 : e_nm .nil m = false := rfl
            rw [z1, Bool.or_false, Bool.or_false, Bool.or_false]
        · have q8 : k ≠ 8 := fun q => by rw [q] at J; cases J
          refine STEP 0 a _ _ (by omega) (by omega) rfl (e1 (by omega)) i2 w1 _ B1 K1 (fun w2 g => ?_)
          obtain ⟨B2, K2, hB2⟩ := g
          have z := OUT w2 _ B2 K2 (fun _ => ?_) (fun q => absurd q q8)
          · rw [J] at z; exact z
          · rw [eimp_ce, eb (by omega), ec (by omega), e_imp_own]
            refine ⟨by cases f <;> cases (k == 29) <;> cases e_imp a <;> rfl, fun m hm => ?_⟩
            rw [hB2 m hm, hB1 m hm, e_nm_ce, e_nm_own]
            have z1 : e_nm .nil m = false := rfl
            rw [z1, Bool.or_false, Bool.or_false, Bool.or_assoc]
        · have q8 : k ≠ 8 := fun q => by rw [q] at J; cases J
          refine STEP 0 a _ _ (by omega) (by omega) rfl (e1 (by omega)) i2 w1 _ B1 K1 (fun w2 g => ?_)
          obtain ⟨B2, K2, hB2⟩ := g
          refine STEP 1 b _ _ (by omega) (by omega) rfl (e2 (by omega)) i3 w2 _ B2 K2 (fun w3 g => ?_)
          obtain ⟨B3, K3, hB3⟩ := g
          have z := OUT w3 _ B3 K3 (fun _ => ?_) (fun q => absurd q q8)
          · rw [J] at z; exact z
          · rw [eimp_ce, ec (by omega)]
            refine ⟨by cases f <;> cases (k == 29) <;> cases e_imp a <;> cases e_imp b <;> rfl, fun m hm => ?_⟩
            rw [hB3 m hm, hB2 m hm, hB1 m hm, e_nm_ce]
            have z1 : e_nm .nil m = false := rfl
            rw [z1, Bool.or_false, Bool.or_assoc, Bool.or_assoc, Bool.or_assoc]
        · have q8 : k ≠ 8 := fun q => by rw [q] at J; cases J
          refine STEP 0 a _ _ (by omega) (by omega) rfl (e1 (by omega)) i2 w1 _ B1 K1 (fun w2 g => ?_)
          obtain ⟨B2, K2, hB2⟩ := g
          refine STEP 1 b _ _ (by omega) (by omega) rfl (e2 (by omega)) i3 w2 _ B2 K2 (fun w3 g => ?_)
          obtain ⟨B3, K3, hB3⟩ := g
          refine STEP 2 c _ _ (by omega) (by omega) rfl (e3 (by omega)) i4 w3 _ B3 K3 (fun w4 g => ?_)
          obtain ⟨B4, K4, hB4⟩ := g
          have z := OUT w4 _ B4 K4 (fun _ => ?_) (fun q => absurd q q8)
          · rw [J] at z; exact z
          · rw [eimp_ce]
            refine ⟨by cases f <;> cases (k == 29) <;> cases e_imp a <;> cases e_imp b <;> cases e_imp c <;> rfl, fun m hm => ?_⟩
            rw [hB4 m hm, hB3 m hm, hB2 m hm, hB1 m hm, e_nm_ce, Bool.or_assoc, Bool.or_assoc, Bool.or_assoc, Bool.or_assoc, Bool.or_assoc]
      exact z0
    -- whether it is an IMPORT
    have S31 : ∀ (w1 : W_) (B1 : Nat), rLK w w1 f B1 → (∀ m, m < 10 → B1.testBit m = (B.testBit m || (k == 7 && (n % 10).toNat == m))) → (k = 8 → B1 = B) → zr214 fr (fun r w' => r = none ∧ rLQ w w' (f && !e_imp (ce k n id a b c)) B (e_nm (ce k n id a b c))) 31 x am_X am_X w1 := by
      intro w1 B1 K1 hB1 hB8
      have hk1 : w1.2 77 x.toNat = (k : Int) := by rw [K1.2.1]; exact hk
      have K83 := K1.2.2.1
      cases f with
      | false =>
        exact lk_214bx0 (by omega) hk1 K83 (by omega) (PARTS _ B1 (rLK_83 K1 rfl) hB1 hB8)
      | true =>
        by_cases q : k = 29
        · exact lk_214bx2 (by omega) hk1 K83 (by omega) (PARTS _ B1 (rLK_83 K1 (by rw [q]; rfl)) hB1 hB8)
        · refine lk_214bx1 (by omega) hk1 K83 (by omega) (by omega) (PARTS _ B1 (rLK_83 K1 ?_) hB1 hB8)
          rw [beq_eq_false_iff_ne.2 q]; rfl
    have hk0 : w0.2 77 x.toNat = (k : Int) := by rw [hK.2.1]; exact hk
    by_cases q7 : k = 7
    · have en : ((((n % 10).toNat : Nat)) : Int) = n % 10 := by omega
      obtain ⟨y1, y2, y3⟩ := bz_nm (q := (n % 10).toNat) hK.2.2.2.2 (by omega)
      rw [en] at y1
      refine lk_214n (n := n) (b := (B : Int)) (by omega) hk0 (by omega) (by rw [hK.2.1]; exact hn) (by omega) hK.2.2.2.1 y1 (S31 _ _ (rLK_84 hK y2) (fun m _ => ?_) (fun q => absurd q (by omega)))
      rw [y3 m, q7]
      rfl
    · refine lk_214a (k := (k : Int)) (by omega) hk0 (by omega) (by omega) (S31 w0 B hK (fun m _ => ?_) (fun _ => rfl))
      rw [beq_eq_false_iff_ne.2 q7, Bool.false_and, Bool.or_false]
  | case2 k n id y r x i1 i2 i3 =>
    intro h0
    dsimp only
    have h := h0
    rw [rEN_it] at h
    obtain ⟨⟨hx, hk, -, -, -⟩, kr, e3, e4, e82, ey, er⟩ := h
    have na := rEN_na er
    show ∀ (w0 : W_) (f : Bool) (B fr : Nat) (P : Option am_V → W_ → Prop) (x0 : Int) (v2 : am_V), am_two v2 = false → rLK w w0 f B → 4 + c_dp (ct k n id y r) ≤ fr → (∀ w', rLQ w w' (f && !e_imp (ct k n id y r)) B (e_nm (ct k n id y r)) → P none w') → zr214 fr P 145 x0 v2 (.inl x) w0
    intro w0 f B fr P x0 v2 hv hK hfr LL
    rw [c_dp_ct _ _ _ _ _ na] at hfr
    -- the item
    have IT : ww_Ct 214 (fr - 1) [.inr (.inr (.inl 73)), .inl x] w0 fun r w' => r = none ∧ rLQ w w' (f && !e_imp y) B (e_nm y) := by
      have hk0 : w0.2 77 x.toNat = (k : Int) := by rw [hK.2.1]; exact hk
      have E145 : ∀ w1, rLK w w1 f B → k ≠ 3 → zr214 (fr - 1) (fun r w' => r = none ∧ rLQ w w' (f && !e_imp y) B (e_nm y)) 145 x (.inl 0) (.inl (w1.2 82 x.toNat)) w1 := by
        intro w1 K1 q3
        rw [K1.2.1]
        by_cases q4 : k = 4
        · exact i2 (e4 q4).1 w1 f B (fr - 1) _ x (.inl 0) rfl K1 (by omega) (fun w' g => ⟨rfl, g⟩)
        · have z := ey q3 q4
          refine lk_214e rfl (e82 q4) ⟨rfl, ?_⟩
          rw [z]
          refine rLQ_rfl ?_ (fun _ => rfl)
          have z2 : (f && !e_imp .nil) = f := by cases f <;> rfl
          rw [z2]; exact K1
      have C87 : ∀ w1, rLK w w1 f B → zr214 (fr - 1) (fun r w' => r = none ∧ rLQ w w' (f && !e_imp y) B (e_nm y)) 87 x (.inl 0) (.inl 0) w1 := by
        intro w1 K1
        have hk1 : w1.2 77 x.toNat = (k : Int) := by rw [K1.2.1]; exact hk
        by_cases q3 : k = 3
        · refine lk_214cc (p := w.2 81 (3 * x.toNat)) (R := fun w2 => rLQ w w2 (f && !e_imp y) B (e_nm y)) (by omega) hk1 (by omega) (by omega) ?_ (i1 (e3 q3) w1 f B (fr - 1 - 1) K1 (by omega)) (fun w2 g => ?_)
          · rw [K1.2.1, show (3 * x + 0).toNat = 3 * x.toNat by omega]
          · have K2 := g
            obtain ⟨B2, K2, -⟩ := K2
            refine lk_214cd (k := (k : Int)) (p := -1) (by omega) (by rw [K2.2.1]; exact hk) (by omega) ?_ (lk_214e rfl rfl ⟨rfl, g⟩)
            rw [K2.2.1]; exact e82 (by omega)
        · exact lk_214cn (by omega) hk1 (by omega) (by omega) rfl (E145 w1 K1 q3)
      refine lk_214a (k := (k : Int)) (by omega) hk0 (by omega) (by omega) ?_
      have K83 := hK.2.2.1
      cases f with
      | false => exact lk_214bi0 (by omega) hk0 K83 (by omega) (C87 _ (rLK_83 hK rfl))
      | true => exact lk_214bi1 (by omega) hk0 K83 (by omega) (C87 _ (rLK_83 hK rfl))
    refine lk_214d (R := fun w' => rLQ w w' (f && !e_imp y) B (e_nm y)) hv (by omega) (by omega) IT (fun w1 g => ?_)
    obtain ⟨B1, K1, hB1⟩ := g
    rw [K1.2.1]
    refine i3 er w1 _ B1 fr P x0 v2 hv K1 (by omega) (fun w' g => LL w' ?_)
    obtain ⟨B2, K2, hB2⟩ := g
    refine ⟨B2, ?_, fun m hm => ?_⟩
    · rw [eimp_ct na]
      have z : (f && !(e_imp y || e_imp r)) = (f && !e_imp y && !e_imp r) := by cases f <;> cases e_imp y <;> cases e_imp r <;> rfl
      rw [z]; exact K2
    · rw [hB2 m hm, hB1 m hm, enm_ct na, Bool.or_assoc]
  | case3 own x =>
    intro h0
    dsimp only
    intro w0 f B fr hK hfr
    have h : (0 ≤ x ∧ x < hi) ∧ w.2 77 x.toNat = 40 ∧ w.2 82 x.toNat = -1 := by
      unfold rEN at h0; exact h0
    have hk0 : w0.2 77 x.toNat = 40 := by rw [hK.2.1]; exact h.2.1
    have z2 : (f && !e_imp .nil) = f := by cases f <;> rfl
    have C87 : ∀ w1, rLK w w1 f B → zr214 fr (fun r w' => r = none ∧ rLQ w w' (f && !e_imp .nil) B (e_nm .nil)) 87 x (.inl 0) (.inl 0) w1 := by
      intro w1 K1
      refine lk_214cn (k := 40) (p := -1) (by omega) (by rw [K1.2.1]; exact h.2.1) (by omega) (by omega) (by rw [K1.2.1]; exact h.2.2) (lk_214e rfl rfl ⟨rfl, rLQ_rfl ?_ (fun _ => rfl)⟩)
      rw [z2]; exact K1
    refine lk_214a (k := 40) (by omega) hk0 (by omega) (by omega) ?_
    have K83 := hK.2.2.1
    cases f with
    | false => exact lk_214bb0 (by omega) hk0 K83 rfl (C87 _ (rLK_83 hK rfl))
    | true => exact lk_214bb1 (by omega) hk0 K83 rfl (C87 _ (rLK_83 hK rfl))
  | case4 x =>
    intro h0
    dsimp only
    intro w0 f B fr P x0 v2 hv hK hfr LL
    have h : x = -1 := by unfold rEN at h0; exact h0
    refine lk_214e hv h (LL w0 (rLQ_rfl ?_ (fun _ => rfl)))
    have z2 : (f && !e_imp .nil) = f := by cases f <;> rfl
    rw [z2]; exact hK
  | case5 e m x q1 q2 q3 q4 =>
    intro h
    exfalso
    unfold rEN at h
    split at h <;> first | (exact h.elim) | (first | exact q1 _ _ _ _ _ _ _ rfl rfl | exact q2 _ _ _ _ _ rfl rfl | exact q3 _ rfl rfl | exact q4 rfl rfl)
