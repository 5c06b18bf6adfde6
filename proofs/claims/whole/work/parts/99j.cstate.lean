/-! ===== the class and the evaluator: the state ===== -/
abbrev eW (w : W_) : Nat → Bool → T_ → Prop := fun m hb t => eR (w.2 3) (w.2 5) (w.2 37) (w.2 46) m hb t ∧ tI (w.2 3) (w.2 5) (w.2 7) t
abbrev eW0 (w : W_) : Nat → Bool → T_ → Prop := fun m hb t => eR (w.2 3) (w.2 5) (w.2 37) (w.2 46) m hb t ∧ tI0 (w.2 3) (w.2 5) (w.2 7) t
/-- of a value's parts: its nodes may be looked at; the code of its functions and LATEs -/
abbrev fW (w : W_) : T_ → Prop := fun t => match t with
  | .nest x _ => 30000 ≤ x → gA (w.2 7) x
  | .tag _ e => fR (w.2 3) (w.2 5) (w.2 37) (w.2 46) e ∧ tI (w.2 3) (w.2 5) (w.2 7) e
  | _ => False
abbrev fW0 (w : W_) : T_ → Prop := fun t => match t with
  | .nest _ _ => True
  | .tag _ e => fR (w.2 3) (w.2 5) (w.2 37) (w.2 46) e ∧ tI0 (w.2 3) (w.2 5) (w.2 7) e
  | _ => False
/-- a node's own parts -/
def nd1 (a g : Nat → Int) (k : Nat) : Prop := ((-2147483648 ≤ a (8 * k + 1) ∧ a (8 * k + 1) < 30000 + (k : Int)) ∧ -2147483648 ≤ a (8 * k + 2) ∧ a (8 * k + 2) < 30000 + (k : Int)) ∧ (a (8 * k) = 12 → a (8 * k + 2) < 30000) ∧ (gA g (30000 + (k : Int)) → (30000 ≤ a (8 * k + 1) → gA g (a (8 * k + 1))) ∧ (30000 ≤ a (8 * k + 2) → gA g (a (8 * k + 2))))
def hI (n : Int) (a g : Nat → Int) : Prop := ∀ k : Nat, (k : Int) < n → nd1 a g k
/-- nodes to come may be looked at; what belongs to a file that may be looked at may too -/
def gN (n : Int) (g : Nat → Int) : Prop := (∀ x : Int, 30000 + n ≤ x → gA g x ∧ ∀ f, f < 3 → gR g f x) ∧ ∀ f, f < 3 → gF g f → ∀ x : Int, 30000 ≤ x → (gR g f x ↔ gA g x)
/-- nodes whose parts are among them -/
def cl (n : Int) (a : Nat → Int) (l : List Int) : Prop := ∀ x, x ∈ l → (30000 ≤ x ∧ x < 30000 + n) ∧ (30000 ≤ pH a x 1 → pH a x 1 ∈ l) ∧ (30000 ≤ pH a x 2 → pH a x 2 ∈ l)
def rN (l : List R_) (f : Nat) : Nat := (l.filter fun r => r_id r / 60 == f).length
/-- the nodes of kept calls, by files: few -/
def mU (n kc : Int) (a m g : Nat → Int) (l : List R_) : Prop := (0 ≤ kc ∧ kc ≤ n) ∧ ∃ U : Nat → List Int, (∀ f, f < 3 → cl n a (U f) ∧ (U f).length ≤ 3961 * rN l f ∧ (∀ x, x ∈ U f → gR g f x) ∧ ∀ x : Int, 30000 ≤ x → gL g f x → x ∈ U f) ∧ (∀ i r, l[i]? = some r → 30000 ≤ m (61 * i + 2) → m (61 * i + 2) ∈ U (r_id r / 60)) ∧ ∀ k : Nat, (k : Int) < kc → ∃ f, f < 3 ∧ (30000 + (k : Int)) ∈ U f
/-- .. and one more call is kept whose value is x -/
def kU (n kc : Int) (a m g : Nat → Int) (l : List R_) (f : Nat) (x : Int) : Prop := (0 ≤ kc ∧ kc ≤ n) ∧ ∃ U : Nat → List Int, (∀ f', f' < 3 → cl n a (U f') ∧ (U f').length ≤ 3961 * (rN l f' + if f = f' then 1 else 0) ∧ (∀ x, x ∈ U f' → gR g f' x) ∧ ∀ x : Int, 30000 ≤ x → gL g f' x → x ∈ U f') ∧ (∀ i r, l[i]? = some r → 30000 ≤ m (61 * i + 2) → m (61 * i + 2) ∈ U (r_id r / 60)) ∧ (30000 ≤ x → x ∈ U f) ∧ ∀ k : Nat, (k : Int) < kc → ∃ f', f' < 3 ∧ (30000 + (k : Int)) ∈ U f'
theorem rN_app (l : List R_) (r : R_) (f : Nat) : rN (l ++ [r]) f = rN l f + if r_id r / 60 = f then 1 else 0 := by
  unfold rN
  rw [List.filter_append, List.length_append]
  congr 1
  by_cases c : r_id r / 60 = f
  · rw [if_pos c]
    simp [List.filter_cons, c]
  · rw [if_neg c]
    simp [List.filter_cons, c]
theorem nd1_eq {a a' g : Nat → Int} {k : Nat} (e : ∀ i, i < 3 → a' (8 * k + i) = a (8 * k + i)) (h : nd1 a g k) : nd1 a' g k := by
  unfold nd1 at h ⊢
  have e0 : a' (8 * k) = a (8 * k) := e 0 (by decide)
  rw [e 1 (by decide), e 2 (by decide), e0]
  exact h
theorem pH_eq {n : Int} {a a' : Nat → Int} (ha : ∀ k : Nat, (k : Int) < 8 * n → a' k = a k) {x : Int} (hx : x < 30000 + n) {f : Nat} (hf : f < 8) : pH a' x f = pH a x f := by
  unfold pH
  by_cases c : x < 30000
  · rw [if_pos c, if_pos c]
  · rw [if_neg c, if_neg c]
    exact ha _ (by omega)
theorem cl_mono {n n' : Int} {a a' : Nat → Int} (hn : n ≤ n') (ha : ∀ k : Nat, (k : Int) < 8 * n → a' k = a k) {l : List Int} (h : cl n a l) : cl n' a' l := fun x hx => by
  obtain ⟨⟨h1, h2⟩, h3⟩ := h x hx
  rw [pH_eq ha h2 (by decide), pH_eq ha h2 (by decide)]
  exact ⟨⟨h1, by omega⟩, h3⟩
theorem mU_mono {n n' kc : Int} {a a' m g : Nat → Int} {l : List R_} (hn : n ≤ n') (ha : ∀ k : Nat, (k : Int) < 8 * n → a' k = a k) (h : mU n kc a m g l) : mU n' kc a' m g l := by
  obtain ⟨⟨k0, k1⟩, U, h1, h2, h3⟩ := h
  exact ⟨⟨k0, by omega⟩, U, fun f hf => ⟨cl_mono hn ha (h1 f hf).1, (h1 f hf).2⟩, h2, h3⟩
theorem hI_mono {n n' : Int} {a a' g : Nat → Int} (ha : ∀ k : Nat, (k : Int) < 8 * n → a' k = a k) (hw : ∀ k : Nat, n ≤ (k : Int) → (k : Int) < n' → nd1 a' g k) (h : hI n a g) : hI n' a' g := fun k hk => by
  by_cases c : (k : Int) < n
  · exact nd1_eq (fun i hi => ha _ (by omega)) (h k c)
  · exact hw k (by omega) hk
theorem gN_mono {n n' : Int} {g : Nat → Int} (hn : n ≤ n') (h : gN n g) : gN n' g := ⟨fun x hx => h.1 x (by omega), h.2⟩
abbrev vW_ (w : W_) : T_ → Int → Prop := vR (w.1 13 2) (w.2 13) (fW w)
abbrev nW (w : W_) (E : N_) : Prop := nR (w.1 13 2) (w.2 13) (fW w) E (w.2 42) (w.1 41 12).toNat
/-- the round and its result -/
def CRa (C : C_) (o : Nat) (s : S_) (w : W_) : Prop := ((o = 24 ∨ o = 55 ∨ o = 64) ∧ w.1 17 7 = (o : Int)) ∧ (w.1 17 4 = s_b s ∧ w.1 17 5 = s_nt s ∧ w.1 17 6 = C.2.1 ∧ 0 ≤ C.2.1 ∧ C.2.1 ≤ 12) ∧ (w.1 o 5 = (s_fl s).length ∧ (s_fl s).length ≤ 60 ∧ ∀ i, i < (s_fl s).length → w.2 (o + 3) i = (s_fl s).getD i 0) ∧ (∀ q, q < 45 → match C.1 q with
  | some x => w.2 18 q = x ∧ -9999 ≤ x ∧ x ≤ 9999
  | none => w.2 18 q = 20005)
/-- what was asked; calls -/
def CRb (sil : Bool) (a0 : Nat) (D : Prop) (s : S_) (w : W_) : Prop := (∃ n : Nat, w.1 17 3 = n ∧ a0 ≤ n ∧ n ≤ 46 * min (s_b s) 300 + s_tb s ∧ (∀ i, i < n → 0 ≤ w.2 22 i ∧ w.2 22 i < 45) ∧ ∀ q : Nat, q < 45 → (s_as s q = true ↔ ∃ i, a0 ≤ i ∧ i < n ∧ w.2 22 i = q)) ∧ (w.1 41 14 = s_dp s ∧ s_dp s ≤ 8) ∧ (0 ≤ w.1 41 15 ∧ w.1 41 15 ≤ 9) ∧ (D → w.1 41 15 = s_dp s + s_sn s ∧ w.1 41 16 = s_lt s) ∧ am_rg (w.1 41 16) ∧ w.1 41 17 = (if sil = true then 0 else 1)
/-- counts, files, the heap's bounds -/
def CRc (C : C_) (sil : Bool) (o : Nat) (K0 : Int) (s : S_) (w : W_) : Prop := ((sil = false → w.1 o 7 = s_rn s ∧ w.1 o 8 = s_tk s) ∧ hI (w.1 13 2) (w.2 13) (w.2 7) ∧ gN (w.1 13 2) (w.2 7)) ∧ (∀ f, f < 3 → w.2 46 f = s_fs s f ∧ s_fs s f ≤ 2) ∧ (∀ f, f < 3 → s_fs s f = 2 → nR (w.1 13 2) (w.2 13) (fW0 w) (s_fe s f) (w.2 44) f) ∧ (0 ≤ w.1 13 2 ∧ w.1 13 2 ≤ K0 + s_nd s ∧ K0 ≤ 238000) ∧ (s_nd s ≤ 11 * s_tb s + 300 ∧ s_tb s ≤ 2000 ∧ s_rw s ≤ 2040 ∧ s_tb s ≤ s_b s ∧ s_b s ≤ 100000 ∧ s_nt s ≤ 1000000)
/-- the memory -/
def CRm (_ : Bool) (s : S_) (w : W_) : Prop := w.1 10 1 = (s_me s).length ∧ (s_me s).length ≤ 60 ∧ (∀ i r, (s_me s)[i]? = some r → w.2 11 (61 * i) = r_id r ∧ w.2 11 (61 * i + 1) = r_arg r ∧ vR (w.1 13 2) (w.2 13) (fun _ => True) (r_val r) (w.2 11 (61 * i + 2)) ∧ w.2 11 (61 * i + 3) = r_b r ∧ w.2 11 (61 * i + 4) = r_sn r ∧ w.2 11 (61 * i + 5) = r_lt r ∧ (∀ m, m < 10 → w.2 11 (61 * i + 6 + m) = (r_nums r m).getD 20005) ∧ ∀ q, q < 45 → w.2 11 (61 * i + 16 + q) = if r_as r q = true then (r_an r q).getD 20005 else 20005) ∧ (∀ r, r ∈ s_me s → KR r ∧ tI0 (w.2 3) (w.2 5) (w.2 7) (v_code (r_fn r))) ∧ mU (w.1 13 2) (w.1 13 3) (w.2 13) (w.2 11) (w.2 7) (s_me s)
def CR (C : C_) (sil : Bool) (o a0 : Nat) (D : Prop) (K0 : Int) (s : S_) (w : W_) : Prop := CRa C o s w ∧ CRb sil a0 D s w ∧ CRc C sil o K0 s w ∧ CRm sil s w
/-- nothing but frames, names and the runner's own numbers is another -/
def wS (w w' : W_) : Prop := (∀ a j, a ≠ 33 → a ≠ 41 → w'.1 a j = w.1 a j) ∧ (w'.1 41 14 = w.1 41 14 ∧ w'.1 41 15 = w.1 41 15 ∧ w'.1 41 16 = w.1 41 16 ∧ w'.1 41 17 = w.1 41 17) ∧ ∀ b, b ≠ 34 → b ≠ 42 → w'.2 b = w.2 b
theorem wS_tr {w w1 w2 : W_} (h : wS w w1) (g : wS w1 w2) : wS w w2 := ⟨fun a j h1 h2 => (g.1 a j h1 h2).trans (h.1 a j h1 h2), ⟨g.2.1.1.trans h.2.1.1, g.2.1.2.1.trans h.2.1.2.1, g.2.1.2.2.1.trans h.2.1.2.2.1, g.2.1.2.2.2.trans h.2.1.2.2.2⟩, fun b h1 h2 => (g.2.2 b h1 h2).trans (h.2.2 b h1 h2)⟩
theorem wS_refl (w : W_) : wS w w := ⟨fun _ _ _ _ => rfl, ⟨rfl, rfl, rfl, rfl⟩, fun _ _ _ => rfl⟩
theorem wS_f {w : W_} {a j : Nat} {x : Int} (h : a = 33 ∨ a = 41 ∧ j ≠ 14 ∧ j ≠ 15 ∧ j ≠ 16 ∧ j ≠ 17) : wS w (w_f w a j x) := by
  have e : ∀ b k, ¬ (b = a ∧ k = j) → (w_f w a j x).1 b k = w.1 b k := fun b k q => by rw [w_f1, w_u_at, if_neg q]
  refine ⟨fun b k h1 h2 => e b k fun q => ?_, ⟨e _ _ fun q => ?_, e _ _ fun q => ?_, e _ _ fun q => ?_, e _ _ fun q => ?_⟩, fun b _ _ => rfl⟩ <;> omega
theorem wS_a {w : W_} {a i : Nat} {x : Int} (h : a = 34 ∨ a = 42) : wS w (w_a w a i x) := ⟨fun _ _ _ _ => rfl, ⟨rfl, rfl, rfl, rfl⟩, fun b h1 h2 => w_a_2ne w i x (by omega)⟩
theorem wS_fill {w : W_} {a i j : Nat} {x : Int} (h : a = 34 ∨ a = 42) : wS w (w_fill w a i j x) := ⟨fun _ _ _ _ => rfl, ⟨rfl, rfl, rfl, rfl⟩, fun b h1 h2 => w_fill_2ne w i j x (by omega)⟩
theorem wS_pu (w : W_) (x y : Int) : wS w (w_pu w x y) := by
  unfold w_pu
  exact wS_tr (wS_tr (wS_tr (wS_fill (Or.inl rfl)) (wS_a (Or.inl rfl))) (wS_a (Or.inl rfl))) (wS_f (Or.inl rfl))
theorem wS_po (w : W_) : wS w (w_po w) := wS_f (Or.inl rfl)
theorem wS_fs (w : W_) (f x : Int) : wS w (w_fs w f x) := wS_a (Or.inl rfl)
theorem wS_fW {w w' : W_} (h : wS w w') : w'.1 13 2 = w.1 13 2 ∧ w'.2 13 = w.2 13 ∧ w'.2 3 = w.2 3 ∧ w'.2 5 = w.2 5 ∧ w'.2 37 = w.2 37 ∧ w'.2 46 = w.2 46 := ⟨h.1 13 2 (by decide) (by decide), h.2.2 13 (by decide) (by decide), h.2.2 3 (by decide) (by decide), h.2.2 5 (by decide) (by decide), h.2.2 37 (by decide) (by decide), h.2.2 46 (by decide) (by decide)⟩
theorem CR_S {C : C_} {sil : Bool} {o a0 : Nat} {D : Prop} {K0 : Int} {s : S_} {w w' : W_} (H : CR C sil o a0 D K0 s w) (h : wS w w') : CR C sil o a0 D K0 s w' := by
  obtain ⟨Ha, Hb, Hc, Hm⟩ := H
  have ho : o ≠ 33 ∧ o ≠ 41 ∧ o + 3 ≠ 34 ∧ o + 3 ≠ 42 := by have := Ha.1.1; omega
  have f := fun a j (h1 : a ≠ 33) (h2 : a ≠ 41) => h.1 a j h1 h2
  have g := fun b (h1 : b ≠ 34) (h2 : b ≠ 42) => h.2.2 b h1 h2
  obtain ⟨k1, k2, k3, k4, k5, k6⟩ := wS_fW h
  refine ⟨?_, ?_, ?_, ?_⟩
  · unfold CRa at Ha ⊢
    rw [f 17 7 (by decide) (by decide), f 17 4 (by decide) (by decide), f 17 5 (by decide) (by decide), f 17 6 (by decide) (by decide), f o 5 ho.1 ho.2.1, g (o + 3) ho.2.2.1 ho.2.2.2, g 18 (by decide) (by decide)]
    exact Ha
  · unfold CRb at Hb ⊢
    rw [f 17 3 (by decide) (by decide), g 22 (by decide) (by decide), h.2.1.1, h.2.1.2.1, h.2.1.2.2.1, h.2.1.2.2.2]
    exact Hb
  · unfold CRc fW0 at Hc ⊢
    rw [f o 7 ho.1 ho.2.1, f o 8 ho.1 ho.2.1, k1, k2, k3, k4, k5, k6, g 44 (by decide) (by decide), g 7 (by decide) (by decide)]
    exact Hc
  · unfold CRm at Hm ⊢
    rw [f 10 1 (by decide) (by decide), f 13 3 (by decide) (by decide), g 11 (by decide) (by decide), k1, k2, k3, k4, g 7 (by decide) (by decide)]
    exact Hm
theorem eW_S {w w' : W_} (h : wS w w') {m : Nat} {hb : Bool} {e : T_} (H : eW w m hb e) : eW w' m hb e := by
  obtain ⟨k1, k2, k3, k4, k5, k6⟩ := wS_fW h
  unfold eW at H ⊢
  rw [k3, k4, k5, k6, h.2.2 7 (by decide) (by decide)]
  exact H
theorem eW0_S {w w' : W_} (h : wS w w') {m : Nat} {hb : Bool} {e : T_} (H : eW0 w m hb e) : eW0 w' m hb e := by
  obtain ⟨k1, k2, k3, k4, k5, k6⟩ := wS_fW h
  unfold eW0 at H ⊢
  rw [k3, k4, k5, k6, h.2.2 7 (by decide) (by decide)]
  exact H
theorem vW_S {w w' : W_} (h : wS w w') {v : T_} {x : Int} (H : vW_ w v x) : vW_ w' v x := by
  obtain ⟨k1, k2, k3, k4, k5, k6⟩ := wS_fW h
  unfold vW_ fW at H ⊢
  rw [k1, k2, k3, k4, k5, k6, h.2.2 7 (by decide) (by decide)]
  exact H
/-- one more is begun -/
theorem CR_bg {C : C_} {sil : Bool} {o a0 : Nat} {D : Prop} {K0 : Int} {s : S_} {w : W_} (H : CR C sil o a0 D K0 s w) (ht : s_tb s < 2000) (hb : s_b s < 100000) : CR C sil o a0 D K0 (u_go s) (w_bg w) := by
  obtain ⟨Ha, Hb, Hc, Hm⟩ := H
  have e : ∀ a j, ¬ (a = 17 ∧ j = 4) → ¬ (a = 41 ∧ j = 10) → (w_bg w).1 a j = w.1 a j := fun a j h1 h2 => by rw [w_bg1, if_neg h1, if_neg h2]
  have e4 : (w_bg w).1 17 4 = w.1 17 4 + 1 := rfl
  have e2 : (w_bg w).2 = w.2 := rfl
  refine ⟨?_, ?_, ?_, ?_⟩
  · unfold CRa at Ha ⊢
    have ho := Ha.1.1
    rw [e 17 7 (by decide) (by decide), e4, e 17 5 (by decide) (by decide), e 17 6 (by decide) (by decide), e o 5 (by omega) (by omega), e2]
    exact ⟨Ha.1, ⟨by rw [Ha.2.1.1]; rfl, Ha.2.1.2⟩, Ha.2.2⟩
  · unfold CRb at Hb ⊢
    rw [e 17 3 (by decide) (by decide), e 41 14 (by decide) (by decide), e 41 15 (by decide) (by decide), e 41 16 (by decide) (by decide), e 41 17 (by decide) (by decide), e2]
    obtain ⟨⟨n, n1, n2, n3, n4⟩, r⟩ := Hb
    exact ⟨⟨n, n1, n2, by show n ≤ 46 * min (s_b s + 1) 300 + (s_tb s + 1); omega, n4⟩, r⟩
  · unfold CRc fW0 at Hc ⊢
    have ho := Ha.1.1
    rw [e o 7 (by omega) (by omega), e o 8 (by omega) (by omega), e 13 2 (by decide) (by decide), e2]
    obtain ⟨⟨c1, c2, c3⟩, c4, c5, c6, c7⟩ := Hc
    exact ⟨⟨c1, c2, c3⟩, c4, c5, c6, by show s_nd s ≤ 11 * (s_tb s + 1) + 300 ∧ s_tb s + 1 ≤ 2000 ∧ s_rw s ≤ 2040 ∧ s_tb s + 1 ≤ s_b s + 1 ∧ s_b s + 1 ≤ 100000 ∧ s_nt s ≤ 1000000; omega⟩
  · unfold CRm at Hm ⊢
    rw [e 10 1 (by decide) (by decide), e 13 2 (by decide) (by decide), e 13 3 (by decide) (by decide), e2]
    exact Hm
theorem CR_br {C : C_} {sil : Bool} {o a0 : Nat} {D : Prop} {K0 : Int} {s : S_} {w : W_} (H : CR C sil o a0 D K0 s w) (hb : s_b s < 100000) : CR C sil o a0 D K0 (u_b s (s_b s + 1)) (w_bg w) := by
  obtain ⟨Ha, Hb, Hc, Hm⟩ := H
  have e : ∀ a j, ¬ (a = 17 ∧ j = 4) → ¬ (a = 41 ∧ j = 10) → (w_bg w).1 a j = w.1 a j := fun a j h1 h2 => by rw [w_bg1, if_neg h1, if_neg h2]
  have e4 : (w_bg w).1 17 4 = w.1 17 4 + 1 := rfl
  have e2 : (w_bg w).2 = w.2 := rfl
  refine ⟨?_, ?_, ?_, ?_⟩
  · unfold CRa at Ha ⊢
    have ho := Ha.1.1
    rw [e 17 7 (by decide) (by decide), e4, e 17 5 (by decide) (by decide), e 17 6 (by decide) (by decide), e o 5 (by omega) (by omega), e2]
    exact ⟨Ha.1, ⟨by rw [Ha.2.1.1]; rfl, Ha.2.1.2⟩, Ha.2.2⟩
  · unfold CRb at Hb ⊢
    rw [e 17 3 (by decide) (by decide), e 41 14 (by decide) (by decide), e 41 15 (by decide) (by decide), e 41 16 (by decide) (by decide), e 41 17 (by decide) (by decide), e2]
    obtain ⟨⟨n, n1, n2, n3, n4⟩, r⟩ := Hb
    exact ⟨⟨n, n1, n2, by show n ≤ 46 * min (s_b s + 1) 300 + s_tb s; omega, n4⟩, r⟩
  · unfold CRc fW0 at Hc ⊢
    have ho := Ha.1.1
    rw [e o 7 (by omega) (by omega), e o 8 (by omega) (by omega), e 13 2 (by decide) (by decide), e2]
    obtain ⟨⟨c1, c2, c3⟩, c4, c5, c6, c7⟩ := Hc
    exact ⟨⟨c1, c2, c3⟩, c4, c5, c6, by show s_nd s ≤ 11 * s_tb s + 300 ∧ s_tb s ≤ 2000 ∧ s_rw s ≤ 2040 ∧ s_tb s ≤ s_b s + 1 ∧ s_b s + 1 ≤ 100000 ∧ s_nt s ≤ 1000000; omega⟩
  · unfold CRm at Hm ⊢
    rw [e 10 1 (by decide) (by decide), e 13 2 (by decide) (by decide), e 13 3 (by decide) (by decide), e2]
    exact Hm
theorem CR_o {C : C_} {sil : Bool} {o a0 : Nat} {D : Prop} {K0 : Int} {s : S_} {w : W_} (H : CR C sil o a0 D K0 s w) : w_o w = o ∧ w_kn w := by
  have h := H.1.1
  have e : w_o w = o := by unfold w_o; rw [h.2]; rfl
  have h5 := H.1.2.2.1
  refine ⟨e, ?_, by omega⟩
  rw [e]
  omega
/-- a fault -/
theorem CR_nt {C : C_} {sil : Bool} {o a0 : Nat} {D : Prop} {K0 : Int} {s : S_} {w : W_} (H : CR C sil o a0 D K0 s w) (hn : s_nt s < 1000000) (f : Int) : CR C sil o a0 D K0 (f_note C f s) (w_nt w f) := by
  obtain ⟨ew, -⟩ := CR_o H
  obtain ⟨Ha, Hb, Hc, Hm⟩ := H
  have ho := Ha.1.1
  have e : ∀ a j, ¬ (a = 17 ∧ j = 5) → ¬ (a = o ∧ j = 5) → (w_nt w f).1 a j = w.1 a j := fun a j h1 h2 => by
    unfold w_nt
    rw [ew, w_f1, w_u_at, if_neg h2, w_f1, w_u_at, if_neg h1]
    rfl
  have e5 : (w_nt w f).1 17 5 = w.1 17 5 + 1 := by
    unfold w_nt
    rw [ew, w_f1, w_u_at, if_neg (by omega), w_f1, w_u_at, if_pos ⟨rfl, rfl⟩]
  have eo : (w_nt w f).1 o 5 = if w.1 o 5 < 60 then w.1 o 5 + 1 else w.1 o 5 := by
    unfold w_nt
    rw [ew, w_f1, w_u_at, if_pos ⟨rfl, rfl⟩]
  have e2 : ∀ b, b ≠ o + 3 → (w_nt w f).2 b = w.2 b := fun b h => by
    unfold w_nt
    rw [ew]
    exact w_a_2ne w _ _ h
  have e3 : ∀ i, (w_nt w f).2 (o + 3) i = if i = (w.1 o 5).toNat then (if w.1 o 5 < 60 then f + w.1 17 6 else w.2 (o + 3) i) else w.2 (o + 3) i := fun i => by
    unfold w_nt
    rw [ew]
    show w_u w.2 (o + 3) (w.1 o 5).toNat _ (o + 3) i = _
    rw [w_u_at]
    by_cases c : i = (w.1 o 5).toNat
    · rw [if_pos ⟨rfl, c⟩, if_pos c, c]
    · rw [if_neg (fun q => c q.2), if_neg c]
  refine ⟨?_, ?_, ?_, ?_⟩
  · unfold CRa at Ha ⊢
    rw [e 17 7 (by decide) (by omega), e 17 4 (by decide) (by omega), e5, e 17 6 (by decide) (by omega), eo, e2 18 (by omega)]
    obtain ⟨a1, ⟨a2, a3, a4, a5, a6⟩, ⟨a7, a8, a9⟩, a10⟩ := Ha
    refine ⟨a1, ⟨a2, by rw [a3]; rfl, a4, a5, a6⟩, ?_, a10⟩
    unfold f_note
    by_cases c : (s_fl s).length < 60
    · rw [if_pos (by omega)]
      show _ = ((if (s_fl s).length < 60 then s_fl s ++ [f + C.2.1] else s_fl s).length : Int) ∧ (if (s_fl s).length < 60 then s_fl s ++ [f + C.2.1] else s_fl s).length ≤ 60 ∧ ∀ i, i < (if (s_fl s).length < 60 then s_fl s ++ [f + C.2.1] else s_fl s).length → (w_nt w f).2 (o + 3) i = (if (s_fl s).length < 60 then s_fl s ++ [f + C.2.1] else s_fl s).getD i 0
      rw [if_pos c, List.length_append]
      refine ⟨by rw [a7]; rfl, by show _ + 1 ≤ 60; omega, fun i hi => ?_⟩
      have hi : i < (s_fl s).length + 1 := hi
      rw [e3 i, a7]
      by_cases d : i = (s_fl s).length
      · rw [if_pos (by omega), if_pos (by omega), d, a4, List.getD_eq_getElem?_getD, List.getElem?_append_right (Nat.le_refl _), Nat.sub_self]
        rfl
      · rw [if_neg (by omega), a9 i (by omega), List.getD_eq_getElem?_getD, List.getD_eq_getElem?_getD, List.getElem?_append_left (by omega)]
    · rw [if_neg (by omega)]
      show _ = ((if (s_fl s).length < 60 then s_fl s ++ [f + C.2.1] else s_fl s).length : Int) ∧ (if (s_fl s).length < 60 then s_fl s ++ [f + C.2.1] else s_fl s).length ≤ 60 ∧ ∀ i, i < (if (s_fl s).length < 60 then s_fl s ++ [f + C.2.1] else s_fl s).length → (w_nt w f).2 (o + 3) i = (if (s_fl s).length < 60 then s_fl s ++ [f + C.2.1] else s_fl s).getD i 0
      rw [if_neg c]
      refine ⟨a7, a8, fun i hi => ?_⟩
      rw [e3 i, if_neg (by omega)]
      exact a9 i hi
  · unfold CRb at Hb ⊢
    rw [e 17 3 (by decide) (by omega), e 41 14 (by decide) (by omega), e 41 15 (by decide) (by omega), e 41 16 (by decide) (by omega), e 41 17 (by decide) (by omega), e2 22 (by omega)]
    exact Hb
  · unfold CRc fW0 at Hc ⊢
    rw [e o 7 (by omega) (by omega), e o 8 (by omega) (by omega), e 13 2 (by decide) (by omega), e2 46 (by omega), e2 13 (by omega), e2 3 (by omega), e2 5 (by omega), e2 37 (by omega), e2 44 (by omega), e2 7 (by omega)]
    obtain ⟨c0, c4, c5, c6, c7, c8, c9, c10, c11, c12⟩ := Hc
    exact ⟨c0, c4, c5, c6, c7, c8, c9, c10, c11, by show s_nt s + 1 ≤ 1000000; omega⟩
  · unfold CRm at Hm ⊢
    rw [e 10 1 (by decide) (by omega), e 13 2 (by decide) (by omega), e 13 3 (by decide) (by omega), e2 11 (by omega), e2 13 (by omega), e2 3 (by omega), e2 5 (by omega), e2 7 (by omega)]
    exact Hm
