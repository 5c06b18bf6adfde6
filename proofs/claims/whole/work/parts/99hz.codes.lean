/-! ===== codes that occur in a text ===== -/
def e_in (t : T_) : T_ → Prop
  | .tag k (.nest n (.tag id (.append a (.append b c)))) => t = .tag k (.nest n (.tag id (.append a (.append b c)))) ∨ t = .append b c ∨ e_in t a ∨ e_in t b ∨ e_in t c
  | .tag k (.nest n (.tag id (.append x r))) => t = .tag k (.nest n (.tag id (.append x r))) ∨ e_in t x ∨ e_in t r
  | u => t = u
theorem e_in_ce {t : T_} {k : Nat} {n : Int} {id : Nat} {a b c : T_} : e_in t (ce k n id a b c) = (t = ce k n id a b c ∨ t = .append b c ∨ e_in t a ∨ e_in t b ∨ e_in t c) := rfl
theorem e_in_ct {t : T_} {k : Nat} {n : Int} {id : Nat} {x r : T_} (hn : ∀ b c, r ≠ .append b c) : e_in t (ct k n id x r) = (t = ct k n id x r ∨ e_in t x ∨ e_in t r) := by
  unfold ct
  rw [e_in]
  exact hn
theorem e_in_oth {t e : T_} (h1 : ∀ k n id a b c, e ≠ ce k n id a b c) (h2 : ∀ k n id x r, e ≠ ct k n id x r) : e_in t e = (t = e) := by
  rw [e_in]
  · exact h1
  · exact h2
theorem e_in_refl (t : T_) : e_in t t := by
  unfold e_in
  split
  · exact Or.inl rfl
  · exact Or.inl rfl
  · rfl
theorem e_in_tr {s t : T_} (h : e_in s t) : ∀ T, e_in t T → e_in s T := by
  intro T
  induction T using c_sz.induct with
  | case1 k n id a b c ia ib ic =>
    intro q
    have q : t = ce k n id a b c ∨ t = .append b c ∨ e_in t a ∨ e_in t b ∨ e_in t c := q
    show s = ce k n id a b c ∨ s = .append b c ∨ e_in s a ∨ e_in s b ∨ e_in s c
    rcases q with q | q | q | q | q
    · rw [q] at h; exact h
    · rw [q] at h; exact Or.inr (Or.inl h)
    · exact Or.inr (Or.inr (Or.inl (ia q)))
    · exact Or.inr (Or.inr (Or.inr (Or.inl (ib q))))
    · exact Or.inr (Or.inr (Or.inr (Or.inr (ic q))))
  | case2 k n id x r hn ix ir =>
    have hn' : ∀ b c, r ≠ .append b c := fun b c q => hn b c q
    intro q
    have q : e_in t (ct k n id x r) := q
    rw [e_in_ct hn'] at q
    show e_in s (ct k n id x r)
    rw [e_in_ct hn']
    rcases q with q | q | q
    · rw [q, e_in_ct hn'] at h; exact h
    · exact Or.inr (Or.inl (ix q))
    · exact Or.inr (Or.inr (ir q))
  | case3 e h1 h2 =>
    intro q
    rw [e_in_oth (fun _ _ _ _ _ _ => h1 _ _ _ _ _ _) (fun _ _ _ _ _ => h2 _ _ _ _ _)] at q
    rw [q] at h
    exact h
theorem e_in_c {k : Nat} {n : Int} {id : Nat} {a b c T : T_} (h : e_in (ce k n id a b c) T) : e_in a T ∧ e_in b T ∧ e_in c T := by
  refine ⟨e_in_tr ?_ T h, e_in_tr ?_ T h, e_in_tr ?_ T h⟩ <;> rw [e_in_ce]
  · exact Or.inr (Or.inr (Or.inl (e_in_refl _)))
  · exact Or.inr (Or.inr (Or.inr (Or.inl (e_in_refl _))))
  · exact Or.inr (Or.inr (Or.inr (Or.inr (e_in_refl _))))
theorem na_or (r : T_) : (∃ b c, r = .append b c) ∨ ∀ b c, r ≠ .append b c := by
  cases r with
  | append b c => exact Or.inl ⟨b, c, rfl⟩
  | _ => exact Or.inr fun b c q => by cases q
theorem e_in_t {k : Nat} {n : Int} {id : Nat} {x r T : T_} (h : e_in (ct k n id x r) T) : e_in x T ∧ e_in r T := by
  rcases na_or r with ⟨b, c, rfl⟩ | hn
  · have h' : e_in (ce k n id x b c) T := h
    refine ⟨(e_in_c h').1, e_in_tr ?_ T h'⟩
    rw [e_in_ce]
    exact Or.inr (Or.inl rfl)
  · refine ⟨e_in_tr ?_ T h, e_in_tr ?_ T h⟩ <;> rw [e_in_ct hn]
    · exact Or.inr (Or.inl (e_in_refl _))
    · exact Or.inr (Or.inr (e_in_refl _))
theorem e_in_imp {t : T_} : ∀ T, e_in t T → e_imp T = false → e_imp t = false := by
  intro T
  induction T using c_sz.induct with
  | case1 k n id a b c ia ib ic =>
    intro q h
    have q : t = ce k n id a b c ∨ t = .append b c ∨ e_in t a ∨ e_in t b ∨ e_in t c := q
    have h' : e_imp (ce k n id a b c) = false := h
    obtain ⟨-, h1, h2, h3⟩ := e_imp_ce h'
    rcases q with q | q | q | q | q
    · rw [q]; exact h'
    · rw [q]; rfl
    · exact ia q h1
    · exact ib q h2
    · exact ic q h3
  | case2 k n id x r hn ix ir =>
    have hn' : ∀ b c, r ≠ .append b c := fun b c q => hn b c q
    intro q h
    have q : e_in t (ct k n id x r) := q
    rw [e_in_ct hn'] at q
    have h' : e_imp (ct k n id x r) = false := h
    obtain ⟨h1, h2⟩ := e_imp_ct h'
    rcases q with q | q | q
    · rw [q]; exact h'
    · exact ix q h1
    · exact ir q h2
  | case3 e h1 h2 =>
    intro q h
    rw [e_in_oth (fun _ _ _ _ _ _ => h1 _ _ _ _ _ _) (fun _ _ _ _ _ => h2 _ _ _ _ _)] at q
    rw [q]; exact h
/-- the text of a file, out of its tokens -/
def tJ (a3 a5 a7 : Nat → Int) (f : Nat) : J_ := (fun p => (a3 (60 * f + p)).toNat, fun p => a5 (60 * f + p), (a7 f).toNat, f)
def tx (a3 a5 a7 : Nat → Int) (f : Nat) : T_ := (j_go 200 (tJ a3 a5 a7 f) (some (true, false)) none 0).1
def tI0 (a3 a5 a7 : Nat → Int) (t : T_) : Prop := ∃ f, (f < 3 ∧ (a7 f).toNat ≤ 60) ∧ e_in t (tx a3 a5 a7 f)
/-- marks of ours behind all that the class looks at: a file is one that may be looked at; a node is; a node is of a file's kept calls -/
def gF (g : Nat → Int) (f : Nat) : Prop := g (2147483648 + 8 * f) = 0
def gA (g : Nat → Int) (x : Int) : Prop := g (2147483648 + 8 * x.toNat) = 0
def gR (g : Nat → Int) (f : Nat) (x : Int) : Prop := g (2147483649 + 8 * x.toNat + f) = 0
def gL (g : Nat → Int) (f : Nat) (x : Int) : Prop := g (2147483652 + 8 * x.toNat + f) = 1
/-- none is marked -/
def g0 (g : Nat → Int) : Prop := ∀ k, 2147483648 ≤ k → g k = 0
def tI (a3 a5 a7 : Nat → Int) (t : T_) : Prop := ∃ f, ((f < 3 ∧ (a7 f).toNat ≤ 60) ∧ gF a7 f) ∧ e_in t (tx a3 a5 a7 f)
theorem tI_0 {a3 a5 a7 : Nat → Int} {t : T_} (h : tI a3 a5 a7 t) : tI0 a3 a5 a7 t := by
  obtain ⟨f, hf, q⟩ := h
  exact ⟨f, hf.1, q⟩
theorem tI_g0 {a3 a5 a7 : Nat → Int} {t : T_} (g : g0 a7) (h : tI0 a3 a5 a7 t) : tI a3 a5 a7 t := by
  obtain ⟨f, hf, q⟩ := h
  exact ⟨f, ⟨hf, g _ (by omega)⟩, q⟩
theorem tI_ce {a3 a5 a7 : Nat → Int} {k : Nat} {n : Int} {id : Nat} {a b c : T_} (h : tI a3 a5 a7 (ce k n id a b c)) : tI a3 a5 a7 a ∧ tI a3 a5 a7 b ∧ tI a3 a5 a7 c := by
  obtain ⟨f, hf, q⟩ := h
  obtain ⟨q1, q2, q3⟩ := e_in_c q
  exact ⟨⟨f, hf, q1⟩, ⟨f, hf, q2⟩, ⟨f, hf, q3⟩⟩
theorem tI_ct {a3 a5 a7 : Nat → Int} {k : Nat} {n : Int} {id : Nat} {x r : T_} (h : tI a3 a5 a7 (ct k n id x r)) : tI a3 a5 a7 x ∧ tI a3 a5 a7 r := by
  obtain ⟨f, hf, q⟩ := h
  obtain ⟨q1, q2⟩ := e_in_t q
  exact ⟨⟨f, hf, q1⟩, ⟨f, hf, q2⟩⟩
/-- a record of the memory tells of a call that was run -/
def KR (r : R_) : Prop := ∃ (C0 : C_) (n0 : Nat) (E1 : N_) (s0 s1 : S_), v_isF (r_fn r) = true ∧ k_fit (v_code (r_fn r)) (v_clos (r_fn r)) = true ∧ (∃ E0 : N_, v_clos (r_fn r) = n_clos E0 (e_use (v_code (r_fn r))) 10) ∧ ev C0 n0 false (e_part (v_code (r_fn r))) (n_body (v_code (r_fn r)) (v_clos (r_fn r)) (vN (r_arg r)) (r_fn r)) false (s_in s0) = some (r_val r, E1, s1) ∧ s_nt s1 = s_nt s0 ∧ r = r_rec C0 (r_fn r) (vN (r_arg r)) (r_val r) s0 s1 ∧ (-9999 ≤ r_arg r ∧ r_arg r ≤ 9999 ∧ r_sn r ≤ 1000 ∧ r_lt r ≤ 100000 ∧ ∃ k n id a b c, v_code (r_fn r) = ce k n id a b c) ∧ (∀ m x, r_nums r m = some x → -9999 ≤ x ∧ x ≤ 9999) ∧ ∀ q, r_as r q = true → q < 45 ∧ ∃ x, r_an r q = some x ∧ -9999 ≤ x ∧ x ≤ 9999
