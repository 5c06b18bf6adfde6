/-! ===== realizing: the reference's state and E's ===== -/
def fP (t : T_) : F_ := (0, t, 0, 0, 0)
/-- frames as pieces that have no parts -/
def fT : F_ → List F_
  | (0, w, _) => (rFL w).map fP
  | (5, v, _) => [fP (.tag 9 v)]
  | (1, _, a, b, n) => [(1, .nil, a, b, n)]
  | (k, _) => [(k, .nil, 0, 0, 0)]
def lT : List F_ → List F_
  | [] => []
  | f :: l => fT f ++ lT l
/-- rules and LATEs among them -/
def cRl : List F_ → Nat
  | [] => 0
  | (k, _) :: l => (if k = 3 ∨ k = 4 then 1 else 0) + cRl l
theorem cRl_app : ∀ (l1 l2 : List F_), cRl (l1 ++ l2) = cRl l1 + cRl l2 := by
  intro l1
  induction l1 with
  | nil => intro l2; show cRl l2 = 0 + cRl l2; omega
  | cons f r ih =>
    intro l2
    obtain ⟨k, v, a, b, n⟩ := f
    show (if k = 3 ∨ k = 4 then 1 else 0) + cRl (r ++ l2) = (if k = 3 ∨ k = 4 then 1 else 0) + cRl r + cRl l2
    rw [ih]; omega
theorem cRl_map : ∀ (ts : List T_), cRl (ts.map fP) = 0 := by
  intro ts
  induction ts with
  | nil => rfl
  | cons t r ih =>
    show (if 0 = 3 ∨ 0 = 4 then 1 else 0) + cRl (r.map fP) = 0
    rw [ih]; rfl
/-- contents that are no words, up to a place -/
def uW (a : Nat → Int) : Nat → Nat
  | 0 => 0
  | n + 1 => uW a n + (if a (n + 1) = 0 then 0 else 1)
theorem uW_le (a : Nat → Int) : ∀ n, uW a n ≤ n := by
  intro n
  induction n with
  | zero => exact Nat.le_refl _
  | succ n ih =>
    show uW a n + (if a (n + 1) = 0 then 0 else 1) ≤ n + 1
    split <;> omega
theorem uW_mono (a : Nat → Int) {m n : Nat} (h : m ≤ n) : uW a m ≤ uW a n := by
  induction n with
  | zero =>
    have : m = 0 := by omega
    rw [this]; exact Nat.le_refl _
  | succ n ih =>
    by_cases c : m = n + 1
    · rw [c]; exact Nat.le_refl _
    · have := ih (by omega)
      show uW a m ≤ uW a n + (if a (n + 1) = 0 then 0 else 1)
      omega
theorem uW_lt (a : Nat → Int) {m n : Nat} (h : m < n) (hn : a n ≠ 0) : uW a m + 1 ≤ uW a n := by
  cases n with
  | zero => omega
  | succ n =>
    have := uW_mono a (show m ≤ n by omega)
    show uW a m + 1 ≤ uW a n + (if a (n + 1) = 0 then 0 else 1)
    rw [if_neg hn]; omega
theorem uW_eq {a b : Nat → Int} : ∀ n, (∀ k, k ≤ n → a k = b k) → uW a n = uW b n := by
  intro n
  induction n with
  | zero => intro _; rfl
  | succ n ih =>
    intro h
    show uW a n + (if a (n + 1) = 0 then 0 else 1) = uW b n + (if b (n + 1) = 0 then 0 else 1)
    rw [ih (fun k q => h k (by omega)), h (n + 1) (Nat.le_refl _)]
/-- words among contents -/
def cW (a : Nat → Int) : Nat → Nat
  | 0 => 0
  | n + 1 => cW a n + (if a (n + 1) = 0 then 1 else 0)
theorem uW_cW (a : Nat → Int) : ∀ n, uW a n + cW a n = n := by
  intro n
  induction n with
  | zero => rfl
  | succ n ih =>
    show uW a n + (if a (n + 1) = 0 then 0 else 1) + (cW a n + (if a (n + 1) = 0 then 1 else 0)) = n + 1
    split <;> omega
theorem cW_mono (a : Nat → Int) {m n : Nat} (h : m ≤ n) : cW a m ≤ cW a n := by
  induction n with
  | zero =>
    have : m = 0 := by omega
    rw [this]; exact Nat.le_refl _
  | succ n ih =>
    by_cases c : m = n + 1
    · rw [c]; exact Nat.le_refl _
    · have := ih (by omega)
      show cW a m ≤ cW a n + (if a (n + 1) = 0 then 1 else 0)
      omega
theorem cW_eq {a b : Nat → Int} : ∀ n, (∀ k, k ≤ n → a k = b k) → cW a n = cW b n := by
  intro n
  induction n with
  | zero => intro _; rfl
  | succ n ih =>
    intro h
    show cW a n + (if a (n + 1) = 0 then 1 else 0) = cW b n + (if b (n + 1) = 0 then 1 else 0)
    rw [ih (fun k q => h k (by omega)), h (n + 1) (Nat.le_refl _)]
/-- an entry of what waits -/
def rEnt (w : W_) (Γ : rG_) (K L n : Nat) (l1 l2 : List F_) : Prop := n ≤ K * cRl l2 + L ∧ ((w.2 107 n = 0 ∧ ∃ ts, l1 = ts.map fP ∧ rCC w Γ (w.2 108 n) ts ∧ n + uW (w.2 92) (w.2 108 n).toNat ≤ K * cRl l2 + L) ∨ (w.2 107 n = 1 ∧ (1 ≤ w.2 108 n ∧ w.2 108 n ≤ 3 ∧ 0 ≤ w.2 109 n ∧ w.2 109 n ≤ 3) ∧ ∃ m : Nat, w.2 110 n = (m : Int) ∧ l1 = [(1, .nil, w.2 108 n, w.2 109 n, m)]) ∨ (w.2 107 n = 2 ∧ l1 = [(3, .nil, 0, 0, 0)]) ∨ (w.2 107 n = 3 ∧ l1 = [(2, .nil, 0, 0, 0)]) ∨ (w.2 107 n = 4 ∧ l1 = [(4, .nil, 0, 0, 0)]))
theorem rEnt_mono {w w' : W_} {Γ Γ' : rG_} {R : Int} {K L L' n : Nat} {l1 l2 : List F_} (X : rXT w Γ w' Γ' R) (hL : L ≤ L') (e1 : w'.2 107 n = w.2 107 n) (e2 : w'.2 108 n = w.2 108 n) (e3 : w'.2 109 n = w.2 109 n) (e4 : w'.2 110 n = w.2 110 n) (h3 : rEnt w Γ K L n l1 l2) : rEnt w' Γ' K L' n l1 l2 := by
  unfold rEnt at h3 ⊢
  rw [e1, e2, e3, e4]
  refine ⟨by have := h3.1; omega, ?_⟩
  rcases h3.2 with ⟨g1, ts, g2, g3, g4⟩ | g | g | g | g
  · refine Or.inl ⟨g1, ts, g2, rCC_mono X g3, ?_⟩
    have c := g3.1
    have z : uW (w'.2 92) (w.2 108 n).toNat = uW (w.2 92) (w.2 108 n).toNat := uW_eq _ (fun k q => (X.2.2.2.2 k (by omega)).1.1)
    rw [z]; omega
  · exact Or.inr (Or.inl g)
  · exact Or.inr (Or.inr (Or.inl g))
  · exact Or.inr (Or.inr (Or.inr (Or.inl g)))
  · exact Or.inr (Or.inr (Or.inr (Or.inr g)))
/-- what waits stands for these pieces -/
def rST (w : W_) (Γ : rG_) (K L : Nat) : Nat → List F_ → Prop
  | 0, l => l = []
  | n + 1, l => ∃ l1 l2, l = l1 ++ l2 ∧ rST w Γ K L n l2 ∧ rEnt w Γ K L n l1 l2
/-- .. where what is waiting stays, and the tables have grown -/
theorem rST_mono {w w' : W_} {Γ Γ' : rG_} {R : Int} {K L L' : Nat} (X : rXT w Γ w' Γ' R) (hL : L ≤ L') : ∀ (n : Nat) (l : List F_), (∀ i, i < n → w'.2 107 i = w.2 107 i ∧ w'.2 108 i = w.2 108 i ∧ w'.2 109 i = w.2 109 i ∧ w'.2 110 i = w.2 110 i) → rST w Γ K L n l → rST w' Γ' K L' n l := by
  intro n
  induction n with
  | zero => intro l _ h; exact h
  | succ n ih =>
    intro l hi h
    obtain ⟨l1, l2, h1, h2, h3⟩ := h
    obtain ⟨e1, e2, e3, e4⟩ := hi n (by omega)
    exact ⟨l1, l2, h1, ih l2 (fun i q => hi i (by omega)) h2, rEnt_mono X hL e1 e2 e3 e4 h3⟩
/-- numbers of what is laid -/
def rX1 (G : G_) (q : Q_) (w : W_) : Prop := (w.1 73 57 = q_sz q ∧ w.1 73 58 = q_in q ∧ w.1 73 61 = ((q_wi q : Nat) : Int) ∧ w.1 73 64 = ((q_el q : Nat) : Int)) ∧ (w.1 73 65 = q_pg q ∧ w.1 73 66 = q_ln q ∧ w.1 73 67 = q_pn q ∧ w.1 73 68 = (((q_th q).length : Nat) : Int)) ∧ w.1 73 3 = G.2.2.2.1 ∧ w.1 73 4 = G.2.2.2.2
/-- rules; those used up -/
def rX2 (q : Q_) (w : W_) (Γ : rG_) : Prop := (w.1 73 59 = (((q_rl q).length : Nat) : Int) ∧ ∀ (i : Nat) (r : T_), (q_rl q)[i]? = some r → rCC w Γ (w.2 111 i) [r] ∧ w.2 92 (w.2 111 i).toNat = 19) ∧ ∀ (i id : Nat), (q_us q)[i]? = some id → w.2 112 i = 100 * ((id / 60 : Nat) : Int) + ((id % 60 : Nat) : Int) ∧ id < 1000
/-- answers to come; things -/
def rX3 (q : Q_) (w : W_) : Prop := (∀ k : Nat, k < 42 → w.2 105 k = q_nx q k) ∧ (∀ l : Nat, l < 10 → w.2 106 l = if q_nx q (30 + l) = 0 then 0 else 1) ∧ ∀ (i : Nat) (t : List Int), (q_th q)[i]? = some t → ∀ j : Nat, j < 6 → w.2 113 (6 * i + j) = t.getD j 0
/-- all but what waits; q0: contents that were made ahead of it; nq: words that were made of numbers by rules -/
def rXC (G : G_) (sil : Bool) (s : S_) (q : Q_) (w : W_) (Γ : rG_) : Prop := (∃ nq : Nat, rRC (g_C G q) sil False (8 + (nq : Int)) 0 s w Γ ∧ nq ≤ cW (w.2 92) (w.1 73 26 - 1).toNat ∧ nq ≤ q_el q) ∧ w.1 73 47 = 1 ∧ (rX1 G q w ∧ QB G q) ∧ rX2 q w Γ ∧ rX3 q w
/-- how far down contents may go -/
def rLm (s : S_) : Nat := if s_b s < 300 then 909 else 5412
/-- .. contents in frames have no marks in pairs -/
def rKf : List F_ → Prop
  | [] => True
  | (k, w, _) :: l => (k = 0 ∨ k = 5 → vK w) ∧ rKf l
def rXR (G : G_) (sil : Bool) (s : S_) (q : Q_) (w : W_) (Γ : rG_) : Prop := rXC G sil s q w Γ ∧ (∃ n : Nat, w.1 73 52 = (n : Int) ∧ rST w Γ 910 (rLm s) n (lT (q_fr q))) ∧ rKf (q_fr q)
theorem cRl_lT : ∀ (l : List F_), cRl (lT l) ≤ cRl l := by
  intro l
  induction l with
  | nil => exact Nat.le_refl _
  | cons f r ih =>
    have e : cRl (lT (f :: r)) = cRl (fT f) + cRl (lT r) := cRl_app _ _
    obtain ⟨k, v, a, b, n⟩ := f
    have e2 : cRl ((k, v, a, b, n) :: r) = (if k = 3 ∨ k = 4 then 1 else 0) + cRl r := rfl
    have e3 : cRl (fT (k, v, a, b, n)) ≤ if k = 3 ∨ k = 4 then 1 else 0 := by
      unfold fT
      split
      · rw [cRl_map]; omega
      · exact Nat.zero_le _
      · exact Nat.zero_le _
      · rename_i h
        cases h
        exact Nat.le_refl _
    omega
theorem cRl_cl : ∀ (l : List F_), cRl l ≤ l_cl l := by
  intro l
  induction l with
  | nil => exact Nat.le_refl _
  | cons f r ih =>
    obtain ⟨k, v, a, b, n⟩ := f
    show (if k = 3 ∨ k = 4 then 1 else 0) + cRl r ≤ (if k = 2 ∨ k = 3 ∨ k = 4 then 1 else 0) + l_cl r
    split <;> split <;> omega
/-- how many wait -/
theorem rST_n {w : W_} {Γ : rG_} {K L n : Nat} {l : List F_} (h : rST w Γ K L n l) : n ≤ K * cRl l + L + 1 := by
  cases n with
  | zero => omega
  | succ n =>
    obtain ⟨l1, l2, e, -, h3⟩ := h
    have z := h3.1
    have c : cRl l2 ≤ cRl l := by rw [e, cRl_app]; omega
    have := Nat.mul_le_mul_left K c
    omega
