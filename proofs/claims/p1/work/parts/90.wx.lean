/-! ===== methods, run by computation in a world that is known ===== -/
abbrev x_R : Type := Option am_V × W_
abbrev x_K : Type := Nat → List am_V → List am_V → W_ → Option x_R
abbrev x_C : Type := Nat → List am_V → W_ → Option (Nat × Option am_V × W_)
def xc {α : Type} (c : Prop) [Decidable c] (o : Option α) : Option α := if c then o else none
theorem xc_ok {α : Type} {c : Prop} [Decidable c] {o : Option α} {R : α} (e : xc c o = some R) : c ∧ o = some R := by
  unfold xc at e
  split at e
  · rename_i h
    exact ⟨h, e⟩
  · cases e
/-- numbers as they are when reckoned, for the kernel keeps what it is given -/
def xz {α : Type} (n : Nat) (k : Nat → α) : α := match n with
  | 0 => k 0
  | m + 1 => k (m + 1)
theorem xz_eq {α : Type} (n : Nat) (k : Nat → α) : xz n k = k n := by
  cases n <;> rfl
def xzi {α : Type} (x : Int) (k : Int → α) : α := match x with
  | .ofNat n => xz n fun n => k (Int.ofNat n)
  | .negSucc n => xz n fun n => k (Int.negSucc n)
theorem xzi_eq {α : Type} (x : Int) (k : Int → α) : xzi x k = k x := by
  cases x with
  | ofNat n => exact xz_eq n fun n => k (Int.ofNat n)
  | negSucc n => exact xz_eq n fun n => k (Int.negSucc n)
def xzv {α : Type} (v : am_V) (k : am_V → α) : α := match v with
  | .inl x => xzi x fun x => k (.inl x)
  | .inr u => k (.inr u)
theorem xzv_eq {α : Type} (v : am_V) (k : am_V → α) : xzv v k = k v := by
  rcases v with x | u
  · exact xzi_eq x fun x => k (.inl x)
  · rfl
def xzo {α : Type} (v : Option am_V) (k : Option am_V → α) : α := match v with
  | some v => xzv v fun v => k (some v)
  | none => k none
theorem xzo_eq {α : Type} (v : Option am_V) (k : Option am_V → α) : xzo v k = k v := by
  cases v with
  | none => rfl
  | some v => exact xzv_eq v fun v => k (some v)
def xI {α : Type} (st : List am_V) (f : Int → List am_V → Option α) : Option α := match st with
  | .inl x :: st => f x st
  | _ => none
theorem xI_ok {α : Type} {st : List am_V} {f : Int → List am_V → Option α} {R : α} {g : Int → List am_V → Prop} (hg : ∀ x st, f x st = some R → g x st) (e : xI st f = some R) : am_pI st g := by
  unfold xI at e
  split at e
  · exact hg _ _ e
  · cases e
def xA {α : Type} (st : List am_V) (f : Nat → List am_V → Option α) : Option α := match st with
  | .inr (.inr (.inl x)) :: st => f x st
  | _ => none
theorem xA_ok {α : Type} {st : List am_V} {f : Nat → List am_V → Option α} {R : α} {g : Nat → List am_V → Prop} (hg : ∀ x st, f x st = some R → g x st) (e : xA st f = some R) : am_pA st g := by
  unfold xA at e
  split at e
  · exact hg _ _ e
  · cases e
def xO {α : Type} (st : List am_V) (f : am_V → List am_V → Option α) : Option α := match st with
  | v :: st => xc (am_two v = false) (f v st)
  | _ => none
theorem xO_ok {α : Type} {st : List am_V} {f : am_V → List am_V → Option α} {R : α} {g : am_V → List am_V → Prop} (hg : ∀ x st, f x st = some R → g x st) (e : xO st f = some R) : am_pO st g := by
  unfold xO at e
  split at e
  · exact ⟨(xc_ok e).1, hg _ _ (xc_ok e).2⟩
  · cases e
def xvI {α : Type} (v : am_V) (f : Int → Option α) : Option α := match v with
  | .inl x => f x
  | _ => none
theorem xvI_ok {α : Type} {v : am_V} {f : Int → Option α} {R : α} {g : Int → Prop} (hg : ∀ x, f x = some R → g x) (e : xvI v f = some R) : ww_vI v g := by
  unfold xvI at e
  split at e
  · exact hg _ e
  · cases e
def xvA {α : Type} (v : am_V) (f : am_V → Option α) : Option α := match v with
  | .inr (.inr (.inl a)) => f (.inr (.inr (.inl a)))
  | _ => none
theorem xvA_ok {α : Type} {v : am_V} {f : am_V → Option α} {R : α} {g : am_V → Prop} (hg : ∀ x, f x = some R → g x) (e : xvA v f = some R) : ww_vA v g := by
  unfold xvA at e
  split at e
  · exact hg _ e
  · cases e
def xbr {α : Type} (pc : Nat) (off : Int) (c : Prop) [Decidable c] (k : Nat → Option α) : Option α := xc (0 ≤ (pc : Int) + off) (if c then k (am_tg pc off) else k (pc + 3))
theorem xbr_ok {α : Type} {pc : Nat} {off : Int} {c : Prop} [Decidable c] {k : Nat → Option α} {R : α} {g : Nat → Prop} (hg : ∀ pc, k pc = some R → g pc) (e : xbr pc off c k = some R) : am_br pc off c g := by
  obtain ⟨e1, e2⟩ := xc_ok e
  refine ⟨e1, fun h => hg _ ?_, fun h => hg _ ?_⟩
  · rw [if_pos h] at e2; exact e2
  · rw [if_neg h] at e2; exact e2
theorem x_rgo {x : Int} (h : cx_rg x = true) : am_rg x := (of_decide_eq_true h : -2147483648 ≤ x ∧ x < 2147483648)
def xsw {α : Type} (pc : Nat) (x : Int) : Int → List Int → (Nat → Option α) → Option α
  | _, [], _ => none
  | lo, off :: offs, k => if x = lo then xc (0 ≤ (pc : Int) + off) (k (am_tg pc off)) else xsw pc x (lo + 1) offs k
theorem xsw_lt {pc : Nat} {x : Int} {g : Nat → Prop} : ∀ {offs : List Int} {lo : Int}, x < lo → am_sw pc x lo offs g
  | [], _, _ => trivial
  | _ :: _, _, h => ⟨fun q => by omega, xsw_lt (by omega)⟩
theorem xsw_gt {pc : Nat} {x : Int} {g : Nat → Prop} : ∀ {offs : List Int} {lo : Int}, lo + offs.length ≤ x → am_sw pc x lo offs g
  | [], _, _ => trivial
  | _ :: offs, lo, h => ⟨fun q => by simp only [List.length_cons] at h; omega, xsw_gt (by simp only [List.length_cons] at h; omega)⟩
theorem xsw_ok {α : Type} {pc : Nat} {x : Int} {k : Nat → Option α} {R : α} {g : Nat → Prop} (hg : ∀ pc, k pc = some R → g pc) : ∀ {offs : List Int} {lo : Int}, xsw pc x lo offs k = some R → am_sw pc x lo offs g
  | [], _, e => by cases e
  | off :: offs, lo, e => by
    unfold xsw at e
    split at e
    · rename_i c
      exact ⟨fun _ => ⟨(xc_ok e).1, hg _ (xc_ok e).2⟩, xsw_lt (by omega)⟩
    · rename_i c
      exact ⟨fun q => absurd q c, xsw_ok hg e⟩
def xcal (call : x_C) (fr mid : Nat) (as rest : List am_V) (w : W_) (K : List am_V → W_ → Option x_R) : Option x_R := match call mid as w with
  | some (f, r, w1) => xc (f + 1 ≤ fr) (xzo r fun r => K (r.toList ++ rest) w1)
  | none => none
def xct (call : x_C) : w_CT := fun mid as w => match call mid as w with
  | some (f, r, w1) => some (f, True, r, w1)
  | none => none
theorem xcal_ok {call : x_C} {fr mid : Nat} {as rest : List am_V} {w : W_} {K : List am_V → W_ → Option x_R} {R : x_R} {g z : List am_V → W_ → Prop} (hg : ∀ st w, K st w = some R → g st w) (e : xcal call fr mid as rest w K = some R) : ww_cal fr mid (xct call) as rest w z g := by
  unfold xcal at e
  unfold ww_cal xct
  split at e
  · simp only [xzo_eq] at e
    exact ⟨(xc_ok e).1, trivial, hg _ _ (xc_ok e).2⟩
  · cases e
def xinv (own fr idx : Nat) (call : x_C) (kds : List Nat) (st : List am_V) (w : W_) (K : List am_V → W_ → Option x_R) : Option x_R := match am_cl own idx with
  | some (kd, mid, n) => xc (kds.elem kd = true) (match am_pp n st [] with
    | some (as, rest) => (match kd with
      | 0 => xA rest fun a rest => xc ((rest.map am_cat).sum ≤ 8) (xc (w_ci a = am_mc mid) (xcal call fr mid (.inr (.inr (.inl a)) :: as) rest w K))
      | 1 => xc ((rest.map am_cat).sum ≤ 8) (xcal call fr mid as rest w K)
      | 3 => xc ((rest.map am_cat).sum ≤ 8) (xcal call fr mid as rest w K)
      | _ => none)
    | none => none)
  | none => none
theorem xinv_ok {own fr idx : Nat} {call : x_C} {kds : List Nat} {st : List am_V} {w : W_} {K : List am_V → W_ → Option x_R} {R : x_R} {g z : List am_V → W_ → Prop} (hg : ∀ st w, K st w = some R → g st w) (e : xinv own fr idx call kds st w K = some R) : ww_inv own fr idx (xct call) kds st w z g := by
  unfold xinv at e
  unfold ww_inv
  split at e
  · rename_i kd mid n h1
    rw [h1]
    obtain ⟨e1, e⟩ := xc_ok e
    refine ⟨e1, ?_⟩
    split at e
    · rename_i as rest h2
      rw [h2]
      dsimp only
      split at e
      · exact xA_ok (fun a rest e => ⟨(xc_ok e).1, (xc_ok (xc_ok e).2).1, xcal_ok hg (xc_ok (xc_ok e).2).2⟩) e
      · exact ⟨(xc_ok e).1, xcal_ok hg (xc_ok e).2⟩
      · exact ⟨(xc_ok e).1, xcal_ok hg (xc_ok e).2⟩
      · cases e
    · cases e
  · cases e
/-- what is put where it stands already changes nothing -/
def xst {α : Type} (w : W_) (a i : Nat) (x : Int) (k : W_ → α) : α := if w.2 a i = x then k w else k (w_a w a i x)
def xsf {α : Type} (w : W_) (a j : Nat) (x : Int) (k : W_ → α) : α := if w.1 a j = x then k w else k (w_f w a j x)
theorem xst_eq {α : Type} (w : W_) (a i : Nat) (x : Int) (k : W_ → α) : xst w a i x k = k (w_a w a i x) := by
  unfold xst
  split
  · rename_i h
    rw [← h, w_a_self]
  · rfl
theorem xsf_eq {α : Type} (w : W_) (a i : Nat) (x : Int) (k : W_ → α) : xsf w a i x k = k (w_f w a i x) := by
  unfold xsf
  split
  · rename_i h
    rw [← h, w_f_self]
  · rfl
def xfd {α : Type} (own idx : Nat) (f : Nat → Nat → Bool → Option α) : Option α := match am_fd own idx with
  | some (ci, j, fin) => f ci j fin
  | none => none
def xpf {α : Type} (a j : Nat) (v : am_V) (w : W_) (f : W_ → Option α) : Option α := match am_tk (w_ci a) j, v with
  | 0, .inl x => xc (a = 13 ∧ j = 2 → x ≤ w.1 13 2) (xzi x fun x => xsf w a j x f)
  | 1, .inl x => xc (x = 0 ∨ x = 1) (xzi x fun x => xsf w a j x f)
  | 2, .inr (.inl x) => xsf w a j x f
  | 3, .inr (.inr (.inl x)) => xc (a = 17 ∧ j = 7 ∧ (x = 24 ∨ x = 55 ∨ x = 64)) (xsf w a j x f)
  | _, _ => none
theorem xpf_ok {α : Type} {a j : Nat} {v : am_V} {w : W_} {f : W_ → Option α} {R : α} {g : W_ → Prop} (hg : ∀ w, f w = some R → g w) (e : xpf a j v w f = some R) : ww_pf a j v w g := by
  unfold xpf at e
  simp only [xsf_eq, xzi_eq] at e
  unfold ww_pf
  split at e
  · rename_i h
    rw [h]
    exact ⟨(xc_ok e).1, hg _ (xc_ok e).2⟩
  · rename_i h
    rw [h]
    exact ⟨(xc_ok e).1, hg _ (xc_ok e).2⟩
  · rename_i h
    rw [h]
    exact hg _ e
  · rename_i h
    rw [h]
    exact ⟨(xc_ok e).1, hg _ (xc_ok e).2⟩
  · cases e
/-- one instruction -/
def wx1 (k : x_K) (call : x_C) (own nL fr rk : Nat) (pc : Nat) (i : Instr) (len : Nat) (ls st : List am_V) (w : W_) : Option x_R := match i, len with
  | .iconst n, 1 => k (pc + 1) ls (.inl n :: st) w
  | .bipush n, 2 => xc (-128 ≤ n ∧ n ≤ 127) (k (pc + 2) ls (.inl n :: st) w)
  | .sipush n, 3 => xc (-32768 ≤ n ∧ n ≤ 32767) (k (pc + 3) ls (.inl n :: st) w)
  | .iload j, 2 => xvI (am_gt ls j) fun x => k (pc + 2) ls (.inl x :: st) w
  | .iload_n j, 1 => xvI (am_gt ls j.val) fun x => k (pc + 1) ls (.inl x :: st) w
  | .aload j, 2 => xvA (am_gt ls j) fun v => k (pc + 2) ls (v :: st) w
  | .aload_n j, 1 => xvA (am_gt ls j.val) fun v => k (pc + 1) ls (v :: st) w
  | .istore j, 2 => xc (j < nL) (xI st fun x st => k (pc + 2) (am_s1 ls j (.inl x)) st w)
  | .istore_n j, 1 => xc (j.val < nL) (xI st fun x st => k (pc + 1) (am_s1 ls j.val (.inl x)) st w)
  | .astore j, 2 => xc (j < nL) (xA st fun x st => k (pc + 2) (am_s1 ls j (.inr (.inr (.inl x)))) st w)
  | .astore_n j, 1 => xc (j.val < nL) (xA st fun x st => k (pc + 1) (am_s1 ls j.val (.inr (.inr (.inl x)))) st w)
  | .iinc j n, 3 => xc (j < nL) (xvI (am_gt ls j) fun x => xzi (x + n) fun z => k (pc + 3) (am_s1 ls j (.inl z)) st w)
  | .iadd, 1 => xI st fun y st => xI st fun x st => xzi (x + y) fun z => k (pc + 1) ls (.inl z :: st) w
  | .isub, 1 => xI st fun y st => xI st fun x st => xzi (x - y) fun z => k (pc + 1) ls (.inl z :: st) w
  | .imul, 1 => xI st fun y st => xI st fun x st => xzi (x * y) fun z => k (pc + 1) ls (.inl z :: st) w
  | .iand, 1 => xI st fun y st => xI st fun x st => xzi (Int32.ofInt x &&& Int32.ofInt y).toInt fun z => k (pc + 1) ls (.inl z :: st) w
  | .dup, 1 => xO st fun v st => k (pc + 1) ls (v :: v :: st) w
  | .pop, 1 => xO st fun _ st => k (pc + 1) ls st w
  | .goto off, 3 => xc (0 ≤ (pc : Int) + off) (k (am_tg pc off) ls st w)
  | .if_icmp .eq off, 3 => xI st fun y st => xI st fun x st => xc (cx_rg x = true) (xc (cx_rg y = true) (xbr pc off (x = y) fun pc => k pc ls st w))
  | .if_icmp .ne off, 3 => xI st fun y st => xI st fun x st => xc (cx_rg x = true) (xc (cx_rg y = true) (xbr pc off (x ≠ y) fun pc => k pc ls st w))
  | .if_icmp .lt off, 3 => xI st fun y st => xI st fun x st => xc (cx_rg x = true) (xc (cx_rg y = true) (xbr pc off (x < y) fun pc => k pc ls st w))
  | .if_icmp .ge off, 3 => xI st fun y st => xI st fun x st => xc (cx_rg x = true) (xc (cx_rg y = true) (xbr pc off (y ≤ x) fun pc => k pc ls st w))
  | .if_icmp .gt off, 3 => xI st fun y st => xI st fun x st => xc (cx_rg x = true) (xc (cx_rg y = true) (xbr pc off (y < x) fun pc => k pc ls st w))
  | .if_icmp .le off, 3 => xI st fun y st => xI st fun x st => xc (cx_rg x = true) (xc (cx_rg y = true) (xbr pc off (x ≤ y) fun pc => k pc ls st w))
  | .ifCond .eq off, 3 => xI st fun x st => xc (cx_rg x = true) (xbr pc off (x = 0) fun pc => k pc ls st w)
  | .ifCond .ne off, 3 => xI st fun x st => xc (cx_rg x = true) (xbr pc off (x ≠ 0) fun pc => k pc ls st w)
  | .ifCond .lt off, 3 => xI st fun x st => xc (cx_rg x = true) (xbr pc off (x < 0) fun pc => k pc ls st w)
  | .ifCond .ge off, 3 => xI st fun x st => xc (cx_rg x = true) (xbr pc off (0 ≤ x) fun pc => k pc ls st w)
  | .ifCond .gt off, 3 => xI st fun x st => xc (cx_rg x = true) (xbr pc off (0 < x) fun pc => k pc ls st w)
  | .ifCond .le off, 3 => xI st fun x st => xc (cx_rg x = true) (xbr pc off (x ≤ 0) fun pc => k pc ls st w)
  | .tableswitch dflt lo hi offs, _ => xI st fun x st => xc (cx_rg x = true) (xc (hi = lo + offs.size - 1) (if x < lo ∨ hi < x then xc (0 ≤ (pc : Int) + dflt) (k (am_tg pc dflt) ls st w) else xsw pc x lo offs.toList fun pc => k pc ls st w))
  | .ireturn, 1 => (match st with
    | [.inl x] => xc (rk = 1 ∨ (rk = 2 ∧ (x = 0 ∨ x = 1))) (some (some (.inl x), w))
    | _ => none)
  | .return_, 1 => xc (st.isEmpty = true ∧ rk = 0) (some (none, w))
  | .ldc idx, 2 => (match ww_kc own idx with
    | some x => k (pc + 2) ls (.inl x :: st) w
    | none => none)
  | .getfield idx, 3 => xA st fun a st => (match am_fd own idx with
    | some (ci, j, _) => xc (w_ci a = ci ∧ w_g1 a j = false) (xzv (w_gv w a j) fun v => k (pc + 3) ls (v :: st) w)
    | none => none)
  | .putfield idx, 3 => (match st with
    | v :: st => xA st fun a st => (match am_fd own idx with
      | some (ci, j, fin) => xc (w_ci a = ci ∧ fin = false) (xpf a j v w fun w => k (pc + 3) ls st w)
      | none => none)
    | [] => none)
  | .iaload, 1 => xI st fun x st => xA st fun a st => xc (w_ak a = 1 ∧ 0 ≤ x ∧ x < w_al a) (xzi (w.2 a x.toNat) fun z => k (pc + 1) ls (.inl z :: st) w)
  | .baload, 1 => xI st fun x st => xA st fun a st => xc (w_ak a = 2 ∧ 0 ≤ x ∧ x < w_al a) (xzi (w.2 a x.toNat) fun z => k (pc + 1) ls (.inl z :: st) w)
  | .iastore, 1 => xI st fun y st => xI st fun x st => xA st fun a st => xc (w_ak a = 1 ∧ 0 ≤ x ∧ x < w_al a) (xz x.toNat fun i => xst w a i y fun w => k (pc + 1) ls st w)
  | .bastore, 1 => xI st fun y st => xI st fun x st => xA st fun a st => xc (w_ak a = 2 ∧ 0 ≤ x ∧ x < w_al a ∧ (y = 0 ∨ y = 1)) (xz x.toNat fun i => xst w a i y fun w => k (pc + 1) ls st w)
  | .invokevirtual idx, 3 => xinv own fr idx call [0] st w (fun st w => k (pc + 3) ls st w)
  | .invokestatic idx, 3 => (match am_cl own idx with
    | some (1, 249, 2) => none
    | some (1, 250, 2) => none
    | _ => xinv own fr idx call [1, 3] st w (fun st w => k (pc + 3) ls st w))
  | _, _ => none
set_option maxHeartbeats 4000000 in
theorem wx1_ok {k : x_K} {call : x_C} {own nL fr rk : Nat} {pc : Nat} {i : Instr} {len : Nat} {ls st : List am_V} {w : W_} {R : x_R} {Kz : w_KT} (e : wx1 k call own nL fr rk pc i len ls st w = some R) :
    ww_stp own nL fr rk none (fun r w' => (r, w') = R) (xct call) Kz (fun pc ls st w => k pc ls st w = some R) pc i len ls st w := by
  unfold wx1 at e
  split at e
  · exact e
  · exact xc_ok e
  · exact xc_ok e
  · exact xvI_ok (fun _ e => e) e
  · exact xvI_ok (fun _ e => e) e
  · exact xvA_ok (fun _ e => e) e
  · exact xvA_ok (fun _ e => e) e
  · exact ⟨(xc_ok e).1, xI_ok (fun _ _ e => e) (xc_ok e).2⟩
  · exact ⟨(xc_ok e).1, xI_ok (fun _ _ e => e) (xc_ok e).2⟩
  · exact ⟨(xc_ok e).1, xA_ok (fun _ _ e => e) (xc_ok e).2⟩
  · exact ⟨(xc_ok e).1, xA_ok (fun _ _ e => e) (xc_ok e).2⟩
  · simp only [xzi_eq] at e
    exact ⟨(xc_ok e).1, xvI_ok (fun _ e => e) (xc_ok e).2⟩
  · simp only [xzi_eq] at e
    exact xI_ok (fun _ _ e => xI_ok (fun _ _ e => e) e) e
  · simp only [xzi_eq] at e
    exact xI_ok (fun _ _ e => xI_ok (fun _ _ e => e) e) e
  · simp only [xzi_eq] at e
    exact xI_ok (fun _ _ e => xI_ok (fun _ _ e => e) e) e
  · simp only [xzi_eq] at e
    exact xI_ok (fun _ _ e => xI_ok (fun _ _ e => e) e) e
  · exact xO_ok (fun _ _ e => e) e
  · exact xO_ok (fun _ _ e => e) e
  · exact xc_ok e
  · exact xI_ok (fun _ _ e => xI_ok (fun _ _ e => ⟨x_rgo (xc_ok e).1, x_rgo (xc_ok (xc_ok e).2).1, xbr_ok (fun _ e => e) (xc_ok (xc_ok e).2).2⟩) e) e
  · exact xI_ok (fun _ _ e => xI_ok (fun _ _ e => ⟨x_rgo (xc_ok e).1, x_rgo (xc_ok (xc_ok e).2).1, xbr_ok (fun _ e => e) (xc_ok (xc_ok e).2).2⟩) e) e
  · exact xI_ok (fun _ _ e => xI_ok (fun _ _ e => ⟨x_rgo (xc_ok e).1, x_rgo (xc_ok (xc_ok e).2).1, xbr_ok (fun _ e => e) (xc_ok (xc_ok e).2).2⟩) e) e
  · exact xI_ok (fun _ _ e => xI_ok (fun _ _ e => ⟨x_rgo (xc_ok e).1, x_rgo (xc_ok (xc_ok e).2).1, xbr_ok (fun _ e => e) (xc_ok (xc_ok e).2).2⟩) e) e
  · exact xI_ok (fun _ _ e => xI_ok (fun _ _ e => ⟨x_rgo (xc_ok e).1, x_rgo (xc_ok (xc_ok e).2).1, xbr_ok (fun _ e => e) (xc_ok (xc_ok e).2).2⟩) e) e
  · exact xI_ok (fun _ _ e => xI_ok (fun _ _ e => ⟨x_rgo (xc_ok e).1, x_rgo (xc_ok (xc_ok e).2).1, xbr_ok (fun _ e => e) (xc_ok (xc_ok e).2).2⟩) e) e
  · exact xI_ok (fun _ _ e => ⟨x_rgo (xc_ok e).1, xbr_ok (fun _ e => e) (xc_ok e).2⟩) e
  · exact xI_ok (fun _ _ e => ⟨x_rgo (xc_ok e).1, xbr_ok (fun _ e => e) (xc_ok e).2⟩) e
  · exact xI_ok (fun _ _ e => ⟨x_rgo (xc_ok e).1, xbr_ok (fun _ e => e) (xc_ok e).2⟩) e
  · exact xI_ok (fun _ _ e => ⟨x_rgo (xc_ok e).1, xbr_ok (fun _ e => e) (xc_ok e).2⟩) e
  · exact xI_ok (fun _ _ e => ⟨x_rgo (xc_ok e).1, xbr_ok (fun _ e => e) (xc_ok e).2⟩) e
  · exact xI_ok (fun _ _ e => ⟨x_rgo (xc_ok e).1, xbr_ok (fun _ e => e) (xc_ok e).2⟩) e
  · refine xI_ok (fun x st e => ⟨x_rgo (xc_ok e).1, (xc_ok (xc_ok e).2).1, ?_⟩) e
    have e1 := (xc_ok (xc_ok e).2).2
    have e2 := (xc_ok (xc_ok e).2).1
    split at e1
    · rename_i c
      refine ⟨fun _ => xc_ok e1, ?_⟩
      rcases c with c | c
      · exact xsw_lt c
      · exact xsw_gt (by rw [Array.length_toList]; omega)
    · rename_i c
      exact ⟨fun q => absurd q c, xsw_ok (fun _ e => e) e1⟩
  · split at e
    · exact ⟨(xc_ok e).1, Option.some.inj (xc_ok e).2⟩
    · cases e
  · exact ⟨List.isEmpty_iff.mp (xc_ok e).1.1, (xc_ok e).1.2, Option.some.inj (xc_ok e).2⟩
  · split at e
    · rename_i h
      show match ww_kc own _ with
        | some x => _
        | none => _
      rw [h]
      exact e
    · cases e
  · simp only [xzv_eq] at e
    refine xA_ok (fun a st e => ?_) e
    split at e
    · rename_i h
      rw [h]
      exact ⟨(xc_ok e).1.1, (xc_ok e).1.2, (xc_ok e).2⟩
    · cases e
  · split at e
    · refine xA_ok (fun a st e => ?_) e
      split at e
      · rename_i h
        rw [h]
        exact ⟨(xc_ok e).1.1, (xc_ok e).1.2, xpf_ok (fun _ e => e) (xc_ok e).2⟩
      · cases e
    · cases e
  · simp only [xzi_eq] at e
    refine xI_ok (fun x st e => ?_) e
    unfold xA at e
    split at e
    · exact ⟨(xc_ok e).1.1, (xc_ok e).1.2.1, (xc_ok e).1.2.2, (xc_ok e).2⟩
    · cases e
  · simp only [xzi_eq] at e
    exact xI_ok (fun _ _ e => xA_ok (fun _ _ e => ⟨(xc_ok e).1.1, (xc_ok e).1.2.1, (xc_ok e).1.2.2, (xc_ok e).2⟩) e) e
  · simp only [xst_eq, xz_eq] at e
    exact xI_ok (fun _ _ e => xI_ok (fun _ _ e => xA_ok (fun _ _ e => ⟨(xc_ok e).1.1, (xc_ok e).1.2.1, (xc_ok e).1.2.2, (xc_ok e).2⟩) e) e) e
  · simp only [xst_eq, xz_eq] at e
    exact xI_ok (fun _ _ e => xI_ok (fun _ _ e => xA_ok (fun _ _ e => ⟨(xc_ok e).1.1, (xc_ok e).1.2.1, (xc_ok e).1.2.2.1, (xc_ok e).1.2.2.2, (xc_ok e).2⟩) e) e) e
  · exact xinv_ok (fun _ _ e => e) e
  · split at e
    · cases e
    · cases e
    · rename_i h1 h2
      show match am_cl own _ with
        | some (1, 249, 2) => _
        | some (1, 250, 2) => _
        | _ => _
      split
      · rename_i h
        exact absurd h h1
      · rename_i h
        exact absurd h h2
      · exact xinv_ok (fun _ _ e => e) e
  · cases e
/-- calls whose contracts are known -/
def wp (mid : Nat) (as : List am_V) (w : W_) : Option (Nat × Option am_V × W_) := match mid, as with
  | 12, [.inr (.inr (.inl 33))] => xc (0 ≤ w.1 33 1 ∧ w.1 33 1 < 24000) (xzi (if 0 < w.1 33 1 - 1 then w.1 33 1 - 1 else 0) fun z => some (1, none, w_f w 33 1 z))
  | 18, [.inr (.inr (.inl 13)), .inl v, .inl f] => xc ((-100000 ≤ v ∧ v < 10000000) ∧ 0 ≤ f ∧ f < 8) (some (0, some (.inl (w_h w v f.toNat)), w))
  | 68, [.inr (.inr (.inl a)), .inl i] => xc (w_isR a = true ∧ cx_rg i = true) (some (0, some (.inl (w_g w a i)), w))
  | 69, [.inr (.inr (.inl a)), .inl i, .inl x] => xc (w_isR a = true ∧ 0 ≤ i ∧ i < w_bd a) (xz i.toNat fun i => xst w a i x fun w => some (2, none, w))
  | 70, [.inr (.inr (.inl a)), .inl i, .inl n, .inl x] => xc (w_isR a = true ∧ 0 ≤ i ∧ 0 ≤ n ∧ i + n ≤ w_bd a) (xz i.toNat fun i1 => xz (i + n).toNat fun i2 => some (2, none, w_fill w a i1 i2 x))
  | 71, [.inr (.inr (.inl a)), .inr (.inr (.inl b)), .inl x] => xc (w_isR a = true ∧ w_isR b = true ∧ a ≠ b ∧ 0 ≤ x ∧ x ≤ w_bd a) (some (3, none, w_cpy w a b x))
  | 72, [.inr (.inr (.inl a)), .inr (.inr (.inl b)), .inl x] => xc (w_isR a = true ∧ w_isR b = true ∧ 0 ≤ x ∧ x ≤ 100000 ∧ ((List.range x.toNat).all fun k => cx_rg (w_g w a k) && (w_g w a k == w_g w b k)) = true) (some (1, some (.inl 1), w))
  | _, _ => none
theorem wp_ok {mid fr : Nat} {as : List am_V} {w w1 : W_} {r : Option am_V} (e : wp mid as w = some (fr, r, w1)) : ww_Ct mid fr as w fun r' w' => r' = r ∧ w' = w1 := by
  unfold wp at e
  split at e
  · obtain ⟨h, e⟩ := xc_ok e
    simp only [xzi_eq] at e
    cases e
    exact lk_12 h
  · obtain ⟨h, e⟩ := xc_ok e
    cases e
    exact ok_18 _ _ _ _ _ _ (at_18 _ _ w) h
  · obtain ⟨h, e⟩ := xc_ok e
    cases e
    exact ok_68 _ _ _ _ _ _ (at_68 _ _ w) ⟨h.1, x_rgo h.2⟩
  · obtain ⟨h, e⟩ := xc_ok e
    simp only [xst_eq, xz_eq] at e
    cases e
    exact ok_69 _ _ _ _ _ _ (at_69 _ _ _ w) h
  · obtain ⟨h, e⟩ := xc_ok e
    simp only [xz_eq] at e
    cases e
    exact ok_70 _ _ _ _ _ _ (at_70 _ _ _ _ w) h
  · obtain ⟨h, e⟩ := xc_ok e
    cases e
    exact lk_71 h.1 h.2.1 h.2.2.1 h.2.2.2.1 h.2.2.2.2
  · obtain ⟨h, e⟩ := xc_ok e
    cases e
    rename_i a b x
    obtain ⟨h1, h2, h3, h4, h5⟩ := h
    have hk : ∀ k : Int, 0 ≤ k → k < x → am_rg (w_g w a k) ∧ w_g w a k = w_g w b k := fun k k0 k1 => by
      have := List.all_eq_true.mp h5 k.toNat (List.mem_range.mpr (by omega))
      rw [Bool.and_eq_true, beq_iff_eq] at this
      have e : ((k.toNat : Nat) : Int) = k := by omega
      rw [e] at this
      exact ⟨x_rgo this.1, this.2⟩
    refine (lk_72 h1 h2 h3 h4 fun k k0 k1 => ⟨(hk k k0 k1).1, by rw [← (hk k k0 k1).2]; exact (hk k k0 k1).1⟩).mono ?_
    rintro r w' ⟨hr, hw⟩
    refine ⟨?_, hw⟩
    rcases hr with hr | hr
    · exact hr.1
    · exact absurd (fun k k0 k1 => (hk k k0 k1).2) hr.2
  · cases e
def wm (mid : Nat) : Bool := [148, 149, 59, 60, 64, 74, 135, 142, 141, 136, 78, 103, 11, 13, 14, 9, 10, 129, 104, 108, 112, 113, 161, 31, 35, 34, 40, 33, 75, 1, 2, 3, 62, 237, 238, 235, 234, 233, 210, 180, 185, 199, 198, 192, 220, 232, 236, 182, 183].elem mid
theorem wm_ok {mid : Nat} (h : wm mid = true) : ∃ y bytes nL ret rk own cp, am_ml[mid]? = some (y, bytes, nL, ret, rk, own, false, cp) ∧ Cond.code y bytes nL ret ∈ am_G ∧ plainName y.cls = true ∧ am_rko rk ret = true ∧ y.cls = am_R own := by
  unfold wm at h
  rw [List.elem_iff] at h
  simp only [List.mem_cons, List.not_mem_nil, or_false] at h
  rcases h with rfl | rfl | rfl | rfl | rfl | rfl | rfl | rfl | rfl | rfl | rfl | rfl | rfl | rfl | rfl | rfl | rfl | rfl | rfl | rfl | rfl | rfl | rfl | rfl | rfl | rfl | rfl | rfl | rfl | rfl | rfl | rfl | rfl | rfl | rfl | rfl | rfl | rfl | rfl | rfl | rfl | rfl | rfl | rfl | rfl | rfl | rfl | rfl | rfl
  · exact ⟨_, _, _, _, _, _, _, ml_148, mk_148, by decide +kernel, rfl, rfl⟩
  · exact ⟨_, _, _, _, _, _, _, ml_149, mk_149, by decide +kernel, rfl, rfl⟩
  · exact ⟨_, _, _, _, _, _, _, ml_59, mk_59, by decide +kernel, rfl, rfl⟩
  · exact ⟨_, _, _, _, _, _, _, ml_60, mk_60, by decide +kernel, rfl, rfl⟩
  · exact ⟨_, _, _, _, _, _, _, ml_64, mk_64, by decide +kernel, rfl, rfl⟩
  · exact ⟨_, _, _, _, _, _, _, ml_74, mk_74, by decide +kernel, rfl, rfl⟩
  · exact ⟨_, _, _, _, _, _, _, ml_135, mk_135, by decide +kernel, rfl, rfl⟩
  · exact ⟨_, _, _, _, _, _, _, ml_142, mk_142, by decide +kernel, rfl, rfl⟩
  · exact ⟨_, _, _, _, _, _, _, ml_141, mk_141, by decide +kernel, rfl, rfl⟩
  · exact ⟨_, _, _, _, _, _, _, ml_136, mk_136, by decide +kernel, rfl, rfl⟩
  · exact ⟨_, _, _, _, _, _, _, ml_78, mk_78, by decide +kernel, rfl, rfl⟩
  · exact ⟨_, _, _, _, _, _, _, ml_103, mk_103, by decide +kernel, rfl, rfl⟩
  · exact ⟨_, _, _, _, _, _, _, ml_11, mk_11, by decide +kernel, rfl, rfl⟩
  · exact ⟨_, _, _, _, _, _, _, ml_13, mk_13, by decide +kernel, rfl, rfl⟩
  · exact ⟨_, _, _, _, _, _, _, ml_14, mk_14, by decide +kernel, rfl, rfl⟩
  · exact ⟨_, _, _, _, _, _, _, ml_9, mk_9, by decide +kernel, rfl, rfl⟩
  · exact ⟨_, _, _, _, _, _, _, ml_10, mk_10, by decide +kernel, rfl, rfl⟩
  · exact ⟨_, _, _, _, _, _, _, ml_129, mk_129, by decide +kernel, rfl, rfl⟩
  · exact ⟨_, _, _, _, _, _, _, ml_104, mk_104, by decide +kernel, rfl, rfl⟩
  · exact ⟨_, _, _, _, _, _, _, ml_108, mk_108, by decide +kernel, rfl, rfl⟩
  · exact ⟨_, _, _, _, _, _, _, ml_112, mk_112, by decide +kernel, rfl, rfl⟩
  · exact ⟨_, _, _, _, _, _, _, ml_113, mk_113, by decide +kernel, rfl, rfl⟩
  · exact ⟨_, _, _, _, _, _, _, ml_161, mk_161, by decide +kernel, rfl, rfl⟩
  · exact ⟨_, _, _, _, _, _, _, ml_31, mk_31, by decide +kernel, rfl, rfl⟩
  · exact ⟨_, _, _, _, _, _, _, ml_35, mk_35, by decide +kernel, rfl, rfl⟩
  · exact ⟨_, _, _, _, _, _, _, ml_34, mk_34, by decide +kernel, rfl, rfl⟩
  · exact ⟨_, _, _, _, _, _, _, ml_40, mk_40, by decide +kernel, rfl, rfl⟩
  · exact ⟨_, _, _, _, _, _, _, ml_33, mk_33, by decide +kernel, rfl, rfl⟩
  · exact ⟨_, _, _, _, _, _, _, ml_75, mk_75, by decide +kernel, rfl, rfl⟩
  · exact ⟨_, _, _, _, _, _, _, ml_1, mk_1, by decide +kernel, rfl, rfl⟩
  · exact ⟨_, _, _, _, _, _, _, ml_2, mk_2, by decide +kernel, rfl, rfl⟩
  · exact ⟨_, _, _, _, _, _, _, ml_3, mk_3, by decide +kernel, rfl, rfl⟩
  · exact ⟨_, _, _, _, _, _, _, ml_62, mk_62, by decide +kernel, rfl, rfl⟩
  · exact ⟨_, _, _, _, _, _, _, ml_237, mk_237, by decide +kernel, rfl, rfl⟩
  · exact ⟨_, _, _, _, _, _, _, ml_238, mk_238, by decide +kernel, rfl, rfl⟩
  · exact ⟨_, _, _, _, _, _, _, ml_235, mk_235, by decide +kernel, rfl, rfl⟩
  · exact ⟨_, _, _, _, _, _, _, ml_234, mk_234, by decide +kernel, rfl, rfl⟩
  · exact ⟨_, _, _, _, _, _, _, ml_233, mk_233, by decide +kernel, rfl, rfl⟩
  · exact ⟨_, _, _, _, _, _, _, ml_210, mk_210, by decide +kernel, rfl, rfl⟩
  · exact ⟨_, _, _, _, _, _, _, ml_180, mk_180, by decide +kernel, rfl, rfl⟩
  · exact ⟨_, _, _, _, _, _, _, ml_185, mk_185, by decide +kernel, rfl, rfl⟩
  · exact ⟨_, _, _, _, _, _, _, ml_199, mk_199, by decide +kernel, rfl, rfl⟩
  · exact ⟨_, _, _, _, _, _, _, ml_198, mk_198, by decide +kernel, rfl, rfl⟩
  · exact ⟨_, _, _, _, _, _, _, ml_192, mk_192, by decide +kernel, rfl, rfl⟩
  · exact ⟨_, _, _, _, _, _, _, ml_220, mk_220, by decide +kernel, rfl, rfl⟩
  · exact ⟨_, _, _, _, _, _, _, ml_232, mk_232, by decide +kernel, rfl, rfl⟩
  · exact ⟨_, _, _, _, _, _, _, ml_236, mk_236, by decide +kernel, rfl, rfl⟩
  · exact ⟨_, _, _, _, _, _, _, ml_182, mk_182, by decide +kernel, rfl, rfl⟩
  · exact ⟨_, _, _, _, _, _, _, ml_183, mk_183, by decide +kernel, rfl, rfl⟩
def wx : Nat → Nat → Nat → Nat → Nat → ByteArray → x_K
  | 0, _, _, _, _, _ => fun _ _ _ _ => none
  | n + 1, fr, own, nL, rk, bytes => fun pc ls st w => xz pc fun pc => match decode bytes pc with
    | .ok (i, len) => wx1 (wx n fr own nL rk bytes) (fun mid as w => match wp mid as w with
      | some q => some q
      | none => if wm mid = true then (match am_ml[mid]? with
        | some (_, by1, nL1, _, rk1, own1, _, _) => if (am_sl as).length ≤ nL1 then (match wx n (fr - 1) own1 nL1 rk1 by1 0 (am_loc0 nL1 as) [] w with
          | some (r, w1) => some (fr - 1, r, w1)
          | none => none) else none
        | none => none) else none) own nL fr rk pc i len ls st w
    | _ => none
theorem wx_ok : ∀ (n fr own nL rk : Nat) (bytes : ByteArray) (pc : Nat) (ls st : List am_V) (w : W_) (R : x_R), wx n fr own nL rk bytes pc ls st w = some R → ww_Z own nL fr rk bytes none (fun r w' => (r, w') = R) pc ls st w := by
  intro n
  induction n with
  | zero => intro fr own nL rk bytes pc ls st w R e; cases e
  | succ n ih =>
    intro fr own nL rk bytes pc ls st w R e
    unfold wx at e
    simp only [xz_eq] at e
    split at e
    · rename_i i len hd
      refine ww_stp_ok (Kz := fun _ _ _ _ => False) ?_ hd (fun pc ls st w q => ih _ _ _ _ _ _ _ _ _ _ q) (fun _ _ _ _ q => q.elim) (wx1_ok e)
      intro mid as w fr' pre r w1 e hp
      unfold xct at e
      split at e
      · rename_i f r' w' hq
        cases e
        dsimp only at hq
        split at hq
        · rename_i q' hq'
          cases hq
          exact wp_ok hq'
        · split at hq
          · rename_i c
            obtain ⟨y, by1, nL1, ret, rk1, own1, cp, hm, hcode, hpl, hrk, hcls⟩ := wm_ok c
            rw [hm] at hq
            dsimp only at hq
            split at hq
            · rename_i c2
              split at hq
              · rename_i r w1 hx
                cases hq
                refine (ww_of hm hcode hpl hrk hcls c2 (ih _ _ _ _ _ _ _ _ _ _ hx)).mono ?_
                intro r' w' q
                exact ⟨congrArg Prod.fst q, congrArg Prod.snd q⟩
              · cases hq
            · cases hq
          · cases hq
      · cases e
    · cases e
/-- a method that ends, ends so -/
theorem wx_ct {n fr mid : Nat} {as : List am_V} {w : W_} {R : x_R} {y : MethodName} {by1 : ByteArray} {nL own rk : Nat} {ret : Option FieldType} {cp : Nat × Nat} (hi : wm mid = true) (hm : am_ml[mid]? = some (y, by1, nL, ret, rk, own, false, cp)) (hl : (am_sl as).length ≤ nL) (e : wx n fr own nL rk by1 0 (am_loc0 nL as) [] w = some R) : ww_Ct mid fr as w fun r w' => r = R.1 ∧ w' = R.2 := by
  obtain ⟨y', by1', nL1, ret1, rk1, own1, cp', hm', hcode, hpl, hrk, hcls⟩ := wm_ok hi
  rw [hm'] at hm
  cases hm
  refine (ww_of hm' hcode hpl hrk hcls hl (wx_ok _ _ _ _ _ _ _ _ _ _ _ e)).mono ?_
  intro r' w' q
  exact ⟨congrArg Prod.fst q, congrArg Prod.snd q⟩
