/-! ===== walking by computation: am_wp ===== -/
def am_rg (x : Int) : Prop := -2147483648 ≤ x ∧ x < 2147483648
def am_rl (x : Int) : Prop := -9223372036854775808 ≤ x ∧ x < 9223372036854775808
abbrev am_KT : Type := Nat → List am_V → List am_V → am_H → Prop
def am_pI (st : List am_V) (f : Int → List am_V → Prop) : Prop := match st with
  | .inl x :: st => f x st
  | _ => False
def am_pL (st : List am_V) (f : Int → List am_V → Prop) : Prop := match st with
  | .inr (.inl x) :: st => f x st
  | _ => False
def am_pA (st : List am_V) (f : Nat → List am_V → Prop) : Prop := match st with
  | .inr (.inr (.inl a)) :: st => f a st
  | _ => False
def am_pO (st : List am_V) (f : am_V → List am_V → Prop) : Prop := match st with
  | v :: st => am_two v = false ∧ f v st
  | _ => False
theorem am_pI_ok {st : List am_V} {f : Int → List am_V → Prop} (h : am_pI st f) : ∃ x st', st = .inl x :: st' ∧ f x st' := by
  unfold am_pI at h
  split at h
  · exact ⟨_, _, rfl, h⟩
  · exact h.elim
theorem am_pL_ok {st : List am_V} {f : Int → List am_V → Prop} (h : am_pL st f) : ∃ x st', st = .inr (.inl x) :: st' ∧ f x st' := by
  unfold am_pL at h
  split at h
  · exact ⟨_, _, rfl, h⟩
  · exact h.elim
theorem am_pA_ok {st : List am_V} {f : Nat → List am_V → Prop} (h : am_pA st f) : ∃ a st', st = .inr (.inr (.inl a)) :: st' ∧ f a st' := by
  unfold am_pA at h
  split at h
  · exact ⟨_, _, rfl, h⟩
  · exact h.elim
theorem am_pO_ok {st : List am_V} {f : am_V → List am_V → Prop} (h : am_pO st f) : ∃ v st', st = v :: st' ∧ am_two v = false ∧ f v st' := by
  unfold am_pO at h
  split at h
  · exact ⟨_, _, rfl, h.1, h.2⟩
  · exact h.elim
def am_tg (pc : Nat) (off : Int) : Nat := ((pc : Int) + off).toNat
def am_br (pc : Nat) (off : Int) (c : Prop) (k : Nat → Prop) : Prop := 0 ≤ (pc : Int) + off ∧ (c → k (am_tg pc off)) ∧ (¬ c → k (pc + 3))
theorem am_tg_ok {pc : Nat} {off : Int} (h : 0 ≤ (pc : Int) + off) : (pc : Int) + off = (am_tg pc off : Int) := by
  unfold am_tg
  omega
def am_ldI (ls : List am_V) (i : Nat) (f : Int → Prop) : Prop := match am_gt ls i with
  | .inl x => f x
  | _ => False
def am_ldL (ls : List am_V) (i : Nat) (f : Int → Prop) : Prop := match am_gt ls i with
  | .inr (.inl x) => f x
  | _ => False
def am_ldA (ls : List am_V) (i : Nat) (f : am_V → Prop) : Prop := match am_gt ls i with
  | .inr (.inr (.inl a)) => f (.inr (.inr (.inl a)))
  | .inr (.inr (.inr true)) => f (.inr (.inr (.inr true)))
  | _ => False
theorem am_ldI_ok {ls : List am_V} {i : Nat} {f : Int → Prop} (h : am_ldI ls i f) : ∃ x, am_gt ls i = .inl x ∧ f x := by
  unfold am_ldI at h
  split at h
  · exact ⟨_, by assumption, h⟩
  · exact h.elim
theorem am_ldL_ok {ls : List am_V} {i : Nat} {f : Int → Prop} (h : am_ldL ls i f) : ∃ x, am_gt ls i = .inr (.inl x) ∧ f x := by
  unfold am_ldL at h
  split at h
  · exact ⟨_, by assumption, h⟩
  · exact h.elim
theorem am_ldA_ok {ls : List am_V} {i : Nat} {f : am_V → Prop} (h : am_ldA ls i f) : ∃ a : Nat ⊕ Bool, a ≠ .inr false ∧ am_gt ls i = .inr (.inr a) ∧ f (.inr (.inr a)) := by
  unfold am_ldA at h
  split at h
  · exact ⟨_, by simp, by assumption, h⟩
  · exact ⟨_, by simp, by assumption, h⟩
  · exact h.elim
/-- n values off the stack, in their order -/
def am_pp : Nat → List am_V → List am_V → Option (List am_V × List am_V)
  | 0, st, as => some (as, st)
  | n + 1, v :: st, as => am_pp n st (v :: as)
  | _ + 1, [], _ => none
theorem am_pp_ok : ∀ {n : Nat} {st as as' rest : List am_V}, am_pp n st as = some (as', rest) → ∃ pre, as' = pre ++ as ∧ st = pre.reverse ++ rest ∧ pre.length = n := by
  intro n
  induction n with
  | zero => intro st as as' rest h; cases h; exact ⟨[], rfl, rfl, rfl⟩
  | succ n ih =>
    intro st as as' rest h
    cases st with
    | nil => cases h
    | cons v st =>
      obtain ⟨pre, h1, h2, h3⟩ := ih h
      exact ⟨pre ++ [v], by rw [h1]; simp, by rw [h2]; simp, by simp [h3]⟩
def am_Cn (mid fr : Nat) (as : List am_V) (h : am_H) (Q : Option am_V → am_H → Prop) : Prop := ∃ fr', fr' + 1 ≤ fr ∧ am_Ct mid fr' as h Q
theorem am_Cn_of {mid fr fr' : Nat} {as : List am_V} {h : am_H} {P Q : Option am_V → am_H → Prop} (c : am_Ct mid fr' as h P) (hf : fr' + 1 ≤ fr) (hk : ∀ r h1, P r h1 → Q r h1) : am_Cn mid fr as h Q := by
  obtain ⟨r, h1, hp, hc⟩ := c
  exact ⟨fr', hf, r, h1, hk r h1 hp, hc⟩
def am_inv (own fr idx : Nat) (kds : List Nat) (st : List am_V) (h : am_H) (K : List am_V → am_H → Prop) : Prop := match am_cl own idx with
  | some (kd, mid, n) => kd ∈ kds ∧ match am_pp n st [] with
    | some (as, rest) => match kd with
      | 0 => am_pA rest fun a rest => (rest.map am_cat).sum ≤ 8 ∧ am_oc h a = am_mc mid ∧ am_Cn mid fr (.inr (.inr (.inl a)) :: as) h fun r h1 => K (r.toList ++ rest) h1
      | 1 => (rest.map am_cat).sum ≤ 8 ∧ am_Cn mid fr as h fun r h1 => K (r.toList ++ rest) h1
      | 2 => am_pA rest fun a rest => (rest.map am_cat).sum ≤ 8 ∧ am_Cn mid fr (.inr (.inr (.inl a)) :: as) h fun r h1 => K (r.toList ++ rest) h1
      | 3 => (rest.map am_cat).sum ≤ 8 ∧ am_Cn mid fr as h fun r h1 => K (r.toList ++ rest) h1
      | _ => am_pA rest fun a rest => (rest.map am_cat).sum ≤ 8 ∧ am_Cn mid fr (.inr (.inr (.inl a)) :: as) h fun r h1 => K (r.toList ++ rest) h1
    | none => False
  | none => False
def am_ald (kd : Nat) (sc : am_Sc) (i : Int) (st : List am_V) (h : am_H) (f : Int → List am_V → Prop) : Prop := match st with
  | .inr (.inr (.inl a)) :: st => am_ak h a = kd ∧ 0 ≤ i ∧ i < am_ln h a ∧ i < 2147483648 ∧ f (am_el h a i.toNat) st
  | .inr (.inr (.inr true)) :: st => match sc with
    | some q => kd = 1 ∧ 0 ≤ i ∧ i < q.1 ∧ i < 2147483648 ∧ f (q.2 i.toNat) st
    | none => False
  | _ => False
def am_aln (sc : am_Sc) (st : List am_V) (h : am_H) (f : Int → List am_V → Prop) : Prop := match st with
  | .inr (.inr (.inl a)) :: st => am_ak h a ≠ 0 ∧ f (am_ln h a) st
  | .inr (.inr (.inr true)) :: st => match sc with
    | some q => f q.1 st
    | none => False
  | _ => False
/-- a switch: one way for each number -/
def am_sw (pc : Nat) (x : Int) : Int → List Int → (Nat → Prop) → Prop
  | _, [], _ => True
  | lo, off :: offs, k => (x = lo → 0 ≤ (pc : Int) + off ∧ k (am_tg pc off)) ∧ am_sw pc x (lo + 1) offs k
theorem am_sw_ok {pc : Nat} {x : Int} {k : Nat → Prop} : ∀ {offs : List Int} {lo : Int}, am_sw pc x lo offs k → lo ≤ x → ∀ off, offs[(x - lo).toNat]? = some off → 0 ≤ (pc : Int) + off ∧ k (am_tg pc off) := by
  intro offs
  induction offs with
  | nil => intro lo _ _ off ho; simp at ho
  | cons a offs ih =>
    intro lo h hl off ho
    by_cases e : x = lo
    · have : (x - lo).toNat = 0 := by omega
      rw [this] at ho
      simp at ho
      rw [← ho]
      exact h.1 e
    · have : (x - lo).toNat = (x - (lo + 1)).toNat + 1 := by omega
      rw [this, List.getElem?_cons_succ] at ho
      exact ih h.2 (by omega) off ho
def am_stp (own nL fr rk : Nat) (ini : Bool) (sc : am_Sc) (Q : Option am_V → am_H → Prop) (Kz k : am_KT) (pc : Nat) (i : Instr) (len : Nat) (ls st : List am_V) (h : am_H) : Prop := match i with
  | .iconst n => len = 1 ∧ k (pc + 1) ls (.inl n :: st) h
  | .bipush n => len = 2 ∧ (-128 ≤ n ∧ n ≤ 127) ∧ k (pc + 2) ls (.inl n :: st) h
  | .sipush n => len = 3 ∧ (-32768 ≤ n ∧ n ≤ 32767) ∧ k (pc + 3) ls (.inl n :: st) h
  | .lconst n => len = 1 ∧ k (pc + 1) ls (.inr (.inl (n.val : Int)) :: st) h
  | .iload i => len = 2 ∧ am_ldI ls i fun x => k (pc + 2) ls (.inl x :: st) h
  | .iload_n i => len = 1 ∧ am_ldI ls i.val fun x => k (pc + 1) ls (.inl x :: st) h
  | .lload i => len = 2 ∧ am_ldL ls i fun x => k (pc + 2) ls (.inr (.inl x) :: st) h
  | .lload_n i => len = 1 ∧ am_ldL ls i.val fun x => k (pc + 1) ls (.inr (.inl x) :: st) h
  | .aload i => len = 2 ∧ am_ldA ls i fun v => k (pc + 2) ls (v :: st) h
  | .aload_n i => len = 1 ∧ am_ldA ls i.val fun v => k (pc + 1) ls (v :: st) h
  | .istore i => len = 2 ∧ i < nL ∧ am_pI st fun x st => k (pc + 2) (am_s1 ls i (.inl x)) st h
  | .istore_n i => len = 1 ∧ i.val < nL ∧ am_pI st fun x st => k (pc + 1) (am_s1 ls i.val (.inl x)) st h
  | .lstore i => len = 2 ∧ i + 1 < nL ∧ am_pL st fun x st => k (pc + 2) (am_s2 ls i (.inr (.inl x))) st h
  | .lstore_n i => len = 1 ∧ i.val + 1 < nL ∧ am_pL st fun x st => k (pc + 1) (am_s2 ls i.val (.inr (.inl x))) st h
  | .astore i => len = 2 ∧ i < nL ∧ am_pA st fun a st => k (pc + 2) (am_s1 ls i (.inr (.inr (.inl a)))) st h
  | .astore_n i => len = 1 ∧ i.val < nL ∧ am_pA st fun a st => k (pc + 1) (am_s1 ls i.val (.inr (.inr (.inl a)))) st h
  | .iinc i n => len = 3 ∧ i < nL ∧ am_ldI ls i fun x => k (pc + 3) (am_s1 ls i (.inl (x + n))) st h
  | .iadd => len = 1 ∧ am_pI st fun y st => am_pI st fun x st => k (pc + 1) ls (.inl (x + y) :: st) h
  | .isub => len = 1 ∧ am_pI st fun y st => am_pI st fun x st => k (pc + 1) ls (.inl (x - y) :: st) h
  | .imul => len = 1 ∧ am_pI st fun y st => am_pI st fun x st => k (pc + 1) ls (.inl (x * y) :: st) h
  | .ladd => len = 1 ∧ am_pL st fun y st => am_pL st fun x st => k (pc + 1) ls (.inr (.inl (x + y)) :: st) h
  | .lsub => len = 1 ∧ am_pL st fun y st => am_pL st fun x st => k (pc + 1) ls (.inr (.inl (x - y)) :: st) h
  | .lmul => len = 1 ∧ am_pL st fun y st => am_pL st fun x st => k (pc + 1) ls (.inr (.inl (x * y)) :: st) h
  | .ineg => len = 1 ∧ am_pI st fun x st => k (pc + 1) ls (.inl (-x) :: st) h
  | .iand => len = 1 ∧ am_pI st fun y st => am_pI st fun x st => k (pc + 1) ls (.inl (Int32.ofInt x &&& Int32.ofInt y).toInt :: st) h
  | .ior => len = 1 ∧ am_pI st fun y st => am_pI st fun x st => k (pc + 1) ls (.inl (Int32.ofInt x ||| Int32.ofInt y).toInt :: st) h
  | .ishl => len = 1 ∧ am_pI st fun y st => am_pI st fun x st => k (pc + 1) ls (.inl (Int32.ofInt x <<< (Int32.ofInt y &&& 31)).toInt :: st) h
  | .ishr => len = 1 ∧ am_pI st fun y st => am_pI st fun x st => k (pc + 1) ls (.inl (Int32.ofInt x >>> (Int32.ofInt y &&& 31)).toInt :: st) h
  | .land => len = 1 ∧ am_pL st fun y st => am_pL st fun x st => k (pc + 1) ls (.inr (.inl (Int64.ofInt x &&& Int64.ofInt y).toInt) :: st) h
  | .lor => len = 1 ∧ am_pL st fun y st => am_pL st fun x st => k (pc + 1) ls (.inr (.inl (Int64.ofInt x ||| Int64.ofInt y).toInt) :: st) h
  | .lshl => len = 1 ∧ am_pI st fun y st => am_pL st fun x st => k (pc + 1) ls (.inr (.inl (Int64.ofInt x <<< ((Int32.ofInt y).toInt64 &&& 63)).toInt) :: st) h
  | .lshr => len = 1 ∧ am_pI st fun y st => am_pL st fun x st => k (pc + 1) ls (.inr (.inl (Int64.ofInt x >>> ((Int32.ofInt y).toInt64 &&& 63)).toInt) :: st) h
  | .idiv => len = 1 ∧ am_pI st fun y st => am_pI st fun x st => (0 ≤ x ∧ x < 2147483648 ∧ 0 < y ∧ y < 2147483648) ∧ k (pc + 1) ls (.inl (x / y) :: st) h
  | .irem => len = 1 ∧ am_pI st fun y st => am_pI st fun x st => (0 ≤ x ∧ x < 2147483648 ∧ 0 < y ∧ y < 2147483648) ∧ k (pc + 1) ls (.inl (x % y) :: st) h
  | .i2l => len = 1 ∧ am_pI st fun x st => am_rg x ∧ k (pc + 1) ls (.inr (.inl x) :: st) h
  | .l2i => len = 1 ∧ am_pL st fun x st => k (pc + 1) ls (.inl x :: st) h
  | .lcmp => len = 1 ∧ am_pL st fun y st => am_pL st fun x st => am_rl x ∧ am_rl y ∧ k (pc + 1) ls (.inl (if y < x then 1 else if x = y then 0 else -1) :: st) h
  | .dup => len = 1 ∧ am_pO st fun v st => k (pc + 1) ls (v :: v :: st) h
  | .dup2 => len = 1 ∧ am_pO st fun v st => am_pO st fun u st => k (pc + 1) ls (v :: u :: v :: u :: st) h
  | .pop => len = 1 ∧ am_pO st fun _ st => k (pc + 1) ls st h
  | .goto off => len = 3 ∧ 0 ≤ (pc : Int) + off ∧ k (am_tg pc off) ls st h
  | .if_icmp .eq off => len = 3 ∧ am_pI st fun y st => am_pI st fun x st => am_rg x ∧ am_rg y ∧ am_br pc off (x = y) fun pc => k pc ls st h
  | .if_icmp .ne off => len = 3 ∧ am_pI st fun y st => am_pI st fun x st => am_rg x ∧ am_rg y ∧ am_br pc off (x ≠ y) fun pc => k pc ls st h
  | .if_icmp .lt off => len = 3 ∧ am_pI st fun y st => am_pI st fun x st => am_rg x ∧ am_rg y ∧ am_br pc off (x < y) fun pc => k pc ls st h
  | .if_icmp .ge off => len = 3 ∧ am_pI st fun y st => am_pI st fun x st => am_rg x ∧ am_rg y ∧ am_br pc off (y ≤ x) fun pc => k pc ls st h
  | .if_icmp .gt off => len = 3 ∧ am_pI st fun y st => am_pI st fun x st => am_rg x ∧ am_rg y ∧ am_br pc off (y < x) fun pc => k pc ls st h
  | .if_icmp .le off => len = 3 ∧ am_pI st fun y st => am_pI st fun x st => am_rg x ∧ am_rg y ∧ am_br pc off (x ≤ y) fun pc => k pc ls st h
  | .ifCond .eq off => len = 3 ∧ am_pI st fun x st => am_rg x ∧ am_br pc off (x = 0) fun pc => k pc ls st h
  | .ifCond .ne off => len = 3 ∧ am_pI st fun x st => am_rg x ∧ am_br pc off (x ≠ 0) fun pc => k pc ls st h
  | .ifCond .lt off => len = 3 ∧ am_pI st fun x st => am_rg x ∧ am_br pc off (x < 0) fun pc => k pc ls st h
  | .ifCond .ge off => len = 3 ∧ am_pI st fun x st => am_rg x ∧ am_br pc off (0 ≤ x) fun pc => k pc ls st h
  | .ifCond .gt off => len = 3 ∧ am_pI st fun x st => am_rg x ∧ am_br pc off (0 < x) fun pc => k pc ls st h
  | .ifCond .le off => len = 3 ∧ am_pI st fun x st => am_rg x ∧ am_br pc off (x ≤ 0) fun pc => k pc ls st h
  | .tableswitch dflt lo hi offs => am_pI st fun x st => am_rg x ∧ (hi = lo + offs.size - 1) ∧ (x < lo ∨ hi < x → 0 ≤ (pc : Int) + dflt ∧ k (am_tg pc dflt) ls st h) ∧ am_sw pc x lo offs.toList fun pc => k pc ls st h
  | .getfield idx => len = 3 ∧ am_pA st fun a st => match am_fd own idx with
    | some (ci, j, _) => am_oc h a = ci ∧ k (pc + 3) ls (am_gv h a j (am_tk ci j) :: st) h
    | none => False
  | .putfield idx => len = 3 ∧ match st with
    | v :: st => am_pA st fun a st => match am_fd own idx with
      | some (ci, j, fin) => am_oc h a = ci ∧ (fin = true → ini = true ∧ ci = own + 3) ∧ am_pv h.2.1 (am_tk ci j) v ∧ k (pc + 3) ls st (am_sf h a j v)
      | none => False
    | [] => False
  | .iaload => len = 1 ∧ am_pI st fun i st => am_ald 1 sc i st h fun x st => k (pc + 1) ls (.inl x :: st) h
  | .baload => len = 1 ∧ am_pI st fun i st => am_pA st fun a st => am_ak h a = 2 ∧ 0 ≤ i ∧ i < am_ln h a ∧ i < 2147483648 ∧ k (pc + 1) ls (.inl (am_el h a i.toNat) :: st) h
  | .laload => len = 1 ∧ am_pI st fun i st => am_pA st fun a st => am_ak h a = 3 ∧ 0 ≤ i ∧ i < am_ln h a ∧ i < 2147483648 ∧ k (pc + 1) ls (.inr (.inl (am_el h a i.toNat)) :: st) h
  | .iastore => len = 1 ∧ am_pI st fun x st => am_pI st fun i st => am_pA st fun a st => am_ak h a = 1 ∧ 0 ≤ i ∧ i < am_ln h a ∧ i < 2147483648 ∧ k (pc + 1) ls st (am_se h a i.toNat x)
  | .bastore => len = 1 ∧ am_pI st fun x st => am_pI st fun i st => am_pA st fun a st => am_ak h a = 2 ∧ 0 ≤ i ∧ i < am_ln h a ∧ i < 2147483648 ∧ (x = 0 ∨ x = 1) ∧ k (pc + 1) ls st (am_se h a i.toNat x)
  | .lastore => len = 1 ∧ am_pL st fun x st => am_pI st fun i st => am_pA st fun a st => am_ak h a = 3 ∧ 0 ≤ i ∧ i < am_ln h a ∧ i < 2147483648 ∧ k (pc + 1) ls st (am_se h a i.toNat x)
  | .arraylength => len = 1 ∧ am_aln sc st h fun x st => k (pc + 1) ls (.inl x :: st) h
  | .new idx => len = 3 ∧ match am_nw own idx with
    | some ci => k (pc + 3) ls (.inr (.inr (.inl (h.2.1 + 1))) :: st) (am_add h (.inr (ci, am_df ci)) (am_nf ci))
    | none => Kz pc ls st h
  | .newarray .int => len = 2 ∧ am_pI st fun x st => 0 ≤ x ∧ x < 67108864 ∧ k (pc + 2) ls (.inr (.inr (.inl (h.2.1 + 1))) :: st) (am_add h (.inl (0, x.toNat, fun _ => 0)) x.toNat)
  | .newarray .boolean => len = 2 ∧ am_pI st fun x st => 0 ≤ x ∧ x < 67108864 ∧ k (pc + 2) ls (.inr (.inr (.inl (h.2.1 + 1))) :: st) (am_add h (.inl (1, x.toNat, fun _ => 0)) x.toNat)
  | .newarray .long => len = 2 ∧ am_pI st fun x st => 0 ≤ x ∧ x < 67108864 ∧ k (pc + 2) ls (.inr (.inr (.inl (h.2.1 + 1))) :: st) (am_add h (.inl (2, x.toNat, fun _ => 0)) x.toNat)
  | .invokespecial idx => len = 3 ∧ match am_oi own idx with
    | true => am_pA st fun _ st => 1 ≤ fr ∧ (st.map am_cat).sum ≤ 8 ∧ k (pc + 3) ls st h
    | false => am_inv own fr idx [2, 4] st h fun st h => k (pc + 3) ls st h
  | .invokevirtual idx => len = 3 ∧ am_inv own fr idx [0] st h fun st h => k (pc + 3) ls st h
  | .invokestatic idx => len = 3 ∧ am_inv own fr idx [1, 3] st h fun st h => k (pc + 3) ls st h
  | .ireturn => len = 1 ∧ match st with
    | [.inl x] => (rk = 1 ∨ (rk = 2 ∧ (x = 0 ∨ x = 1))) ∧ Q (some (.inl x)) h
    | _ => False
  | .lreturn => len = 1 ∧ match st with
    | [.inr (.inl x)] => rk = 3 ∧ Q (some (.inr (.inl x))) h
    | _ => False
  | .areturn => len = 1 ∧ match st with
    | [.inr (.inr (.inl a))] => rk = 4 ∧ (1 ≤ a ∧ a ≤ h.2.1) ∧ Q (some (.inr (.inr (.inl a)))) h
    | _ => False
  | .return_ => len = 1 ∧ st = [] ∧ rk = 0 ∧ Q none h
  | _ => Kz pc ls st h
def am_wp1 (own nL fr rk : Nat) (bytes : ByteArray) (ini : Bool) (sc : am_Sc) (Q : Option am_V → am_H → Prop) (Kz k : am_KT) (pc : Nat) (ls st : List am_V) (h : am_H) : Prop := match decode bytes pc with
  | .ok (i, len) => am_stp own nL fr rk ini sc Q Kz k pc i len ls st h
  | _ => False
/-- n instructions at most, and none at the places of cuts: there the state is left to Kz -/
def am_wp (own nL fr rk : Nat) (bytes : ByteArray) (ini : Bool) (sc : am_Sc) (cuts : Nat → Bool) (Q : Option am_V → am_H → Prop) (Kz : am_KT) : Nat → am_KT
  | 0 => Kz
  | n + 1 => fun pc ls st h => match cuts pc with
    | true => Kz pc ls st h
    | false => am_wp1 own nL fr rk bytes ini sc Q Kz (am_wp own nL fr rk bytes ini sc cuts Q Kz n) pc ls st h
