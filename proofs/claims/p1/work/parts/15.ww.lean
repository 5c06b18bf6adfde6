/-! ===== walking in the world; printed by wip/whole/gen3.py out of parts 11 and 12 ===== -/
abbrev w_KT : Type := Nat → List am_V → List am_V → W_ → Prop
/-- contracts as functions: the frames below, what must hold, the answer, the world behind it -/
abbrev w_CT : Type := Nat → List am_V → W_ → Option (Nat × Prop × Option am_V × W_)
def ww_Z (own nL fr rk : Nat) (bytes : ByteArray) (sc : am_Sc) (Q : Option am_V → W_ → Prop) (pc : Nat) (ls st : List am_V) (w : W_) : Prop := ∀ h, w_R w h → am_Z own nL fr rk bytes false sc (fun r h' => ∃ w', Q r w' ∧ w_R w' h') pc ls st h
def ww_Ct (mid fr : Nat) (as : List am_V) (w : W_) (Q : Option am_V → W_ → Prop) : Prop := ∀ h, w_R w h → am_Ct mid fr as h fun r h' => ∃ w', Q r w' ∧ w_R w' h'
def ww_Cn (mid fr : Nat) (as : List am_V) (w : W_) (Q : Option am_V → W_ → Prop) : Prop := ∃ fr', fr' + 1 ≤ fr ∧ ww_Ct mid fr' as w Q
theorem ww_Ct.mono {mid fr : Nat} {as : List am_V} {w : W_} {P Q : Option am_V → W_ → Prop} (c : ww_Ct mid fr as w P) (hk : ∀ r w1, P r w1 → Q r w1) : ww_Ct mid fr as w Q := fun h hR => by
  obtain ⟨r, h1, ⟨w1, hp, hr⟩, hc⟩ := c h hR
  exact ⟨r, h1, ⟨w1, hk r w1 hp, hr⟩, hc⟩
theorem ww_Cn_of {mid fr fr' : Nat} {as : List am_V} {w : W_} {P Q : Option am_V → W_ → Prop} (c : ww_Ct mid fr' as w P) (hf : fr' + 1 ≤ fr) (hk : ∀ r w1, P r w1 → Q r w1) : ww_Cn mid fr as w Q := ⟨fr', hf, c.mono hk⟩
def ww_cOk (ct : w_CT) : Prop := ∀ mid as w fr' pre r w1, ct mid as w = some (fr', pre, r, w1) → pre → ww_Ct mid fr' as w fun r' w' => r' = r ∧ w' = w1
theorem ww_of {mid fr nL rk own : Nat} {y : MethodName} {bytes : ByteArray} {ret : Option FieldType} {cp : Nat × Nat} {as : List am_V} {w : W_} {Q : Option am_V → W_ → Prop}
    (hm : am_ml[mid]? = some (y, bytes, nL, ret, rk, own, false, cp)) (hcode : Cond.code y bytes nL ret ∈ am_G) (hpl : plainName y.cls = true) (hrk : am_rko rk ret = true) (hown : y.cls = am_R own) (hlen : (am_sl as).length ≤ nL)
    (Z : ww_Z own nL fr rk bytes none Q 0 (am_loc0 nL as) [] w) : ww_Ct mid fr as w Q := fun h hR => am_CT_of hm hcode hpl hrk hown (fun q => by cases q) hlen (Z h hR)
-- Math.max, Math.min
theorem am_sum_cat {α : Nat → Nat} (rest : List am_V) : ((rest.map (am_c α)).map fun v => v.category).sum = (rest.map am_cat).sum := by
  rw [List.map_map]
  congr 1
  exact List.map_congr_left fun v _ => am_c_cat α v
theorem am_lmaxN : Lib.Math.max.name = yJ9_max_7cf53 := rfl
theorem am_lminN : Lib.Math.min.name = yJ9_min_7cf53 := rfl
theorem am_lmaxC : Lib.Math.max.code = cJ9_max_7cf53 := rfl
theorem am_lminC : Lib.Math.min.code = cJ9_min_7cf53 := rfl
theorem am_simpleC {own nL fr rk : Nat} {bytes : ByteArray} {ini : Bool} {sc : am_Sc} {Q : Option am_V → am_H → Prop} {pc pc' : Nat} {ls st st' : List am_V} {h : am_H}
    (hw : ∀ (p : Program) (l : Launch) (e : Env) (R : Room) (s : State) (m : MethodId) (args : Array Value) (below : List Frame) (meth : Method) (c : Code) (D : va_G) (cA : Nat → ClassId) (A : Nat → Prop),
      am_Cx own nL fr bytes ini p s m args meth c R D cA A → ∀ (Q : State → Prop) (α : Nat → Nat) (H : Heap) (locs : List Loc) (cells slots : Nat) (lsA : Array Slot),
      am_S D cA A sc nL l s α h H locs ls lsA st → cells ≤ R.cells → slots ≤ R.slots → (∀ v ∈ st', am_ok h.2.1 v) ∧ (W p l e R s m args below meth c H locs cells slots Q (F0 m pc' lsA (st'.map (am_c α))) → W p l e R s m args below meth c H locs cells slots Q (F0 m pc lsA (st.map (am_c α)))))
    (k : am_Z own nL fr rk bytes ini sc Q pc' ls st' h) : am_Z own nL fr rk bytes ini sc Q pc ls st h := by
  obtain ⟨r, h', hQ, h1, h2, k⟩ := k
  refine ⟨r, h', hQ, h1, h2, fun p l e R s m args below meth c D cA A cx Qs α H locs cells slots lsA S hc hs RC => ?_⟩
  obtain ⟨ok, w⟩ := hw p l e R s m args below meth c D cA A cx Qs α H locs cells slots lsA S (by omega) (by omega)
  exact w (k p l e R s m args below meth c D cA A cx Qs α H locs cells slots lsA ⟨S.1, S.2.1, S.2.2.1, ok, S.2.2.2.2⟩ hc hs RC)
section MM
variable {own nL fr rk : Nat} {bytes : ByteArray} {ini : Bool} {sc : am_Sc} {Q : Option am_V → am_H → Prop} {pc : Nat} {ls st : List am_V} {h : am_H}
theorem am_mmax {idx : Nat} {x y : Int} (hd : decode bytes pc = .ok (.invokestatic idx, 3)) (hc : am_cl own idx = some (1, 249, 2)) (hx : -2147483648 ≤ x ∧ x < 2147483648) (hy : -2147483648 ≤ y ∧ y < 2147483648) (hr8 : (st.map am_cat).sum ≤ 8) (hfr : 1 ≤ fr)
    (k : am_Z own nL fr rk bytes ini sc Q (pc + 3) ls (.inl (if x < y then y else x) :: st) h) : am_Z own nL fr rk bytes ini sc Q pc ls (.inl y :: .inl x :: st) h := by
  refine am_simpleC (fun p l e R s m args below meth c D cA A cx Qs α H locs cells slots lsA S hcl hsl => ⟨am_cons (by exact trivial) (am_tl (am_tl S.2.2.2.1)), fun w => ?_⟩) k
  obtain ⟨ps, hok⟩ := am_cl_ok hc
  unfold am_cok at hok
  dsimp only at hok
  rw [ml_249] at hok
  dsimp only at hok
  rw [Bool.and_eq_true, Bool.and_eq_true] at hok
  obtain ⟨⟨-, -⟩, hok⟩ := hok
  split at hok <;> first | (exact absurd hok Bool.false_ne_true) | skip
  all_goals first | (rename_i hz; exact absurd hz (by decide)) | skip
  simp only [Bool.and_eq_true] at hok
  obtain ⟨⟨w1, w2⟩, w3⟩ := hok
  have hts := cx.2.2.2.2.1
  refine va_mmax (rest := st.map (am_c α)) cx.1 cx.2.1 (by rw [cx.2.2.1]; exact S.2.2.1.2.1.symm) cx.2.2.2.1 (hts _ (am_has_in w1)) (hts _ (am_has_in w2)) (hts _ (am_has_in w3)) (hts _ mk_249) (by rw [cx.2.2.2.2.2.2.2.1]; exact hfr) (by rw [am_sum_cat, cx.2.2.2.2.2.2.2.2.1]; omega) hcl hsl hd ?_
  have e : (Int32.ofInt (if x < y then y else x)) = (if Int32.ofInt x < Int32.ofInt y then Int32.ofInt y else Int32.ofInt x) := by
    by_cases c1 : x < y
    · rw [if_pos c1, if_pos ((am_lt32 hx.1 hx.2 hy.1 hy.2).mpr c1)]
    · rw [if_neg c1, if_neg (fun q => c1 ((am_lt32 hx.1 hx.2 hy.1 hy.2).mp q))]
  rw [← e]
  exact w
theorem am_mmin {idx : Nat} {x y : Int} (hd : decode bytes pc = .ok (.invokestatic idx, 3)) (hc : am_cl own idx = some (1, 250, 2)) (hx : -2147483648 ≤ x ∧ x < 2147483648) (hy : -2147483648 ≤ y ∧ y < 2147483648) (hr8 : (st.map am_cat).sum ≤ 8) (hfr : 1 ≤ fr)
    (k : am_Z own nL fr rk bytes ini sc Q (pc + 3) ls (.inl (if x < y then x else y) :: st) h) : am_Z own nL fr rk bytes ini sc Q pc ls (.inl y :: .inl x :: st) h := by
  refine am_simpleC (fun p l e R s m args below meth c D cA A cx Qs α H locs cells slots lsA S hcl hsl => ⟨am_cons (by exact trivial) (am_tl (am_tl S.2.2.2.1)), fun w => ?_⟩) k
  obtain ⟨ps, hok⟩ := am_cl_ok hc
  unfold am_cok at hok
  dsimp only at hok
  rw [ml_250] at hok
  dsimp only at hok
  rw [Bool.and_eq_true, Bool.and_eq_true] at hok
  obtain ⟨⟨-, -⟩, hok⟩ := hok
  split at hok <;> first | (exact absurd hok Bool.false_ne_true) | skip
  all_goals first | (rename_i hz; exact absurd hz (by decide)) | skip
  simp only [Bool.and_eq_true] at hok
  obtain ⟨⟨w1, w2⟩, w3⟩ := hok
  have hts := cx.2.2.2.2.1
  refine va_mmin (rest := st.map (am_c α)) cx.1 cx.2.1 (by rw [cx.2.2.1]; exact S.2.2.1.2.1.symm) cx.2.2.2.1 (hts _ (am_has_in w1)) (hts _ (am_has_in w2)) (hts _ (am_has_in w3)) (hts _ mk_250) (by rw [cx.2.2.2.2.2.2.2.1]; exact hfr) (by rw [am_sum_cat, cx.2.2.2.2.2.2.2.2.1]; omega) hcl hsl hd ?_
  have e : (Int32.ofInt (if x < y then x else y)) = (if Int32.ofInt y < Int32.ofInt x then Int32.ofInt y else Int32.ofInt x) := by
    by_cases c1 : y < x
    · rw [if_neg (by omega), if_pos ((am_lt32 hy.1 hy.2 hx.1 hx.2).mpr c1)]
    · rw [if_neg (fun q => c1 ((am_lt32 hy.1 hy.2 hx.1 hx.2).mp q))]
      by_cases c2 : x < y
      · rw [if_pos c2]
      · rw [if_neg c2]
        congr 1
        omega
  rw [← e]
  exact w
end MM
def ww_vI (v : am_V) (f : Int → Prop) : Prop := match v with
  | .inl x => f x
  | _ => False
def ww_vL (v : am_V) (f : Int → Prop) : Prop := match v with
  | .inr (.inl x) => f x
  | _ => False
def ww_vA (v : am_V) (f : am_V → Prop) : Prop := match v with
  | .inr (.inr (.inl a)) => f (.inr (.inr (.inl a)))
  | .inr (.inr (.inr true)) => f (.inr (.inr (.inr true)))
  | _ => False
theorem ww_vI_ok {ls : List am_V} {i : Nat} {f : Int → Prop} (h : ww_vI (am_gt ls i) f) : am_ldI ls i f := h
theorem ww_vL_ok {ls : List am_V} {i : Nat} {f : Int → Prop} (h : ww_vL (am_gt ls i) f) : am_ldL ls i f := h
theorem ww_vA_ok {ls : List am_V} {i : Nat} {f : am_V → Prop} (h : ww_vA (am_gt ls i) f) : am_ldA ls i f := h
/-- constants of the pool -/
def ww_kl : List (Nat × Nat × Int) := [(2, 26, 262144), (4, 155, 1000000), (6, 59, 100000), (7, 13, 4194304), (10, 56, 1000000), (12, 205, 100000)]
def ww_kc (own idx : Nat) : Option Int := (ww_kl.find? fun e => e.1 == own && e.2.1 == idx).map fun e => e.2.2
def ww_kll : List (Nat × Nat × Int) := [(12, 244, -9999), (12, 246, 9999)]
def ww_kcl (own idx : Nat) : Option Int := (ww_kll.find? fun e => e.1 == own && e.2.1 == idx).map fun e => e.2.2
theorem ww_kc_ok {own idx : Nat} {x : Int} (h : ww_kc own idx = some x) : Cond.constant (am_R own) idx (Int32.ofInt x) ∈ am_G := by
  unfold ww_kc at h
  rw [Option.map_eq_some_iff] at h
  obtain ⟨⟨o, i, y⟩, h1, h2⟩ := h
  cases h2
  have hm := List.mem_of_find?_eq_some h1
  have hp := List.find?_some h1
  dsimp only at hp
  rw [Bool.and_eq_true, beq_iff_eq, beq_iff_eq] at hp
  obtain ⟨rfl, rfl⟩ := hp
  simp only [ww_kl, List.mem_cons, List.not_mem_nil, or_false, Prod.mk.injEq] at hm
  rcases hm with ⟨rfl, rfl, rfl⟩ | ⟨rfl, rfl, rfl⟩ | ⟨rfl, rfl, rfl⟩ | ⟨rfl, rfl, rfl⟩ | ⟨rfl, rfl, rfl⟩ | ⟨rfl, rfl, rfl⟩
  · exact ld_2_26
  · exact ld_4_155
  · exact ld_6_59
  · exact ld_7_13
  · exact ld_10_56
  · exact ld_12_205
theorem ww_kcl_ok {own idx : Nat} {x : Int} (h : ww_kcl own idx = some x) : Cond.constantLong (am_R own) idx (Int64.ofInt x) ∈ am_G := by
  unfold ww_kcl at h
  rw [Option.map_eq_some_iff] at h
  obtain ⟨⟨o, i, y⟩, h1, h2⟩ := h
  cases h2
  have hm := List.mem_of_find?_eq_some h1
  have hp := List.find?_some h1
  dsimp only at hp
  rw [Bool.and_eq_true, beq_iff_eq, beq_iff_eq] at hp
  obtain ⟨rfl, rfl⟩ := hp
  simp only [ww_kll, List.mem_cons, List.not_mem_nil, or_false, Prod.mk.injEq] at hm
  rcases hm with ⟨rfl, rfl, rfl⟩ | ⟨rfl, rfl, rfl⟩
  · exact ld_12_244
  · exact ld_12_246
theorem ww_kcs : ww_kc 2 26 = some 262144 ∧ ww_kc 4 155 = some 1000000 ∧ ww_kc 6 59 = some 100000 ∧ ww_kc 7 13 = some 4194304 ∧ ww_kc 10 56 = some 1000000 ∧ ww_kc 12 205 = some 100000 ∧ ww_kcl 12 244 = some (-9999) ∧ ww_kcl 12 246 = some 9999 := ⟨rfl, rfl, rfl, rfl, rfl, rfl, rfl, rfl⟩
def ww_ald (sc : am_Sc) (i : Int) (st : List am_V) (w : W_) (f : Int → List am_V → Prop) : Prop := match st with
  | .inr (.inr (.inl a)) :: st => w_ak a = 1 ∧ 0 ≤ i ∧ i < w_al a ∧ f (w.2 a i.toNat) st
  | .inr (.inr (.inr true)) :: st => match sc with
    | some q => 0 ≤ i ∧ i < q.1 ∧ i < 2147483648 ∧ f (q.2 i.toNat) st
    | none => False
  | _ => False
def ww_aln (sc : am_Sc) (st : List am_V) (f : Int → List am_V → Prop) : Prop := match st with
  | .inr (.inr (.inr true)) :: st => match sc with
    | some q => f q.1 st
    | none => False
  | _ => False
/-- a number may be put into a field of such a type -/
def ww_pf (a j : Nat) (v : am_V) (w : W_) (f : W_ → Prop) : Prop := match am_tk (w_ci a) j, v with
  | 0, .inl x => (a = 13 ∧ j = 2 → x ≤ w.1 13 2) ∧ f (w_f w a j x)
  | 1, .inl x => (x = 0 ∨ x = 1) ∧ f (w_f w a j x)
  | 2, .inr (.inl x) => f (w_f w a j x)
  | 3, .inr (.inr (.inl x)) => (a = 17 ∧ j = 7 ∧ (x = 24 ∨ x = 55 ∨ x = 64)) ∧ f (w_f w a j x)
  | _, _ => False
/-- a call: by its contract, or left open -/
def ww_cal (fr mid : Nat) (ct : w_CT) (as rest : List am_V) (w : W_) (Kz K : List am_V → W_ → Prop) : Prop := match ct mid as w with
  | some (fr', pre, r, w1) => fr' + 1 ≤ fr ∧ pre ∧ K (r.toList ++ rest) w1
  | none => ww_Cn mid fr as w fun r w1 => Kz (r.toList ++ rest) w1
def ww_inv (own fr idx : Nat) (ct : w_CT) (kds : List Nat) (st : List am_V) (w : W_) (Kz K : List am_V → W_ → Prop) : Prop := match am_cl own idx with
  | some (kd, mid, n) => kds.elem kd = true ∧ match am_pp n st [] with
    | some (as, rest) => match kd with
      | 0 => am_pA rest fun a rest => (rest.map am_cat).sum ≤ 8 ∧ w_ci a = am_mc mid ∧ ww_cal fr mid ct (.inr (.inr (.inl a)) :: as) rest w Kz K
      | 1 => (rest.map am_cat).sum ≤ 8 ∧ ww_cal fr mid ct as rest w Kz K
      | 3 => (rest.map am_cat).sum ≤ 8 ∧ ww_cal fr mid ct as rest w Kz K
      | _ => False
    | none => False
  | none => False

def ww_stp (own nL fr rk : Nat) (sc : am_Sc) (Q : Option am_V → W_ → Prop) (ct : w_CT) (Kz k : w_KT) (pc : Nat) (i : Instr) (len : Nat) (ls st : List am_V) (w : W_) : Prop := match i, len with
  | .iconst n, 1 => k (pc + 1) ls (.inl n :: st) w
  | .bipush n, 2 => (-128 ≤ n ∧ n ≤ 127) ∧ k (pc + 2) ls (.inl n :: st) w
  | .sipush n, 3 => (-32768 ≤ n ∧ n ≤ 32767) ∧ k (pc + 3) ls (.inl n :: st) w
  | .lconst n, 1 => k (pc + 1) ls (.inr (.inl (n.val : Int)) :: st) w
  | .iload i, 2 => ww_vI (am_gt ls i) fun x => k (pc + 2) ls (.inl x :: st) w
  | .iload_n i, 1 => ww_vI (am_gt ls i.val) fun x => k (pc + 1) ls (.inl x :: st) w
  | .lload i, 2 => ww_vL (am_gt ls i) fun x => k (pc + 2) ls (.inr (.inl x) :: st) w
  | .lload_n i, 1 => ww_vL (am_gt ls i.val) fun x => k (pc + 1) ls (.inr (.inl x) :: st) w
  | .aload i, 2 => ww_vA (am_gt ls i) fun v => k (pc + 2) ls (v :: st) w
  | .aload_n i, 1 => ww_vA (am_gt ls i.val) fun v => k (pc + 1) ls (v :: st) w
  | .istore i, 2 => i < nL ∧ am_pI st fun x st => k (pc + 2) (am_s1 ls i (.inl x)) st w
  | .istore_n i, 1 => i.val < nL ∧ am_pI st fun x st => k (pc + 1) (am_s1 ls i.val (.inl x)) st w
  | .lstore i, 2 => i + 1 < nL ∧ am_pL st fun x st => k (pc + 2) (am_s2 ls i (.inr (.inl x))) st w
  | .lstore_n i, 1 => i.val + 1 < nL ∧ am_pL st fun x st => k (pc + 1) (am_s2 ls i.val (.inr (.inl x))) st w
  | .astore i, 2 => i < nL ∧ am_pA st fun a st => k (pc + 2) (am_s1 ls i (.inr (.inr (.inl a)))) st w
  | .astore_n i, 1 => i.val < nL ∧ am_pA st fun a st => k (pc + 1) (am_s1 ls i.val (.inr (.inr (.inl a)))) st w
  | .iinc i n, 3 => i < nL ∧ ww_vI (am_gt ls i) fun x => k (pc + 3) (am_s1 ls i (.inl (x + n))) st w
  | .iadd, 1 => am_pI st fun y st => am_pI st fun x st => k (pc + 1) ls (.inl (x + y) :: st) w
  | .isub, 1 => am_pI st fun y st => am_pI st fun x st => k (pc + 1) ls (.inl (x - y) :: st) w
  | .imul, 1 => am_pI st fun y st => am_pI st fun x st => k (pc + 1) ls (.inl (x * y) :: st) w
  | .ladd, 1 => am_pL st fun y st => am_pL st fun x st => k (pc + 1) ls (.inr (.inl (x + y)) :: st) w
  | .lsub, 1 => am_pL st fun y st => am_pL st fun x st => k (pc + 1) ls (.inr (.inl (x - y)) :: st) w
  | .lmul, 1 => am_pL st fun y st => am_pL st fun x st => k (pc + 1) ls (.inr (.inl (x * y)) :: st) w
  | .ineg, 1 => am_pI st fun x st => k (pc + 1) ls (.inl (-x) :: st) w
  | .iand, 1 => am_pI st fun y st => am_pI st fun x st => k (pc + 1) ls (.inl (Int32.ofInt x &&& Int32.ofInt y).toInt :: st) w
  | .ior, 1 => am_pI st fun y st => am_pI st fun x st => k (pc + 1) ls (.inl (Int32.ofInt x ||| Int32.ofInt y).toInt :: st) w
  | .ishl, 1 => am_pI st fun y st => am_pI st fun x st => k (pc + 1) ls (.inl (Int32.ofInt x <<< (Int32.ofInt y &&& 31)).toInt :: st) w
  | .ishr, 1 => am_pI st fun y st => am_pI st fun x st => k (pc + 1) ls (.inl (Int32.ofInt x >>> (Int32.ofInt y &&& 31)).toInt :: st) w
  | .land, 1 => am_pL st fun y st => am_pL st fun x st => k (pc + 1) ls (.inr (.inl (Int64.ofInt x &&& Int64.ofInt y).toInt) :: st) w
  | .lor, 1 => am_pL st fun y st => am_pL st fun x st => k (pc + 1) ls (.inr (.inl (Int64.ofInt x ||| Int64.ofInt y).toInt) :: st) w
  | .lshl, 1 => am_pI st fun y st => am_pL st fun x st => k (pc + 1) ls (.inr (.inl (Int64.ofInt x <<< ((Int32.ofInt y).toInt64 &&& 63)).toInt) :: st) w
  | .lshr, 1 => am_pI st fun y st => am_pL st fun x st => k (pc + 1) ls (.inr (.inl (Int64.ofInt x >>> ((Int32.ofInt y).toInt64 &&& 63)).toInt) :: st) w
  | .idiv, 1 => am_pI st fun y st => am_pI st fun x st => (0 ≤ x ∧ x < 2147483648 ∧ 0 < y ∧ y < 2147483648) ∧ k (pc + 1) ls (.inl (x / y) :: st) w
  | .irem, 1 => am_pI st fun y st => am_pI st fun x st => (0 ≤ x ∧ x < 2147483648 ∧ 0 < y ∧ y < 2147483648) ∧ k (pc + 1) ls (.inl (x % y) :: st) w
  | .i2l, 1 => am_pI st fun x st => am_rg x ∧ k (pc + 1) ls (.inr (.inl x) :: st) w
  | .l2i, 1 => am_pL st fun x st => k (pc + 1) ls (.inl x :: st) w
  | .lcmp, 1 => am_pL st fun y st => am_pL st fun x st => am_rl x ∧ am_rl y ∧ k (pc + 1) ls (.inl (if y < x then 1 else if x = y then 0 else -1) :: st) w
  | .dup, 1 => am_pO st fun v st => k (pc + 1) ls (v :: v :: st) w
  | .dup2, 1 => am_pO st fun v st => am_pO st fun u st => k (pc + 1) ls (v :: u :: v :: u :: st) w
  | .pop, 1 => am_pO st fun _ st => k (pc + 1) ls st w
  | .goto off, 3 => 0 ≤ (pc : Int) + off ∧ k (am_tg pc off) ls st w
  | .if_icmp .eq off, 3 => am_pI st fun y st => am_pI st fun x st => am_rg x ∧ am_rg y ∧ am_br pc off (x = y) fun pc => k pc ls st w
  | .if_icmp .ne off, 3 => am_pI st fun y st => am_pI st fun x st => am_rg x ∧ am_rg y ∧ am_br pc off (x ≠ y) fun pc => k pc ls st w
  | .if_icmp .lt off, 3 => am_pI st fun y st => am_pI st fun x st => am_rg x ∧ am_rg y ∧ am_br pc off (x < y) fun pc => k pc ls st w
  | .if_icmp .ge off, 3 => am_pI st fun y st => am_pI st fun x st => am_rg x ∧ am_rg y ∧ am_br pc off (y ≤ x) fun pc => k pc ls st w
  | .if_icmp .gt off, 3 => am_pI st fun y st => am_pI st fun x st => am_rg x ∧ am_rg y ∧ am_br pc off (y < x) fun pc => k pc ls st w
  | .if_icmp .le off, 3 => am_pI st fun y st => am_pI st fun x st => am_rg x ∧ am_rg y ∧ am_br pc off (x ≤ y) fun pc => k pc ls st w
  | .ifCond .eq off, 3 => am_pI st fun x st => am_rg x ∧ am_br pc off (x = 0) fun pc => k pc ls st w
  | .ifCond .ne off, 3 => am_pI st fun x st => am_rg x ∧ am_br pc off (x ≠ 0) fun pc => k pc ls st w
  | .ifCond .lt off, 3 => am_pI st fun x st => am_rg x ∧ am_br pc off (x < 0) fun pc => k pc ls st w
  | .ifCond .ge off, 3 => am_pI st fun x st => am_rg x ∧ am_br pc off (0 ≤ x) fun pc => k pc ls st w
  | .ifCond .gt off, 3 => am_pI st fun x st => am_rg x ∧ am_br pc off (0 < x) fun pc => k pc ls st w
  | .ifCond .le off, 3 => am_pI st fun x st => am_rg x ∧ am_br pc off (x ≤ 0) fun pc => k pc ls st w
  | .tableswitch dflt lo hi offs, _ => am_pI st fun x st => am_rg x ∧ (hi = lo + offs.size - 1) ∧ (x < lo ∨ hi < x → 0 ≤ (pc : Int) + dflt ∧ k (am_tg pc dflt) ls st w) ∧ am_sw pc x lo offs.toList fun pc => k pc ls st w
  | .ireturn, 1 => match st with
    | [.inl x] => (rk = 1 ∨ (rk = 2 ∧ (x = 0 ∨ x = 1))) ∧ Q (some (.inl x)) w
    | _ => False
  | .lreturn, 1 => match st with
    | [.inr (.inl x)] => rk = 3 ∧ Q (some (.inr (.inl x))) w
    | _ => False
  | .return_, 1 => st = [] ∧ rk = 0 ∧ Q none w
  | .ldc idx, 2 => match ww_kc own idx with
    | some x => k (pc + 2) ls (.inl x :: st) w
    | none => False
  | .ldc2_w idx, 3 => match ww_kcl own idx with
    | some x => k (pc + 3) ls (.inr (.inl x) :: st) w
    | none => False
  | .getfield idx, 3 => am_pA st fun a st => match am_fd own idx with
    | some (ci, j, _) => w_ci a = ci ∧ w_g1 a j = false ∧ k (pc + 3) ls (w_gv w a j :: st) w
    | none => False
  | .putfield idx, 3 => match st with
    | v :: st => am_pA st fun a st => match am_fd own idx with
      | some (ci, j, fin) => w_ci a = ci ∧ fin = false ∧ ww_pf a j v w fun w => k (pc + 3) ls st w
      | none => False
    | [] => False
  | .iaload, 1 => am_pI st fun i st => ww_ald sc i st w fun x st => k (pc + 1) ls (.inl x :: st) w
  | .baload, 1 => am_pI st fun i st => am_pA st fun a st => w_ak a = 2 ∧ 0 ≤ i ∧ i < w_al a ∧ k (pc + 1) ls (.inl (w.2 a i.toNat) :: st) w
  | .laload, 1 => am_pI st fun i st => am_pA st fun a st => w_ak a = 3 ∧ 0 ≤ i ∧ i < w_al a ∧ k (pc + 1) ls (.inr (.inl (w.2 a i.toNat)) :: st) w
  | .iastore, 1 => am_pI st fun x st => am_pI st fun i st => am_pA st fun a st => w_ak a = 1 ∧ 0 ≤ i ∧ i < w_al a ∧ k (pc + 1) ls st (w_a w a i.toNat x)
  | .bastore, 1 => am_pI st fun x st => am_pI st fun i st => am_pA st fun a st => w_ak a = 2 ∧ 0 ≤ i ∧ i < w_al a ∧ (x = 0 ∨ x = 1) ∧ k (pc + 1) ls st (w_a w a i.toNat x)
  | .lastore, 1 => am_pL st fun x st => am_pI st fun i st => am_pA st fun a st => w_ak a = 3 ∧ 0 ≤ i ∧ i < w_al a ∧ k (pc + 1) ls st (w_a w a i.toNat x)
  | .arraylength, 1 => ww_aln sc st fun x st => k (pc + 1) ls (.inl x :: st) w
  | .invokevirtual idx, 3 => ww_inv own fr idx ct [0] st w (fun st w => Kz (pc + 3) ls st w) (fun st w => k (pc + 3) ls st w)
  | .invokestatic idx, 3 => match am_cl own idx with
    | some (1, 249, 2) => am_pI st fun y st => am_pI st fun x st => am_rg x ∧ am_rg y ∧ (st.map am_cat).sum ≤ 8 ∧ 1 ≤ fr ∧ k (pc + 3) ls (.inl (if x < y then y else x) :: st) w
    | some (1, 250, 2) => am_pI st fun y st => am_pI st fun x st => am_rg x ∧ am_rg y ∧ (st.map am_cat).sum ≤ 8 ∧ 1 ≤ fr ∧ k (pc + 3) ls (.inl (if x < y then x else y) :: st) w
    | _ => ww_inv own fr idx ct [1, 3] st w (fun st w => Kz (pc + 3) ls st w) (fun st w => k (pc + 3) ls st w)
  | _, _ => Kz pc ls st w
def ww1 (own nL fr rk : Nat) (bytes : ByteArray) (sc : am_Sc) (Q : Option am_V → W_ → Prop) (ct : w_CT) (Kz k : w_KT) (pc : Nat) (ls st : List am_V) (w : W_) : Prop := match decode bytes pc with
  | .ok (i, len) => ww_stp own nL fr rk sc Q ct Kz k pc i len ls st w
  | _ => False
/-- n instructions at most, and none at the places of cuts: there the state is left to Kz -/
def ww (own nL fr rk : Nat) (bytes : ByteArray) (sc : am_Sc) (cuts : List Nat) (Q : Option am_V → W_ → Prop) (ct : w_CT) (Kz : w_KT) : Nat → w_KT
  | 0 => Kz
  | n + 1 => fun pc ls st w => match cuts.elem pc with
    | true => Kz pc ls st w
    | false => ww1 own nL fr rk bytes sc Q ct Kz (ww own nL fr rk bytes sc cuts Q ct Kz n) pc ls st w

theorem w_al_lt {a : Nat} (h : w_ak a ≠ 0) : w_al a < 100000 := by
  have := (w_ak_le h).2
  revert h
  have : ∀ a, a < 128 → w_ak a ≠ 0 → w_al a < 100000 := by decide +kernel
  exact this a (by omega)
theorem w_mc_ne {own idx kd mid n : Nat} (h : am_cl own idx = some (kd, mid, n)) : am_mc mid ≠ 0 := by
  obtain ⟨ps, hok⟩ := am_cl_ok h
  unfold am_cok at hok
  unfold am_mc
  dsimp only at hok
  split at hok
  · exact absurd hok Bool.false_ne_true
  · rename_i M hM
    rw [hM]
    show M.2.2.2.2.2.1 + 3 ≠ 0
    omega
theorem ww_cal_ok {fr mid : Nat} {ct : w_CT} {as rest : List am_V} {w : W_} {Kz K : List am_V → W_ → Prop} (hct : ww_cOk ct) (h : ww_cal fr mid ct as rest w Kz K) : ∃ (A B : Prop) (fr' : Nat), fr' + 1 ≤ fr ∧ ww_Ct mid fr' as w fun r w1 => (A ∧ K (r.toList ++ rest) w1) ∨ (B ∧ Kz (r.toList ++ rest) w1) := by
  unfold ww_cal at h
  split at h
  · rename_i fr' pre r w1 e
    obtain ⟨hf, hp, hk⟩ := h
    refine ⟨True, False, fr', hf, (hct _ _ _ _ _ _ _ e hp).mono ?_⟩
    rintro r' w' ⟨rfl, rfl⟩
    exact Or.inl ⟨trivial, hk⟩
  · obtain ⟨fr', hf, hc⟩ := h
    exact ⟨False, True, fr', hf, hc.mono fun r w1 q => Or.inr ⟨trivial, q⟩⟩
section WWOK
variable {own nL fr rk : Nat} {bytes : ByteArray} {sc : am_Sc} {Q : Option am_V → W_ → Prop} {pc : Nat} {ls st : List am_V} {w : W_}
set_option maxHeartbeats 4000000 in
theorem ww_stp_ok {ct : w_CT} {Kz k : w_KT} {i : Instr} {len : Nat} (hct0 : ww_cOk ct) (hd : decode bytes pc = .ok (i, len)) (hk : ∀ pc ls st w, k pc ls st w → ww_Z own nL fr rk bytes sc Q pc ls st w) (hKz : ∀ pc ls st w, Kz pc ls st w → ww_Z own nL fr rk bytes sc Q pc ls st w)
    (w0 : ww_stp own nL fr rk sc Q ct Kz k pc i len ls st w) : ww_Z own nL fr rk bytes sc Q pc ls st w := by
  unfold ww_stp at w0
  split at w0
  · rename_i n
    exact fun h hR => am_iconst hd (hk _ _ _ _ w0 h hR)
  · rename_i n
    obtain ⟨⟨a, b⟩, w0⟩ := w0
    exact fun h hR => am_bipush hd a b (hk _ _ _ _ w0 h hR)
  · rename_i n
    obtain ⟨⟨a, b⟩, w0⟩ := w0
    exact fun h hR => am_sipush hd a b (hk _ _ _ _ w0 h hR)
  · rename_i n
    exact fun h hR => am_lconst hd (hk _ _ _ _ w0 h hR)
  · obtain ⟨x, e, w0⟩ := am_ldI_ok (ww_vI_ok w0)
    exact fun h hR => am_load_i e (Or.inl ⟨hd, rfl⟩) (hk _ _ _ _ w0 h hR)
  · obtain ⟨x, e, w0⟩ := am_ldI_ok (ww_vI_ok w0)
    exact fun h hR => am_load_i e (Or.inr ⟨_, rfl, hd, rfl⟩) (hk _ _ _ _ w0 h hR)
  · obtain ⟨x, e, w0⟩ := am_ldL_ok (ww_vL_ok w0)
    exact fun h hR => am_load_l e (Or.inl ⟨hd, rfl⟩) (hk _ _ _ _ w0 h hR)
  · obtain ⟨x, e, w0⟩ := am_ldL_ok (ww_vL_ok w0)
    exact fun h hR => am_load_l e (Or.inr ⟨_, rfl, hd, rfl⟩) (hk _ _ _ _ w0 h hR)
  · obtain ⟨a, ha, e, w0⟩ := am_ldA_ok (ww_vA_ok w0)
    exact fun h hR => am_load_a ha e (Or.inl ⟨hd, rfl⟩) (hk _ _ _ _ w0 h hR)
  · obtain ⟨a, ha, e, w0⟩ := am_ldA_ok (ww_vA_ok w0)
    exact fun h hR => am_load_a ha e (Or.inr ⟨_, rfl, hd, rfl⟩) (hk _ _ _ _ w0 h hR)
  · obtain ⟨hi, w0⟩ := w0
    obtain ⟨x, st, rfl, am_w1⟩ := am_pI_ok w0
    exact fun h hR => am_store_i hi (Or.inl ⟨hd, rfl⟩) (hk _ _ _ _ am_w1 h hR)
  · obtain ⟨hi, w0⟩ := w0
    obtain ⟨x, st, rfl, am_w1⟩ := am_pI_ok w0
    exact fun h hR => am_store_i hi (Or.inr ⟨_, rfl, hd, rfl⟩) (hk _ _ _ _ am_w1 h hR)
  · obtain ⟨hi, w0⟩ := w0
    obtain ⟨x, st, rfl, am_w1⟩ := am_pL_ok w0
    exact fun h hR => am_store_l hi (Or.inl ⟨hd, rfl⟩) (hk _ _ _ _ am_w1 h hR)
  · obtain ⟨hi, w0⟩ := w0
    obtain ⟨x, st, rfl, am_w1⟩ := am_pL_ok w0
    exact fun h hR => am_store_l hi (Or.inr ⟨_, rfl, hd, rfl⟩) (hk _ _ _ _ am_w1 h hR)
  · obtain ⟨hi, w0⟩ := w0
    obtain ⟨x, st, rfl, am_w1⟩ := am_pA_ok w0
    exact fun h hR => am_store_a hi (Or.inl ⟨hd, rfl⟩) (hk _ _ _ _ am_w1 h hR)
  · obtain ⟨hi, w0⟩ := w0
    obtain ⟨x, st, rfl, am_w1⟩ := am_pA_ok w0
    exact fun h hR => am_store_a hi (Or.inr ⟨_, rfl, hd, rfl⟩) (hk _ _ _ _ am_w1 h hR)
  · obtain ⟨hi, w0⟩ := w0
    obtain ⟨x, e, w0⟩ := am_ldI_ok (ww_vI_ok w0)
    exact fun h hR => am_iinc e hi hd (hk _ _ _ _ w0 h hR)
  · obtain ⟨y, st, rfl, am_w1⟩ := am_pI_ok w0
    obtain ⟨x, st, rfl, am_w2⟩ := am_pI_ok am_w1
    exact fun h hR => am_iadd hd (hk _ _ _ _ am_w2 h hR)
  · obtain ⟨y, st, rfl, am_w1⟩ := am_pI_ok w0
    obtain ⟨x, st, rfl, am_w2⟩ := am_pI_ok am_w1
    exact fun h hR => am_isub hd (hk _ _ _ _ am_w2 h hR)
  · obtain ⟨y, st, rfl, am_w1⟩ := am_pI_ok w0
    obtain ⟨x, st, rfl, am_w2⟩ := am_pI_ok am_w1
    exact fun h hR => am_imul hd (hk _ _ _ _ am_w2 h hR)
  · obtain ⟨y, st, rfl, am_w1⟩ := am_pL_ok w0
    obtain ⟨x, st, rfl, am_w2⟩ := am_pL_ok am_w1
    exact fun h hR => am_ladd hd (hk _ _ _ _ am_w2 h hR)
  · obtain ⟨y, st, rfl, am_w1⟩ := am_pL_ok w0
    obtain ⟨x, st, rfl, am_w2⟩ := am_pL_ok am_w1
    exact fun h hR => am_lsub hd (hk _ _ _ _ am_w2 h hR)
  · obtain ⟨y, st, rfl, am_w1⟩ := am_pL_ok w0
    obtain ⟨x, st, rfl, am_w2⟩ := am_pL_ok am_w1
    exact fun h hR => am_lmul hd (hk _ _ _ _ am_w2 h hR)
  · obtain ⟨x, st, rfl, am_w1⟩ := am_pI_ok w0
    exact fun h hR => am_ineg hd (hk _ _ _ _ am_w1 h hR)
  · obtain ⟨y, st, rfl, am_w1⟩ := am_pI_ok w0
    obtain ⟨x, st, rfl, am_w2⟩ := am_pI_ok am_w1
    exact fun h hR => am_iand hd (hk _ _ _ _ am_w2 h hR)
  · obtain ⟨y, st, rfl, am_w1⟩ := am_pI_ok w0
    obtain ⟨x, st, rfl, am_w2⟩ := am_pI_ok am_w1
    exact fun h hR => am_ior hd (hk _ _ _ _ am_w2 h hR)
  · obtain ⟨y, st, rfl, am_w1⟩ := am_pI_ok w0
    obtain ⟨x, st, rfl, am_w2⟩ := am_pI_ok am_w1
    exact fun h hR => am_ishl hd (hk _ _ _ _ am_w2 h hR)
  · obtain ⟨y, st, rfl, am_w1⟩ := am_pI_ok w0
    obtain ⟨x, st, rfl, am_w2⟩ := am_pI_ok am_w1
    exact fun h hR => am_ishr hd (hk _ _ _ _ am_w2 h hR)
  · obtain ⟨y, st, rfl, am_w1⟩ := am_pL_ok w0
    obtain ⟨x, st, rfl, am_w2⟩ := am_pL_ok am_w1
    exact fun h hR => am_land hd (hk _ _ _ _ am_w2 h hR)
  · obtain ⟨y, st, rfl, am_w1⟩ := am_pL_ok w0
    obtain ⟨x, st, rfl, am_w2⟩ := am_pL_ok am_w1
    exact fun h hR => am_lor hd (hk _ _ _ _ am_w2 h hR)
  · obtain ⟨y, st, rfl, am_w1⟩ := am_pI_ok w0
    obtain ⟨x, st, rfl, am_w2⟩ := am_pL_ok am_w1
    exact fun h hR => am_lshl hd (hk _ _ _ _ am_w2 h hR)
  · obtain ⟨y, st, rfl, am_w1⟩ := am_pI_ok w0
    obtain ⟨x, st, rfl, am_w2⟩ := am_pL_ok am_w1
    exact fun h hR => am_lshr hd (hk _ _ _ _ am_w2 h hR)
  · obtain ⟨y, st, rfl, am_w1⟩ := am_pI_ok w0
    obtain ⟨x, st, rfl, am_w2⟩ := am_pI_ok am_w1
    obtain ⟨⟨a, b, c, d⟩, am_w2⟩ := am_w2
    exact fun h hR => am_idiv hd a b c d (hk _ _ _ _ am_w2 h hR)
  · obtain ⟨y, st, rfl, am_w1⟩ := am_pI_ok w0
    obtain ⟨x, st, rfl, am_w2⟩ := am_pI_ok am_w1
    obtain ⟨⟨a, b, c, d⟩, am_w2⟩ := am_w2
    exact fun h hR => am_irem hd a b c d (hk _ _ _ _ am_w2 h hR)
  · obtain ⟨x, st, rfl, am_w1⟩ := am_pI_ok w0
    obtain ⟨⟨a, b⟩, am_w1⟩ := am_w1
    exact fun h hR => am_i2l hd a b (hk _ _ _ _ am_w1 h hR)
  · obtain ⟨x, st, rfl, am_w1⟩ := am_pL_ok w0
    exact fun h hR => am_l2i hd (hk _ _ _ _ am_w1 h hR)
  · obtain ⟨y, st, rfl, am_w1⟩ := am_pL_ok w0
    obtain ⟨x, st, rfl, am_w2⟩ := am_pL_ok am_w1
    obtain ⟨⟨a, b⟩, ⟨c, d⟩, am_w2⟩ := am_w2
    exact fun h hR => am_lcmp hd a b c d (hk _ _ _ _ am_w2 h hR)
  · obtain ⟨v, st, rfl, e, am_w1⟩ := am_pO_ok w0
    exact fun h hR => am_dup e hd (hk _ _ _ _ am_w1 h hR)
  · obtain ⟨v, st, rfl, e, am_w1⟩ := am_pO_ok w0
    obtain ⟨u, st, rfl, e2, am_w2⟩ := am_pO_ok am_w1
    exact fun h hR => am_dup2 e e2 hd (hk _ _ _ _ am_w2 h hR)
  · obtain ⟨v, st, rfl, e, am_w1⟩ := am_pO_ok w0
    exact fun h hR => am_pop e hd (hk _ _ _ _ am_w1 h hR)
  · obtain ⟨h0, w0⟩ := w0
    exact fun h hR => am_goto hd (am_tg_ok h0) (hk _ _ _ _ w0 h hR)
  · obtain ⟨y, st, rfl, am_w1⟩ := am_pI_ok w0
    obtain ⟨x, st, rfl, am_w2⟩ := am_pI_ok am_w1
    obtain ⟨⟨a, b⟩, ⟨c, d⟩, h0, kt, kf⟩ := am_w2
    exact fun h hR => am_icmp_eq hd (am_tg_ok h0) a b c d (fun z => hk _ _ _ _ (kt z) h hR) (fun z => hk _ _ _ _ (kf z) h hR)
  · obtain ⟨y, st, rfl, am_w1⟩ := am_pI_ok w0
    obtain ⟨x, st, rfl, am_w2⟩ := am_pI_ok am_w1
    obtain ⟨⟨a, b⟩, ⟨c, d⟩, h0, kt, kf⟩ := am_w2
    exact fun h hR => am_icmp_ne hd (am_tg_ok h0) a b c d (fun z => hk _ _ _ _ (kt z) h hR) (fun z => hk _ _ _ _ (kf z) h hR)
  · obtain ⟨y, st, rfl, am_w1⟩ := am_pI_ok w0
    obtain ⟨x, st, rfl, am_w2⟩ := am_pI_ok am_w1
    obtain ⟨⟨a, b⟩, ⟨c, d⟩, h0, kt, kf⟩ := am_w2
    exact fun h hR => am_icmp_lt hd (am_tg_ok h0) a b c d (fun z => hk _ _ _ _ (kt z) h hR) (fun z => hk _ _ _ _ (kf z) h hR)
  · obtain ⟨y, st, rfl, am_w1⟩ := am_pI_ok w0
    obtain ⟨x, st, rfl, am_w2⟩ := am_pI_ok am_w1
    obtain ⟨⟨a, b⟩, ⟨c, d⟩, h0, kt, kf⟩ := am_w2
    exact fun h hR => am_icmp_ge hd (am_tg_ok h0) a b c d (fun z => hk _ _ _ _ (kt z) h hR) (fun z => hk _ _ _ _ (kf z) h hR)
  · obtain ⟨y, st, rfl, am_w1⟩ := am_pI_ok w0
    obtain ⟨x, st, rfl, am_w2⟩ := am_pI_ok am_w1
    obtain ⟨⟨a, b⟩, ⟨c, d⟩, h0, kt, kf⟩ := am_w2
    exact fun h hR => am_icmp_gt hd (am_tg_ok h0) a b c d (fun z => hk _ _ _ _ (kt z) h hR) (fun z => hk _ _ _ _ (kf z) h hR)
  · obtain ⟨y, st, rfl, am_w1⟩ := am_pI_ok w0
    obtain ⟨x, st, rfl, am_w2⟩ := am_pI_ok am_w1
    obtain ⟨⟨a, b⟩, ⟨c, d⟩, h0, kt, kf⟩ := am_w2
    exact fun h hR => am_icmp_le hd (am_tg_ok h0) a b c d (fun z => hk _ _ _ _ (kt z) h hR) (fun z => hk _ _ _ _ (kf z) h hR)
  · obtain ⟨x, st, rfl, am_w1⟩ := am_pI_ok w0
    obtain ⟨⟨a, b⟩, h0, kt, kf⟩ := am_w1
    exact fun h hR => am_if_eq hd (am_tg_ok h0) a b (fun z => hk _ _ _ _ (kt z) h hR) (fun z => hk _ _ _ _ (kf z) h hR)
  · obtain ⟨x, st, rfl, am_w1⟩ := am_pI_ok w0
    obtain ⟨⟨a, b⟩, h0, kt, kf⟩ := am_w1
    exact fun h hR => am_if_ne hd (am_tg_ok h0) a b (fun z => hk _ _ _ _ (kt z) h hR) (fun z => hk _ _ _ _ (kf z) h hR)
  · obtain ⟨x, st, rfl, am_w1⟩ := am_pI_ok w0
    obtain ⟨⟨a, b⟩, h0, kt, kf⟩ := am_w1
    exact fun h hR => am_if_lt hd (am_tg_ok h0) a b (fun z => hk _ _ _ _ (kt z) h hR) (fun z => hk _ _ _ _ (kf z) h hR)
  · obtain ⟨x, st, rfl, am_w1⟩ := am_pI_ok w0
    obtain ⟨⟨a, b⟩, h0, kt, kf⟩ := am_w1
    exact fun h hR => am_if_ge hd (am_tg_ok h0) a b (fun z => hk _ _ _ _ (kt z) h hR) (fun z => hk _ _ _ _ (kf z) h hR)
  · obtain ⟨x, st, rfl, am_w1⟩ := am_pI_ok w0
    obtain ⟨⟨a, b⟩, h0, kt, kf⟩ := am_w1
    exact fun h hR => am_if_gt hd (am_tg_ok h0) a b (fun z => hk _ _ _ _ (kt z) h hR) (fun z => hk _ _ _ _ (kf z) h hR)
  · obtain ⟨x, st, rfl, am_w1⟩ := am_pI_ok w0
    obtain ⟨⟨a, b⟩, h0, kt, kf⟩ := am_w1
    exact fun h hR => am_if_le hd (am_tg_ok h0) a b (fun z => hk _ _ _ _ (kt z) h hR) (fun z => hk _ _ _ _ (kf z) h hR)
  · rename_i dflt lo hi offs
    obtain ⟨x, st, rfl, am_w1⟩ := am_pI_ok w0
    obtain ⟨⟨a, b⟩, hs, ko, ki⟩ := am_w1
    by_cases c : x < lo ∨ hi < x
    · exact fun h hR => am_tsw_out hd (am_tg_ok (ko c).1) a b c (hk _ _ _ _ (ko c).2 h hR)
    · have c1 : lo ≤ x := by omega
      have c2 : x ≤ hi := by omega
      have hlt : (x - lo).toNat < offs.size := by omega
      have ho : offs[(x - lo).toNat]? = some offs[(x - lo).toNat] := Array.getElem?_eq_getElem hlt
      obtain ⟨z0, z1⟩ := am_sw_ok ki c1 offs[(x - lo).toNat] (by rw [Array.getElem?_toList]; exact ho)
      exact fun h hR => am_tsw_in hd a b c1 c2 ho (am_tg_ok z0) (hk _ _ _ _ z1 h hR)
  · split at w0
    · exact fun h hR => am_retI hd w0.1 ⟨w, w0.2, hR⟩
    · exact w0.elim
  · split at w0
    · exact fun h hR => am_retL hd w0.1 ⟨w, w0.2, hR⟩
    · exact w0.elim
  · obtain ⟨rfl, e, w0⟩ := w0
    exact fun h hR => am_retV hd e ⟨w, w0, hR⟩
  · split at w0
    · rename_i hc
      exact fun h hR => am_ldc hd (ww_kc_ok hc) (hk _ _ _ _ w0 h hR)
    · exact w0.elim
  · split at w0
    · rename_i hc
      exact fun h hR => am_ldc2 hd (ww_kcl_ok hc) (hk _ _ _ _ w0 h hR)
    · exact w0.elim
  · obtain ⟨a, st, rfl, am_w1⟩ := am_pA_ok w0
    split at am_w1
    · rename_i hf
      obtain ⟨e1, e2, am_w2⟩ := am_w1
      obtain ⟨C, T, N, ty, hc, h3, h15, hkN, hfin, hl⟩ := am_fd_ok hf
      subst e1
      refine fun h hR => am_getf hd hf (hR.oc rfl (by omega)) ?_
      rw [hR.gv (by omega) (am_nf_eq hc.1 ▸ hkN) e2]
      exact hk _ _ _ _ am_w2 h hR
    · exact am_w1.elim
  · split at w0
    · obtain ⟨a, st, rfl, am_w1⟩ := am_pA_ok w0
      split at am_w1
      · rename_i hf
        obtain ⟨e1, rfl, am_w2⟩ := am_w1
        obtain ⟨C, T, N, ty, hc, h3, h15, hkN, hfin, hl⟩ := am_fd_ok hf
        subst e1
        unfold ww_pf at am_w2
        split at am_w2
        · rename_i x ht
          exact fun h hR => am_putf hd hf (hR.oc rfl (by omega)) (fun q => by cases q) (by rw [ht]; trivial) (hk _ _ _ _ am_w2.2 _ (hR.pf (by omega) _ (Or.inl ⟨by omega, rfl⟩) (fun q => by obtain ⟨rfl, rfl⟩ := q; cases ht) am_w2.1))
        · rename_i x ht
          exact fun h hR => am_putf hd hf (hR.oc rfl (by omega)) (fun q => by cases q) (by rw [ht]; exact am_w2.1) (hk _ _ _ _ am_w2.2 _ (hR.pf (by omega) _ (Or.inl ⟨by omega, rfl⟩) (fun q => by obtain ⟨rfl, rfl⟩ := q; cases ht) (fun q => by obtain ⟨rfl, rfl⟩ := q; cases ht)))
        · rename_i x ht
          exact fun h hR => am_putf hd hf (hR.oc rfl (by omega)) (fun q => by cases q) (by rw [ht]; trivial) (hk _ _ _ _ am_w2 _ (hR.pf (by omega) _ (Or.inr ⟨by omega, rfl⟩) (fun q => by obtain ⟨rfl, rfl⟩ := q; cases ht) (fun q => by obtain ⟨rfl, rfl⟩ := q; cases ht)))
        · rename_i x ht
          obtain ⟨⟨rfl, rfl, hx⟩, am_w3⟩ := am_w2
          refine fun h hR => ?_
          have h127 : 127 ≤ h.2.1 := by
            obtain ⟨P, L, h1, -⟩ := hR
            exact h1.1
          refine am_putf hd hf (hR.oc rfl (by omega)) (fun q => by cases q) ?_ (hk _ _ _ _ am_w3 _ (hR.po hx))
          rw [ht]
          exact ⟨by omega, by omega⟩
        · exact am_w2.elim
      · exact am_w1.elim
    · exact w0.elim
  · obtain ⟨i, st, rfl, am_w1⟩ := am_pI_ok w0
    unfold ww_ald at am_w1
    split at am_w1
    · obtain ⟨e1, e2, e3, am_w2⟩ := am_w1
      refine fun h hR => ?_
      obtain ⟨g1, g2, g3⟩ := hR.ak e1 (by omega)
      have hb := w_al_lt (a := _) (by rw [e1]; omega)
      refine am_iald hd g1 e2 (by rw [g2]; exact e3) (by omega) ?_
      rw [g3 _ (by omega)]
      exact hk _ _ _ _ am_w2 h hR
    · split at am_w1
      · rename_i q
        obtain ⟨a, b, c, am_w2⟩ := am_w1
        exact fun h hR => am_sald (sc := some q) hd rfl a b c (hk _ _ _ _ am_w2 h hR)
      · exact am_w1.elim
    · exact am_w1.elim
  · obtain ⟨i, st, rfl, am_w1⟩ := am_pI_ok w0
    obtain ⟨a, st, rfl, am_w2⟩ := am_pA_ok am_w1
    obtain ⟨e1, e2, e3, am_w3⟩ := am_w2
    refine fun h hR => ?_
    obtain ⟨g1, g2, g3⟩ := hR.ak e1 (by omega)
    have hb := w_al_lt (a := a) (by rw [e1]; omega)
    refine am_zald hd g1 e2 (by rw [g2]; exact e3) (by omega) ?_
    rw [g3 _ (by omega)]
    exact hk _ _ _ _ am_w3 h hR
  · obtain ⟨i, st, rfl, am_w1⟩ := am_pI_ok w0
    obtain ⟨a, st, rfl, am_w2⟩ := am_pA_ok am_w1
    obtain ⟨e1, e2, e3, am_w3⟩ := am_w2
    refine fun h hR => ?_
    obtain ⟨g1, g2, g3⟩ := hR.ak e1 (by omega)
    have hb := w_al_lt (a := a) (by rw [e1]; omega)
    refine am_lald hd g1 e2 (by rw [g2]; exact e3) (by omega) ?_
    rw [g3 _ (by omega)]
    exact hk _ _ _ _ am_w3 h hR
  · obtain ⟨x, st, rfl, am_w1⟩ := am_pI_ok w0
    obtain ⟨i, st, rfl, am_w2⟩ := am_pI_ok am_w1
    obtain ⟨a, st, rfl, am_w3⟩ := am_pA_ok am_w2
    obtain ⟨e1, e2, e3, am_w4⟩ := am_w3
    refine fun h hR => ?_
    obtain ⟨g1, g2, g3⟩ := hR.ak e1 (by omega)
    have hb := w_al_lt (a := a) (by rw [e1]; omega)
    exact am_iast hd g1 e2 (by rw [g2]; exact e3) (by omega) (hk _ _ _ _ am_w4 _ (hR.pa (by omega)))
  · obtain ⟨x, st, rfl, am_w1⟩ := am_pI_ok w0
    obtain ⟨i, st, rfl, am_w2⟩ := am_pI_ok am_w1
    obtain ⟨a, st, rfl, am_w3⟩ := am_pA_ok am_w2
    obtain ⟨e1, e2, e3, am_w4⟩ := am_w3
    refine fun h hR => ?_
    obtain ⟨g1, g2, g3⟩ := hR.ak e1 (by omega)
    have hb := w_al_lt (a := a) (by rw [e1]; omega)
    exact am_zast hd g1 e2 (by rw [g2]; exact e3) (by omega) am_w4.1 (hk _ _ _ _ am_w4.2 _ (hR.pa (by omega)))
  · obtain ⟨x, st, rfl, am_w1⟩ := am_pL_ok w0
    obtain ⟨i, st, rfl, am_w2⟩ := am_pI_ok am_w1
    obtain ⟨a, st, rfl, am_w3⟩ := am_pA_ok am_w2
    obtain ⟨e1, e2, e3, am_w4⟩ := am_w3
    refine fun h hR => ?_
    obtain ⟨g1, g2, g3⟩ := hR.ak e1 (by omega)
    have hb := w_al_lt (a := a) (by rw [e1]; omega)
    exact am_last hd g1 e2 (by rw [g2]; exact e3) (by omega) (hk _ _ _ _ am_w4 _ (hR.pa (by omega)))
  · unfold ww_aln at w0
    split at w0
    · split at w0
      · rename_i q
        exact fun h hR => am_slen (sc := some q) hd rfl (hk _ _ _ _ w0 h hR)
      · exact w0.elim
    · exact w0.elim
  · unfold ww_inv at w0
    split at w0
    · rename_i kd mid n hcl
      obtain ⟨hkd, w0⟩ := w0
      split at w0
      · rename_i as rest hpp
        obtain ⟨pre, e1, e2, e3⟩ := am_pp_ok hpp
        rw [List.append_nil] at e1
        subst e1
        split at w0
        · obtain ⟨a, rest, rfl, h8, ho, w1⟩ := am_pA_ok w0
          obtain ⟨P, Kq, fr', hfr, hct⟩ := ww_cal_ok hct0 w1
          refine fun h hR => ?_
          obtain ⟨r, h1, ⟨w', hq, hR'⟩, hc⟩ := hct h hR
          refine am_callV hd hcl e2 e3 h8 hfr (hR.oc ho (w_mc_ne hcl)) hc ?_
          rcases hq with ⟨-, hq⟩ | ⟨-, hq⟩
          · exact hk _ _ _ _ hq h1 hR'
          · exact hKz _ _ _ _ hq h1 hR'
        · exact absurd hkd (by decide)
        · exact absurd hkd (by decide)
        · exact w0.elim
      · exact w0.elim
    · exact w0.elim
  · split at w0
    · rename_i hcl
      obtain ⟨y, st, rfl, am_w1⟩ := am_pI_ok w0
      obtain ⟨x, st, rfl, am_w2⟩ := am_pI_ok am_w1
      exact fun h hR => am_mmax hd hcl am_w2.1 am_w2.2.1 am_w2.2.2.1 am_w2.2.2.2.1 (hk _ _ _ _ am_w2.2.2.2.2 h hR)
    · rename_i hcl
      obtain ⟨y, st, rfl, am_w1⟩ := am_pI_ok w0
      obtain ⟨x, st, rfl, am_w2⟩ := am_pI_ok am_w1
      exact fun h hR => am_mmin hd hcl am_w2.1 am_w2.2.1 am_w2.2.2.1 am_w2.2.2.2.1 (hk _ _ _ _ am_w2.2.2.2.2 h hR)
    · unfold ww_inv at w0
      split at w0
      · rename_i kd mid n hcl
        obtain ⟨hkd, w0⟩ := w0
        split at w0
        · rename_i as rest hpp
          obtain ⟨pre, e1, e2, e3⟩ := am_pp_ok hpp
          rw [List.append_nil] at e1
          subst e1
          split at w0
          · exact absurd hkd (by decide)
          · obtain ⟨h8, w1⟩ := w0
            obtain ⟨P, Kq, fr', hfr, hct⟩ := ww_cal_ok hct0 w1
            refine fun h hR => ?_
            obtain ⟨r, h1, ⟨w', hq, hR'⟩, hc⟩ := hct h hR
            refine am_callS hd hcl e2 e3 h8 hfr hc ?_
            rcases hq with ⟨-, hq⟩ | ⟨-, hq⟩
            · exact hk _ _ _ _ hq h1 hR'
            · exact hKz _ _ _ _ hq h1 hR'
          · obtain ⟨h8, w1⟩ := w0
            obtain ⟨P, Kq, fr', hfr, hct⟩ := ww_cal_ok hct0 w1
            refine fun h hR => ?_
            obtain ⟨r, h1, ⟨w', hq, hR'⟩, hc⟩ := hct h hR
            refine am_callSN hd hcl e2 e3 h8 hfr hc ?_
            rcases hq with ⟨-, hq⟩ | ⟨-, hq⟩
            · exact hk _ _ _ _ hq h1 hR'
            · exact hKz _ _ _ _ hq h1 hR'
          · exact w0.elim
        · exact w0.elim
      · exact w0.elim
  · exact hKz _ _ _ _ w0
theorem ww1_ok {ct : w_CT} {Kz k : w_KT} (hct0 : ww_cOk ct) (hk : ∀ pc ls st w, k pc ls st w → ww_Z own nL fr rk bytes sc Q pc ls st w) (hKz : ∀ pc ls st w, Kz pc ls st w → ww_Z own nL fr rk bytes sc Q pc ls st w)
    (w0 : ww1 own nL fr rk bytes sc Q ct Kz k pc ls st w) : ww_Z own nL fr rk bytes sc Q pc ls st w := by
  unfold ww1 at w0
  split at w0
  · rename_i hd
    exact ww_stp_ok hct0 hd hk hKz w0
  · exact w0.elim
theorem ww_ok {ct : w_CT} {cuts : List Nat} {Kz : w_KT} (hct0 : ww_cOk ct) (hKz : ∀ pc ls st w, Kz pc ls st w → ww_Z own nL fr rk bytes sc Q pc ls st w) : ∀ (n pc : Nat) (ls st : List am_V) (w : W_), ww own nL fr rk bytes sc cuts Q ct Kz n pc ls st w → ww_Z own nL fr rk bytes sc Q pc ls st w := by
  intro n
  induction n with
  | zero => exact hKz
  | succ n ih =>
    intro pc ls st w w0
    unfold ww at w0
    split at w0
    · exact hKz _ _ _ _ w0
    · exact ww1_ok hct0 ih hKz w0
/-- a walk; where it stops, the same judgement is left -/
theorem ww_go {ct : w_CT} (hct0 : ww_cOk ct) (n : Nat) (cuts : List Nat) (w0 : ww own nL fr rk bytes sc cuts Q ct (ww_Z own nL fr rk bytes sc Q) n pc ls st w) : ww_Z own nL fr rk bytes sc Q pc ls st w :=
  ww_ok hct0 (fun _ _ _ _ h => h) n pc ls st w w0
/-- the same, from a place of cuts -/
theorem ww_go1 {ct : w_CT} (hct0 : ww_cOk ct) (n : Nat) (cuts : List Nat) (w0 : ww1 own nL fr rk bytes sc Q ct (ww_Z own nL fr rk bytes sc Q) (ww own nL fr rk bytes sc cuts Q ct (ww_Z own nL fr rk bytes sc Q) n) pc ls st w) : ww_Z own nL fr rk bytes sc Q pc ls st w :=
  ww1_ok hct0 (ww_ok hct0 (fun _ _ _ _ h => h) n) (fun _ _ _ _ h => h) w0
end WWOK
