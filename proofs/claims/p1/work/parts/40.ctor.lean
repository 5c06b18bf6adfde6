/-! ===== constructors, by computation ===== -/
def cx_pv (n : Nat) : Nat → am_V → Bool
  | 0, .inl _ => true
  | 1, .inl x => x == 0 || x == 1
  | 2, .inr (.inl _) => true
  | 3, .inr (.inr (.inl a)) => decide (1 ≤ a ∧ a ≤ n)
  | _, _ => false
theorem cx_pv_ok {n t : Nat} {v : am_V} (h : cx_pv n t v = true) : am_pv n t v := by
  unfold cx_pv at h
  split at h
  · exact trivial
  · rw [Bool.or_eq_true, beq_iff_eq, beq_iff_eq] at h
    exact h
  · exact trivial
  · rename_i a
    exact (of_decide_eq_true h : 1 ≤ a ∧ a ≤ n)
  · exact absurd h Bool.false_ne_true
def cx_rg (x : Int) : Bool := decide (-2147483648 ≤ x ∧ x < 2147483648)
abbrev cx_K : Type := Nat → List am_V → List am_V → am_H → Option am_H
/-- one instruction of a constructor; what is behind it; calls -/
def cx1 (k : cx_K) (call : Nat → List am_V → am_H → Option am_H) (own nL fr : Nat) (pc : Nat) (i : Instr) (len : Nat) (ls st : List am_V) (h : am_H) : Option am_H := match i with
  | .iconst n => if len = 1 then k (pc + 1) ls (.inl n :: st) h else none
  | .bipush n => if len = 2 ∧ -128 ≤ n ∧ n ≤ 127 then k (pc + 2) ls (.inl n :: st) h else none
  | .sipush n => if len = 3 ∧ -32768 ≤ n ∧ n ≤ 32767 then k (pc + 3) ls (.inl n :: st) h else none
  | .aload_n j => if len = 1 then (match am_gt ls j.val with
    | .inr (.inr (.inl a)) => k (pc + 1) ls (.inr (.inr (.inl a)) :: st) h
    | _ => none) else none
  | .aload j => if len = 2 then (match am_gt ls j with
    | .inr (.inr (.inl a)) => k (pc + 2) ls (.inr (.inr (.inl a)) :: st) h
    | _ => none) else none
  | .iload_n j => if len = 1 then (match am_gt ls j.val with
    | .inl a => k (pc + 1) ls (.inl a :: st) h
    | _ => none) else none
  | .istore_n j => if len = 1 ∧ j.val < nL then (match st with
    | .inl x :: st => k (pc + 1) (am_s1 ls j.val (.inl x)) st h
    | _ => none) else none
  | .astore_n j => if len = 1 ∧ j.val < nL then (match st with
    | .inr (.inr (.inl x)) :: st => k (pc + 1) (am_s1 ls j.val (.inr (.inr (.inl x)))) st h
    | _ => none) else none
  | .iinc j n => if len = 3 ∧ j < nL then (match am_gt ls j with
    | .inl x => k (pc + 3) (am_s1 ls j (.inl (x + n))) st h
    | _ => none) else none
  | .dup => if len = 1 then (match st with
    | .inr (.inr (.inl x)) :: st => k (pc + 1) ls (.inr (.inr (.inl x)) :: .inr (.inr (.inl x)) :: st) h
    | _ => none) else none
  | .goto off => if len = 3 ∧ 0 ≤ (pc : Int) + off then k (am_tg pc off) ls st h else none
  | .if_icmp .ge off => if len = 3 ∧ 0 ≤ (pc : Int) + off then (match st with
    | .inl y :: .inl x :: st => if cx_rg x = true ∧ cx_rg y = true then (if y ≤ x then k (am_tg pc off) ls st h else k (pc + 3) ls st h) else none
    | _ => none) else none
  | .new idx => if len = 3 then (match am_nw own idx with
    | some ci => k (pc + 3) ls (.inr (.inr (.inl (h.2.1 + 1))) :: st) (am_add h (.inr (ci, am_df ci)) (am_nf ci))
    | none => none) else none
  | .newarray .int => if len = 2 then (match st with
    | .inl x :: st => if 0 ≤ x ∧ x < 67108864 then k (pc + 2) ls (.inr (.inr (.inl (h.2.1 + 1))) :: st) (am_add h (.inl (0, x.toNat, fun _ => 0)) x.toNat) else none
    | _ => none) else none
  | .newarray .boolean => if len = 2 then (match st with
    | .inl x :: st => if 0 ≤ x ∧ x < 67108864 then k (pc + 2) ls (.inr (.inr (.inl (h.2.1 + 1))) :: st) (am_add h (.inl (1, x.toNat, fun _ => 0)) x.toNat) else none
    | _ => none) else none
  | .newarray .long => if len = 2 then (match st with
    | .inl x :: st => if 0 ≤ x ∧ x < 67108864 then k (pc + 2) ls (.inr (.inr (.inl (h.2.1 + 1))) :: st) (am_add h (.inl (2, x.toNat, fun _ => 0)) x.toNat) else none
    | _ => none) else none
  | .getfield idx => if len = 3 then (match st with
    | .inr (.inr (.inl a)) :: st => (match am_fd own idx with
      | some (ci, j, _) => if am_oc h a = ci then k (pc + 3) ls (am_gv h a j (am_tk ci j) :: st) h else none
      | none => none)
    | _ => none) else none
  | .putfield idx => if len = 3 then (match st with
    | v :: .inr (.inr (.inl a)) :: st => (match am_fd own idx with
      | some (ci, j, _) => if am_oc h a = ci ∧ ci = own + 3 ∧ cx_pv h.2.1 (am_tk ci j) v = true then k (pc + 3) ls st (am_sf h a j v) else none
      | none => none)
    | _ => none) else none
  | .iastore => if len = 1 then (match st with
    | .inl x :: .inl i :: .inr (.inr (.inl a)) :: st => if a = 126 ∧ am_ak h a = 1 ∧ 0 ≤ i ∧ i < am_ln h a ∧ i < 2147483648 then k (pc + 1) ls st (am_se h a i.toNat x) else none
    | _ => none) else none
  | .invokespecial idx => if len = 3 ∧ 1 ≤ fr then (match am_oi own idx with
    | true => (match st with
      | .inr (.inr (.inl _)) :: st => if (st.map am_cat).sum ≤ 8 then k (pc + 3) ls st h else none
      | _ => none)
    | false => (match am_cl own idx with
      | some (kd, mid, n) => if kd = 2 ∨ kd = 4 then (match am_pp n st [] with
        | some (as, .inr (.inr (.inl a)) :: rest) => if (rest.map am_cat).sum ≤ 8 then (match call mid (.inr (.inr (.inl a)) :: as) h with
          | some h1 => k (pc + 3) ls rest h1
          | none => none) else none
        | _ => none) else none
      | none => none)) else none
  | .return_ => if len = 1 ∧ st.isEmpty = true then some h else none
  | _ => none
/-- the constructors -/
def cx_im (mid : Nat) : Bool := [0, 8, 17, 39, 55, 61, 63, 67, 73, 110, 127, 143, 165].elem mid
def cx : Nat → Nat → Nat → Nat → ByteArray → cx_K
  | 0, _, _, _, _ => fun _ _ _ _ => none
  | n + 1, fr, own, nL, bytes => fun pc ls st h => match decode bytes pc with
    | .ok (i, len) => cx1 (cx n fr own nL bytes) (fun mid as h => if cx_im mid = true then (match am_ml[mid]? with
      | some (_, by1, nL1, _, _, own1, _, _) => if (am_sl as).length ≤ nL1 then cx n (fr - 1) own1 nL1 by1 0 (am_loc0 nL1 as) [] h else none
      | none => none) else none) own nL fr pc i len ls st h
    | _ => none
/-- every array but one holds 0 alone -/
def cx_z (h : am_H) : Prop := ∀ b, b ≠ 126 → ∀ i, am_el h b i = 0
theorem cx_z_add {h : am_H} {C : am_C} {n : Nat} (hz : cx_z h) (hC : ∀ k m f, C = .inl (k, m, f) → ∀ i, f i = 0) : cx_z (am_add h C n) := by
  intro b hb i
  unfold am_el am_add
  dsimp only
  by_cases e : b = h.2.1 + 1
  · rw [e, am_up_same]
    rcases C with ⟨k, m, f⟩ | C
    · exact hC k m f rfl i
    · rfl
  · rw [am_up_ne _ _ e]
    exact hz b hb i
theorem cx_im_ok {mid : Nat} (h : cx_im mid = true) : ∃ y bytes nL own cp, am_ml[mid]? = some (y, bytes, nL, none, 0, own, true, cp) ∧ Cond.code y bytes nL none ∈ am_G ∧ plainName y.cls = true ∧ y.cls = am_R own ∧ y.name = "<init>" := by
  unfold cx_im at h
  rw [List.elem_iff] at h
  simp only [List.mem_cons, List.not_mem_nil, or_false] at h
  rcases h with rfl | rfl | rfl | rfl | rfl | rfl | rfl | rfl | rfl | rfl | rfl | rfl | rfl
  · exact ⟨_, _, _, _, _, ml_0, mk_0, by decide +kernel, rfl, rfl⟩
  · exact ⟨_, _, _, _, _, ml_8, mk_8, by decide +kernel, rfl, rfl⟩
  · exact ⟨_, _, _, _, _, ml_17, mk_17, by decide +kernel, rfl, rfl⟩
  · exact ⟨_, _, _, _, _, ml_39, mk_39, by decide +kernel, rfl, rfl⟩
  · exact ⟨_, _, _, _, _, ml_55, mk_55, by decide +kernel, rfl, rfl⟩
  · exact ⟨_, _, _, _, _, ml_61, mk_61, by decide +kernel, rfl, rfl⟩
  · exact ⟨_, _, _, _, _, ml_63, mk_63, by decide +kernel, rfl, rfl⟩
  · exact ⟨_, _, _, _, _, ml_67, mk_67, by decide +kernel, rfl, rfl⟩
  · exact ⟨_, _, _, _, _, ml_73, mk_73, by decide +kernel, rfl, rfl⟩
  · exact ⟨_, _, _, _, _, ml_110, mk_110, by decide +kernel, rfl, rfl⟩
  · exact ⟨_, _, _, _, _, ml_127, mk_127, by decide +kernel, rfl, rfl⟩
  · exact ⟨_, _, _, _, _, ml_143, mk_143, by decide +kernel, rfl, rfl⟩
  · exact ⟨_, _, _, _, _, ml_165, mk_165, by decide +kernel, rfl, rfl⟩
theorem cx1_ok {k : cx_K} {call : Nat → List am_V → am_H → Option am_H} {own nL fr : Nat} {bytes : ByteArray} {pc len : Nat} {i : Instr} {ls st : List am_V} {h h' : am_H} (hd : decode bytes pc = .ok (i, len)) (hz : cx_z h)
    (hk : ∀ pc ls st h, cx_z h → k pc ls st h = some h' → am_Z own nL fr 0 bytes true none (fun r h1 => r = none ∧ h1 = h' ∧ cx_z h') pc ls st h)
    (hcall : ∀ mid as h h1, cx_z h → call mid as h = some h1 → 1 ≤ fr → am_Ct mid (fr - 1) as h (fun r h2 => r = none ∧ h2 = h1 ∧ cx_z h1))
    (e : cx1 k call own nL fr pc i len ls st h = some h') : am_Z own nL fr 0 bytes true none (fun r h1 => r = none ∧ h1 = h' ∧ cx_z h') pc ls st h := by
  refine am_stp_ok (Kz := fun _ _ _ _ => False) (k := fun pc ls st h => cx_z h ∧ k pc ls st h = some h') hd (fun pc ls st h q => hk pc ls st h q.1 q.2) (fun _ _ _ _ q => q.elim) ?_
  unfold cx1 at e
  split at e
  · split at e
    · rename_i c; exact ⟨c, hz, e⟩
    · cases e
  · split at e
    · rename_i c; exact ⟨c.1, c.2, hz, e⟩
    · cases e
  · split at e
    · rename_i c; exact ⟨c.1, c.2, hz, e⟩
    · cases e
  · split at e
    · rename_i c
      split at e
      · rename_i a q
        refine ⟨c, ?_⟩
        unfold am_ldA
        rw [q]
        exact ⟨hz, e⟩
      · cases e
    · cases e
  · split at e
    · rename_i c
      split at e
      · rename_i a q
        refine ⟨c, ?_⟩
        unfold am_ldA
        rw [q]
        exact ⟨hz, e⟩
      · cases e
    · cases e
  · split at e
    · rename_i c
      split at e
      · rename_i a q
        refine ⟨c, ?_⟩
        unfold am_ldI
        rw [q]
        exact ⟨hz, e⟩
      · cases e
    · cases e
  · split at e
    · rename_i c
      split at e
      · exact ⟨c.1, c.2, hz, e⟩
      · cases e
    · cases e
  · split at e
    · rename_i c
      split at e
      · exact ⟨c.1, c.2, hz, e⟩
      · cases e
    · cases e
  · split at e
    · rename_i c
      split at e
      · rename_i a q
        refine ⟨c.1, c.2, ?_⟩
        unfold am_ldI
        rw [q]
        exact ⟨hz, e⟩
      · cases e
    · cases e
  · split at e
    · rename_i c
      split at e
      · exact ⟨c, rfl, hz, e⟩
      · cases e
    · cases e
  · split at e
    · rename_i c
      exact ⟨c.1, c.2, hz, e⟩
    · cases e
  · split at e
    · rename_i c
      split at e
      · rename_i y x st
        split at e
        · rename_i c2
          refine ⟨c.1, (of_decide_eq_true c2.1 : -2147483648 ≤ x ∧ x < 2147483648), (of_decide_eq_true c2.2 : -2147483648 ≤ y ∧ y < 2147483648), c.2, fun z => ⟨hz, ?_⟩, fun z => ⟨hz, ?_⟩⟩
          · rw [if_pos z] at e; exact e
          · rw [if_neg z] at e; exact e
        · cases e
      · cases e
    · cases e
  · split at e
    · rename_i c
      refine ⟨c, ?_⟩
      split at e
      · rename_i ci q
        rw [q]
        exact ⟨cx_z_add hz (fun _ _ _ q => by cases q), e⟩
      · cases e
    · cases e
  · split at e
    · rename_i c
      split at e
      · split at e
        · rename_i c2
          exact ⟨c, c2.1, c2.2, cx_z_add hz (fun _ _ _ q => by cases q; intro _; rfl), e⟩
        · cases e
      · cases e
    · cases e
  · split at e
    · rename_i c
      split at e
      · split at e
        · rename_i c2
          exact ⟨c, c2.1, c2.2, cx_z_add hz (fun _ _ _ q => by cases q; intro _; rfl), e⟩
        · cases e
      · cases e
    · cases e
  · split at e
    · rename_i c
      split at e
      · split at e
        · rename_i c2
          exact ⟨c, c2.1, c2.2, cx_z_add hz (fun _ _ _ q => by cases q; intro _; rfl), e⟩
        · cases e
      · cases e
    · cases e
  · split at e
    · rename_i c
      split at e
      · rename_i a st
        refine ⟨c, ?_⟩
        show match am_fd own _ with
          | some (ci, j, _) => _
          | none => _
        split at e
        · rename_i ci j f q
          split at e
          · rename_i c2
            exact ⟨c2, hz, e⟩
          · cases e
        · cases e
      · cases e
    · cases e
  · split at e
    · rename_i c
      split at e
      · rename_i v a st
        refine ⟨c, ?_⟩
        show match am_fd own _ with
          | some (ci, j, f) => _
          | none => _
        split at e
        · rename_i ci j f q
          split at e
          · rename_i c2
            exact ⟨c2.1, fun _ => ⟨rfl, c2.2.1⟩, cx_pv_ok c2.2.2, fun b hb i => by rw [am_el_sf]; exact hz b hb i, e⟩
          · cases e
        · cases e
      · cases e
    · cases e
  · split at e
    · rename_i c
      split at e
      · rename_i x i a st
        split at e
        · rename_i c2
          refine ⟨c, c2.2.1, c2.2.2.1, c2.2.2.2.1, c2.2.2.2.2, fun b hb j => ?_, e⟩
          rw [am_el_se (by rw [c2.2.1]; decide), if_neg (fun q => hb (q.1.trans c2.1))]
          exact hz b hb j
        · cases e
      · cases e
    · cases e
  · split at e
    · rename_i c
      refine ⟨c.1, ?_⟩
      split at e
      · rename_i q
        rw [q]
        split at e
        · split at e
          · rename_i c2
            exact ⟨c.2, c2, hz, e⟩
          · cases e
        · cases e
      · rename_i q
        rw [q]
        unfold am_inv
        dsimp only
        split at e
        · rename_i kd mid n q2
          rw [q2]
          dsimp only
          split at e
          · rename_i c3
            split at e
            · rename_i as a rest q3
              split at e
              · rename_i c4
                split at e
                · rename_i h1 q4
                  have hc := hcall _ _ _ _ hz q4 c.2
                  have hq : am_Cn mid fr (.inr (.inr (.inl a)) :: as) h fun r h2 => cx_z h2 ∧ k (pc + 3) ls (r.toList ++ rest) h2 = some h' := by
                    refine am_Cn_of hc (by omega) ?_
                    rintro r h2 ⟨rfl, rfl, hz2⟩
                    exact ⟨hz2, e⟩
                  rcases c3 with rfl | rfl
                  · refine ⟨by decide, ?_⟩
                    rw [q3]
                    exact ⟨c4, hq⟩
                  · refine ⟨by decide, ?_⟩
                    rw [q3]
                    exact ⟨c4, hq⟩
                · cases e
              · cases e
            · cases e
          · cases e
        · cases e
    · cases e
  · split at e
    · rename_i c
      cases e
      exact ⟨c.1, List.isEmpty_iff.mp c.2, rfl, rfl, rfl, hz⟩
    · cases e
  · cases e
theorem cx_ok : ∀ (n fr own nL : Nat) (bytes : ByteArray) (pc : Nat) (ls st : List am_V) (h h' : am_H), cx_z h → cx n fr own nL bytes pc ls st h = some h' → am_Z own nL fr 0 bytes true none (fun r h1 => r = none ∧ h1 = h' ∧ cx_z h') pc ls st h := by
  intro n
  induction n with
  | zero => intro fr own nL bytes pc ls st h h' _ e; cases e
  | succ n ih =>
    intro fr own nL bytes pc ls st h h' hz e
    unfold cx at e
    split at e
    · rename_i i len hd
      refine cx1_ok hd hz (fun pc ls st h hz e => ih _ _ _ _ _ _ _ _ _ hz e) (fun mid as h h1 hz e hfr => ?_) e
      split at e
      · rename_i c
        obtain ⟨y, by1, nL1, own1, cp, hm, hcode, hpl, hcls, hname⟩ := cx_im_ok c
        rw [hm] at e
        dsimp only at e
        split at e
        · rename_i c2
          exact am_CT_of hm hcode hpl rfl hcls (fun _ => hname) c2 (ih _ _ _ _ _ _ _ _ _ hz e)
        · cases e
      · cases e
    · cases e
/-- a constructor that ends, ends so -/
theorem cx_ct {n fr mid : Nat} {as : List am_V} {h h' : am_H} {y : MethodName} {by1 : ByteArray} {nL own : Nat} {ret : Option FieldType} {rk : Nat} {ini : Bool} {cp : Nat × Nat} (hi : cx_im mid = true) (hm : am_ml[mid]? = some (y, by1, nL, ret, rk, own, ini, cp)) (hl : (am_sl as).length ≤ nL) (hz : cx_z h) (e : cx n fr own nL by1 0 (am_loc0 nL as) [] h = some h') : am_Ct mid fr as h fun r h1 => r = none ∧ h1 = h' ∧ cx_z h' := by
  obtain ⟨y', by1', nL1, own1, cp', hm', hcode, hpl, hcls, hname⟩ := cx_im_ok hi
  rw [hm'] at hm
  cases hm
  exact am_CT_of hm' hcode hpl rfl hcls (fun _ => hname) hl (cx_ok _ _ _ _ _ _ _ _ _ _ hz e)
