/-! ===== new cells, calls, contracts ===== -/
section LD4
variable {own nL fr rk : Nat} {bytes : ByteArray} {ini : Bool} {sc : am_Sc} {Q : Option am_V → am_H → Prop} {pc : Nat} {ls st : List am_V} {h : am_H}
/-- one cell more -/
theorem am_nwc {pc' : Nat} {C : am_C} {n : Nat} {st0 : List am_V} (hst : ∀ v ∈ st0, v ∈ st) (hC : am_wf h.2.1 C)
    (hw : ∀ (p : Program) (l : Launch) (e : Env) (R : Room) (s : State) (m : MethodId) (args : Array Value) (below : List Frame) (meth : Method) (c : Code) (D : va_G) (cA : Nat → ClassId) (A : Nat → Prop),
      am_Cx own nL fr bytes ini p s m args meth c R D cA A → ∀ (Q : State → Prop) (α : Nat → Nat) (H : Heap) (locs : List Loc) (cells slots : Nat) (lsA : Array Slot),
      am_S D cA A sc nL l s α h H locs ls lsA st → cells + 1 ≤ R.cells → slots + n ≤ R.slots →
      (∀ (q : Nat) (H1 : Heap), va_P D vwCl (am_ws cA α h ++ [(q, am_e cA α C)]) H1 → va_D A (am_ws cA α h ++ [(q, am_e cA α C)]) → va_S A s.heap H1 locs → W p l e R s m args below meth c H1 locs (cells + 1) (slots + n) Q (F0 m pc' lsA (.ref q :: st0.map (am_c α)))) → W p l e R s m args below meth c H locs cells slots Q (F0 m pc lsA (st.map (am_c α))))
    (k : am_Z own nL fr rk bytes ini sc Q pc' ls (.inr (.inr (.inl (h.2.1 + 1))) :: st0) (am_add h C n)) : am_Z own nL fr rk bytes ini sc Q pc ls st h := by
  obtain ⟨r, h', hQ, e1, e2, k⟩ := k
  have e1 : h.2.1 + 1 ≤ h'.2.1 := e1
  have e2 : h.2.2 + n ≤ h'.2.2 := e2
  refine ⟨r, h', hQ, by omega, by omega, fun p l e R s m args below meth c D cA A cx Qs α H locs cells slots lsA S hc hs RC => ?_⟩
  have hok0 : ∀ v ∈ st0, am_ok h.2.1 v := fun v hv => S.2.2.2.1 v (hst v hv)
  refine hw p l e R s m args below meth c D cA A cx Qs α H locs cells slots lsA S (by omega) (by omega) (fun q H1 hP hD hS => ?_)
  have ex : ∀ i, i ≤ h.2.1 → am_up α (h.2.1 + 1) q i = α i := fun i hi => am_up_ne _ _ (by omega)
  have hws := am_ws_add (cA := cA) (α := α) C n q S.1.2.2 hC
  have := k p l e R s m args below meth c D cA A cx Qs (am_up α (h.2.1 + 1) q) H1 locs (cells + 1) (slots + n) lsA ⟨⟨by rw [hws]; exact hP, by rw [hws]; exact hD, am_wf_add S.1.2.2 hC⟩, hS, S.2.2.1.ext (Nat.le_succ _) ex, ?_, ?_⟩ (by show cells + 1 + (h'.2.1 - (h.2.1 + 1) + (h'.2.2 - (h.2.2 + n)) / 1000) ≤ R.cells; omega) (by show slots + n + (h'.2.2 - (h.2.2 + n)) ≤ R.slots; omega) (fun α' H' locs' pc' lsA' cells' slots' ea r1 r2 r3 r4 q1 q2 => RC α' H' locs' pc' lsA' cells' slots' (fun i hi => (ea i (Nat.le_succ_of_le hi)).trans (ex i hi)) r1 r2 r3 r4 (by have q1 : cells' ≤ cells + 1 + (h'.2.1 - (h.2.1 + 1) + (h'.2.2 - (h.2.2 + n)) / 1000) := q1; omega) (by have q2 : slots' ≤ slots + n + (h'.2.2 - (h.2.2 + n)) := q2; omega))
  · have e0 : (Sum.inr (Sum.inr (Sum.inl (h.2.1 + 1))) :: st0 : List am_V).map (am_c (am_up α (h.2.1 + 1) q)) = .ref q :: st0.map (am_c α) := by
      rw [List.map_cons]
      congr 1
      · show Value.ref (am_up α (h.2.1 + 1) q (h.2.1 + 1)) = _
        rw [am_up_same]
      · exact List.map_congr_left fun v hv => am_c_ext ex (hok0 v hv)
    rw [e0] at this
    exact this
  · exact am_cons ⟨Nat.succ_pos _, Nat.le_refl _⟩ fun v hv => (hok0 v hv).mono (Nat.le_succ _)
  · have h4 := S.2.2.2.2
    unfold am_sok at h4 ⊢
    split
    · trivial
    · rw [ex 0 (Nat.zero_le _)]
      exact h4
theorem am_df_default {ci k : Nat} {ty : FieldType} (h : am_tyk (am_tk ci k) ty = true) (α : Nat → Nat) : defaultValue ty = am_c α (am_df ci k) := by
  unfold am_df
  generalize am_tk ci k = t at h ⊢
  unfold am_tyk at h
  split at h <;> first | (exfalso; exact Bool.false_ne_true h) | (have := beq_iff_eq.mp h; subst this; rfl)
theorem am_df_tv (n ci k : Nat) : am_tv n (am_tk ci k) (am_df ci k) := by
  unfold am_df
  generalize am_tk ci k = t
  rcases t with _ | _ | _ | t
  · exact ⟨_, rfl⟩
  · exact ⟨_, rfl⟩
  · exact ⟨_, rfl⟩
  · exact Or.inl rfl
theorem am_new {idx ci : Nat} (hd : decode bytes pc = .ok (.new idx, 3)) (hf : am_nw own idx = some ci)
    (k : am_Z own nL fr rk bytes ini sc Q (pc + 3) ls (.inr (.inr (.inl (h.2.1 + 1))) :: st) (am_add h (.inr (ci, am_df ci)) (am_nf ci))) : am_Z own nL fr rk bytes ini sc Q pc ls st h := by
  obtain ⟨h3, h15, w1, w2, w3⟩ := am_nw_ok hf
  obtain ⟨C, T, N, ty, hc⟩ := am_clsAt h3 h15
  have hN : N = am_nf ci := am_nf_eq hc.1
  refine am_nwc (C := .inr (ci, am_df ci)) (st0 := st) (fun _ h => h) ⟨h3, h15, fun k _ => am_df_tv _ _ _⟩ (fun p l e R s m args below meth c D cA A cx Qs α H locs cells slots lsA S hcl hsl kk => ?_) k
  rw [← hc.2.2.2.2.2] at w1 w2 w3
  rw [← hN] at w2
  refine va_new (D := D) (ci := ci) (fs := (List.range (am_nf ci)).map fun j => am_c α (am_df ci j)) cx.1 cx.2.1 cx.2.2.2.2.1 hc.2.1 ty hc.2.2.1 cx.2.2.2.1 (cx.2.2.2.2.1 _ w1) (cx.2.2.2.2.1 _ w2) (cx.2.2.2.2.1 _ w3) cx.2.2.2.2.2.2.1.1 S.1.1 S.1.2.1 S.2.1 cx.2.2.2.2.2.2.2.2.2 hc.1 (fun j hj => ?_) hcl (by rw [hN]; exact hsl) hd (fun q H1 hP hD hS => by rw [hN]; exact kk q H1 hP hD hS)
  have e0 : vp_V ((List.range (am_nf ci)).map fun j => am_c α (am_df ci j)) j = am_c α (am_df ci j) := by
    unfold vp_V
    rw [List.getD_eq_getElem?_getD, List.getElem?_map, List.getElem?_range (hN ▸ hj)]
    rfl
  rw [e0]
  exact am_df_default (am_tkAt h3 h15 hc hj) α
theorem am_newarr {atype : ArrayType} {kd : Nat} {ty : FieldType} {x : Int} (hd : decode bytes pc = .ok (.newarray atype, 2)) (hk : kd ≤ 2) (hty : newarray.typeOf atype = ty) (htk : (am_tys (fun _ => default))[kd]?.map Prod.snd = some ty) (hz : defaultValue ty = am_c (fun _ => 0) (if kd = 2 then .inr (.inl 0) else .inl 0)) (hcb : componentBytes ty ≤ 8) (hw : Cond.arrayClass ty ∈ am_G) (h1 : 0 ≤ x) (h2 : x < 67108864)
    (k : am_Z own nL fr rk bytes ini sc Q (pc + 2) ls (.inr (.inr (.inl (h.2.1 + 1))) :: st) (am_add h (.inl (kd, x.toNat, fun _ => 0)) x.toNat)) : am_Z own nL fr rk bytes ini sc Q pc ls (.inl x :: st) h := by
  subst hty
  refine am_nwc (C := .inl (kd, x.toNat, fun _ => 0)) (st0 := st) (fun _ h => List.mem_cons_of_mem _ h) hk (fun p l e R s m args below meth c D cA A cx Qs α H locs cells slots lsA S hcl hsl kk => ?_) k
  have hcla : (Int32.ofInt x).toNatClampNeg = x.toNat := am_clamp h1 (by omega)
  have hkd : kd = 0 ∨ kd = 1 ∨ kd = 2 := by omega
  refine va_newa (D := D) (ty := newarray.typeOf atype) (a0 := am_ar kd x.toNat (fun _ => 0)) cx.1 cx.2.1 (cx.2.2.2.2.1 _ hw) rfl cx.2.2.2.2.2.2.1.1 S.1.1 S.1.2.1 S.2.1 cx.2.2.2.2.2.2.2.2.2 (fun cA' => ?_) (fun q => ?_) hcla ?_ hcl hsl hd (fun q cA' H1 hK hP hD hS => ?_)
  · rcases hkd with rfl | rfl | rfl
    · show arrV cA' x.toNat (fun _ => .int (Int32.ofInt 0)) = _
      rw [hz]; rfl
    · show arrV cA' x.toNat (fun _ => .int (Int32.ofInt 0)) = _
      rw [hz]; rfl
    · show arrV cA' x.toNat (fun _ => .long (Int64.ofInt 0)) = _
      rw [hz]; rfl
  · have := (am_lt32 (x := x) (y := 0) (by omega) (by omega) (by decide) (by decide)).mp q
    omega
  · have : x.toNat * componentBytes (newarray.typeOf atype) ≤ x.toNat * 8 := Nat.mul_le_mul_left _ hcb
    omega
  · have hlast : (am_tys cA ++ [(cA', newarray.typeOf atype)])[3]? = some (cA', newarray.typeOf atype) := rfl
    have hra := (hK.2 3 _ hlast).2
    have e : cA' = cA kd := by
      rcases hkd with rfl | rfl | rfl
      · have h0 := (cx.2.2.2.2.2.2.1.1.2 0 (cA 0, .int) rfl).2
        have ht : newarray.typeOf atype = .int := (Option.some.inj htk).symm
        rw [ht] at hra
        exact Option.some.inj ((show s.vm.findClass _ = some cA' from hra).symm.trans (show s.vm.findClass _ = some (cA 0) from h0))
      · have h0 := (cx.2.2.2.2.2.2.1.1.2 1 (cA 1, .boolean) rfl).2
        have ht : newarray.typeOf atype = .boolean := (Option.some.inj htk).symm
        rw [ht] at hra
        exact Option.some.inj ((show s.vm.findClass _ = some cA' from hra).symm.trans (show s.vm.findClass _ = some (cA 1) from h0))
      · have h0 := (cx.2.2.2.2.2.2.1.1.2 2 (cA 2, .long) rfl).2
        have ht : newarray.typeOf atype = .long := (Option.some.inj htk).symm
        rw [ht] at hra
        exact Option.some.inj ((show s.vm.findClass _ = some cA' from hra).symm.trans (show s.vm.findClass _ = some (cA 2) from h0))
    rw [e] at hP hD
    exact kk q H1 hP hD hS
theorem am_objinit {idx a : Nat} (hd : decode bytes pc = .ok (.invokespecial idx, 3)) (hf : am_oi own idx = true) (hfr : 1 ≤ fr) (hr : (st.map am_cat).sum ≤ 8)
    (k : am_Z own nL fr rk bytes ini sc Q (pc + 3) ls st h) : am_Z own nL fr rk bytes ini sc Q pc ls (.inr (.inr (.inl a)) :: st) h := by
  refine am_simple (fun p l e R s m args below meth c D cA A cx Qs α H locs cells slots lsA S => ⟨am_tl S.2.2.2.1, fun w => ?_⟩) k
  have hmr : ((st.map (am_c α)).map fun v => v.category).sum = (st.map am_cat).sum := by
    rw [List.map_map]
    congr 1
    exact List.map_congr_left fun v _ => am_c_cat α v
  have h8 := cx.2.2.2.2.2.2.2.2.1
  have h7 := cx.2.2.2.2.2.2.2.1
  have hroom : 2 * (F0 m pc lsA ((.inr (.inr (.inl a)) :: st : List am_V).map (am_c α))).monitorRoom + ((st.map (am_c α)).map fun v => v.category).sum ≤ 8 := lv_room (by rw [hmr]; exact hr)
  exact W.objInit cx.1 cx.2.1 cx.2.2.2.1 (cx.2.2.2.2.1 _ (am_oi_ok hf)) (cx.2.2.2.2.1 _ am_objI) (cx.2.2.2.2.1 _ am_objC) rfl (by rw [cx.2.2.1]; exact S.2.2.1.2.1) rfl hd (by omega) (by rw [h8]; omega) w
end LD4
