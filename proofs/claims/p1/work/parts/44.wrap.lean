/-! ===== the law's callers: try, catch ===== -/
/-- instructions that push alone -/
def am_Sg (own nL fr : Nat) (bytes : ByteArray) (ini : Bool) (sc : am_Sc) (pc : Nat) (ls st : List am_V) (h : am_H) (pc' : Nat) (st' : List am_V) : Prop :=
  ∀ (p : Program) (l : Launch) (e : Env) (R : Room) (s : State) (m : MethodId) (args : Array Value) (below : List Frame) (meth : Method) (c : Code) (D : va_G) (cA : Nat → ClassId) (A : Nat → Prop),
    am_Cx own nL fr bytes ini p s m args meth c R D cA A → ∀ (Q : State → Prop) (α : Nat → Nat) (H : Heap) (locs : List Loc) (cells slots : Nat) (lsA : Array Slot),
    am_S D cA A sc nL l s α h H locs ls lsA st → (∀ v ∈ st', am_ok h.2.1 v) ∧ (W p l e R s m args below meth c H locs cells slots Q (F0 m pc' lsA (st'.map (am_c α))) → W p l e R s m args below meth c H locs cells slots Q (F0 m pc lsA (st.map (am_c α))))
section SG
variable {own nL fr : Nat} {bytes : ByteArray} {ini : Bool} {sc : am_Sc} {pc pc1 pc2 : Nat} {ls st st1 st2 : List am_V} {h : am_H}
theorem am_Sg.trans (a : am_Sg own nL fr bytes ini sc pc ls st h pc1 st1) (b : am_Sg own nL fr bytes ini sc pc1 ls st1 h pc2 st2) : am_Sg own nL fr bytes ini sc pc ls st h pc2 st2 := by
  intro p l e R s m args below meth c D cA A cx Q α H locs cells slots lsA S
  obtain ⟨o1, w1⟩ := a p l e R s m args below meth c D cA A cx Q α H locs cells slots lsA S
  obtain ⟨o2, w2⟩ := b p l e R s m args below meth c D cA A cx Q α H locs cells slots lsA ⟨S.1, S.2.1, S.2.2.1, o1, S.2.2.2.2⟩
  exact ⟨o2, fun w => w1 (w2 w)⟩
theorem sg_iconst {n : Int} (hd : decode bytes pc = .ok (.iconst n, 1)) : am_Sg own nL fr bytes ini sc pc ls st h (pc + 1) (.inl n :: st) :=
  fun p l e R s m args below meth c D cA A cx Qs α H locs cells slots lsA S => ⟨am_cons (by exact trivial) S.2.2.2.1, fun w => lv_iconst (v := Int32.ofInt n) cx.1 cx.2.1 hd rfl w⟩
theorem sg_load_i {i len : Nat} {x : Int} (e : am_gt ls i = .inl x) (hd : decode bytes pc = .ok (.iload i, 2) ∧ len = 2 ∨ ∃ k : Fin 4, k.val = i ∧ decode bytes pc = .ok (.iload_n k, 1) ∧ len = 1) : am_Sg own nL fr bytes ini sc pc ls st h (pc + len) (.inl x :: st) := by
  refine (fun p l e' R s m args below meth c D cA A cx Qs α H locs cells slots lsA S => ⟨am_cons (by exact trivial) S.2.2.2.1, fun w => ?_⟩)
  have hl := (S.2.2.1.2.2.2 i (by rw [e]; exact fun q => by cases q)).2
  rw [e] at hl
  rcases hd with ⟨hd, rfl⟩ | ⟨j, hj, hd, rfl⟩
  · exact lv_iload cx.1 cx.2.1 hd hl w
  · exact lv_iload_n cx.1 cx.2.1 hd hj hl w
theorem sg_load_a {i len a : Nat} (e : am_gt ls i = .inr (.inr (.inl a))) (hd : decode bytes pc = .ok (.aload i, 2) ∧ len = 2 ∨ ∃ k : Fin 4, k.val = i ∧ decode bytes pc = .ok (.aload_n k, 1) ∧ len = 1) : am_Sg own nL fr bytes ini sc pc ls st h (pc + len) (.inr (.inr (.inl a)) :: st) := by
  have hX : am_gt ls i ≠ am_X := by rw [e]; intro q; cases q
  refine (fun p l e' R s m args below meth c D cA A cx Qs α H locs cells slots lsA S => ⟨am_cons ?_ S.2.2.2.1, fun w => ?_⟩)
  · have := (S.2.2.1.2.2.2 i hX).1
    rw [e] at this
    exact this
  have hl := (S.2.2.1.2.2.2 i hX).2
  rw [e] at hl
  rcases hd with ⟨hd, rfl⟩ | ⟨j, hj, hd, rfl⟩
  · exact lv_aload cx.1 cx.2.1 hd hl w
  · exact lv_aload_n cx.1 cx.2.1 hd hj hl w
end SG
abbrev am_HH : Type := List (Nat × Nat × Nat × Nat)
/-- a caller of the law: it comes back with r -/
def am_WT (mid fr : Nat) (hh : am_HH) (as : List am_V) (h : am_H) (r : Int) (h' : am_H) : Prop := (h.2.1 ≤ h'.2.1 ∧ h.2.2 ≤ h'.2.2) ∧ match am_ml[mid]? with
  | none => False
  | some M => Cond.codeWith M.1 M.2.1 M.2.2.1 M.2.2.2.1 hh ∈ am_G ∧ ∀ (l : Launch) (D : va_G) (cA : Nat → ClassId) (α : Nat → Nat) (sz : Nat),
    vx_Met l M.1 (Cond.codeWith M.1 M.2.1 M.2.2.1 M.2.2.2.1 hh :: am_G) { frames := fr, cells := h'.2.1 - h.2.1 + (h'.2.2 - h.2.2) / 1000, slots := h'.2.2 - h.2.2, locals := 41 * fr } (am_Px D cA α h as sz l) (am_Qc D cA α h (some (.inl r)) h' sz) (fun _ _ _ => False) (h'.2.1 - h.2.1 + (h'.2.2 - h.2.2) / 1000) (h'.2.2 - h.2.2) (am_A α h sz)
/-- what holds at a method's entry -/
theorem am_entryS {nL : Nat} {as : List am_V} {α : Nat → Nat} {h : am_H} (hlen : (am_sl as).length ≤ nL) (hok : ∀ u ∈ as, am_ok h.2.1 u) : am_lok α h.2.1 (am_loc0 nL as) ((lg_sl (as.map (am_c α)) ++ List.replicate (nL - (lg_sl (as.map (am_c α))).length) Slot.unset).toArray) nL := by
  have hle := lv_entry (as.map (am_c α)) (n := nL) (by rw [am_sl_len]; exact hlen)
  refine ⟨?_, hle.1, hle.2.1, fun k hk => ?_⟩
  · unfold am_loc0
    rw [List.length_append, List.length_replicate]
    omega
  · obtain ⟨⟨v, hv, ev⟩, g⟩ := am_entry α (nL - (am_sl as).length) (nL - (lg_sl (as.map (am_c α))).length) as k hk
    refine ⟨?_, ?_⟩
    · show am_ok h.2.1 (am_gt (am_sl as ++ _) k)
      rw [ev]
      exact hok v hv
    · rw [List.getElem?_toArray]
      exact g
set_option maxHeartbeats 4000000 in
/-- .. where nothing is thrown -/
theorem am_WT_of {mid fr nL : Nat} {hh : am_HH} {y : MethodName} {bytes : ByteArray} {cp : Nat × Nat} {as : List am_V} {h : am_H} {P : Int → am_H → Prop}
    (hm : am_ml[mid]? = some (y, bytes, nL, some .int, 1, 13, false, cp)) (hcode : Cond.codeWith y bytes nL (some .int) hh ∈ am_G) (hpl : plainName y.cls = true) (hown : y.cls = am_R 13) (hlen : (am_sl as).length ≤ nL)
    (Z : am_Z 13 nL fr 1 bytes false none (fun r h' => ∃ x, r = some (.inl x) ∧ P x h') 0 (am_loc0 nL as) [] h) : ∃ x h', P x h' ∧ am_WT mid fr hh as h x h' := by
  obtain ⟨r, h', ⟨⟨x, rfl, hP⟩, hrok⟩, e1, e2, ld⟩ := Z
  refine ⟨x, h', hP, ⟨e1, e2⟩, ?_⟩
  rw [hm]
  refine ⟨hcode, fun l D cA α sz => ?_⟩
  refine vx_ofWH (cc := bytes) (maxL := nL) (ret := some .int) (hh := hh) hpl rfl ?_
  intro p e s m args below meth c s₁ B hml hv
  obtain ⟨⟨rfl, hsz, hR, hok, hK⟩, hlx⟩ := hv
  have hts := atoms_spec (ws := Cond.codeWith y bytes nL (some .int) hh :: am_G) B.pre
  have hf : s.vm.findClass y.cls = some m.cls := findClass_of_methodNamed B.named
  rw [hown] at hf
  subst hsz
  rw [lg_entry_eq]
  refine ld p l e _ s m _ below meth c D cA (am_A α h s.heap.size) ⟨B.exec, B.bytes, hml, hf, fun w hw => hts w (List.mem_cons_of_mem _ hw), fun hi => absurd hi Bool.false_ne_true, hK, rfl, rfl, fun q hq => Or.inr hq⟩ _ α s.heap [] 0 0 _ ⟨hR, va_S.rf, am_entryS hlen hok, fun _ h => (by cases h), trivial⟩ ?_ ?_ ?_
  · show 0 + (h'.2.1 - h.2.1 + (h'.2.2 - h.2.2) / 1000) ≤ h'.2.1 - h.2.1 + (h'.2.2 - h.2.2) / 1000
    omega
  · show 0 + (h'.2.2 - h.2.2) ≤ h'.2.2 - h.2.2
    omega
  · intro α' H' locs' pc' lsA' cells' slots' ex hR' hS' hrt hrv hc hs _
    have hr := B.returns
    refine vx_ret ?_
    refine W.widen (by have hc : cells' ≤ 0 + (h'.2.1 - h.2.1 + (h'.2.2 - h.2.2) / 1000) := hc; show cells' ≤ h'.2.1 - h.2.1 + (h'.2.2 - h.2.2) / 1000; omega) (by have hs : slots' ≤ 0 + (h'.2.2 - h.2.2) := hs; show slots' ≤ h'.2.2 - h.2.2; omega) ?_
    have hq : ∀ t : State, t.heap = H' → s.WarmedH t.vm → am_Qc D cA α h (some (.inl x)) h' s.heap.size (as.map (am_c α)).toArray s (.returned (some (am_c α' (.inl x)))) t := fun t ht hW => ⟨⟨α', ex, rfl, by rw [ht]; exact hR'⟩, hS'.F ht⟩
    exact W.iret B.exec B.bytes hr hq hS'.2.2 hrt B.notSynchronized
theorem am_lx.go {l : Launch} {A B : Nat → Prop} {s U : State} (h : am_lx l A s) (hvm : s.vm.Alike U.vm) (hq : ∀ a : Nat, a < s.heap.size → ¬ A a → U.heap[a]? = s.heap[a]?) (hAB : ∀ q, B q → A q) : am_lx l B U :=
  ⟨h.1, ⟨((vx_Zq.moved hvm h.2.1.1).kept hq).narrow hAB, ((vx_Zq.moved hvm h.2.1.2).kept hq).narrow hAB⟩, fun w hw => am_xw_al hw hvm (h.2.2.1 w hw), va_Nc.moved hvm h.2.2.2.1, va_Nc.moved hvm h.2.2.2.2.1, va_Nc.moved hvm h.2.2.2.2.2⟩
theorem am_Px.blind {D : va_G} {cA : Nat → ClassId} {α : Nat → Nat} {h : am_H} {as : List am_V} {sz : Nat} {l : Launch} : FrameBlind (am_Px D cA α h as sz l) :=
  fun a U g mk q => ⟨am_Pc.blind a U g mk q.1, q.2.go (U := U.calling g mk a) (Vm.Alike.refl U.vm) (fun _ _ _ => rfl) (fun _ h => h)⟩
/-- a row of a table that doesn't take E -/
def am_np (E : Nat) (nm : String) : Prop := (E = 1 ∧ nm = ax_N 0) ∨ (E = 2 ∧ nm = ax_N 0) ∨ (E = 2 ∧ nm = ax_N 1)
theorem am_np.nc {E : Nat} {nm : String} {l : Launch} {A : Nat → Prop} {s : State} (h : am_np E nm) (hl : am_lx l A s) : va_Nc (ax_N E) nm s := by
  rcases h with ⟨rfl, rfl⟩ | ⟨rfl, rfl⟩ | ⟨rfl, rfl⟩
  · exact hl.2.2.2.1
  · exact hl.2.2.2.2.1
  · exact hl.2.2.2.2.2
set_option maxHeartbeats 4000000 in
/-- .. where it is thrown, and caught -/
theorem am_WT_thr {wm fr nL idx mid n fr' a pcC j len E : Nat} {r : Int} {hh : am_HH} {y : MethodName} {bytes : ByteArray} {cp : Nat × Nat} {as as' rest : List am_V} {h hT : am_H} (pre : List ExceptionTableEntry) (x : ExceptionTableEntry) (suf : List ExceptionTableEntry)
    (hm : am_ml[wm]? = some (y, bytes, nL, some .int, 1, 13, false, cp)) (hcode : Cond.codeWith y bytes nL (some .int) hh ∈ am_G) (hpl : plainName y.cls = true) (hown : y.cls = am_R 13) (hlen : (am_sl as).length ≤ nL)
    (hsg : am_Sg 13 nL fr bytes false none 0 (am_loc0 nL as) [] h pcC (as'.reverse ++ .inr (.inr (.inl a)) :: rest)) (hd : decode bytes pcC = .ok (.invokevirtual idx, 3)) (hc : am_cl 13 idx = some (0, mid, n)) (hn : as'.length = n) (hr8 : (rest.map am_cat).sum ≤ 8) (hfr : fr' + 1 ≤ fr) (ho : am_oc h a = am_mc mid)
    (hx : am_XT mid fr' (.inr (.inr (.inl a)) :: as') h E hT)
    (hsplit : tableOf hh = pre ++ x :: suf) (hpass : ∀ z ∈ pre, z.catchType ≠ 0 ∧ ∃ nm : String, Cond.classLink (am_R 13) z.catchType nm ∈ am_G ∧ am_np E nm) (hcov : covers x pcC = true) (h0 : x.catchType ≠ 0) (hlink : Cond.classLink (am_R 13) x.catchType (ax_N E) ∈ am_G) (hcast : Cond.castable (ax_N E) (ax_N E) ∈ am_xw)
    (hj : j < nL) (d0 : decode bytes x.handlerPc = .ok (.astore j, 2) ∧ len = 2 ∨ ∃ k : Fin 4, k.val = j ∧ decode bytes x.handlerPc = .ok (.astore_n k, 1) ∧ len = 1) (d1 : decode bytes (x.handlerPc + len) = .ok (.iconst r, 1)) (d2 : decode bytes (x.handlerPc + len + 1) = .ok (.ireturn, 1)) :
    am_WT wm fr hh as h r (hT.1, hT.2.1, hT.2.2 + 1000) := by
  obtain ⟨⟨g1, g2⟩, hmx⟩ := hx
  obtain ⟨ps, hok9⟩ := am_cl_ok hc
  unfold am_cok at hok9
  unfold am_mc at ho
  dsimp only at hok9
  refine ⟨⟨g1, by show h.2.2 ≤ hT.2.2 + 1000; omega⟩, ?_⟩
  rw [hm]
  refine ⟨hcode, fun l D cA α sz => ?_⟩
  cases hM : am_ml[mid]? with
  | none => rw [hM] at hmx; exact hmx.elim
  | some M =>
    rw [hM] at hok9 hmx ho
    dsimp only at hok9 hmx ho
    obtain ⟨hcodeM, hmx⟩ := hmx
    rw [Bool.and_eq_true, Bool.and_eq_true, decide_eq_true_eq] at hok9
    obtain ⟨⟨hnok, -, hl22⟩, hok9⟩ := hok9
    split at hok9 <;> first | (exact absurd hok9 Bool.false_ne_true) | skip
    all_goals first | (rename_i hz; exact absurd hz (by decide)) | skip
    rename_i q1 q2 q3 q4 hps
    simp only [Bool.and_eq_true, decide_eq_true_eq] at hok9
    obtain ⟨⟨⟨⟨w1, w2⟩, w3⟩, w4⟩, ho12⟩ := hok9
    unfold am_nok at hnok
    rw [decide_eq_true_eq] at hnok
    refine vx_ofWH (cc := bytes) (maxL := nL) (ret := some .int) (hh := hh) hpl rfl ?_
    intro p e s m args below meth c s₁ B hml hv
    obtain ⟨⟨rfl, hsz, hR, hok, hK⟩, hlx⟩ := hv
    have hts0 := atoms_spec (ws := Cond.codeWith y bytes nL (some .int) hh :: am_G) B.pre
    have hts : ∀ w ∈ am_G, w.before (as.map (am_c α)).toArray s = true := fun w hw => hts0 w (List.mem_cons_of_mem _ hw)
    have hf : s.vm.findClass y.cls = some m.cls := findClass_of_methodNamed B.named
    rw [hown] at hf
    subst hsz
    rw [lg_entry_eq]
    have hlok := am_entryS (α := α) (h := h) hlen hok
    generalize (lg_sl (as.map (am_c α)) ++ List.replicate (nL - (lg_sl (as.map (am_c α))).length) Slot.unset).toArray = lsA0 at hlok ⊢
    have S : am_S D cA (am_A α h s.heap.size) none nL l s α h s.heap [] (am_loc0 nL as) lsA0 [] := ⟨hR, va_S.rf, hlok, fun _ h => (by cases h), trivial⟩
    have cx : am_Cx 13 nL fr bytes false p s m (as.map (am_c α)).toArray meth c { frames := fr, cells := hT.2.1 - h.2.1 + (hT.2.2 + 1000 - h.2.2) / 1000, slots := hT.2.2 + 1000 - h.2.2, locals := 41 * fr } D cA (am_A α h s.heap.size) := ⟨B.exec, B.bytes, hml, hf, hts, fun hi => absurd hi Bool.false_ne_true, hK, rfl, rfl, fun q hq => Or.inr hq⟩
    obtain ⟨o1, ww1⟩ := hsg p l e _ s m _ below meth c D cA (am_A α h s.heap.size) cx (vx_MQ below (am_Qc D cA α h (some (.inl r)) (hT.1, hT.2.1, hT.2.2 + 1000) s.heap.size) (fun _ _ _ => False) (as.map (am_c α)).toArray s (hT.2.1 - h.2.1 + (hT.2.2 + 1000 - h.2.2) / 1000) (hT.2.2 + 1000 - h.2.2) (am_A α h s.heap.size)) α s.heap [] 0 0 lsA0 S
    refine ww1 ?_
    have S1 : am_S D cA (am_A α h s.heap.size) none nL l s α h s.heap [] (am_loc0 nL as) lsA0 (as'.reverse ++ .inr (.inr (.inl a)) :: rest) := ⟨hR, va_S.rf, hlok, o1, trivial⟩
    have ha := o1 (.inr (.inr (.inl a))) (List.mem_append_right _ List.mem_cons_self)
    obtain ⟨C, TT, N, ty, hcls⟩ := am_clsAt (ci := M.2.2.2.2.2.1 + 3) (by omega) (by omega)
    obtain ⟨fs, hfs⟩ := am_oc_of (by omega) ho
    have he := am_ws_at cA α h ha.1 ha.2
    rw [hfs] at he
    have hcw : CallW { frames := fr, cells := hT.2.1 - h.2.1 + (hT.2.2 + 1000 - h.2.2) / 1000, slots := hT.2.2 + 1000 - h.2.2, locals := 41 * fr } s (as.map (am_c α)).toArray (am_R 13) M.1.cls idx M.1 M.2.1 M.2.2.1 M.2.2.2.1 (Cond.code M.1 M.2.1 M.2.2.1 M.2.2.2.1 :: am_G) { frames := fr', cells := hT.2.1 - h.2.1 + (hT.2.2 - h.2.2) / 1000 + 1, slots := hT.2.2 - h.2.2 + 6, locals := 41 * fr' } (hT.2.1 - h.2.1 + (hT.2.2 - h.2.2) / 1000 + 1) (hT.2.2 - h.2.2 + 6) n :=
      ⟨callB_of n hts (am_goodIn hcodeM) rfl rfl rfl (hts _ (am_has_in w4)) (hts _ (am_has_in w1)) ⟨hnok.1.1, hnok.1.2, hnok.2⟩ ⟨hfr, by show 8 + (M.2.2.1 + 11) + 41 * fr' ≤ 41 * fr; omega⟩, hts _ (am_has_in w2), hts _ (am_has_in w3)⟩
    have hrecv : ∃ cellB : Cell, s.heap[α a]? = some cellB ∧ cellB.vm.isStatics = false ∧ s.vm.findClass M.1.cls = some cellB.cls := by
      obtain ⟨cell, g1, g2, g3⟩ := va_recv hK.1 hR.1 (ci := M.2.2.2.2.2.1 + 3) (q0 := a - 1) hcls.1 he
      refine ⟨cell, g1, g2, ?_⟩
      rw [ho12.2]
      have : C = am_R M.2.2.2.2.2.1 := hcls.2.2.2.2.2
      rw [← this]
      exact g3
    have hpre := am_Pc_at (as := .inr (.inr (.inl a)) :: as') hK S1 (fun u hu => by
        rcases List.mem_cons.mp hu with rfl | hu
        · exact List.mem_append_right _ List.mem_cons_self
        · exact List.mem_append_left _ (List.mem_reverse.mpr hu))
    have hrun := vx_runV (As := as'.map (am_c α)) (rest := rest.map (am_c α)) (b := α a) (H := s.heap) (locs := []) (cells := 0) (slots := 0) (below := below) (meth := meth) (e := e) ⟨B.exec, B.bytes, hml, hf, hts⟩ (hmx l D cA α s.heap.size) hcw ⟨am_Px.blind, hrecv, fun U hU hW => ⟨hpre U hU hW, hlx.go hW.alike (fun _ _ _ => by rw [hU]) (fun _ h => h)⟩⟩ (g := F0 m pcC lsA0 ((as'.reverse ++ .inr (.inr (.inl a)) :: rest).map (am_c α))) rfl (by rw [List.length_map]; exact hn) hlok.2.1 (by show List.map _ _ = _; rw [am_map_rev]; rfl) (lv_room (am_sum8 hr8)) hd ⟨by show 0 + (hT.2.1 - h.2.1 + (hT.2.2 - h.2.2) / 1000 + 1) ≤ hT.2.1 - h.2.1 + (hT.2.2 + 1000 - h.2.2) / 1000; omega, by show 0 + (hT.2.2 - h.2.2 + 6) ≤ hT.2.2 + 1000 - h.2.2; omega⟩
    intro T hTT X
    rcases hrun T hTT X with ⟨v, st₀, t, T', L, h9, X', hL, e1, e2, hq, st⟩ | ⟨q, st₀, t, T', L, E9, ce, h9, X', hL, e1, e2, ⟨rfl, ⟨α', ex, hR'⟩, hF⟩, hce, hcv, hcl, st⟩
    · exact hq.elim
    obtain ⟨k1, k2, k3⟩ := vx_keep h9 e1 va_S.rf (fun q _ z => z) (fun q z => z) hL hF
    have htab := vx_table (x := y) B (hts0 _ List.mem_cons_self)
    rw [← e1] at hce hR'
    have hcatch : vx_W p l e { frames := fr, cells := hT.2.1 - h.2.1 + (hT.2.2 + 1000 - h.2.2) / 1000, slots := hT.2.2 + 1000 - h.2.2, locals := 41 * fr } s m (as.map (am_c α)).toArray below meth c T'.heap ([] ++ L) (0 + (hT.2.1 - h.2.1 + (hT.2.2 - h.2.2) / 1000 + 1)) (0 + (hT.2.2 - h.2.2 + 6)) (vx_MQ below (am_Qc D cA α h (some (.inl r)) (hT.1, hT.2.1, hT.2.2 + 1000) s.heap.size) (fun _ _ _ => False) (as.map (am_c α)).toArray s (hT.2.1 - h.2.1 + (hT.2.2 + 1000 - h.2.2) / 1000) (hT.2.2 + 1000 - h.2.2) (am_A α h s.heap.size)) (F0 m pcC lsA0 (rest.map (am_c α))) q := by
      refine vx_catch (own := am_R 13) (name := ax_N E) hf pre x suf (htab.trans hsplit) (fun z hz => Or.inr ⟨(hpass z hz).1, ?_⟩) hcov h0 (hts _ hlink) (am_xw_use hcast (hlx.2.2.1 _ hcast)) hce hcv hcl ?_
      · obtain ⟨nm, n1, n2⟩ := (hpass z hz).2
        exact ⟨nm, hts _ n1, n2.nc hlx⟩
      have hfin : ∀ ls' : Array Slot, W p l e { frames := fr, cells := hT.2.1 - h.2.1 + (hT.2.2 + 1000 - h.2.2) / 1000, slots := hT.2.2 + 1000 - h.2.2, locals := 41 * fr } s m (as.map (am_c α)).toArray below meth c T'.heap ([] ++ L) (0 + (hT.2.1 - h.2.1 + (hT.2.2 - h.2.2) / 1000 + 1)) (0 + (hT.2.2 - h.2.2 + 6)) (vx_MQ below (am_Qc D cA α h (some (.inl r)) (hT.1, hT.2.1, hT.2.2 + 1000) s.heap.size) (fun _ _ _ => False) (as.map (am_c α)).toArray s (hT.2.1 - h.2.1 + (hT.2.2 + 1000 - h.2.2) / 1000) (hT.2.2 + 1000 - h.2.2) (am_A α h s.heap.size)) (F0 m (x.handlerPc + len) ls' []) := by
        intro ls'
        refine lv_iconst (v := Int32.ofInt r) B.exec B.bytes d1 rfl ?_
        refine vx_ret ?_
        refine W.widen (by show _ ≤ hT.2.1 - h.2.1 + (hT.2.2 + 1000 - h.2.2) / 1000; omega) (by show _ ≤ hT.2.2 + 1000 - h.2.2; omega) ?_
        exact W.iret B.exec B.bytes B.returns (fun t ht hW => ⟨⟨α', ex, rfl, by rw [ht]; exact hR'⟩, k3.F ht⟩) k3.2.2 d2 B.notSynchronized
      rcases d0 with ⟨d0, rfl⟩ | ⟨k, hk, d0, rfl⟩
      · exact lv_astore B.exec B.bytes d0 hlok.has hj rfl fun ls' h' => hfin ls'
      · exact lv_astore_n B.exec B.bytes d0 hk hlok.has hj rfl fun ls' h' => hfin ls'
    obtain ⟨t2, a1, b1⟩ := hcatch T' rfl X'
    exact ⟨t2, st.trans a1, b1⟩
