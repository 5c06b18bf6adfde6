/-! ===== methods that throw ===== -/
def ax_N : Nat → String
  | 0 => "java/lang/IndexOutOfBoundsException"
  | 1 => "java/lang/IllegalArgumentException"
  | _ => "java/lang/IllegalStateException"
def ax_ns : List String := ["java/lang/RuntimeException", "java/lang/Exception"]
def ax_ik : Nat → Nat
  | 0 => 43
  | 1 => 46
  | _ => 49
def ax_ic : Nat → Nat
  | 0 => 45
  | 1 => 48
  | _ => 51
def ax_ws (E : Nat) : List Cond := Cond.classLink (am_R 11) (ax_ik E) (ax_N E) :: Cond.initialized (ax_N E) :: vx_at0 (am_R 11) (ax_ic E) (ax_N E) ax_ns
def ax_ok (w : Cond) : Bool := ((decide (w ∈ am_G) && goodWord w) || decide (w ∈ am_xw)) && vx_ot w
theorem ax_in0 : (ax_ws 0).all ax_ok = true := by decide +kernel
theorem ax_in1 : (ax_ws 1).all ax_ok = true := by decide +kernel
theorem ax_in2 : (ax_ws 2).all ax_ok = true := by decide +kernel
theorem ax_in {E : Nat} (hE : E < 3) : ∀ w ∈ ax_ws E, (w ∈ am_G ∨ w ∈ am_xw) ∧ vx_ot w = true := by
  intro w hw
  have h : ax_ok w = true := by
    have : E = 0 ∨ E = 1 ∨ E = 2 := by omega
    rcases this with rfl | rfl | rfl
    · exact List.all_eq_true.mp ax_in0 w hw
    · exact List.all_eq_true.mp ax_in1 w hw
    · exact List.all_eq_true.mp ax_in2 w hw
  unfold ax_ok at h
  simp only [Bool.and_eq_true, Bool.or_eq_true, decide_eq_true_eq] at h
  exact ⟨h.1.elim (fun q => Or.inl q.1) Or.inr, h.2⟩
theorem ax_fit {E : Nat} (hE : E < 3) : Bundle.fit (ax_N E) = true ∧ (∀ n ∈ ax_ns, Bundle.fit n = true) := by
  refine ⟨?_, by decide +kernel⟩
  have : E = 0 ∨ E = 1 ∨ E = 2 := by omega
  rcases this with rfl | rfl | rfl <;> decide +kernel
theorem am_xw_use {w : Cond} (h : w ∈ am_xw) {A : Array Value} {U : State} (hz : va_Nw w U) : w.before A U = true := by
  unfold am_xw at h
  simp only [List.mem_cons, List.not_mem_nil, or_false] at h
  rcases h with rfl | rfl | rfl | rfl | rfl | rfl <;> exact va_Nw.use rfl hz
theorem am_xw_al {w : Cond} (h : w ∈ am_xw) {s U : State} (hvm : s.vm.Alike U.vm) (hz : va_Nw w s) : va_Nw w U := by
  unfold am_xw at h
  simp only [List.mem_cons, List.not_mem_nil, or_false] at h
  rcases h with rfl | rfl | rfl | rfl | rfl | rfl <;> first
    | exact va_tabs rfl (rfl : (s.setVm U.vm).vm = U.vm) (by rw [Cond.castable_setVm hvm]; exact hz)
    | exact va_tabs rfl (rfl : (s.setVm U.vm).vm = U.vm) (by rw [Cond.declares_setVm hvm]; exact hz)
def am_Px (D : va_G) (cA : Nat → ClassId) (α : Nat → Nat) (h : am_H) (as : List am_V) (sz : Nat) (l : Launch) : Array Value → State → Prop := fun v U =>
  am_Pc D cA α h as sz v U ∧ am_lx l (am_A α h sz) U
def am_Xc (D : va_G) (cA : Nat → ClassId) (α : Nat → Nat) (h : am_H) (sz : Nat) (E : Nat) (h' : am_H) : String → State → State → Prop := fun X st t => X = ax_N E ∧ (∃ α' : Nat → Nat, (∀ i, i ≤ h.2.1 → α' i = α i) ∧ am_Rep D cA (am_A α h sz) α' h' t.heap) ∧ va_F (am_A α h sz) st t
/-- the method mid, called with these arguments in the heap h, throws E; behind it the heap is h' -/
def am_XT (mid fr : Nat) (as : List am_V) (h : am_H) (E : Nat) (h' : am_H) : Prop := (h.2.1 ≤ h'.2.1 ∧ h.2.2 ≤ h'.2.2) ∧ match am_ml[mid]? with
  | none => False
  | some M => Cond.code M.1 M.2.1 M.2.2.1 M.2.2.2.1 ∈ am_G ∧ ∀ (l : Launch) (D : va_G) (cA : Nat → ClassId) (α : Nat → Nat) (sz : Nat),
    vx_Met l M.1 (Cond.code M.1 M.2.1 M.2.2.1 M.2.2.2.1 :: am_G) { frames := fr, cells := h'.2.1 - h.2.1 + (h'.2.2 - h.2.2) / 1000 + 1, slots := h'.2.2 - h.2.2 + 6, locals := 41 * fr } (am_Px D cA α h as sz l) (fun _ _ _ _ => False) (am_Xc D cA α h sz E h') (h'.2.1 - h.2.1 + (h'.2.2 - h.2.2) / 1000 + 1) (h'.2.2 - h.2.2 + 6) (am_A α h sz)
theorem am_Rep.up {D : va_G} {cA : Nat → ClassId} {A : Nat → Prop} {α : Nat → Nat} {h : am_H} {H H1 : Heap} (R : am_Rep D cA A α h H) (hq : ∀ q : Nat, q < H.size → H1[q]? = H[q]?) : am_Rep D cA A α h H1 :=
  ⟨R.1.kept fun k q hk => hq q.1 (vx_lt R.1 hk), R.2⟩
theorem am_thr {own nL fr rk : Nat} {bytes : ByteArray} {ini : Bool} {sc : am_Sc} {Q : Option am_V → am_H → Prop} {pc : Nat} {ls : List am_V} {h : am_H} (e : rk = 1000 + pc) (hQ : Q none h) : am_Z own nL fr rk bytes ini sc Q pc ls [] h := by
  refine ⟨none, h, ⟨hQ, fun _ q => by cases q⟩, Nat.le_refl _, Nat.le_refl _, fun p l e' R s m args below meth c D cA A cx Qs α H locs cells slots lsA S hc hs RC => RC α H locs pc lsA cells slots (fun _ _ => rfl) S.1 S.2.1 ?_ (fun _ q => by cases q) (by omega) (by omega) S.2.2.1.2.1⟩
  obtain ⟨k, rfl⟩ : ∃ k, rk = k + 5 := ⟨rk - 5, by omega⟩
  exact e
set_option maxHeartbeats 4000000 in
theorem am_XT_of {mid fr nL E pcT : Nat} {y : MethodName} {bytes : ByteArray} {ret : Option FieldType} {cp : Nat × Nat} {k0 : Nat} {as : List am_V} {h : am_H} {P : am_H → Prop}
    (hE : E < 3) (hm : am_ml[mid]? = some (y, bytes, nL, ret, k0, 11, false, cp)) (hcode : Cond.code y bytes nL ret ∈ am_G) (hpl : plainName y.cls = true) (hown : y.cls = am_R 11) (hlen : (am_sl as).length ≤ nL) (hfr : 6 ≤ fr)
    (d0 : decode bytes pcT = .ok (.new (ax_ik E), 3)) (d3 : decode bytes (pcT + 3) = .ok (.dup, 1)) (d4 : decode bytes (pcT + 4) = .ok (.invokespecial (ax_ic E), 3)) (d7 : decode bytes (pcT + 7) = .ok (.athrow, 1))
    (Z : am_Z 11 nL fr (1000 + pcT) bytes false none (fun r h' => r = none ∧ P h') 0 (am_loc0 nL as) [] h) : ∃ h', P h' ∧ am_XT mid fr as h E h' := by
  obtain ⟨r, h', ⟨⟨rfl, hP⟩, hrok⟩, e1, e2, ld⟩ := Z
  refine ⟨h', hP, ⟨e1, e2⟩, ?_⟩
  rw [hm]
  refine ⟨hcode, fun l D cA α sz => ?_⟩
  refine vx_ofW (cc := bytes) (maxL := nL) (ret := ret) hpl rfl ?_
  intro p e s m args below meth c s₁ B hml htab hv
  obtain ⟨⟨rfl, hsz, hR, hok, hK⟩, hl, ⟨hU, hN⟩, hxw, -⟩ := hv
  have hts := atoms_spec (ws := Cond.code y bytes nL ret :: am_G) B.pre
  have hf : s.vm.findClass y.cls = some m.cls := findClass_of_methodNamed B.named
  rw [hown] at hf
  subst hsz
  rw [lg_entry_eq]
  have hle := lv_entry (as.map (am_c α)) (n := nL) (by rw [am_sl_len]; exact hlen)
  have hlok : am_lok α h.2.1 (am_loc0 nL as) ((lg_sl (as.map (am_c α)) ++ List.replicate (nL - (lg_sl (as.map (am_c α))).length) Slot.unset).toArray) nL := by
    refine ⟨?_, hle.1, hle.2.1, fun k hk => ?_⟩
    · unfold am_loc0
      rw [List.length_append, List.length_replicate]
      omega
    · obtain ⟨⟨v, hv, ev⟩, g⟩ := am_entry α (nL - (am_sl as).length) (nL - (lg_sl (as.map (am_c α))).length) as k hk
      refine ⟨?_, ?_⟩
      · show am_ok h.2.1 (am_gt (am_sl as ++ _) k)
        rw [ev]
        exact hok v hv
      · rw [List.getElem?_toArray]
        exact g
  have hw := ax_in hE
  have hff := ax_fit hE
  have hat : ∀ w ∈ ax_ws E, w.before (as.map (am_c α)).toArray s = true := fun w h => (hw w h).1.elim (fun q => hts w (List.mem_cons_of_mem _ q)) (fun q => am_xw_use q (hxw w q))
  refine ld p l e _ s m _ below meth c D cA (am_A α h s.heap.size) ⟨B.exec, B.bytes, hml, hf, fun w hw => hts w (List.mem_cons_of_mem _ hw), fun hi => absurd hi Bool.false_ne_true, hK, rfl, rfl, fun q hq => Or.inr hq⟩ _ α s.heap [] 0 0 _ ⟨hR, va_S.rf, hlok, fun _ h => (by cases h), trivial⟩ ?_ ?_ ?_
  · show 0 + (h'.2.1 - h.2.1 + (h'.2.2 - h.2.2) / 1000) ≤ h'.2.1 - h.2.1 + (h'.2.2 - h.2.2) / 1000 + 1
    omega
  · show 0 + (h'.2.2 - h.2.2) ≤ h'.2.2 - h.2.2 + 6
    omega
  · intro α' H' locs' pc' lsA' cells' slots' ex hR' hS' hrt hrv hc hs hsize
    have hc : cells' ≤ 0 + (h'.2.1 - h.2.1 + (h'.2.2 - h.2.2) / 1000) := hc
    have hs : slots' ≤ 0 + (h'.2.2 - h.2.2) := hs
    have hpc : pc' = pcT := by
      obtain ⟨k, hk⟩ : ∃ k, 1000 + pcT = k + 5 := ⟨995 + pcT, by omega⟩
      rw [hk] at hrt
      have hrt : k + 5 = 1000 + pc' := hrt
      omega
    subst hpc
    refine vx_throw0 (rest := []) (own := am_R 11) (cls := ax_N E) (names := ax_ns) (ik := ax_ik E) (ic := ax_ic E) (mc := h'.2.1 - h.2.1 + (h'.2.2 - h.2.2) / 1000 + 1) (ms := h'.2.2 - h.2.2 + 6) (A := am_A α h s.heap.size) B.exec B.bytes hl hf hff.1 hff.2 (hat _ List.mem_cons_self) (hat _ (List.mem_cons_of_mem _ List.mem_cons_self)) (fun w hw => hat w (List.mem_cons_of_mem _ (List.mem_cons_of_mem _ hw))) (fun w h => (hw w h).2) hU hN hS' (hsize.trans hml.symm) d0 d3 d4 d7 (fun x hx => (htab x hx).elim) ?_ ?_ (by show cells' + 1 ≤ h'.2.1 - h.2.1 + (h'.2.2 - h.2.2) / 1000 + 1; omega) (by show slots' + 6 ≤ h'.2.2 - h.2.2 + 6; omega) B.notSynchronized ?_ hS'.2.2 (by omega) (by omega)
    · show 2 + 3 < fr
      omega
    · show 0 + (13 * (2 + 1) + 42) ≤ 41 * fr
      omega
    · intro t ht hz hq
      refine ⟨rfl, ⟨α', ex, hR'.up hq⟩, ⟨Nat.le_trans hS'.1 hz, fun q q1 q2 => ?_⟩⟩
      rw [hq q (Nat.lt_of_lt_of_le q1 hS'.1)]
      exact hS'.2.1 q q1 q2
/-! in the world -/
def ww_XT (mid fr : Nat) (as : List am_V) (w : W_) (E : Nat) : Prop := ∀ h, w_R w h → ∃ h', w_R w h' ∧ am_XT mid fr as h E h'
theorem ww_thr {own nL fr rk : Nat} {bytes : ByteArray} {sc : am_Sc} {Q : Option am_V → W_ → Prop} {pc : Nat} {ls : List am_V} {w : W_} (e : rk = 1000 + pc) (hQ : Q none w) : ww_Z own nL fr rk bytes sc Q pc ls [] w := fun h hR => am_thr e ⟨w, hQ, hR⟩
theorem ww_XT_of {mid fr nL E pcT : Nat} {y : MethodName} {bytes : ByteArray} {ret : Option FieldType} {cp : Nat × Nat} {k0 : Nat} {as : List am_V} {w : W_}
    (hE : E < 3) (hm : am_ml[mid]? = some (y, bytes, nL, ret, k0, 11, false, cp)) (hcode : Cond.code y bytes nL ret ∈ am_G) (hpl : plainName y.cls = true) (hown : y.cls = am_R 11) (hlen : (am_sl as).length ≤ nL) (hfr : 6 ≤ fr)
    (d0 : decode bytes pcT = .ok (.new (ax_ik E), 3)) (d3 : decode bytes (pcT + 3) = .ok (.dup, 1)) (d4 : decode bytes (pcT + 4) = .ok (.invokespecial (ax_ic E), 3)) (d7 : decode bytes (pcT + 7) = .ok (.athrow, 1))
    (Z : ww_Z 11 nL fr (1000 + pcT) bytes none (fun r w' => r = none ∧ w' = w) 0 (am_loc0 nL as) [] w) : ww_XT mid fr as w E := fun h hR => by
  obtain ⟨r, h', ⟨⟨w', ⟨hr, hw⟩, hR'⟩, hrok⟩, e1, e2, ld⟩ := Z h hR
  exact am_XT_of (P := fun h' => w_R w h') hE hm hcode hpl hown hlen hfr d0 d3 d4 d7 ⟨r, h', ⟨⟨hr, hw ▸ hR'⟩, hrok⟩, e1, e2, ld⟩
