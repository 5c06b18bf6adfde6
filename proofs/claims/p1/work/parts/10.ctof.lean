/-! ===== a contract out of a walk of the method's body ===== -/
def am_sl (as : List am_V) : List am_V := as.flatMap fun v => if am_two v = true then [v, am_X] else [v]
/-- the locals at a method's entry -/
def am_loc0 (nL : Nat) (as : List am_V) : List am_V := am_sl as ++ List.replicate (nL - (am_sl as).length) am_X
theorem am_gt_rep : ∀ (n k : Nat), am_gt (List.replicate n am_X) k = am_X := by
  intro n
  induction n with
  | zero => intro k; rfl
  | succ n ih =>
    intro k
    rw [List.replicate_succ]
    cases k with
    | zero => rfl
    | succ k => exact ih k
theorem am_sl_cons (v : am_V) (as : List am_V) : am_sl (v :: as) = (if am_two v = true then [v, am_X] else [v]) ++ am_sl as := rfl
theorem lg_sl_cons (v : Value) (vs : List Value) : lg_sl (v :: vs) = (if v.category = 2 then [.val v, .second] else [.val v]) ++ lg_sl vs := rfl
theorem am_two_cat' (α : Nat → Nat) (v : am_V) : (am_c α v).category = 2 ↔ am_two v = true := by
  rw [← am_two_cat α v, beq_iff_eq]
theorem am_entry (α : Nat → Nat) (n m : Nat) : ∀ (as : List am_V) (k : Nat), am_gt (am_sl as ++ List.replicate n am_X) k ≠ am_X → (∃ v ∈ as, am_gt (am_sl as ++ List.replicate n am_X) k = v) ∧ (lg_sl (as.map (am_c α)) ++ List.replicate m Slot.unset)[k]? = some (.val (am_c α (am_gt (am_sl as ++ List.replicate n am_X) k))) := by
  intro as
  induction as with
  | nil => intro k h; exact absurd (am_gt_rep n k) h
  | cons v as ih =>
    intro k h
    rw [am_sl_cons] at h ⊢
    rw [List.map_cons, lg_sl_cons]
    by_cases c : am_two v = true
    · rw [if_pos c] at h ⊢
      rw [if_pos ((am_two_cat' α v).mpr c)]
      match k, h with
      | 0, h => exact ⟨⟨v, List.mem_cons_self, rfl⟩, rfl⟩
      | 1, h => exact absurd rfl h
      | k + 2, h =>
        obtain ⟨⟨u, hu, e⟩, g⟩ := ih k h
        exact ⟨⟨u, List.mem_cons_of_mem _ hu, e⟩, g⟩
    · rw [if_neg c] at h ⊢
      rw [if_neg (fun q => c ((am_two_cat' α v).mp q))]
      match k, h with
      | 0, h => exact ⟨⟨v, List.mem_cons_self, rfl⟩, rfl⟩
      | k + 1, h =>
        obtain ⟨⟨u, hu, e⟩, g⟩ := ih k h
        exact ⟨⟨u, List.mem_cons_of_mem _ hu, e⟩, g⟩
theorem am_sl_len (α : Nat → Nat) : ∀ as : List am_V, (lg_sl (as.map (am_c α))).length = (am_sl as).length := by
  intro as
  induction as with
  | nil => rfl
  | cons v as ih =>
    rw [List.map_cons, lg_sl_cons, am_sl_cons, List.length_append, List.length_append, ih]
    by_cases c : am_two v = true
    · rw [if_pos c, if_pos ((am_two_cat' α v).mpr c)]; rfl
    · rw [if_neg c, if_neg (fun q => c ((am_two_cat' α v).mp q))]; rfl
/-- there is an answer and a heap behind it with Q -/
def am_Ct (mid fr : Nat) (as : List am_V) (h : am_H) (Q : Option am_V → am_H → Prop) : Prop := ∃ r h', Q r h' ∧ am_CT mid fr as h r h'
def am_rko (rk : Nat) (ret : Option FieldType) : Bool := match rk, ret with
  | 0, none => true
  | 1, some .int => true
  | 2, some .boolean => true
  | 3, some .long => true
  | 4, some (.array .int) => true
  | _, _ => false
set_option maxHeartbeats 4000000 in
theorem am_CT_of {mid fr nL rk own : Nat} {y : MethodName} {bytes : ByteArray} {ret : Option FieldType} {ini : Bool} {cp : Nat × Nat} {as : List am_V} {h : am_H} {Q : Option am_V → am_H → Prop}
    (hm : am_ml[mid]? = some (y, bytes, nL, ret, rk, own, ini, cp)) (hcode : Cond.code y bytes nL ret ∈ am_G) (hpl : plainName y.cls = true) (hrk : am_rko rk ret = true) (hown : y.cls = am_R own) (hini : ini = true → y.name = "<init>") (hlen : (am_sl as).length ≤ nL)
    (Z : am_Z own nL fr rk bytes ini none Q 0 (am_loc0 nL as) [] h) : am_Ct mid fr as h Q := by
  obtain ⟨r, h', ⟨hQ, hrok⟩, e1, e2, ld⟩ := Z
  refine ⟨r, h', hQ, e1, e2, hrok, ?_⟩
  rw [hm]
  refine ⟨hcode, fun l D cA α sz => ?_⟩
  refine Met.ofW (cc := bytes) (maxL := nL) (ret := ret) hpl rfl ?_
  intro p e s m args below meth c s₁ B hml hv
  obtain ⟨rfl, hsz, hR, hok, hK⟩ := hv
  have hts := atoms_spec (ws := Cond.code y bytes nL ret :: am_G) B.pre
  have hf : s.vm.findClass y.cls = some m.cls := findClass_of_methodNamed B.named
  rw [hown] at hf
  have hname : meth.name = y.name := (name_of_methodNamed B.named B.method).1
  subst hsz
  rw [lg_entry_eq]
  have hl := lv_entry (as.map (am_c α)) (n := nL) (by rw [am_sl_len]; exact hlen)
  have hlok : am_lok α h.2.1 (am_loc0 nL as) ((lg_sl (as.map (am_c α)) ++ List.replicate (nL - (lg_sl (as.map (am_c α))).length) Slot.unset).toArray) nL := by
    refine ⟨?_, hl.1, hl.2.1, fun k hk => ?_⟩
    · unfold am_loc0
      rw [List.length_append, List.length_replicate]
      omega
    · obtain ⟨⟨v, hv, ev⟩, g⟩ := am_entry α (nL - (am_sl as).length) (nL - (lg_sl (as.map (am_c α))).length) as k hk
      refine ⟨?_, ?_⟩
      · show am_ok h.2.1 (am_gt (am_sl as ++ _) k)
        rw [ev]
        exact hok v hv
      · rw [List.getElem?_toArray]
        exact g
  refine ld p l e _ s m _ below meth c D cA (am_A α h s.heap.size) ⟨B.exec, B.bytes, hml, hf, fun w hw => hts w (List.mem_cons_of_mem _ hw), fun hi => by rw [hname]; exact hini hi, hK, rfl, rfl, fun q hq => Or.inr hq⟩ _ α s.heap [] 0 0 _ ⟨hR, va_S.rf, hlok, fun _ h => (by cases h), trivial⟩ ?_ ?_ ?_
  · show 0 + (h'.2.1 - h.2.1 + (h'.2.2 - h.2.2) / 1000) ≤ h'.2.1 - h.2.1 + (h'.2.2 - h.2.2) / 1000
    omega
  · show 0 + (h'.2.2 - h.2.2) ≤ h'.2.2 - h.2.2
    omega
  · intro α' H' locs' pc' lsA' cells' slots' ex hR' hS' hrt hrv hc hs _
    have hr := B.returns
    refine W.widen (by have hc : cells' ≤ 0 + (h'.2.1 - h.2.1 + (h'.2.2 - h.2.2) / 1000) := hc; show cells' ≤ h'.2.1 - h.2.1 + (h'.2.2 - h.2.2) / 1000; omega) (by have hs : slots' ≤ 0 + (h'.2.2 - h.2.2) := hs; show slots' ≤ h'.2.2 - h.2.2; omega) ?_
    have hq : ∀ (v : Option am_V), v = r → ∀ t : State, t.heap = H' → s.WarmedH t.vm → am_Qc D cA α h r h' s.heap.size (as.map (am_c α)).toArray s (.returned (v.map (am_c α'))) t := by
      rintro _ rfl t ht hW
      exact ⟨⟨α', ex, rfl, by rw [ht]; exact hR'⟩, hS'.F ht⟩
    unfold am_rt at hrt
    unfold am_rko at hrk
    split at hrk <;> first | (exact absurd hrk Bool.false_ne_true) | skip
    · rcases r with _ | r
      · exact W.vret B.exec B.bytes hr (hq none rfl) hS'.2.2 hrt B.notSynchronized
      · exact absurd hrt id
    · rcases r with _ | x | x | a | b <;> first | exact absurd hrt id | skip
      exact W.iret B.exec B.bytes hr (hq _ rfl) hS'.2.2 hrt B.notSynchronized
    · rcases r with _ | x | x | a | b <;> first | exact absurd hrt id | skip
      refine W.zret B.exec B.bytes hr ?_ (hq _ rfl) hS'.2.2 hrt.1 B.notSynchronized
      rcases hrt.2 with rfl | rfl <;> rfl
    · rcases r with _ | x | x | a | b <;> first | exact absurd hrt id | skip
      exact W.lret B.exec B.bytes hr (hq _ rfl) hS'.2.2 hrt B.notSynchronized
    · rcases r with _ | x | x | a | b <;> first | exact absurd hrt id | skip
      exact W.aret B.exec B.bytes hr (Or.inr ⟨_, rfl⟩) (Or.inr ⟨_, rfl⟩) (hq _ rfl) hS'.2.2 hrt B.notSynchronized
