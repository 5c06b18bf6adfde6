/-! ===== contracts and calls ===== -/
def am_Pc (D : va_G) (cA : Nat → ClassId) (α : Nat → Nat) (h : am_H) (as : List am_V) (sz : Nat) : Array Value → State → Prop := fun v U =>
  v = (as.map (am_c α)).toArray ∧ U.heap.size = sz ∧ am_Rep D cA (am_A α h sz) α h U.heap ∧ (∀ u ∈ as, am_ok h.2.1 u) ∧ am_K D cA U
def am_Qc (D : va_G) (cA : Nat → ClassId) (α : Nat → Nat) (h : am_H) (r : Option am_V) (h' : am_H) (sz : Nat) : Array Value → State → Outcome → State → Prop := fun _ st oc t =>
  (∃ α' : Nat → Nat, (∀ i, i ≤ h.2.1 → α' i = α i) ∧ oc = .returned (r.map (am_c α')) ∧ am_Rep D cA (am_A α h sz) α' h' t.heap) ∧ va_F (am_A α h sz) st t
/-- the method mid, called with these arguments in the heap h, comes to its end with the answer r in the heap h', with fr frames below it -/
def am_CT (mid fr : Nat) (as : List am_V) (h : am_H) (r : Option am_V) (h' : am_H) : Prop :=
  h.2.1 ≤ h'.2.1 ∧ h.2.2 ≤ h'.2.2 ∧ (∀ v, r = some v → am_ok h'.2.1 v) ∧ match am_ml[mid]? with
  | none => False
  | some M => Cond.code M.1 M.2.1 M.2.2.1 M.2.2.2.1 ∈ am_G ∧ ∀ (l : Launch) (D : va_G) (cA : Nat → ClassId) (α : Nat → Nat) (sz : Nat),
    Met l M.1 (Cond.code M.1 M.2.1 M.2.2.1 M.2.2.2.1 :: am_G) { frames := fr, cells := h'.2.1 - h.2.1 + (h'.2.2 - h.2.2) / 1000, slots := h'.2.2 - h.2.2, locals := 41 * fr } (am_Pc D cA α h as sz) (am_Qc D cA α h r h' sz) (h'.2.1 - h.2.1 + (h'.2.2 - h.2.2) / 1000) (h'.2.2 - h.2.2) (am_A α h sz)
theorem am_Pc.blind {D : va_G} {cA : Nat → ClassId} {α : Nat → Nat} {h : am_H} {as : List am_V} {sz : Nat} : FrameBlind (am_Pc D cA α h as sz) :=
  fun a U g mk q => ⟨q.1, q.2.1, q.2.2.1, q.2.2.2.1, am_K.same (s := U) (U := U.calling g mk a) rfl q.2.2.2.2⟩
theorem am_G_good : ∀ w ∈ am_G, (w.onTables && w.keeps) = true ∨ ∃ ty, w = .arrayClass ty := fun _ h => good_of_word (List.mem_filter.mp h).2
theorem am_goodIn {w : Cond} (h : w ∈ am_G) : GoodIn am_G (w :: am_G) := fun u hu => by
  rcases List.mem_cons.mp hu with rfl | hu
  · exact ⟨h, am_G_good _ h⟩
  · exact ⟨hu, am_G_good _ hu⟩
section LD5
variable {own nL fr rk : Nat} {bytes : ByteArray} {ini : Bool} {sc : am_Sc} {Q : Option am_V → am_H → Prop} {pc : Nat} {ls st : List am_V} {h : am_H}
theorem am_run {p : Program} {l : Launch} {e : Env} {R : Room} {s : State} {m : MethodId} {args : Array Value} {below : List Frame} {meth : Method} {c : Code} {H : Heap} {locs : List Loc} {cells slots mc ms : Nat} {Qs : State → Prop} {lsA : Array Slot} {rest st0 : List Value} {Qa : State → Outcome → State → Prop} {free : Addr → Prop}
    (hr : va_Run p l e R s m args below meth c H locs cells slots mc ms (F0 m pc lsA st0) rest Qa free)
    (kk : ∀ (v : Option Value) (st₀ t : State) (H1 : Heap) (L : List Loc), st₀.heap = H → t.heap = H1 → Qa st₀ (.returned v) t → (∀ q ∈ L, free q.base) → W p l e R s m args below meth c H1 (locs ++ L) (cells + mc) (slots + ms) Qs (F0 m (pc + 3) lsA (v.toList ++ rest))) : W p l e R s m args below meth c H locs cells slots Qs (F0 m pc lsA st0) := by
  intro T hT X
  obtain ⟨v, st₀, t, T', L, h0, X', hL, e1, e2, hQ, st⟩ := hr T hT X
  obtain ⟨t2, a1, b1⟩ := kk v st₀ t T'.heap L h0 e1.symm hQ hL T' rfl X'
  exact ⟨t2, st t2 a1, b1⟩
theorem am_A_sub {D : va_G} {cA : Nat → ClassId} {A : Nat → Prop} {α : Nat → Nat} {H H0 : Heap} (hR : am_Rep D cA A α h H) (hA : ∀ q, H0.size ≤ q → A q) (hz : H0.size ≤ H.size) : ∀ q, am_A α h H.size q → A q := by
  rintro q (⟨i, h1, h2, rfl⟩ | hq)
  · exact hR.2.1.2 _ _ (am_ws_at cA α h h1 h2)
  · exact hA q (Nat.le_trans hz hq)
theorem am_Rep.self {D : va_G} {cA : Nat → ClassId} {A : Nat → Prop} {α : Nat → Nat} {H : Heap} {sz : Nat} (hR : am_Rep D cA A α h H) : am_Rep D cA (am_A α h sz) α h H := by
  refine ⟨hR.1, hR.2.1.weaken (fun k q hk _ => ?_), hR.2.2⟩
  have hl : k < h.2.1 := by
    have := (List.getElem?_eq_some_iff.mp hk).1
    rw [am_ws_len] at this
    exact this
  have := am_ws_at cA α h (a := k + 1) (by omega) (by omega)
  rw [Nat.add_sub_cancel] at this
  rw [this] at hk
  cases hk
  exact Or.inl ⟨k + 1, by omega, by omega, rfl⟩
theorem am_map_rev (f : am_V → Value) (as rest : List am_V) : (as.reverse ++ rest).map f = (as.map f).reverse ++ rest.map f := by
  rw [List.map_append, List.map_reverse]
/-- behind a call of whatever kind -/
theorem am_callG {mid fr' : Nat} {as rest : List am_V} {r1 : Option am_V} {h1 : am_H} (hst : ∀ v ∈ rest, v ∈ st) (hct : am_CT mid fr' as h r1 h1)
    (hr : ∀ (p : Program) (l : Launch) (e : Env) (R : Room) (s : State) (m : MethodId) (args : Array Value) (below : List Frame) (meth : Method) (c : Code) (D : va_G) (cA : Nat → ClassId) (A : Nat → Prop),
      am_Cx own nL fr bytes ini p s m args meth c R D cA A → ∀ (α : Nat → Nat) (H : Heap) (locs : List Loc) (cells slots : Nat) (lsA : Array Slot),
      am_S D cA A sc nL l s α h H locs ls lsA st → cells + (h1.2.1 - h.2.1 + (h1.2.2 - h.2.2) / 1000) ≤ R.cells → slots + (h1.2.2 - h.2.2) ≤ R.slots →
      va_Run p l e R s m args below meth c H locs cells slots (h1.2.1 - h.2.1 + (h1.2.2 - h.2.2) / 1000) (h1.2.2 - h.2.2) (F0 m pc lsA (st.map (am_c α))) (rest.map (am_c α)) (am_Qc D cA α h r1 h1 H.size (as.map (am_c α)).toArray) (am_A α h H.size))
    (k : am_Z own nL fr rk bytes ini sc Q (pc + 3) ls (r1.toList ++ rest) h1) : am_Z own nL fr rk bytes ini sc Q pc ls st h := by
  obtain ⟨r, h', hQ, e1, e2, k⟩ := k
  obtain ⟨g1, g2, g3, -⟩ := hct
  refine ⟨r, h', hQ, by omega, by omega, fun p l e R s m args below meth c D cA A cx Qs α H locs cells slots lsA S hc hs RC => ?_⟩
  have hsub := am_A_sub S.1 cx.2.2.2.2.2.2.2.2.2 S.2.1.1
  refine am_run (hr p l e R s m args below meth c D cA A cx α H locs cells slots lsA S (by omega) (by omega)) (fun v st₀ t H1 L hs0 ht hq hL => ?_)
  obtain ⟨⟨α', ex, hv, hR⟩, hz, hk⟩ := hq
  rw [hs0] at hz hk
  rw [ht] at hR hz hk
  have hvr : v = r1.map (am_c α') := by injection hv
  have hrest : rest.map (am_c α) = rest.map (am_c α') := List.map_congr_left fun u hu => (am_c_ext ex (S.2.2.2.1 u (hst u hu))).symm
  have hstk : v.toList ++ rest.map (am_c α) = (r1.toList ++ rest).map (am_c α') := by
    rw [hvr, hrest, List.map_append]
    cases r1 <;> rfl
  rw [hstk]
  refine k p l e R s m args below meth c D cA A cx Qs α' H1 (locs ++ L) _ _ lsA ⟨⟨hR.1, hR.2.1.weaken (fun _ _ _ => hsub _), hR.2.2⟩, ⟨Nat.le_trans S.2.1.1 hz, fun q q1 q2 => ?_, fun q hq => ?_⟩, S.2.2.1.ext g1 ex, ?_, ?_⟩ (by omega) (by omega) (fun α'' H' locs' pc' lsA' cells' slots' ea t1 t2 t3 t4 q1 q2 => RC α'' H' locs' pc' lsA' cells' slots' (fun i hi => (ea i (Nat.le_trans hi g1)).trans (ex i hi)) t1 t2 t3 t4 (by omega) (by omega))
  · rw [hk q (Nat.lt_of_lt_of_le q1 S.2.1.1) (fun z => q2 (hsub q z))]
    exact S.2.1.2.1 q q1 q2
  · rcases List.mem_append.mp hq with hq | hq
    · exact S.2.1.2.2 q hq
    · exact hsub _ (hL q hq)
  · intro u hu
    rcases List.mem_append.mp hu with hu | hu
    · exact g3 u (Option.mem_toList.mp hu)
    · exact (S.2.2.2.1 u (hst u hu)).mono g1
  · have h4 := S.2.2.2.2
    unfold am_sok at h4 ⊢
    split
    · trivial
    · rw [ex 0 (Nat.zero_le _)]
      exact h4
theorem am_sum8 {α : Nat → Nat} {rest : List am_V} (hr : (rest.map am_cat).sum ≤ 8) : ((rest.map (am_c α)).map fun v => v.category).sum ≤ 8 := by
  have hmr : ((rest.map (am_c α)).map fun v => v.category).sum = (rest.map am_cat).sum := by
    rw [List.map_map]
    congr 1
    exact List.map_congr_left fun v _ => am_c_cat α v
  rw [hmr]
  exact hr
theorem am_Pc_at {l : Launch} {D : va_G} {cA : Nat → ClassId} {A : Nat → Prop} {nL : Nat} {s : State} {α : Nat → Nat} {H : Heap} {locs : List Loc} {lsA : Array Slot} {as : List am_V} (hK : am_K D cA s) (S : am_S D cA A sc nL l s α h H locs ls lsA st) (ha : ∀ u ∈ as, u ∈ st) :
    ∀ U : State, U.heap = H → s.WarmedH U.vm → am_Pc D cA α h as H.size (as.map (am_c α)).toArray U := fun U hU hW =>
  ⟨rfl, by rw [hU], by rw [hU]; exact S.1.self, fun u hu => S.2.2.2.1 u (ha u hu), hK.warm hW⟩
theorem am_callV {idx mid n fr' a : Nat} {as rest : List am_V} {r1 : Option am_V} {h1 : am_H} (hd : decode bytes pc = .ok (.invokevirtual idx, 3)) (hc : am_cl own idx = some (0, mid, n)) (hst : st = as.reverse ++ .inr (.inr (.inl a)) :: rest) (hn : as.length = n) (hr8 : (rest.map am_cat).sum ≤ 8) (hfr : fr' + 1 ≤ fr) (ho : am_oc h a = am_mc mid)
    (hct : am_CT mid fr' (.inr (.inr (.inl a)) :: as) h r1 h1) (k : am_Z own nL fr rk bytes ini sc Q (pc + 3) ls (r1.toList ++ rest) h1) : am_Z own nL fr rk bytes ini sc Q pc ls st h := by
  subst hst
  refine am_callG (mid := mid) (fr' := fr') (as := .inr (.inr (.inl a)) :: as) (rest := rest) (fun v hv => List.mem_append_right _ (List.mem_cons_of_mem _ hv)) hct (fun p l e R s m args below meth c D cA A cx α H locs cells slots lsA S hcl hsl => ?_) k
  obtain ⟨ps, hok⟩ := am_cl_ok hc
  obtain ⟨-, -, -, hm⟩ := hct
  unfold am_cok at hok
  unfold am_mc at ho
  dsimp only at hok
  cases hM : am_ml[mid]? with
  | none => rw [hM] at hm; exact hm.elim
  | some M =>
    rw [hM] at hok hm ho
    dsimp only at hok hm ho
    obtain ⟨hcode, hm⟩ := hm
    rw [Bool.and_eq_true, Bool.and_eq_true, decide_eq_true_eq] at hok
    obtain ⟨⟨hnok, -, hl22⟩, hok⟩ := hok
    split at hok <;> first | (exact absurd hok Bool.false_ne_true) | skip
    all_goals first | (rename_i hz; exact absurd hz (by decide)) | skip
    rename_i q1 q2 q3 q4 hps
    simp only [Bool.and_eq_true, decide_eq_true_eq] at hok
    obtain ⟨⟨⟨⟨w1, w2⟩, w3⟩, w4⟩, ho12⟩ := hok
    unfold am_nok at hnok
    rw [decide_eq_true_eq] at hnok
    have ha := S.2.2.2.1 (.inr (.inr (.inl a))) (List.mem_append_right _ List.mem_cons_self)
    obtain ⟨C, T, N, ty, hcls⟩ := am_clsAt (ci := M.2.2.2.2.2.1 + 3) (by omega) (by omega)
    obtain ⟨fs, hfs⟩ := am_oc_of (by omega) ho
    have he := am_ws_at cA α h ha.1 ha.2
    rw [hfs] at he
    have hts := cx.2.2.2.2.1
    have hcw : CallW R s args (am_R own) M.1.cls idx M.1 M.2.1 M.2.2.1 M.2.2.2.1 (Cond.code M.1 M.2.1 M.2.2.1 M.2.2.2.1 :: am_G) { frames := fr', cells := h1.2.1 - h.2.1 + (h1.2.2 - h.2.2) / 1000, slots := h1.2.2 - h.2.2, locals := 41 * fr' } (h1.2.1 - h.2.1 + (h1.2.2 - h.2.2) / 1000) (h1.2.2 - h.2.2) n :=
      ⟨callB_of n hts (am_goodIn hcode) rfl rfl rfl (hts _ (am_has_in w4)) (hts _ (am_has_in w1)) ⟨hnok.1.1, hnok.1.2, hnok.2⟩ (by rw [cx.2.2.2.2.2.2.2.1, cx.2.2.2.2.2.2.2.2.1]; exact ⟨hfr, by show 8 + (M.2.2.1 + 11) + 41 * fr' ≤ 41 * fr; omega⟩), hts _ (am_has_in w2), hts _ (am_has_in w3)⟩
    have hrecv : ∃ cellB : Cell, H[α a]? = some cellB ∧ cellB.vm.isStatics = false ∧ s.vm.findClass M.1.cls = some cellB.cls := by
      obtain ⟨cell, g1, g2, g3⟩ := va_recv cx.2.2.2.2.2.2.1.1 S.1.1 (ci := M.2.2.2.2.2.1 + 3) (q0 := a - 1) hcls.1 he
      refine ⟨cell, g1, g2, ?_⟩
      rw [ho12.2]
      have : C = am_R M.2.2.2.2.2.1 := hcls.2.2.2.2.2
      rw [← this]
      exact g3
    exact va_runV (As := as.map (am_c α)) (rest := rest.map (am_c α)) (b := α a) ⟨cx.1, cx.2.1, cx.2.2.1, cx.2.2.2.1, hts⟩ (hm l D cA α H.size) hcw ⟨am_Pc.blind, hrecv, am_Pc_at cx.2.2.2.2.2.2.1 S (fun u hu => by
        rcases List.mem_cons.mp hu with rfl | hu
        · exact List.mem_append_right _ List.mem_cons_self
        · exact List.mem_append_left _ (List.mem_reverse.mpr hu))⟩ rfl (by rw [List.length_map]; exact hn) S.2.2.1.2.1 (by show List.map _ _ = _; rw [am_map_rev]; rfl) (lv_room (am_sum8 hr8)) hd ⟨hcl, hsl⟩
theorem am_callS {idx mid n fr' : Nat} {as rest : List am_V} {r1 : Option am_V} {h1 : am_H} (hd : decode bytes pc = .ok (.invokestatic idx, 3)) (hc : am_cl own idx = some (1, mid, n)) (hst : st = as.reverse ++ rest) (hn : as.length = n) (hr8 : (rest.map am_cat).sum ≤ 8) (hfr : fr' + 1 ≤ fr)
    (hct : am_CT mid fr' (as) h r1 h1) (k : am_Z own nL fr rk bytes ini sc Q (pc + 3) ls (r1.toList ++ rest) h1) : am_Z own nL fr rk bytes ini sc Q pc ls st h := by
  subst hst
  refine am_callG (mid := mid) (fr' := fr') (as := as) (rest := rest) (fun v hv => List.mem_append_right _ hv) hct (fun p l e R s m args below meth c D cA A cx α H locs cells slots lsA S hcl hsl => ?_) k
  obtain ⟨ps, hok⟩ := am_cl_ok hc
  obtain ⟨-, -, -, hm⟩ := hct
  unfold am_cok at hok
  dsimp only at hok
  cases hM : am_ml[mid]? with
  | none => rw [hM] at hm; exact hm.elim
  | some M =>
    rw [hM] at hok hm
    dsimp only at hok hm
    obtain ⟨hcode, hm⟩ := hm
    rw [Bool.and_eq_true, Bool.and_eq_true, decide_eq_true_eq] at hok
    obtain ⟨⟨hnok, -, hl22⟩, hok⟩ := hok
    split at hok <;> first | (exact absurd hok Bool.false_ne_true) | skip
    all_goals first | (rename_i hz; exact absurd hz (by decide)) | skip
    rename_i q1 q2 q3 hps
    simp only [Bool.and_eq_true, decide_eq_true_eq] at hok
    obtain ⟨⟨w1, w2⟩, w3⟩ := hok
    unfold am_nok at hnok
    rw [decide_eq_true_eq] at hnok
    have hts := cx.2.2.2.2.1
    have hroom : fr' + 1 ≤ R.frames ∧ 8 + (M.2.2.1 + 11) + 41 * fr' ≤ R.locals := by
      rw [cx.2.2.2.2.2.2.2.1, cx.2.2.2.2.2.2.2.2.1]
      exact ⟨hfr, by omega⟩
    have hpre := am_Pc_at (as := as) cx.2.2.2.2.2.2.1 S (fun u hu => List.mem_append_left _ (List.mem_reverse.mpr hu))
    have hcw : CallB R s args (am_R own) idx M.1 M.2.1 M.2.2.1 M.2.2.2.1 (Cond.code M.1 M.2.1 M.2.2.1 M.2.2.2.1 :: am_G) { frames := fr', cells := h1.2.1 - h.2.1 + (h1.2.2 - h.2.2) / 1000, slots := h1.2.2 - h.2.2, locals := 41 * fr' } (h1.2.1 - h.2.1 + (h1.2.2 - h.2.2) / 1000) (h1.2.2 - h.2.2) n :=
      callB_of n hts (am_goodIn hcode) rfl rfl rfl (hts _ (am_has_in w3)) (hts _ (am_has_in w1)) ⟨hnok.1.1, hnok.1.2, hnok.2⟩ hroom
    exact va_runS (As := as.map (am_c α)) (rest := rest.map (am_c α)) ⟨cx.1, cx.2.1, cx.2.2.1, cx.2.2.2.1, hts⟩ (hm l D cA α H.size) ⟨hcw, hts _ (am_has_in w2)⟩ ⟨am_Pc.blind, hpre⟩ rfl (by rw [List.length_map]; exact hn) S.2.2.1.2.1 (by show List.map _ _ = _; rw [am_map_rev]) (lv_room (am_sum8 hr8)) hd ⟨hcl, hsl⟩
theorem am_callSN {idx mid n fr' : Nat} {as rest : List am_V} {r1 : Option am_V} {h1 : am_H} (hd : decode bytes pc = .ok (.invokestatic idx, 3)) (hc : am_cl own idx = some (3, mid, n)) (hst : st = as.reverse ++ rest) (hn : as.length = n) (hr8 : (rest.map am_cat).sum ≤ 8) (hfr : fr' + 1 ≤ fr)
    (hct : am_CT mid fr' (as) h r1 h1) (k : am_Z own nL fr rk bytes ini sc Q (pc + 3) ls (r1.toList ++ rest) h1) : am_Z own nL fr rk bytes ini sc Q pc ls st h := by
  subst hst
  refine am_callG (mid := mid) (fr' := fr') (as := as) (rest := rest) (fun v hv => List.mem_append_right _ hv) hct (fun p l e R s m args below meth c D cA A cx α H locs cells slots lsA S hcl hsl => ?_) k
  obtain ⟨ps, hok⟩ := am_cl_ok hc
  obtain ⟨-, -, -, hm⟩ := hct
  unfold am_cok at hok
  dsimp only at hok
  cases hM : am_ml[mid]? with
  | none => rw [hM] at hm; exact hm.elim
  | some M =>
    rw [hM] at hok hm
    dsimp only at hok hm
    obtain ⟨hcode, hm⟩ := hm
    rw [Bool.and_eq_true, Bool.and_eq_true, decide_eq_true_eq] at hok
    obtain ⟨⟨hnok, -, hl22⟩, hok⟩ := hok
    split at hok <;> first | (exact absurd hok Bool.false_ne_true) | skip
    all_goals first | (rename_i hz; exact absurd hz (by decide)) | skip
    rename_i q1 q2 q3 hps
    simp only [Bool.and_eq_true, decide_eq_true_eq] at hok
    obtain ⟨⟨w1, w2⟩, w3⟩ := hok
    unfold am_nok at hnok
    rw [decide_eq_true_eq] at hnok
    have hts := cx.2.2.2.2.1
    have hroom : fr' + 1 ≤ R.frames ∧ 8 + (M.2.2.1 + 11) + 41 * fr' ≤ R.locals := by
      rw [cx.2.2.2.2.2.2.2.1, cx.2.2.2.2.2.2.2.2.1]
      exact ⟨hfr, by omega⟩
    have hpre := am_Pc_at (as := as) cx.2.2.2.2.2.2.1 S (fun u hu => List.mem_append_left _ (List.mem_reverse.mpr hu))
    have hnw : va_Nw (.methodLinkNest (am_R own) idx M.1 RX11) s := cx.2.2.2.2.2.2.1.2 _ (List.mem_filterMap.mpr ⟨_, w1.1, w1.2⟩)
    have hcw : va_CN R s args (am_R own) idx M.1 RX11 M.2.1 M.2.2.1 M.2.2.2.1 (Cond.code M.1 M.2.1 M.2.2.1 M.2.2.2.1 :: am_G) { frames := fr', cells := h1.2.1 - h.2.1 + (h1.2.2 - h.2.2) / 1000, slots := h1.2.2 - h.2.2, locals := 41 * fr' } (h1.2.1 - h.2.1 + (h1.2.2 - h.2.2) / 1000) (h1.2.2 - h.2.2) n :=
      va_cnB n hts (am_goodIn hcode) rfl rfl rfl hnw (hts _ (am_has_in w3)) ⟨hnok.1.1, hnok.1.2, hnok.2⟩ hroom
    exact va_runSN (As := as.map (am_c α)) (rest := rest.map (am_c α)) ⟨cx.1, cx.2.1, cx.2.2.1, cx.2.2.2.1, hts⟩ (hm l D cA α H.size) ⟨hcw, hts _ (am_has_in w2), trivial⟩ ⟨am_Pc.blind, hpre⟩ rfl (by rw [List.length_map]; exact hn) S.2.2.1.2.1 (by show List.map _ _ = _; rw [am_map_rev]) (lv_room (am_sum8 hr8)) hd ⟨hcl, hsl⟩
theorem am_callI {idx mid n fr' a : Nat} {as rest : List am_V} {r1 : Option am_V} {h1 : am_H} (hd : decode bytes pc = .ok (.invokespecial idx, 3)) (hc : am_cl own idx = some (2, mid, n)) (hst : st = as.reverse ++ .inr (.inr (.inl a)) :: rest) (hn : as.length = n) (hr8 : (rest.map am_cat).sum ≤ 8) (hfr : fr' + 1 ≤ fr)
    (hct : am_CT mid fr' (.inr (.inr (.inl a)) :: as) h r1 h1) (k : am_Z own nL fr rk bytes ini sc Q (pc + 3) ls (r1.toList ++ rest) h1) : am_Z own nL fr rk bytes ini sc Q pc ls st h := by
  subst hst
  refine am_callG (mid := mid) (fr' := fr') (as := .inr (.inr (.inl a)) :: as) (rest := rest) (fun v hv => List.mem_append_right _ (List.mem_cons_of_mem _ hv)) hct (fun p l e R s m args below meth c D cA A cx α H locs cells slots lsA S hcl hsl => ?_) k
  obtain ⟨ps, hok⟩ := am_cl_ok hc
  obtain ⟨-, -, -, hm⟩ := hct
  unfold am_cok at hok
  dsimp only at hok
  cases hM : am_ml[mid]? with
  | none => rw [hM] at hm; exact hm.elim
  | some M =>
    rw [hM] at hok hm
    dsimp only at hok hm
    obtain ⟨hcode, hm⟩ := hm
    rw [Bool.and_eq_true, Bool.and_eq_true, decide_eq_true_eq] at hok
    obtain ⟨⟨hnok, -, hl22⟩, hok⟩ := hok
    split at hok <;> first | (exact absurd hok Bool.false_ne_true) | skip
    all_goals first | (rename_i hz; exact absurd hz (by decide)) | skip
    rename_i q1 q2 q3 hps
    simp only [Bool.and_eq_true, decide_eq_true_eq] at hok
    obtain ⟨⟨⟨w1, w2⟩, w3⟩, w4⟩ := hok
    unfold am_nok at hnok
    rw [decide_eq_true_eq] at hnok
    have hts := cx.2.2.2.2.1
    have hroom : fr' + 1 ≤ R.frames ∧ 8 + (M.2.2.1 + 11) + 41 * fr' ≤ R.locals := by
      rw [cx.2.2.2.2.2.2.2.1, cx.2.2.2.2.2.2.2.2.1]
      exact ⟨hfr, by omega⟩
    have hpre := am_Pc_at (as := .inr (.inr (.inl a)) :: as) cx.2.2.2.2.2.2.1 S (fun u hu => by
        rcases List.mem_cons.mp hu with rfl | hu
        · exact List.mem_append_right _ List.mem_cons_self
        · exact List.mem_append_left _ (List.mem_reverse.mpr hu))
    obtain ⟨y, by0, ml0, rt0, rest0⟩ := M
    dsimp only at w1 w2 w3 w4 hcode hm hnok hroom
    obtain ⟨w4, w5⟩ := w4
    subst w5
    have hcw : CallB R s args (am_R own) idx y by0 ml0 none (Cond.code y by0 ml0 none :: am_G) { frames := fr', cells := h1.2.1 - h.2.1 + (h1.2.2 - h.2.2) / 1000, slots := h1.2.2 - h.2.2, locals := 41 * fr' } (h1.2.1 - h.2.1 + (h1.2.2 - h.2.2) / 1000) (h1.2.2 - h.2.2) n :=
      callB_of n hts (am_goodIn hcode) rfl rfl rfl (hts _ (am_has_in w3)) (hts _ (am_has_in w1)) ⟨hnok.1.1, hnok.1.2, hnok.2⟩ hroom
    exact va_runI (As := as.map (am_c α)) (rest := rest.map (am_c α)) ⟨cx.1, cx.2.1, cx.2.2.1, cx.2.2.2.1, hts⟩ (hm l D cA α H.size) ⟨hcw, w4, hts _ (am_has_in w2)⟩ ⟨am_Pc.blind, hpre⟩ rfl (by rw [List.length_map]; exact hn) S.2.2.1.2.1 (by show List.map _ _ = _; rw [am_map_rev]; rfl) (lv_room (am_sum8 hr8)) hd ⟨hcl, hsl⟩
theorem am_callIN {idx mid n fr' a : Nat} {as rest : List am_V} {r1 : Option am_V} {h1 : am_H} (hd : decode bytes pc = .ok (.invokespecial idx, 3)) (hc : am_cl own idx = some (4, mid, n)) (hst : st = as.reverse ++ .inr (.inr (.inl a)) :: rest) (hn : as.length = n) (hr8 : (rest.map am_cat).sum ≤ 8) (hfr : fr' + 1 ≤ fr)
    (hct : am_CT mid fr' (.inr (.inr (.inl a)) :: as) h r1 h1) (k : am_Z own nL fr rk bytes ini sc Q (pc + 3) ls (r1.toList ++ rest) h1) : am_Z own nL fr rk bytes ini sc Q pc ls st h := by
  subst hst
  refine am_callG (mid := mid) (fr' := fr') (as := .inr (.inr (.inl a)) :: as) (rest := rest) (fun v hv => List.mem_append_right _ (List.mem_cons_of_mem _ hv)) hct (fun p l e R s m args below meth c D cA A cx α H locs cells slots lsA S hcl hsl => ?_) k
  obtain ⟨ps, hok⟩ := am_cl_ok hc
  obtain ⟨-, -, -, hm⟩ := hct
  unfold am_cok at hok
  dsimp only at hok
  cases hM : am_ml[mid]? with
  | none => rw [hM] at hm; exact hm.elim
  | some M =>
    rw [hM] at hok hm
    dsimp only at hok hm
    obtain ⟨hcode, hm⟩ := hm
    rw [Bool.and_eq_true, Bool.and_eq_true, decide_eq_true_eq] at hok
    obtain ⟨⟨hnok, -, hl22⟩, hok⟩ := hok
    split at hok <;> first | (exact absurd hok Bool.false_ne_true) | skip
    all_goals first | (rename_i hz; exact absurd hz (by decide)) | skip
    rename_i q1 q2 q3 hps
    simp only [Bool.and_eq_true, decide_eq_true_eq] at hok
    obtain ⟨⟨⟨w1, w2⟩, w3⟩, w4⟩ := hok
    unfold am_nok at hnok
    rw [decide_eq_true_eq] at hnok
    have hts := cx.2.2.2.2.1
    have hroom : fr' + 1 ≤ R.frames ∧ 8 + (M.2.2.1 + 11) + 41 * fr' ≤ R.locals := by
      rw [cx.2.2.2.2.2.2.2.1, cx.2.2.2.2.2.2.2.2.1]
      exact ⟨hfr, by omega⟩
    have hpre := am_Pc_at (as := .inr (.inr (.inl a)) :: as) cx.2.2.2.2.2.2.1 S (fun u hu => by
        rcases List.mem_cons.mp hu with rfl | hu
        · exact List.mem_append_right _ List.mem_cons_self
        · exact List.mem_append_left _ (List.mem_reverse.mpr hu))
    obtain ⟨y, by0, ml0, rt0, rest0⟩ := M
    dsimp only at w1 w2 w3 w4 hcode hm hnok hroom
    obtain ⟨w4, w5⟩ := w4
    subst w5
    have hnw : va_Nw (.methodLinkNest (am_R own) idx y RX11) s := cx.2.2.2.2.2.2.1.2 _ (List.mem_filterMap.mpr ⟨_, w1.1, w1.2⟩)
    have hcw : va_CN R s args (am_R own) idx y RX11 by0 ml0 none (Cond.code y by0 ml0 none :: am_G) { frames := fr', cells := h1.2.1 - h.2.1 + (h1.2.2 - h.2.2) / 1000, slots := h1.2.2 - h.2.2, locals := 41 * fr' } (h1.2.1 - h.2.1 + (h1.2.2 - h.2.2) / 1000) (h1.2.2 - h.2.2) n :=
      va_cnB n hts (am_goodIn hcode) rfl rfl rfl hnw (hts _ (am_has_in w3)) ⟨hnok.1.1, hnok.1.2, hnok.2⟩ hroom
    exact va_runIN (As := as.map (am_c α)) (rest := rest.map (am_c α)) ⟨cx.1, cx.2.1, cx.2.2.1, cx.2.2.2.1, hts⟩ (hm l D cA α H.size) ⟨hcw, w4, hts _ (am_has_in w2)⟩ ⟨am_Pc.blind, hpre⟩ rfl (by rw [List.length_map]; exact hn) S.2.2.1.2.1 (by show List.map _ _ = _; rw [am_map_rev]; rfl) (lv_room (am_sum8 hr8)) hd ⟨hcl, hsl⟩
end LD5
