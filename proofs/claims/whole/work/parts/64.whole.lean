/-! ===== the whole, out of what holds of each call ===== -/
theorem am_step {own nL fr rk : Nat} {bytes : ByteArray} {ini : Bool} {sc : am_Sc} {Q : Option am_V → am_H → Prop} {pc len : Nat} {i : Instr} {ls st : List am_V} {h : am_H} (hd : decode bytes pc = .ok (i, len)) (w0 : am_stp own nL fr rk ini sc Q (am_Z own nL fr rk bytes ini sc Q) (am_Z own nL fr rk bytes ini sc Q) pc i len ls st h) : am_Z own nL fr rk bytes ini sc Q pc ls st h :=
  am_stp_ok hd (fun _ _ _ _ h => h) (fun _ _ _ _ h => h) w0
theorem h_e_n : h_e.2.1 = 126 := by
  have h := h_f_n.1
  have e : h_f.2.1 = h_e.2.1 + 1 := rfl
  omega
theorem w_capsum : w_sum w_cap = 3463388 := by decide +kernel
theorem w_sum_le {L : Nat → Nat} (h : ∀ a, a ∈ w_keys → L a ≤ w_cap a) : w_sum L ≤ 3463388 := by
  rw [← w_capsum]
  unfold w_sum
  have gen : ∀ l : List Nat, (∀ a, a ∈ l → L a ≤ w_cap a) → (l.map L).sum ≤ (l.map w_cap).sum := by
    intro l
    induction l with
    | nil => intro _; exact Nat.le_refl _
    | cons a l ih =>
      intro h
      rw [List.map_cons, List.map_cons, List.sum_cons, List.sum_cons]
      have h1 := h a List.mem_cons_self
      have h2 := ih fun b hb => h b (List.mem_cons_of_mem _ hb)
      omega
  exact gen w_keys h
/-- the room that a world takes -/
theorem w_R.room {w : W_} {h : am_H} (R : w_R w h) (h0 : w.1 0 0 ≤ 512) : h.2.1 ≤ 216590 ∧ h.2.2 ≤ 7658776 := by
  obtain ⟨P, L, h1, h2, h3, h4, h5, h6, h7⟩ := R
  have hs := w_sum_le (L := L) fun a ha => (h4 a ha).2.2.2.2.2.2
  have : w_s0 = 220000 := rfl
  omega
theorem law_Z {I : lw_I} (H : lw_H I) (h0 : I 0 w_0) (hx : ∀ k w, k ≤ 512 → I k w → w.1 0 0 ≤ 512) {q : Nat × (Nat → Int)} (hL : q.1 ≤ 2560) (hf : ∀ j, am_rg (q.2 j)) : am_Z 13 7 2048 2 cL_law false (some q) (fun r h' => r = some (.inl 1) ∧ h'.2.1 ≤ 216590 ∧ h'.2.2 ≤ 7658776) 0 [.inr (.inr (.inr true)), am_X, am_X, am_X, am_X, am_X, am_X] [] h_a := by
  refine am_step dL_law_0 ⟨rfl, ?_⟩
  show am_Z 13 7 2048 2 cL_law false (some q) _ 3 _ [.inr (.inr (.inl 1))] h_b
  refine am_step dL_law_3 ⟨rfl, rfl, ?_⟩
  obtain ⟨r1, h1, ⟨q1, q2, -⟩, c1⟩ := h_c_ct 20 rfl
  rw [q1, q2] at c1
  refine am_callI (as := []) (rest := [.inr (.inr (.inl 1))]) dL_law_4 cl_13_43 rfl rfl (by decide) (by decide) c1 ?_
  refine am_step dL_law_7 ⟨rfl, by decide, ?_⟩
  refine am_step dL_law_8 ⟨rfl, ?_⟩
  have e73 : h_c.2.1 + 1 = 73 := by rw [h_c_n]
  show am_Z 13 7 2048 2 cL_law false (some q) _ 11 _ [.inr (.inr (.inl (h_c.2.1 + 1)))] h_d
  rw [e73]
  refine am_step dL_law_11 ⟨rfl, rfl, ?_⟩
  obtain ⟨r2, h2, ⟨q3, q4, -⟩, c2⟩ := h_e_ct 20 rfl
  rw [q3, q4] at c2
  refine am_callI (as := []) (rest := [.inr (.inr (.inl 73))]) dL_law_12 cl_13_46 rfl rfl (by decide) (by decide) c2 ?_
  refine am_step dL_law_15 ⟨rfl, by decide, ?_⟩
  refine am_step dL_law_16 ⟨rfl, ?_⟩
  refine am_step dL_law_17 ⟨rfl, by decide, by decide, ?_⟩
  have e127 : h_e.2.1 + 1 = 127 := by rw [h_e_n]
  show am_Z 13 7 2048 2 cL_law false (some q) _ 19 _ [.inr (.inr (.inl (h_e.2.1 + 1)))] h_f
  rw [e127]
  refine am_step dL_law_19 ⟨rfl, by decide, ?_⟩
  refine am_step dL_law_20 ⟨rfl, ?_⟩
  refine am_step dL_law_21 ⟨rfl, by decide, ?_⟩
  obtain ⟨r, h', ⟨⟨w', ⟨rfl, k, hk, hI⟩, hR⟩, hrok⟩, e1, e2, ld⟩ := law_loop H hL hf h0 h_f w_R0
  exact ⟨_, h', ⟨⟨rfl, hR.room (hx k w' hk hI)⟩, hrok⟩, e1, e2, ld⟩
theorem lw_retR {p : Program} {l : Launch} {e : Env} {R : Room} {s : State} {m : MethodId} {below : List Frame} {meth : Method} {c : Code} {b : Nat} (hx : p.tables.exec = Jvm.exec) (hb : c.code = code) (hr : meth.sig.returnType = ret) (hlocks : meth.locks = false) {pc : Nat} {H : Heap} {ls : Array Slot} (hdg : decode code pc = .ok (.ireturn, 1)) : W p l e R s m #[Value.ref b] below meth c H [] 381386 7951946 (lw_Z below #[Value.ref b] s) (F0 m pc ls [.int 1]) := by
  intro T hT X
  obtain ⟨fs, hret, hrun, hended, hW, hframe⟩ := X.leave (v := some (.int 1)) (hlocks := hlocks) (fun h => by rw [hr] at h; cases h)
  have hmeth' : T.vm.method? m = some meth := X.method'
  refine ⟨T.setFrames fs, ?_, .returned (some (.int 1)), hrun, hended, rfl, ⟨_, rfl⟩, hW, hframe⟩
  jvm_step X.here [X.here.top, hx, hb, hdg, hmeth', hr, ret, narrow_b1]
  (try refine ⟨rfl, ?_⟩); (try refine ⟨rfl, ?_⟩)
  first | (intro acts; rw [hret _ acts rfl rfl rfl]) | rw [hret _ _ rfl rfl rfl]
  exact Steps.refl _
set_option maxHeartbeats 4000000 in
theorem whole_of {I : lw_I} (H : lw_H I) (h0 : I 0 w_0) (hx0 : ∀ k w, k ≤ 512 → I k w → w.1 0 0 ≤ 512) {p : Program} {e : Env} {s : State} {m : MethodId} {below : List Frame} {meth : Method} {c : Code} (l : Launch) (hflags : l.flags = flags0) {b L : Nat} {xs : Nat → Int32} (hL : L ≤ 2560) (C0 : lw_At p s m meth c b L xs) : W p l e room_1 s m #[Value.ref b] below meth c s.heap [] 0 0 (lw_Z below #[Value.ref b] s) (entryFrame m ([Value.ref b] : List Value).toArray 7) := by
  obtain ⟨hx, hb, hr, hml, hown, hts, hX, hbl, hlocks, hgv⟩ := id C0
  obtain ⟨D, cA, hK⟩ := st_K hts
  obtain ⟨r, h', ⟨⟨rfl, hc', hs'⟩, hrok⟩, e1, e2, ld⟩ := law_Z H h0 hx0 (q := (L, fun j => (xs j).toInt)) hL (fun j => ⟨Int32.le_toInt _, Int32.toInt_lt _⟩)
  refine W_rm (R' := { frames := 2048, locals := 41 * 2048, cells := 381386, slots := 7951946 }) (Nat.le_refl _) (by decide) (Nat.le_refl _) (Nat.le_refl _) ?_
  have hok : ∀ u ∈ [(.inr (.inr (.inr true)) : am_V)], am_ok h_a.2.1 u := fun u hu => by rw [List.mem_singleton.mp hu]; trivial
  have hlok := am_entryS (nL := 7) (as := [.inr (.inr (.inr true))]) (α := fun _ => b) (h := h_a) (by decide) hok
  have hg : entryFrame m ([Value.ref b] : List Value).toArray 7 = F0 m 0 ((lg_sl (([.inr (.inr (.inr true))] : List am_V).map (am_c fun _ => b)) ++ List.replicate (7 - (lg_sl (([.inr (.inr (.inr true))] : List am_V).map (am_c fun _ => b))).length) Slot.unset).toArray) [] := by
    rw [lg_entry_eq]
    rfl
  rw [hg]
  refine ld p l e _ s m #[Value.ref b] below meth c D cA (fun q => s.heap.size ≤ q) ⟨hx, hb, hml, hown, fun w hw => hts w (am_Gt hw), fun hi => absurd hi Bool.false_ne_true, hK, rfl, rfl, fun q hq => hq⟩ _ (fun _ => b) s.heap [] 0 0 _ ⟨⟨fun k q hk => ?_, ⟨fun i j p q hi => ?_, fun k q hk => ?_⟩, fun a h1 h2 => ?_⟩, va_S.rf, hlok, fun _ h => (by cases h), ⟨?_, hbl, Nat.not_le.mpr hbl⟩, st_lx hflags hts hgv⟩ ?_ ?_ ?_
  · simp [am_ws, h_a] at hk
  · simp [am_ws, h_a] at hi
  · simp [am_ws, h_a] at hk
  · have : h_a.2.1 = 0 := rfl
    omega
  · have : (fun j => Int32.ofInt ((xs j).toInt)) = xs := by
      funext j
      exact Int32.ofInt_toInt _
    show va_X b L (fun j => Int32.ofInt ((xs j).toInt)) s s.heap
    rw [this]
    exact hX
  · show 0 + (h'.2.1 - h_a.2.1 + (h'.2.2 - h_a.2.2) / 1000) ≤ 381386
    omega
  · show 0 + (h'.2.2 - h_a.2.2) ≤ 7951946
    omega
  · intro α' H' locs' pc' lsA' cells' slots' ex hR' hS' hrt hrv hc hs _
    refine va_forget (fun q hq => hS'.2.2 q hq) ?_
    refine W.widen (k := 381386) (n := 7951946) (by have hc : cells' ≤ 0 + (h'.2.1 - h_a.2.1 + (h'.2.2 - h_a.2.2) / 1000) := hc; omega) (by have hs : slots' ≤ 0 + (h'.2.2 - h_a.2.2) := hs; omega) ?_
    exact lw_retR hx hb hr hlocks hrt.1
