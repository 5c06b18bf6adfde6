/-! ===== the law calls its callers ===== -/
/-- a caller, and where it is called -/
def am_WL (idx mid n : Nat) (hh : am_HH) : Prop := ∃ M, am_ml[mid]? = some M ∧ Cond.methodLink (am_R 13) idx M.1 ∈ am_G ∧ Cond.static M.1 ∈ am_G ∧ Cond.initialized M.1.cls ∈ am_G ∧ (M.1.cls ≠ "java/lang/invoke/MethodHandle" ∧ M.1.cls ≠ "java/lang/invoke/VarHandle" ∧ (parseMethodDescriptor M.1.desc).map (fun d => d.parameters.length) = some n) ∧ M.2.2.1 ≤ 22
set_option maxHeartbeats 4000000 in
theorem am_callW {nL fr rk : Nat} {bytes : ByteArray} {ini : Bool} {q : Nat × (Nat → Int)} {Q : Option am_V → am_H → Prop} {pc : Nat} {ls st : List am_V} {h : am_H} {idx mid n fr' : Nat} {hh : am_HH} {as rest : List am_V} {r : Int} {h1 : am_H}
    (hL : am_WL idx mid n hh) (hd : decode bytes pc = .ok (.invokestatic idx, 3)) (hst : st = as.reverse ++ rest) (hn : as.length = n) (hr8 : (rest.map am_cat).sum ≤ 8) (hfr : fr' + 1 ≤ fr)
    (hct : am_WT mid fr' hh as h r h1) (k : am_Z 13 nL fr rk bytes ini (some q) Q (pc + 3) ls (.inl r :: rest) h1) : am_Z 13 nL fr rk bytes ini (some q) Q pc ls st h := by
  subst hst
  obtain ⟨r2, h', hQ, e1, e2, k⟩ := k
  obtain ⟨⟨g1, g2⟩, hm⟩ := hct
  obtain ⟨M, hM, hlink, hstat, hini, hdd, hl22⟩ := hL
  rw [hM] at hm
  obtain ⟨hcode, hm⟩ := hm
  refine ⟨r2, h', hQ, by omega, by omega, fun p l e R s m args below meth c D cA A cx Qs α H locs cells slots lsA S hc hs RC => ?_⟩
  have hsub := am_A_sub S.1 cx.2.2.2.2.2.2.2.2.2 S.2.1.1
  have hlx : am_lx l A s := S.2.2.2.2.2
  have hts := cx.2.2.2.2.1
  have hG : GoodIn am_G (Cond.codeWith M.1 M.2.1 M.2.2.1 M.2.2.2.1 hh :: am_G) := am_goodIn hcode
  have hwsS : GoodIn am_G (va_wsS (am_R 13) idx M.1 (Cond.codeWith M.1 M.2.1 M.2.2.1 M.2.2.2.1 hh :: am_G)) := by
    intro u hu
    unfold va_wsS at hu
    simp only [List.cons_append, List.nil_append, List.mem_cons] at hu
    rcases hu with rfl | rfl | rfl | rfl | hu
    · exact ⟨hlink, am_G_good _ hlink⟩
    · exact ⟨hstat, am_G_good _ hstat⟩
    · exact ⟨hini, am_G_good _ hini⟩
    · exact ⟨hcode, am_G_good _ hcode⟩
    · exact ⟨hu, am_G_good _ hu⟩
  have hcw := vx_cwSW (R := R) (own := am_R 13) (index := idx) (rm := { frames := fr', cells := h1.2.1 - h.2.1 + (h1.2.2 - h.2.2) / 1000, slots := h1.2.2 - h.2.2, locals := 41 * fr' }) n hts hwsS rfl rfl rfl hdd (by rw [cx.2.2.2.2.2.2.2.1, cx.2.2.2.2.2.2.2.2.1]; exact ⟨hfr, by show 8 + (M.2.2.1 + 11) + 41 * fr' ≤ 41 * fr; omega⟩)
  have hpre := am_Pc_at (as := as) cx.2.2.2.2.2.2.1 S (fun u hu => List.mem_append_left _ (List.mem_reverse.mpr hu))
  have hrun0 := vx_runSX (As := as.map (am_c α)) (rest := rest.map (am_c α)) (H := H) (locs := locs) (cells := cells) (slots := slots) (below := below) (meth := meth) (e := e) ⟨cx.1, cx.2.1, cx.2.2.1, cx.2.2.2.1, hts⟩ (hm l D cA α H.size) hcw ⟨am_Px.blind, fun U hU hW => ⟨hpre U hU hW, hlx.go hW.alike (fun a h1 h2 => by rw [hU]; exact S.2.1.2.1 a h1 h2) hsub⟩⟩ (g := F0 m pc lsA ((as.reverse ++ rest).map (am_c α))) rfl (by rw [List.length_map]; exact hn) S.2.2.1.2.1 (by show List.map _ _ = _; rw [am_map_rev]) (lv_room (am_sum8 hr8)) (by rw [← cx.2.1]; rw [cx.2.1]; exact hd) ⟨by omega, by omega⟩
  have hrun : va_Run p l e R s m args below meth c H locs cells slots (h1.2.1 - h.2.1 + (h1.2.2 - h.2.2) / 1000) (h1.2.2 - h.2.2) (F0 m pc lsA ((as.reverse ++ rest).map (am_c α))) (rest.map (am_c α)) (am_Qc D cA α h (some (.inl r)) h1 H.size (as.map (am_c α)).toArray) (am_A α h H.size) := by
    intro T hT X
    rcases hrun0 T hT X with hq | ⟨q, st₀, t, T', L, E9, ce, h9, X', hL, e1, e2, hx, -⟩
    · exact hq
    · exact hx.elim
  refine am_run hrun (fun v st₀ t H1 L hs0 ht hq hL => ?_)
  obtain ⟨⟨α', ex, hv, hR⟩, hz, hk⟩ := hq
  rw [hs0] at hz hk
  rw [ht] at hR hz hk
  have hvr : v = some (am_c α' (.inl r)) := by injection hv
  have hrest : rest.map (am_c α) = rest.map (am_c α') := List.map_congr_left fun u hu => (am_c_ext ex (S.2.2.2.1 u (List.mem_append_right _ hu))).symm
  have hstk : v.toList ++ rest.map (am_c α) = (.inl r :: rest : List am_V).map (am_c α') := by
    rw [hvr, hrest]
    rfl
  rw [hstk]
  refine k p l e R s m args below meth c D cA A cx Qs α' H1 (locs ++ L) _ _ lsA ⟨⟨hR.1, hR.2.1.weaken (fun _ _ _ => hsub _), hR.2.2⟩, ⟨Nat.le_trans S.2.1.1 hz, fun q q1 q2 => ?_, fun q hq => ?_⟩, S.2.2.1.ext g1 ex, ?_, ?_⟩ (by omega) (by omega) (fun α'' H' locs' pc' lsA' cells' slots' ea t1 t2 t3 t4 q1 q2 => RC α'' H' locs' pc' lsA' cells' slots' (fun i hi => (ea i (Nat.le_trans hi g1)).trans (ex i hi)) t1 t2 t3 t4 (by omega) (by omega))
  · rw [hk q (Nat.lt_of_lt_of_le q1 S.2.1.1) (fun z => q2 (hsub q z))]
    exact S.2.1.2.1 q q1 q2
  · rcases List.mem_append.mp hq with hq | hq
    · exact S.2.1.2.2 q hq
    · exact hsub _ (hL q hq)
  · intro u hu
    rcases List.mem_cons.mp hu with rfl | hu
    · exact trivial
    · exact (S.2.2.2.1 u (List.mem_append_right _ hu)).mono g1
  · have h4 := S.2.2.2.2
    unfold am_sok at h4 ⊢
    dsimp only at h4 ⊢
    rw [ex 0 (Nat.zero_le _)]
    exact h4
/-! in the world -/
def ww_WT (mid fr : Nat) (hh : am_HH) (as : List am_V) (w : W_) (Q : Int → W_ → Prop) : Prop := ∀ h, w_R w h → ∃ r h' w', Q r w' ∧ w_R w' h' ∧ am_WT mid fr hh as h r h'
theorem ww_callW {nL fr rk : Nat} {bytes : ByteArray} {q : Nat × (Nat → Int)} {Q : Option am_V → W_ → Prop} {pc : Nat} {ls st : List am_V} {w : W_} {idx mid n fr' : Nat} {hh : am_HH} {as rest : List am_V} {P : Int → W_ → Prop}
    (hL : am_WL idx mid n hh) (hd : decode bytes pc = .ok (.invokestatic idx, 3)) (hst : st = as.reverse ++ rest) (hn : as.length = n) (hr8 : (rest.map am_cat).sum ≤ 8) (hfr : fr' + 1 ≤ fr)
    (hct : ww_WT mid fr' hh as w P) (k : ∀ r w', P r w' → ww_Z 13 nL fr rk bytes (some q) Q (pc + 3) ls (.inl r :: rest) w') : ww_Z 13 nL fr rk bytes (some q) Q pc ls st w := fun h hR => by
  obtain ⟨r, h', w', hP, hR', hc⟩ := hct h hR
  exact am_callW hL hd hst hn hr8 hfr hc (k r w' hP h' hR')
/-- the heap behind a throw -/
theorem w_R.thr {w : W_} {h : am_H} (R : w_R w h) (h0 : 0 ≤ w.1 0 0) : w_R (w_f w 0 0 (w.1 0 0 + 1)) (h.1, h.2.1, h.2.2 + 1000) := by
  obtain ⟨P, L, h1, h2, h3, h4, h5, h6, h7⟩ := R
  refine ⟨P, L, ⟨h1.1, h1.2.1, ?_⟩, fun b hb => ?_, h3, h4, h5, h6, h7⟩
  · show h.2.2 + 1000 ≤ w_s0 + 1000 * (w_u w.1 0 0 (w.1 0 0 + 1) 0 0).toNat + 2 * w_sum L
    rw [w_u_at, if_pos ⟨rfl, rfl⟩]
    omega
  · refine ⟨(h2 b hb).1, fun j hj => ?_⟩
    have hb0 : b ≠ 0 := fun q => hb (by rw [q]; rfl)
    have := (h2 b hb).2 j hj
    show am_fv h b j = _
    rw [this]
    have e1 : (w_f w 0 0 (w.1 0 0 + 1)).1 b j = w.1 b j := by rw [w_f1, w_u_at, if_neg (fun q => hb0 q.1)]
    have e2 : (w_f w 0 0 (w.1 0 0 + 1)).1 17 7 = w.1 17 7 := by rw [w_f1, w_u_at, if_neg (by decide)]
    unfold w_fv w_pv
    rw [e1, e2]
