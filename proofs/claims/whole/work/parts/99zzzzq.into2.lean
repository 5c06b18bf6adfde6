/-! ===== the class compiles as the evaluator's rounds ===== -/
/-- what is told of a name's value -/
def e_cd : Option T_ → Int
  | none => 20005
  | some (.nest m .nil) => m
  | some .nil => 20003
  | some .line => 20004
  | some (.tag 12 _) => 20001
  | some (.tag 13 _) => 20002
  | some _ => 20000
theorem e_cd_k {k : Nat} {v : T_} (h2 : k ≠ 12) (h3 : k ≠ 13) : e_cd (some (.tag k v)) = 20000 := by
  unfold e_cd
  split <;> first | rfl | (rename_i h; cases h; exact absurd rfl h2) | (rename_i h; cases h; exact absurd rfl h3) | (rename_i h; cases h) | (rename_i h; injection h with h; injection h with h h'; omega) | (exfalso; simp_all)
theorem cd_R {n : Int} {F : T_ → Prop} {w : W_} {v : T_} {x : Int} (h : cR n (w.2 13) F v x) : h_code w x = e_cd (some v) := by
  have lo : ∀ y : Int, y < 30000 → h_code w y = y := fun y hy => if_pos hy
  have hi : ∀ k : Int, hN n (w.2 13) F x k → h_code w x = if k = 12 then 20001 else if k = 13 then 20002 else 20000 := fun k hk => by
    unfold h_code
    rw [if_neg (by have := hk.1; omega), pH_w, hk.2.1]
  unfold cR at h
  split at h
  · rw [lo _ (by omega)]; exact h.1
  · rw [lo _ (by omega)]; exact h
  · rw [lo _ (by omega)]; exact h
  · rw [lo _ (by omega)]; exact h
  · rw [hi _ h.1, e_cd_k (by decide) (by decide)]; rfl
  · rw [hi _ h, e_cd_k (by decide) (by decide)]; rfl
  · rw [hi _ h.1, e_cd_k (by decide) (by decide)]; rfl
  · rw [hi _ h.1, e_cd_k (by decide) (by decide)]; rfl
  · rw [hi _ h.1, e_cd_k (by decide) (by decide)]; rfl
  · rw [hi _ h.1, e_cd_k (by decide) (by decide)]; rfl
  · rw [hi _ h.1, e_cd_k (by decide) (by decide)]; rfl
  · rw [hi _ h.1, e_cd_k (by decide) (by decide)]; rfl
  · rw [hi _ h.1, e_cd_k (by decide) (by decide)]; rfl
  · rw [hi _ h.1, e_cd_k (by decide) (by decide)]; rfl
  · rw [hi _ h.1, e_cd_k (by decide) (by decide)]; rfl
  · rw [hi _ h.1]; rfl
  · rw [hi _ h.1]; rfl
  · rw [hi _ h.1]; rfl
  · exact h.elim
/-- between two rounds -/
def BI (G : G_) (sil : Bool) (o : Nat) (m : List R_) (rn tk : Nat) (c st : Int) (w : W_) : Prop := ((o = 24 ∨ o = 55 ∨ o = 64) ∧ w.1 17 7 = (o : Int)) ∧ (sil = false → w.1 o 7 = rn ∧ w.1 o 8 = tk) ∧ (∀ k, k < 42 → w.2 20 k = G.1 k ∧ -9999 ≤ G.1 k ∧ G.1 k ≤ 9999) ∧ ((w.1 50 15 = G.2.2.2.1 ∧ w.1 50 16 = G.2.2.2.2) ∧ 3 ≤ G.2.2.2.1 ∧ G.2.2.2.1 ≤ 30 ∧ 1 ≤ G.2.2.2.2 ∧ G.2.2.2.2 ≤ 10) ∧ (flO (g_C0 G) (w.2 3) (w.2 5) (w.2 7) ∧ w.2 3 183 = 0 ∧ g0 (w.2 7)) ∧ ((0 ≤ w.1 13 2 ∧ w.1 13 2 ≤ 237700) ∧ hI (w.1 13 2) (w.2 13) (w.2 7)) ∧ CRm sil (s_start m rn tk) w ∧ yG G o (238000 - c) w ∧ w.1 o 9 = st
/-- what a round came to -/
def RF (o : Nat) (s : S_) (q : Q_) (w : W_) : Prop := ((w.1 o 4 = ((q_th q).length : Nat) ∧ ∀ i l, (q_th q)[i]? = some l → ∀ m, m < 6 → w.2 (o + 1) (6 * i + m) = l.getD m 0) ∧ (q_th q).length ≤ 201) ∧ (w.1 o 5 = (s_fl s).length ∧ (s_fl s).length ≤ 60 ∧ ∀ i, i < (s_fl s).length → w.2 (o + 3) i = (s_fl s).getD i 0) ∧ ∀ m, m < 10 → w.2 (o + 7) m = e_cd (s_fe s 0 m)
section
variable {G : G_} {sil : Bool} {o : Nat} {m : List R_} {rn tk : Nat} {c : Int} {w : W_} {K0 : Int} {s : S_} {q : Q_}
theorem BI_BB {st : Int} (H : BI G sil o m rn tk c st w) (hc : 0 ≤ c ∧ c ≤ 4) : BB G sil o (238000 - (c + 1)) m rn tk (w_f w o 6 (c + 1)) := by
  obtain ⟨⟨ho, h17⟩, h1, h2, h3, h4, ⟨⟨h5, h6⟩, h7⟩, h8, ⟨r1, r2, r3⟩, -⟩ := H
  have E : ∀ a j, ¬ (a = o ∧ j = 6) → (w_f w o 6 (c + 1)).1 a j = w.1 a j := fun a j q => by rw [w_f1, w_u_at, if_neg q]
  refine ⟨⟨ho, by rw [E 17 7 (by omega)]; exact h17⟩, fun y => ?_, h2, ⟨?_, h3.2⟩, h4, ⟨⟨?_, ?_, by omega⟩, ?_⟩, ?_, ⟨fun a j ha q => ?_, r2, ?_⟩⟩
  · rw [E o 7 (by omega), E o 8 (by omega)]; exact h1 y
  · rw [E 50 15 (by omega), E 50 16 (by omega)]; exact h3.1
  · rw [E 13 2 (by omega)]; exact h5
  · rw [E 13 2 (by omega)]; omega
  · rw [E 13 2 (by omega)]; exact h7
  · unfold CRm at h8 ⊢
    rw [E 10 1 (by omega), E 13 2 (by omega), E 13 3 (by omega)]
    exact h8
  · rw [E a j (by omega)]; exact r1 a j ha q
  · rw [w_f1, w_u_at, if_pos ⟨rfl, rfl⟩]; omega
/-- the names of the first file -/
theorem fe_row (H : CR (g_C G q) sil o 0 False K0 s w) (hg : g0 (w.2 7)) (hfs : s_fs s 0 = 2) : ∀ k, k < 10 → h_ok w (w.2 44 k) ∧ h_code w (w.2 44 k) = e_cd (s_fe s 0 k) := fun k hk => by
  have hn := H.2.2.1.2.2.2.1
  have hcn := H.2.2.1.2.2.2
  have z := H.2.2.1.2.2.1 0 (by decide) hfs k hk
  rw [show 0 * 10 + k = k by omega] at z
  cases e : s_fe s 0 k with
  | none =>
    rw [e] at z
    have z : w.2 44 k = 20005 := z
    rw [z]
    have e0 : ∀ f, w_h w 20005 f = 0 := fun f => if_pos (by decide)
    refine ⟨⟨by decide, ?_, ?_, ?_⟩, if_pos (by decide)⟩ <;> (rw [e0]; unfold am_rg; omega)
  | some v =>
    rw [e] at z
    have z : vR (w.1 13 2) (w.2 13) (fW0 w) v (w.2 44 k) := z
    have y : vW_ w v (w.2 44 k) := vR_mono hn.1 (Int.le_refl _) (fun _ _ => rfl) (fW_g0 hg) z
    exact ⟨vW_ok hn.1 (by omega) y, cd_R z.1⟩
/-- the end of a round: settled, values, the sweep -/
theorem rd_end {st : Int} {w8 : W_} (H : XR G sil o K0 s q w) (hK : K0 = 238000 - c) (hfs : s_fs s 0 = 2) (hsw : h_sw2 (w_vl (w_f w o 9 st) o 10) ((w_vl (w_f w o 9 st) o 10).1 13 3) w8) : BI (q_nx q, G.2) sil o (s_me s) (s_rn s) (s_tk s) c st w8 ∧ RF o s q w8 := by
  have ho := XR_ho H
  have h18 := XR_18 H
  obtain ⟨hC, ⟨⟨hfl, hg⟩, h183, hr⟩, hQ, hB, -, -, -, -⟩ := H
  have hg : g0 (w.2 7) := hg.resolve_left id
  obtain ⟨Ha, Hb, Hc, Hm⟩ := hC
  have row := fe_row ⟨Ha, Hb, Hc, Hm⟩ hg hfs
  have hn := Hc.2.2.2.1
  have hnd := Hc.2.2.2.2
  have F1 : ∀ a j, ¬ (a = o ∧ j = 9) → (w_vl (w_f w o 9 st) o 10).1 a j = w.1 a j := fun a j q => by
    show (w_f w o 9 st).1 a j = _
    rw [w_f1, w_u_at, if_neg q]
  have F9 : (w_vl (w_f w o 9 st) o 10).1 o 9 = st := by
    show (w_f w o 9 st).1 o 9 = _
    rw [w_f1, w_u_at, if_pos ⟨rfl, rfl⟩]
  have F2 : ∀ b, b ≠ o + 7 → (w_vl (w_f w o 9 st) o 10).2 b = w.2 b := fun b q => by
    funext k
    show (if b = o + 7 ∧ k < 10 then _ else w.2 b k) = _
    rw [if_neg (fun z => q z.1)]
  have F7 : ∀ k, k < 10 → (w_vl (w_f w o 9 st) o 10).2 (o + 7) k = e_cd (s_fe s 0 k) := fun k hk => by
    show (if o + 7 = o + 7 ∧ k < 10 then h_code (w_f w o 9 st) (w.2 44 k) else _) = _
    rw [if_pos ⟨rfl, hk⟩]
    exact (row k hk).2
  generalize w_vl (w_f w o 9 st) o 10 = w7 at *
  have Hm7 : CRm sil s w7 := by
    unfold CRm at Hm ⊢
    rw [F1 10 1 (by omega), F1 13 2 (by omega), F1 13 3 (by omega), F2 11 (by omega), F2 13 (by omega), F2 3 (by omega), F2 5 (by omega), F2 7 (by omega)]
    exact Hm
  have hI7 : hI (w7.1 13 2) (w7.2 13) (w7.2 7) := by
    rw [F1 13 2 (by omega), F2 13 (by omega), F2 7 (by omega)]
    exact Hc.1.2.1
  have hg7 : g0 (w7.2 7) := by rw [F2 7 (by omega)]; exact hg
  have hn7 : 0 ≤ w7.1 13 2 ∧ w7.1 13 2 ≤ 262144 := by rw [F1 13 2 (by omega)]; omega
  have hk7 : 0 ≤ w7.1 13 3 ∧ w7.1 13 3 ≤ w7.1 13 2 := Hm7.2.2.2.2.1
  obtain ⟨m8, i8, n8, E1, E2⟩ := sw_mem Hm7 hI7 hg7 hn7 ⟨hk7.1, Int.le_refl _⟩ hsw
  have G1 : ∀ a j, ¬ (a = o ∧ j = 9) → ¬ (a = 13 ∧ (j = 2 ∨ j = 3)) → w8.1 a j = w.1 a j := fun a j q1 q2 => (E1 a j q2).trans (F1 a j q1)
  have G2 : ∀ b, b ≠ o + 7 → b ≠ 11 → b ≠ 13 → b ≠ 14 → w8.2 b = w.2 b := fun b q1 q2 q3 q4 => (E2 b q2 q3 q4).trans (F2 b q1)
  obtain ⟨q50, qr, qu, qn, qt⟩ := hQ
  obtain ⟨b1, b2, b3, b4, b5⟩ := hB
  refine ⟨⟨⟨ho, ?_⟩, fun y => ?_, fun k hk => ?_, ⟨?_, b1⟩, ⟨?_, ?_, ?_⟩, ⟨n8, i8⟩, ?_, ⟨fun a j ha q => ?_, fun b hb q => ?_, ?_⟩, ?_⟩, ⟨⟨⟨?_, fun i l hl j hj => ?_⟩, by omega⟩, ⟨?_, Ha.2.2.1.2.1, fun i hi => ?_⟩, fun k hk => ?_⟩⟩
  · rw [G1 17 7 (by omega) (by omega)]; exact Ha.1.2
  · rw [G1 o 7 (by omega) (by omega), G1 o 8 (by omega) (by omega)]; exact Hc.1.1 y
  · rw [G2 20 (by omega) (by decide) (by decide) (by decide)]
    exact ⟨qn k hk, b4.1 k hk⟩
  · rw [G1 50 15 (by omega) (by omega), G1 50 16 (by omega) (by omega)]
    exact ⟨q50.2.2.2.2.2.2.2.2.1, q50.2.2.2.2.2.2.2.2.2⟩
  · rw [G2 3 (by omega) (by decide) (by decide) (by decide), G2 5 (by omega) (by decide) (by decide) (by decide), G2 7 (by omega) (by decide) (by decide) (by decide)]
    exact hfl
  · rw [G2 3 (by omega) (by decide) (by decide) (by decide)]; exact h183
  · rw [G2 7 (by omega) (by decide) (by decide) (by decide)]; exact hg
  · exact m8
  · rw [G1 a j (by omega) (by omega)]; exact hr.1 a j ha q
  · rw [G2 b (by omega) (by omega) (by omega) (by omega)]; exact hr.2.1 b hb q
  · rw [G1 o 6 (by omega) (by omega), hr.2.2, hK]
  · rw [E1 o 9 (by omega)]; exact F9
  · rw [G1 o 4 (by omega) (by omega)]; exact qt.1
  · rw [G2 (o + 1) (by omega) (by omega) (by omega) (by omega)]; exact qt.2 i l hl j hj
  · rw [G1 o 5 (by omega) (by omega)]; exact Ha.2.2.1.1
  · rw [G2 (o + 3) (by omega) (by omega) (by omega) (by omega)]; exact Ha.2.2.1.2.2 i hi
  · rw [E2 (o + 7) (by omega) (by omega) (by omega)]; exact F7 k hk
end
section
variable {G : G_} {sil : Bool} {o fr : Nat} {rem : Int} {P : Option am_V → W_ → Prop}
theorem all42 {bf f : Nat → Int} : (List.range 42).all (fun k => bf k == f k) = true ↔ ∀ k, k < 42 → f k = bf k := by
  rw [List.all_eq_true]
  constructor
  · intro h k hk
    exact (beq_iff_eq.mp (h k (List.mem_range.mpr hk))).symm
  · intro h k hk
    exact beq_iff_eq.mpr (h k (List.mem_range.mp hk)).symm
theorem x_rds {n : Nat} {bf : Nat → Int} {c : Nat} {s0 s2 : S_} {q2 : Q_} (hx : x_round (bf, G.2) sil s0 = some (s2, q2)) : x_rounds G sil (n + 1) bf c s0 = if (List.range 42).all (fun k => bf k == q_nx q2 k) = true then some (true, c + 1, (s2, q2)) else match n with
        | 0 => some (false, c + 1, (s2, q2))
        | _ => x_rounds G sil n (q_nx q2) (c + 1) (s_start (s_me s2) (s_rn s2) (s_tk s2)) := by
  conv => lhs; unfold x_rounds
  rw [hx]
  cases n <;> rfl
/-- all rounds -/
theorem c_loop (hG : GG G) (hf : 22 ≤ fr) (hrem : rem = if sil = true then 0 else 1) : ∀ (n : Nat) (bf : Nat → Int) (c : Nat) (m : List R_) (rn tk : Nat) (w : W_) (v3 : am_V), n + c = 4 → n ≠ 0 → am_two v3 = false → BI (bf, G.2) sil o m rn tk c 0 w → (∀ (st : Bool) (cnt : Nat) (s : S_) (q : Q_) (w' : W_) , x_rounds G sil n bf c (s_start m rn tk) = some (st, cnt, (s, q)) → BI (q_nx q, G.2) sil o (s_me s) (s_rn s) (s_tk s) cnt (if st = true then 1 else 0) w' → RF o s q w' → z59 fr P 179 o rem (.inl 10) w') → z59 fr P 42 o rem v3 w := by
  intro n
  induction n with
  | zero => intro _ _ _ _ _ _ _ _ h; exact absurd rfl h
  | succ n ih =>
    intro bf c m rn tk w v3 hnc _ hv H K
    have ho := H.1.1
    have h6 : w.1 o 6 = (c : Int) := by
      have := H.2.2.2.2.2.2.2.1.2.2
      omega
    have h9 : w.1 o 9 = 0 := H.2.2.2.2.2.2.2.2
    have hG' : GG ((bf, G.2) : G_) := hG
    obtain ⟨v, s1, ho1, HS1, hv1, hfs1⟩ := x_text (sil := sil) hG' m rn tk
    obtain ⟨s2, q2, hx, HS2, -, hq2⟩ := x_round_ok (sil := sil) hG' m rn tk
    have hrun : x_run (fun C => ev C x_F) (bf, G.2) sil x_FR s1 (q_start v) = some (s2, q2) := by
      unfold x_round at hx
      rw [ho1] at hx
      exact hx
    have hfs2 := x_run_F _ hrun 0 hfs1
    have hrr : rem = 0 ∨ rem = 1 := by
      rw [hrem]
      cases sil
      · exact Or.inr rfl
      · exact Or.inl rfl
    refine lk_59b ho hv h6 h9 ⟨by omega, by omega⟩ (Or.inl rfl) (fun _ _ => ?_) (fun q => by omega)
    have HB := BI_BB H ⟨by omega, by omega⟩
    generalize w_f w o 6 ((c : Int) + 1) = wa at *
    refine lk_59c ho hv hf (c_64 HB) fun wb hb => ?_
    rw [hb]
    refine lk_59d ho hv hf hrr (by rw [hrem]; exact c_74 HB hG') fun wc hc => ?_
    refine lk_59e ho hv hf (c_60a hc (Nat.le_refl _) ho1 HS1) fun wd hd => ?_
    have r11 : am_rg (wd.1 41 11) := by
      have hn := hd.1.2.2.1.2.2.2
      exact (vW_rg hn.1.1 (by omega) hd.2.2.2.2).1
    refine lk_59f ho hv hf r11 (c_112 hd HB.2.2.2.1.2) fun we he => ?_
    refine lk_59g ho hv hf (c_60b hG' he (Nat.le_refl _) HS1 hv1 hrun) fun wf hwf => ?_
    obtain ⟨XF, -⟩ := hwf
    have q18 := XR_18 XF
    have q20 := XF.2.2.1.2.2.2.1
    have b20 := XF.2.2.2.1.2.2.2.1.1
    refine lk_59h ho hv hf (fun k hk => ?_) fun st hst => ?_
    · have z := q18 k (by omega)
      have y := b20 k hk
      rw [q20 k hk]
      unfold am_rg
      omega
    have hC := XF.1
    have hg : g0 (wf.2 7) := XF.2.1.1.2.resolve_left id
    have row := fe_row hC hg hfs2
    have eall : (∀ k, k < 42 → wf.2 20 k = wf.2 18 k) ↔ ∀ k, k < 42 → q_nx q2 k = bf k := by
      constructor
      · intro h k hk
        have z := (q18 k (by omega)).1
        rw [if_pos hk] at z
        have y := h k hk
        rw [q20 k hk, z] at y
        exact y
      · intro h k hk
        have z := (q18 k (by omega)).1
        rw [if_pos hk] at z
        rw [q20 k hk, z]
        exact h k hk
    rw [eall, ← all42] at hst
    refine lk_59i ho hf (fun k hk => (row k hk).1) ?_
    have ho' := ho
    have Hm7 : CRm sil s2 (w_vl (w_f wf o 9 st) o 10) ∧ hI ((w_vl (w_f wf o 9 st) o 10).1 13 2) ((w_vl (w_f wf o 9 st) o 10).2 13) ((w_vl (w_f wf o 9 st) o 10).2 7) ∧ 0 ≤ (w_vl (w_f wf o 9 st) o 10).1 13 2 ∧ (w_vl (w_f wf o 9 st) o 10).1 13 2 ≤ 262144 := by
      obtain ⟨Ha, Hb, Hc, Hm⟩ := hC
      have hn := Hc.2.2.2
      have F1 : ∀ a j, ¬ (a = o ∧ j = 9) → (w_vl (w_f wf o 9 st) o 10).1 a j = wf.1 a j := fun a j q => by
        show (w_f wf o 9 st).1 a j = _
        rw [w_f1, w_u_at, if_neg q]
      have F2 : ∀ b, b ≠ o + 7 → (w_vl (w_f wf o 9 st) o 10).2 b = wf.2 b := fun b q => by
        funext k
        show (if b = o + 7 ∧ k < 10 then _ else wf.2 b k) = _
        rw [if_neg (fun z => q z.1)]
      refine ⟨?_, ?_, ?_⟩
      · unfold CRm at Hm ⊢
        rw [F1 10 1 (by omega), F1 13 2 (by omega), F1 13 3 (by omega), F2 11 (by omega), F2 13 (by omega), F2 3 (by omega), F2 5 (by omega), F2 7 (by omega)]
        exact Hm
      · rw [F1 13 2 (by omega), F2 13 (by omega), F2 7 (by omega)]
        exact Hc.1.2.1
      · rw [F1 13 2 (by omega)]
        omega
    refine lk_59j ho rfl hf (lk_35m (pre_mem Hm7.1 Hm7.2.1 Hm7.2.2 Hm7.1.2.2.2.2.1)) fun w8 hw8 => ?_
    obtain ⟨I8, F8⟩ := rd_end (G := (bf, G.2)) (c := (c : Int) + 1) XF rfl hfs2 hw8
    have I8 : BI (q_nx q2, G.2) sil o (s_me s2) (s_rn s2) (s_tk s2) ((c + 1 : Nat) : Int) st w8 := I8
    have h86 : w8.1 o 6 = ((c + 1 : Nat) : Int) := by
      have := I8.2.2.2.2.2.2.2.1.2.2
      omega
    have h89 : w8.1 o 9 = st := I8.2.2.2.2.2.2.2.2
    have ex := x_rds (G := G) (n := n) (c := c) hx
    rcases hst with ⟨e1, hall⟩ | ⟨e0, hall⟩
    · subst e1
      rw [if_pos hall] at ex
      exact lk_59b ho rfl h86 h89 ⟨by omega, by omega⟩ (Or.inr rfl) (fun _ q => absurd q (by decide)) fun _ => K true (c + 1) s2 q2 w8 ex I8 F8
    · subst e0
      rw [if_neg hall] at ex
      cases n with
      | zero =>
        exact lk_59b ho rfl h86 h89 ⟨by omega, by omega⟩ (Or.inl rfl) (fun q _ => absurd q (by omega)) fun _ => K false (c + 1) s2 q2 w8 ex I8 F8
      | succ n => exact ih (q_nx q2) (c + 1) (s_me s2) (s_rn s2) (s_tk s2) w8 _ (by omega) (Nat.succ_ne_zero n) rfl I8 fun st cnt s q w' g => K st cnt s q w' (ex.trans g)
end
