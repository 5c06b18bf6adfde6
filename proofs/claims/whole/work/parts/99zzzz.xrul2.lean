/-! ===== the class realizes as the evaluator: a rule is used ===== -/
section
variable {G : G_} {sil : Bool} {o : Nat} {K0 : Int} {s s1 : S_} {q q1 : Q_} {w w' : W_} {fr : Nat} {Q : Option am_V → W_ → Prop} {i : Int} {S : List F_} {x : Int × Int × Nat}
theorem xP_41 {j : Nat} {y : Int} (ho : oK w) : xP w (w_f w 41 j y) := by
  have e : ∀ a k, a ≠ 41 → (w_f w 41 j y).1 a k = w.1 a k := fun a k h => by rw [w_f1, w_u_at, if_neg (fun z => h z.1)]
  refine ⟨⟨by rw [e 13 2 (by decide)]; exact Int.le_refl _, fun _ _ => rfl⟩, fun k => e 50 k (by decide), ⟨rfl, rfl, rfl, rfl, rfl, rfl, by rw [e 17 3 (by decide)]; exact Int.le_refl _, fun _ _ => rfl, rQ_1 (fun a j q => e a j (by omega)) (fun _ _ => rfl)⟩, ⟨e 17 7 (by decide), rfl, e _ 4 (by omega)⟩, fun m hb t q => q⟩
/-- behind a body -/
theorem CR_lx {C : C_} {E9 : Int} {d : Nat} (H : CR C sil o 0 False K0 s w) (hd : (d : Int) + 1 = w.1 41 14) (hE : 0 ≤ E9 ∧ E9 ≤ 9) : CR C sil o 0 False K0 (u_dp s d) (w_f (w_f (w_f w 41 15 (if w.1 41 15 < E9 then E9 else w.1 41 15)) 41 14 (w.1 41 14 - 1)) 41 12 (w.1 41 12 - 1)) := by
  obtain ⟨Ha, Hb, Hc, Hm⟩ := H
  have ho := Ha.1.1
  have E1 : ∀ a j, ¬ (a = 41 ∧ (j = 12 ∨ j = 14 ∨ j = 15)) → (w_f (w_f (w_f w 41 15 (if w.1 41 15 < E9 then E9 else w.1 41 15)) 41 14 (w.1 41 14 - 1)) 41 12 (w.1 41 12 - 1)).1 a j = w.1 a j := fun a j q => by
    rw [w_f1, w_u_at, if_neg (by omega), w_f1, w_u_at, if_neg (by omega), w_f1, w_u_at, if_neg (by omega)]
  have E14 : (w_f (w_f (w_f w 41 15 (if w.1 41 15 < E9 then E9 else w.1 41 15)) 41 14 (w.1 41 14 - 1)) 41 12 (w.1 41 12 - 1)).1 41 14 = w.1 41 14 - 1 := rfl
  have E15 : (w_f (w_f (w_f w 41 15 (if w.1 41 15 < E9 then E9 else w.1 41 15)) 41 14 (w.1 41 14 - 1)) 41 12 (w.1 41 12 - 1)).1 41 15 = if w.1 41 15 < E9 then E9 else w.1 41 15 := rfl
  have E2 : (w_f (w_f (w_f w 41 15 (if w.1 41 15 < E9 then E9 else w.1 41 15)) 41 14 (w.1 41 14 - 1)) 41 12 (w.1 41 12 - 1)).2 = w.2 := rfl
  generalize w_f (w_f (w_f w 41 15 (if w.1 41 15 < E9 then E9 else w.1 41 15)) 41 14 (w.1 41 14 - 1)) 41 12 (w.1 41 12 - 1) = W at *
  refine ⟨?_, ?_, ?_, ?_⟩
  · unfold CRa at Ha ⊢
    rw [E1 17 7 (by omega), E1 17 4 (by omega), E1 17 5 (by omega), E1 17 6 (by omega), E1 o 5 (by omega), E2]
    exact Ha
  · unfold CRb at Hb ⊢
    obtain ⟨b1, ⟨b2, b2'⟩, b3, b4, b5, b6⟩ := Hb
    rw [E1 17 3 (by omega), E2, E14, E15, E1 41 16 (by omega), E1 41 17 (by omega)]
    refine ⟨b1, ⟨?_, ?_⟩, ?_, fun z => z.elim, b5, b6⟩
    · show w.1 41 14 - 1 = (d : Int)
      omega
    · show d ≤ 8
      have b2 : w.1 41 14 = (s_dp s : Nat) := b2
      omega
    · split <;> omega
  · unfold CRc fW0 at Hc ⊢
    rw [E1 o 7 (by omega), E1 o 8 (by omega), E1 13 2 (by omega), E2]
    exact Hc
  · unfold CRm at Hm ⊢
    rw [E1 10 1 (by omega), E1 13 2 (by omega), E1 13 3 (by omega), E2]
    exact Hm
theorem XR_ntn {f : Int} : ∀ (k : Nat) (s : S_) (w : W_), XR G sil o K0 s q w → s_nt s + k ≤ 1000000 → XR G sil o K0 (f_notes (g_C G q) f k s) q (w_ntn k w f) := by
  intro k
  induction k with
  | zero => intro s w H _; exact H
  | succ k ih => intro s w H hk; exact ih (f_note (g_C G q) f s) (w_nt w f) (XR_nt H (by omega) f) (by show s_nt s + 1 + k ≤ 1000000; omega)
/-- a rule is refused -/
theorem ru_no {el f : T_} {n c : Nat} {e : T_} {V : W_} (P : PR G sil o K0 s q el (.tag 11 (.tag n (.append e f))) V) (hl : (q_fr q).length < 20000) (hn : s_nt s < 1000000) (hi : 0 ≤ i ∧ i < 1000000) (hr : 20 ≤ fr) (hc : (c = 5 ∧ 12 ≤ q_wi q) ∨ (c = 6 ∧ q_wi q < 12 ∧ 300 ≤ s_b s)) (K : ∀ w', XR G sil o K0 (f_note (g_C G q) (f_code c (e_id e)) s) q w' → dr fr Q (i + 1) w') : dr fr Q i V := by
  obtain ⟨u, y, T, ⟨F0, F1, F2, F11⟩, hr', hv⟩ := P
  obtain ⟨hN, p3, -, p4, id0, -, -⟩ := hr'
  have h33 := T.2.2.1
  have hh : 0 ≤ V.1 13 2 ∧ V.1 13 2 < 262144 := by
    have h := T.1.2.2.1.2.2.2
    omega
  have u0 := hN.1
  obtain ⟨a1, a2, -⟩ := T.2.1.2.1.1
  have b4 : V.1 17 4 = s_b s := T.1.1.2.1.1
  have cs := T.1.2.2.1.2.2.2.2
  have T1 : XT G sil o K0 s q (w_fs V 2 1) := XT_fs T (by decide)
  have kn := (CR_o T1.1).2
  have R : ww_Ct 124 6 [.inr (.inr (.inl 50))] V fun r w' => r = none ∧ w' = w_po (w_nt (w_fs V 2 1) (f_code c (e_id e))) := by
    refine lk_1240 (id := (e_id e : Int)) F1 (by omega) F2 (by decide) (by omega) p4 ?_
    have wi : (w_fs V 2 (0 + 1)).1 50 8 = (q_wi q : Nat) := a2
    have wb : (w_fs V 2 (0 + 1)).1 17 4 = s_b s := b4
    have r1 : am_rg ((w_fs V 2 (0 + 1)).1 50 8) ∧ am_rg ((w_fs V 2 (0 + 1)).1 17 4) := by
      have b2 := T.2.1.2.2.1.2.2
      rw [wi, wb]
      exact ⟨by unfold am_rg; omega, by unfold am_rg; omega⟩
    have hq : ∀ k : Nat, 100000 * (k : Int) + w_spot (e_id e : Int) = f_code k (e_id e) := fun k => f_code_w k (e_id e)
    rcases hc with ⟨rfl, c1⟩ | ⟨rfl, c1, c2⟩
    · refine lk_124d (by show 1 ≤ V.1 33 1 ∧ V.1 33 1 < 24000; omega) kn (by omega) r1 (by rw [wi]; omega) ?_
      have := hq 5
      exact ⟨rfl, by rw [← this]; rfl⟩
    · refine lk_124l (by show 1 ≤ V.1 33 1 ∧ V.1 33 1 < 24000; omega) kn (by omega) r1 (by rw [wi]; omega) (by rw [wb]; omega) ?_
      have := hq 6
      exact ⟨rfl, by rw [← this]; rfl⟩
  refine dr_10 hi T.2.2.2.1 (by omega) F0 R (by omega) (by omega) ?_
  rintro w1 rfl
  exact K _ (XT_po (XT_nt T1 hn _))
end
