/-! ===== the class runs as the evaluator: a file is read ===== -/
theorem eW_ch {w w' : W_} (e3 : w'.2 3 = w.2 3) (e5 : w'.2 5 = w.2 5) (e7 : w'.2 7 = w.2 7) (h : ∀ id : Nat, id < 180 → w.2 46 (id / 60) ≠ 0 → w'.2 46 (id / 60) ≠ 0 ∧ ∀ s : Nat, s < 9 → w'.2 37 (id * 9 + s) = w.2 37 (id * 9 + s)) {m : Nat} {hb : Bool} {t : T_} (H : eW0 w m hb t) : eW0 w' m hb t := by
  obtain ⟨q1, q2⟩ := H
  refine ⟨?_, ?_⟩
  · rw [e3, e5]
    exact eR_ch (S := fun _ => True) (fun id _ => h id) t m hb (e_all_T t) q1
  · rw [e3, e5, e7]
    exact q2
theorem eR_hb {a3 a5 a37 a46 : Nat → Int} {m : Nat} {hb hb' : Bool} {t : T_} (hm : m ≠ 0) (h : eR a3 a5 a37 a46 m hb t) : eR a3 a5 a37 a46 m hb' t := by
  rcases eR_or m hb t hm h with rfl | ⟨k, n, id, x, r, rfl⟩
  · cases m with
    | zero => exact absurd rfl hm
    | succ m => trivial
  · cases m with
    | zero => exact absurd rfl hm
    | succ m => exact h
section
variable {C : C_} {sil : Bool} {o a0 : Nat} {D : Prop} {K0 : Int} {hb : Bool} {s s1 : S_} {E E1 : N_} {w w' : W_}
theorem oQ_nts {n : Int} : ∀ (l : List Int) {w : W_}, oK w → oQ n w (w_nts w l)
  | [], w, h => ⟨⟨rfl, rfl⟩, fun _ _ => rfl, rfl, xP_S (wS_refl w) h⟩
  | x :: l, w, h => oQ_tr (oQ_nt h) (oQ_nts l (w := w_nt w x) (oK_x (oQ_nt (n := n) (x := x) h).2.2.2 h))
theorem RD_nts : ∀ (l : List Int) {s : S_} {w : W_}, RD C sil o a0 D K0 hb s E w → s_nt s + l.length ≤ 1000000 → RD C sil o a0 D K0 hb (f_list C l s) E (w_nts w l)
  | [], _, _, H, _ => H
  | x :: l, s, w, H, hn => by
    rw [List.length_cons] at hn
    exact RD_nts l (RD_nt (f := x) H (by omega)) (by show s_nt s + 1 + l.length ≤ 1000000; omega)
theorem fl_eq : ∀ (l : List Int) (s : S_), f_list C l s = u_flt s (s_nt s + l.length) (s_fl (f_list C l s))
  | [], _ => rfl
  | x :: l, s => by
    have e : f_list C (x :: l) s = f_list C l (f_note C x s) := rfl
    rw [e, fl_eq l (f_note C x s), List.length_cons]
    show u_flt s (s_nt s + 1 + l.length) _ = u_flt s (s_nt s + (l.length + 1)) _
    rw [show s_nt s + 1 + l.length = s_nt s + (l.length + 1) by omega]
theorem fl_fs : ∀ (l : List Int) (s : S_) (x : Nat → Nat) (y : Nat → N_), f_list C l (u_fs s x y) = u_fs (f_list C l s) x y
  | [], _, _, _ => rfl
  | a :: l, s, x, y => fl_fs l (f_note C a s) x y
theorem oQ_tE {n : Int} (h : tE w w') (ho : oK w) (hf : ∀ id : Nat, id < 180 → w.2 46 (id / 60) ≠ 0 → ∀ s : Nat, s < 9 → w'.2 37 (id * 9 + s) = w.2 37 (id * 9 + s)) : oQ n w w' := by
  have e46 := h.2 46 (by decide) (by decide)
  refine ⟨⟨h.1 41 12 (by decide), h.1 41 13 (by decide)⟩, fun k _ => by rw [h.2 34 (by decide) (by decide)], h.2 42 (by decide) (by decide), ⟨by rw [h.1 13 2 (by decide)]; exact Int.le_refl _, fun k _ => by rw [h.2 13 (by decide) (by decide)]⟩, fun j => h.1 50 j (by decide), ⟨h.2 51 (by decide) (by decide), h.2 53 (by decide) (by decide), h.2 20 (by decide) (by decide), h.2 3 (by decide) (by decide), h.2 5 (by decide) (by decide), h.2 7 (by decide) (by decide), by rw [h.1 17 3 (by decide)]; exact Int.le_refl _, fun k _ => by rw [h.2 22 (by decide) (by decide)], rQ_1 (fun a j q => h.1 a j (by omega)) (fun b q => h.2 b (by omega) (by omega))⟩, ⟨h.1 17 7 (by decide), h.2 _ (by omega) (by omega), h.1 _ 4 (by omega)⟩, fun m hb t q => ?_⟩
  exact eW_ch (h.2 3 (by decide) (by decide)) (h.2 5 (by decide) (by decide)) (h.2 7 (by decide) (by decide)) (fun id h1 h2 => ⟨by rw [e46]; exact h2, hf id h1 h2⟩) q
theorem CR_tE (H : CR C sil o a0 D K0 s w) (h : tE w w') (X : xP w w') : CR C sil o a0 D K0 s w' := by
  obtain ⟨Ha, Hb, Hc, Hm⟩ := H
  have ho := Ha.1.1
  have h0 := Hc.2.2.2.1.1
  have g := h.2
  refine ⟨?_, ?_, ?_, ?_⟩
  · unfold CRa at Ha ⊢
    rw [h.1 17 7 (by decide), h.1 17 4 (by decide), h.1 17 5 (by decide), h.1 17 6 (by decide), h.1 o 5 (by omega), g (o + 3) (by omega) (by omega), g 18 (by decide) (by decide)]
    exact Ha
  · unfold CRb at Hb ⊢
    rw [h.1 17 3 (by decide), g 22 (by decide) (by decide), h.1 41 14 (by decide), h.1 41 15 (by decide), h.1 41 16 (by decide), h.1 41 17 (by decide)]
    exact Hb
  · obtain ⟨c0, c4, c5, c6, c7⟩ := Hc
    refine ⟨?_, ?_, fun f hf hq m hm => ?_, ?_, c7⟩
    · rw [h.1 o 7 (by omega), h.1 o 8 (by omega), h.1 13 2 (by decide), g 13 (by decide) (by decide), g 7 (by decide) (by decide)]; exact c0
    · rw [g 46 (by decide) (by decide)]; exact c4
    · have h1 := c5 f hf hq m hm
      rw [g 44 (by decide) (by decide)]
      show match s_fe s f m with
        | none => _
        | some v => vR (w'.1 13 2) (w'.2 13) (fW0 w') v (w.2 44 (f * 10 + m))
      cases q : s_fe s f m with
      | none => rw [q] at h1; exact h1
      | some v => rw [q] at h1; exact v0_x X h0 h1
    · rw [h.1 13 2 (by decide)]; exact c6
  · unfold CRm at Hm ⊢
    rw [h.1 10 1 (by decide), h.1 13 2 (by decide), h.1 13 3 (by decide), g 11 (by decide) (by decide), g 13 (by decide) (by decide), g 3 (by decide) (by decide), g 5 (by decide) (by decide), g 7 (by decide) (by decide)]
    exact Hm
theorem RD_tE (H : RD C sil o a0 D K0 hb s E w) (h : tE w w') (hf : ∀ id : Nat, id < 180 → w.2 46 (id / 60) ≠ 0 → ∀ s : Nat, s < 9 → w'.2 37 (id * 9 + s) = w.2 37 (id * 9 + s)) : RD C sil o a0 D K0 hb s E w' := by
  have O : oQ (w.1 33 1) w w' := oQ_tE h (RD_oK H.1) hf
  have e := h.1 33 1 (by decide)
  exact RD_o H (CR_tE H.1 h O.2.2.2) O rfl (Nat.le_refl _) H.2.2.2.2.2.1 ⟨by omega, by rw [e]; exact H.2.2.2.1.2⟩
/-- how deep calls are is another -/
theorem oQ_14 {n : Int} {x : Int} (ho : oK w) : oQ n w (w_f w 41 14 x) := by
  have e : ∀ a j, ¬ (a = 41 ∧ j = 14) → (w_f w 41 14 x).1 a j = w.1 a j := fun a j q => by rw [w_f1, w_u_at, if_neg q]
  exact ⟨⟨e _ _ (by decide), e _ _ (by decide)⟩, fun _ _ => rfl, rfl, ⟨by rw [e _ _ (by decide)]; exact Int.le_refl _, fun _ _ => rfl⟩, fun j => e _ _ (by omega), ⟨rfl, rfl, rfl, rfl, rfl, rfl, by rw [e _ _ (by decide)]; exact Int.le_refl _, fun _ _ => rfl, rQ_1 (fun a j q => e _ _ (by omega)) (fun _ _ => rfl)⟩, ⟨e _ _ (by decide), rfl, e _ _ (by omega)⟩, fun _ _ _ q => q⟩
theorem RD_14 {d : Nat} (H : RD C sil o a0 D K0 hb s E w) (nD : ¬ D) (hd : d ≤ 8) : RD C sil o a0 D K0 hb (u_dp s d) E (w_f w 41 14 d) := by
  have ho := RD_oK H.1
  have e : ∀ a j, ¬ (a = 41 ∧ j = 14) → (w_f w 41 14 (d : Int)).1 a j = w.1 a j := fun a j q => by rw [w_f1, w_u_at, if_neg q]
  have e14 : (w_f w 41 14 (d : Int)).1 41 14 = d := by rw [w_f1, w_u_at, if_pos ⟨rfl, rfl⟩]
  refine RD_o H ?_ (oQ_14 ho) rfl (Nat.le_refl _) H.2.2.2.2.2.1 (by rw [e _ _ (by decide)]; exact ⟨Int.le_refl _, H.2.2.2.1.2⟩)
  obtain ⟨Ha, Hb, Hc, Hm⟩ := H.1
  have ho := Ha.1.1
  refine ⟨?_, ?_, ?_, ?_⟩
  · unfold CRa at Ha ⊢
    rw [e 17 7 (by decide), e 17 4 (by decide), e 17 5 (by decide), e 17 6 (by decide), e o 5 (by omega)]
    exact Ha
  · obtain ⟨b1, b2, b3, b4, b5⟩ := Hb
    refine ⟨?_, ⟨e14, hd⟩, ?_, fun q => absurd q nD, ?_, ?_⟩
    · rw [e 17 3 (by decide)]; exact b1
    · rw [e 41 15 (by decide)]; exact b3
    · rw [e 41 16 (by decide)]; exact b5.1
    · rw [e 41 17 (by decide)]; exact b5.2
  · unfold CRc at Hc ⊢
    rw [e o 7 (by omega), e o 8 (by omega), e 13 2 (by decide)]
    exact Hc
  · unfold CRm at Hm ⊢
    rw [e 10 1 (by decide), e 13 2 (by decide), e 13 3 (by decide)]
    exact Hm
/-- the states of files and their names are others -/
theorem RD_fs46 {f x : Nat} {fe : Nat → N_} (H : RD C sil o a0 D K0 hb s E w) (hx : x = 1 ∨ x = 2) (h1 : w'.1 = w.1) (h2 : ∀ b, b ≠ 44 → b ≠ 46 → w'.2 b = w.2 b) (h46 : ∀ k, w'.2 46 k = if k = f then (x : Int) else w.2 46 k) (hfe : xP w w' → ∀ g, g < 3 → (if g = f then x else s_fs s g) = 2 → nR (w'.1 13 2) (w'.2 13) (fW0 w') (fe g) (w'.2 44) g) : RD C sil o a0 D K0 hb (u_fs s (fun g => if g = f then x else s_fs s g) fe) E w' ∧ ∀ n, oQ n w w' := by
  have ho := RD_oK H.1
  have O : ∀ n, oQ n w w' := fun n => by
    refine ⟨⟨by rw [h1], by rw [h1]⟩, fun k _ => by rw [h2 34 (by decide) (by decide)], h2 42 (by decide) (by decide), ⟨by rw [h1]; exact Int.le_refl _, fun k _ => by rw [h2 13 (by decide) (by decide)]⟩, fun j => by rw [h1], ⟨h2 51 (by decide) (by decide), h2 53 (by decide) (by decide), h2 20 (by decide) (by decide), h2 3 (by decide) (by decide), h2 5 (by decide) (by decide), h2 7 (by decide) (by decide), by rw [h1]; exact Int.le_refl _, fun k _ => by rw [h2 22 (by decide) (by decide)], rQ_1 (fun a j _ => by rw [h1]) (fun b q => h2 b (by omega) (by omega))⟩, ⟨by rw [h1], h2 _ (by omega) (by omega), by rw [h1]⟩, fun m hb t q => ?_⟩
    refine eW_ch (h2 3 (by decide) (by decide)) (h2 5 (by decide) (by decide)) (h2 7 (by decide) (by decide)) (fun id _ q2 => ⟨?_, fun s _ => by rw [h2 37 (by decide) (by decide)]⟩) q
    rw [h46]
    split
    · omega
    · exact q2
  have X := (O 0).2.2.2
  refine ⟨RD_o H ?_ (O _) rfl (Nat.le_refl _) H.2.2.2.2.2.1 (by rw [h1]; exact ⟨Int.le_refl _, H.2.2.2.1.2⟩), O⟩
  obtain ⟨Ha, Hb, Hc, Hm⟩ := H.1
  have ho := Ha.1.1
  refine ⟨?_, ?_, ?_, ?_⟩
  · unfold CRa at Ha ⊢
    rw [h1, h2 (o + 3) (by omega) (by omega), h2 18 (by decide) (by decide)]
    exact Ha
  · unfold CRb at Hb ⊢
    rw [h1, h2 22 (by decide) (by decide)]
    exact Hb
  · obtain ⟨c0, c4, c5, c6, c7⟩ := Hc
    refine ⟨by rw [h1, h2 13 (by decide) (by decide), h2 7 (by decide) (by decide)]; exact c0, fun g hg => ?_, hfe X, by rw [h1]; exact c6, c7⟩
    show w'.2 46 g = ((if g = f then x else s_fs s g : Nat) : Int) ∧ (if g = f then x else s_fs s g) ≤ 2
    rw [h46]
    by_cases c : g = f
    · rw [if_pos c, if_pos c]
      exact ⟨rfl, by omega⟩
    · rw [if_neg c, if_neg c]
      exact c4 g hg
  · unfold CRm at Hm ⊢
    rw [h1, h2 11 (by decide) (by decide), h2 13 (by decide) (by decide), h2 3 (by decide) (by decide), h2 5 (by decide) (by decide), h2 7 (by decide) (by decide)]
    exact Hm
/-- a row of names, all of them unnamed -/
theorem RD_scp (H : RD C sil o a0 D K0 hb s E w) (hr : s_rw s < 2040) : RD C sil o a0 D K0 false (u_rw s (s_rw s + 1)) n_none (w_scp w 20003) ∧ wS w (w_scp w 20003) ∧ ((w_scp w 20003).1 41 12 = w.1 41 12 + 1 ∧ (w_scp w 20003).1 33 1 = w.1 33 1 ∧ (w_scp w 20003).1 41 13 = w.1 41 13 ∧ (w_scp w 20003).1 41 10 = w.1 41 10 ∧ (w_scp w 20003).2 34 = w.2 34) ∧ ∀ k : Nat, (k : Int) < 10 * (w.1 41 12 + 1) → (w_scp w 20003).2 42 k = w.2 42 k := by
  obtain ⟨h1, h2, h3, h4, h5, h6, h7, h8⟩ := H
  have e : w_scp w 20003 = w_fill (w_f w 41 12 (w.1 41 12 + 1)) 42 ((w.1 41 12 + 1) * 10).toNat ((w.1 41 12 + 1) * 10 + 10).toNat 20005 := by
    unfold w_scp w_bind
    rw [if_pos (by decide)]
  have I2 : ∀ k, (w_scp w 20003).2 42 k = if ((w.1 41 12 + 1) * 10).toNat ≤ k ∧ k < ((w.1 41 12 + 1) * 10 + 10).toNat then 20005 else w.2 42 k := fun k => by
    rw [e]
    show (if 42 = 42 ∧ _ ≤ k ∧ k < _ then (20005 : Int) else w.2 42 k) = _
    simp only [true_and]
  have S : wS w (w_scp w 20003) := by
    rw [e]
    exact wS_tr (wS_f (Or.inr ⟨rfl, by decide⟩)) (wS_fill (Or.inr rfl))
  have i1 : ∀ a j, ¬ (a = 41 ∧ j = 12) → (w_scp w 20003).1 a j = w.1 a j := fun a j q => by rw [w_scp1, if_neg q]
  have i12 : (w_scp w 20003).1 41 12 = w.1 41 12 + 1 := by rw [w_scp1, if_pos ⟨rfl, rfl⟩]
  refine ⟨⟨CR_rw (CR_S h1 S) hr, fun m hm => ?_, fun q => Bool.noConfusion q, ?_, ?_, h6, ?_, ?_⟩, S, ⟨i12, i1 _ _ (by decide), i1 _ _ (by decide), i1 _ _ (by decide), w_scp_2 w _ (by decide)⟩, fun k hk => ?_⟩
  · show (w_scp w 20003).2 42 (((w_scp w 20003).1 41 12).toNat * 10 + m) = 20005
    rw [i12, I2, if_pos ⟨by omega, by omega⟩]
  · rw [i1 33 1 (by decide)]; exact h4
  · rw [i12]
    refine ⟨by omega, ?_⟩
    show w.1 41 12 + 1 ≤ ((s_rw s + 1 : Nat) : Int)
    omega
  · rw [S.2.2 3 (by decide) (by decide)]; exact h7
  · rw [S.2.2 3 (by decide) (by decide), S.2.2 5 (by decide) (by decide), S.2.2 7 (by decide) (by decide)]; exact h8
  · rw [I2, if_neg (by omega)]
end
