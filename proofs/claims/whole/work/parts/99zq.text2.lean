/-! ===== the class runs as the evaluator: behind an item ===== -/
theorem t_mks_0 {q : T_} {s : S_} (h : s_tl s = .nil) : t_mks q s = q := by
  unfold t_mks
  rw [h]
theorem t_mks_1 {q : T_} {s : S_} (h : s_tl s ≠ .nil) : t_mks q s = v_chain q (s_tl s) := by
  unfold t_mks
  cases e : s_tl s <;> first | rfl | exact absurd e h
section
variable {C : C_} {sil : Bool} {o a0 : Nat} {D : Prop} {K0 : Int} {hb : Bool} {s s1 : S_} {E E1 : N_} {w : W_} {fr : Nat} {Q : Option am_V → W_ → Prop} {i : Int} {k : Nat} {n : Int} {id : Nat} {a b c v : T_}
/-- marks that wait go into the text -/
theorem RT_mk {w0 W : W_} {own : Int} {t q : T_} {f : Bool} (R : RD C sil o a0 D K0 true s E W) (T : TX w0 own t q f W) (hm : mkW (s_tl s)) (hn : s_nd s + 1 ≤ 11 * s_tb s + 300) : RD C sil o a0 D K0 true (u_tl (u_nd s 1) .nil) E (w_apm W) ∧ TX w0 own t (t_mks q s) f (w_apm W) ∧ oQ (w0.1 33 1) W (w_apm W) ∧ (w_apm W).1 33 1 = W.1 33 1 ∧ (w_apm W).1 41 10 = W.1 41 10 := by
  have hcn := R.1.2.2.1.2.2.2
  have h0 := hcn.1.1
  have ho := RD_oK R.1
  obtain ⟨⟨t1, t2, t3⟩, ⟨t4, t5, t6, t7⟩, t8, t9, t10⟩ := T
  have ht : W.1 41 13 = W.1 33 1 - 1 := by omega
  have h1 : 1 ≤ W.1 33 1 := by omega
  obtain ⟨m1, m2, m3, m4⟩ := ft_mkR ht R.2.2.1
  have hnil := cR_ne m1
  have h78 : f_t W 8 = 0 → f_t W 7 = 0 := fun e8 => by
    by_cases e7 : f_t W 7 = 0
    · exact e7
    · have a1 := m4 1 (by decide) (by decide)
      have a2 := m4 2 (by decide) (by decide)
      rw [if_neg e7, if_pos e8] at a1 a2
      omega
  by_cases c : s_tl s = .nil
  · have e5 : f_t W 5 = 20003 := hnil.mpr c
    have eZ : w_apm W = W := by
      unfold w_apm
      dsimp only
      rw [if_pos e5]
    rw [eZ, t_mks_0 c]
    rw [c] at m1 m4
    have HR : hS W W := hS_rf _
    have R1 := RD_h (k := 1) R HR (by omega) hn
    exact ⟨RD_top (x := .nil) R1 (wS_refl W) rfl rfl (mkR_ft ht h1 m1 m2 m3 m4), ⟨⟨t1, t2, t3⟩, ⟨t4, t5, t6, t7⟩, t8, t9, t10⟩, oQ_refl W ho, rfl, rfl⟩
  · have e5 : f_t W 5 ≠ 20003 := fun r => c (hnil.mp r)
    rw [t_mks_1 c]
    obtain ⟨M, u, eM, eu, X1, X2, X3⟩ := chn h0 ho (CR_gN R.1) t8 m1
    have RM := RD_h (k := 1) R X1 X2 hn
    have c33 : M.1 33 1 = W.1 33 1 := X1.1 33 1 (by decide)
    have c13 : M.1 41 13 = W.1 41 13 := X1.1 41 13 (by decide)
    have c10 : M.1 41 10 = W.1 41 10 := X1.1 41 10 (by decide)
    have fM : ∀ g, f_t M g = f_t W g := fun g => by
      unfold f_t w_g
      rw [c33, X1.2.1 34 (by decide)]
    have h1M : 1 ≤ M.1 33 1 := by omega
    have hoM := oK_x (hS_x X1 ho) ho
    have eZ : w_apm W = if f_t W 8 = 0 then w_fs (w_fs M 4 u) 5 20003 else w_fs (w_fs (w_fs M 4 u) 5 20003) 7 (f_t W 8) := by
      unfold w_apm
      dsimp only
      rw [if_neg e5, ← eM, ← eu]
    have o1 : oQ (w0.1 33 1) M (w_fs M 4 u) := oQ_fs hoM (by omega) (by omega) (by decide)
    have k1 := oK_x o1.2.2.2 hoM
    have o2 : oQ (w0.1 33 1) (w_fs M 4 u) (w_fs (w_fs M 4 u) 5 20003) := oQ_fs k1 (by show w0.1 33 1 ≤ M.1 33 1 - 1; omega) (by show 0 ≤ M.1 33 1 - 1; omega) (by decide)
    have k2 := oK_x o2.2.2.2 k1
    have o3 : oQ (w0.1 33 1) (w_fs (w_fs M 4 u) 5 20003) (w_fs (w_fs (w_fs M 4 u) 5 20003) 7 (f_t W 8)) := oQ_fs k2 (by show w0.1 33 1 ≤ M.1 33 1 - 1; omega) (by show 0 ≤ M.1 33 1 - 1; omega) (by decide)
    have S2 : wS M (w_fs (w_fs M 4 u) 5 20003) := wS_tr (wS_fs _ _ _) (wS_fs _ _ _)
    have X : ∃ Z, Z = w_apm W ∧ wS M Z ∧ Z.1 = M.1 ∧ Z.2 42 = M.2 42 ∧ oQ (w0.1 33 1) M Z ∧ (f_t Z 7 = if f_t W 8 = 0 then f_t W 7 else f_t W 8) ∧ ∀ g : Int, 0 ≤ g → g ≠ 7 → f_t Z g = if g = 5 then 20003 else if g = 4 then u else f_t W g := by
      have F2 : ∀ g : Int, 0 ≤ g → f_t (w_fs (w_fs M 4 u) 5 20003) g = if g = 5 then 20003 else if g = 4 then u else f_t W g := fun g g0 => by
        rw [f_t_fs0 (by exact h1M) (by decide) g0, f_t_fs0 (by exact h1M) (by decide) g0, fM]
      refine ⟨_, rfl, ?_⟩
      rw [eZ]
      by_cases e8 : f_t W 8 = 0
      · rw [if_pos e8, if_pos e8]
        refine ⟨S2, rfl, (w_fs2 _ _ _ (by decide)).trans (w_fs2 _ _ _ (by decide)), oQ_tr o1 o2, ?_, fun g g0 _ => F2 g g0⟩
        rw [F2 7 (by decide)]; rfl
      · rw [if_neg e8, if_neg e8]
        refine ⟨wS_tr S2 (wS_fs _ _ _), rfl, ((w_fs2 _ _ _ (by decide)).trans (w_fs2 _ _ _ (by decide))).trans (w_fs2 _ _ _ (by decide)), oQ_tr (oQ_tr o1 o2) o3, ?_, fun g g0 g7 => ?_⟩
        · rw [f_t_fs0 (by exact h1M) (by decide) (by decide), if_pos rfl]
        · rw [f_t_fs0 (by exact h1M) (by decide) g0, if_neg g7]; exact F2 g g0
    obtain ⟨Z, eZ', S, z1, z2, zo, z7, F⟩ := X
    rw [← eZ']
    have htZ : Z.1 41 13 = Z.1 33 1 - 1 := by rw [z1]; omega
    have h1Z : 1 ≤ Z.1 33 1 := by rw [z1]; omega
    have F8 : f_t Z 8 = f_t W 8 := by rw [F 8 (by decide) (by decide)]; rfl
    have F5 : f_t Z 5 = 20003 := by rw [F 5 (by decide) (by decide)]; rfl
    have r7 : 0 ≤ f_t Z 7 ∧ f_t Z 7 ≤ 3 := by rw [z7]; split <;> omega
    refine ⟨RD_top (x := .nil) RM S z1 z2 (mkR_ft htZ h1Z ?_ r7 (by rw [F8]; exact m3) fun z y1 y3 => ?_), ⟨⟨by rw [z1]; omega, by rw [z1]; omega, t3⟩, ⟨?_, ?_, ?_, ?_⟩, ?_, ?_, fun z y1 y3 => ?_⟩, oQ_tr (oQ_h X1 ho) zo, by rw [z1]; exact c33, by rw [z1]; exact c10⟩
    · rw [F5]; exact rfl
    · show (((if f_t Z 7 = 0 then z else (f_t Z 7).toNat) : Nat) : Int) = _
      rw [F8]
      by_cases e8 : f_t W 8 = 0
      · rw [if_pos e8] at z7 ⊢
        have := h78 e8
        rw [if_pos (by omega)]
      · rw [if_neg e8] at z7 ⊢
        rw [if_neg (by omega)]
        omega
    · rw [F 0 (by decide) (by decide)]; exact t4
    · rw [F 1 (by decide) (by decide)]; exact t5
    · rw [F 3 (by decide) (by decide)]; exact t6
    · rw [F 9 (by decide) (by decide)]; exact t7
    · rw [F 4 (by decide) (by decide)]; exact cW_x (xP_S S hoM) X3
    · rw [F 6 (by decide) (by decide)]; exact t9
    · obtain ⟨q1, q2, q3⟩ := t10 z y1 y3
      have e0 := hm (v_wq q z).2
      have ew := chain_w1 (q := q) (v := s_tl s) (z := z) (by rw [e0]; decide)
      rw [e0] at ew
      have e9 : (v_wq (v_chain q (s_tl s)) z).1 = (v_wq q z).1 := by
        rw [ew]
        unfold m9
        omega
      refine ⟨?_, by rw [e9]; exact q2, ?_⟩
      · rw [e9, q1, F (9 + z) (by omega) (by omega), if_neg (by omega), if_neg (by omega)]
      · rw [chain_wq]
        have a := m4 z y1 y3
        have eq2 : (v_wq q z).2 = if f_t W 7 = 0 then z else (f_t W 7).toNat := by
          split
          · next h => rw [if_pos h] at q3; omega
          · next h => rw [if_neg h] at q3; omega
        rw [eq2, a, z7]
        by_cases e8 : f_t W 8 = 0
        · have := h78 e8
          rw [if_pos e8, if_pos e8, if_pos this]
        · rw [if_neg e8, if_neg e8, if_neg e8]
/-- no marks wait -/
theorem RT_mk0 {w0 W : W_} {own : Int} {t q : T_} {f : Bool} (R : RD C sil o a0 D K0 true s E W) (T : TX w0 own t q f W) (c : s_tl s = .nil) : RD C sil o a0 D K0 true (u_tl s .nil) E (w_apm W) ∧ TX w0 own t (t_mks q s) f (w_apm W) ∧ oQ (w0.1 33 1) W (w_apm W) ∧ (w_apm W).1 33 1 = W.1 33 1 ∧ (w_apm W).1 41 10 = W.1 41 10 := by
  have T' := T
  obtain ⟨⟨t1, t2, t3⟩, -⟩ := T'
  have ht : W.1 41 13 = W.1 33 1 - 1 := by omega
  have h1 : 1 ≤ W.1 33 1 := by omega
  obtain ⟨m1, m2, m3, m4⟩ := ft_mkR ht R.2.2.1
  have e5 : f_t W 5 = 20003 := (cR_ne m1).mpr c
  have eZ : w_apm W = W := by
    unfold w_apm
    dsimp only
    rw [if_pos e5]
  rw [eZ, t_mks_0 c]
  rw [c] at m1 m4
  exact ⟨RD_top (x := .nil) R (wS_refl W) rfl rfl (mkR_ft ht h1 m1 m2 m3 m4), T, oQ_refl W (RD_oK R.1), rfl, rfl⟩
/-- behind an item -/
theorem RT_tt {w0 W : W_} {own : Int} {r q x : T_} {f : Bool} {y : Int} (R : RD C sil o a0 D K0 true s E W) (T : TX w0 own (ct k n id x r) q f W) (hv : vW_ W v y) (hm : mkW (s_tl s)) {kk : Nat} (hk : kk = 2 ∨ kk = 1 ∧ s_tl s = .nil) (hn : s_nd s + kk ≤ 11 * s_tb s + 300) (hi : w_g W 37 (id * 9 + 3) - 1 = it_id r) : RD C sil o a0 D K0 true (u_tl (u_nd s kk) .nil) E (w_tt W y id) ∧ TX w0 own r (t_mks (t_app q f v).1 s) (t_app q f v).2 (w_tt W y id) ∧ oQ (w0.1 33 1) W (w_tt W y id) ∧ f_t (w_tt W y id) 2 = 0 ∧ (w_tt W y id).1 41 10 = W.1 41 10 := by
  have hn1 : s_nd s + 1 ≤ 11 * s_tb s + 300 := by omega
  obtain ⟨R1, T1, O1, c1, d1⟩ := RT_ap R T hv hn1
  have ek : t_mks (t_app q f v).1 (u_nd s 1) = t_mks (t_app q f v).1 s := rfl
  have X : RD C sil o a0 D K0 true (u_tl (u_nd s kk) .nil) E (w_apm (w_ap W y)) ∧ TX w0 own (ct k n id x r) (t_mks (t_app q f v).1 s) (t_app q f v).2 (w_apm (w_ap W y)) ∧ oQ (w0.1 33 1) (w_ap W y) (w_apm (w_ap W y)) ∧ (w_apm (w_ap W y)).1 33 1 = (w_ap W y).1 33 1 ∧ (w_apm (w_ap W y)).1 41 10 = (w_ap W y).1 41 10 := by
    rcases hk with rfl | ⟨rfl, hk⟩
    · have z := RT_mk (s := u_nd s 1) R1 T1 hm (by show s_nd s + 1 + 1 ≤ 11 * s_tb s + 300; omega)
      have es : u_tl (u_nd (u_nd s 1) 1) .nil = u_tl (u_nd s 2) .nil := rfl
      rw [es, ek] at z
      exact z
    · have z := RT_mk0 (s := u_nd s 1) R1 T1 hk
      rw [ek] at z
      exact z
  obtain ⟨R2, T2, O2, c2, d2⟩ := X
  have ho2 := RD_oK R2.1
  have T2' := T2
  obtain ⟨⟨t1, t2, t3⟩, ⟨t4, t5, t6, t7⟩, t8, t9, t10⟩ := T2
  unfold w_tt
  rw [hi]
  generalize w_apm (w_ap W y) = Z at *
  have ht : Z.1 41 13 = Z.1 33 1 - 1 := by omega
  have h1 : 1 ≤ Z.1 33 1 := by omega
  have R3 := RD_fsT (f := 2) (x := 0) R2 (by decide) (by decide) ht h1
  have R4 := RD_fsT (f := 3) (x := it_id r) R3 (by decide) (by decide) ht h1
  have F : ∀ g : Int, 0 ≤ g → f_t (w_fs (w_fs Z 2 0) 3 (it_id r)) g = if g = 3 then it_id r else if g = 2 then 0 else f_t Z g := fun g g0 => by
    rw [f_t_fs0 (by exact h1) (by decide) g0, f_t_fs0 (by exact h1) (by decide) g0]
  have S : wS Z (w_fs (w_fs Z 2 0) 3 (it_id r)) := wS_tr (wS_fs _ _ _) (wS_fs _ _ _)
  have o1 : oQ (w0.1 33 1) Z (w_fs Z 2 0) := oQ_fs ho2 (by omega) (by omega) (by decide)
  have o2 : oQ (w0.1 33 1) (w_fs Z 2 0) (w_fs (w_fs Z 2 0) 3 (it_id r)) := oQ_fs (oK_x o1.2.2.2 ho2) (by show w0.1 33 1 ≤ Z.1 33 1 - 1; omega) (by show 0 ≤ Z.1 33 1 - 1; omega) (by decide)
  refine ⟨R4, ⟨⟨t1, t2, t3⟩, ⟨?_, ?_, ?_, ?_⟩, ?_, ?_, fun z y1 y3 => ?_⟩, oQ_tr O1 (oQ_tr O2 (oQ_tr o1 o2)), ?_, d2.trans d1⟩
  · rw [F 0 (by decide)]; exact t4
  · rw [F 1 (by decide)]; exact t5
  · rw [F 3 (by decide)]; rfl
  · rw [F 9 (by decide)]; exact t7
  · rw [F 4 (by decide)]; exact cW_x (xP_S S ho2) t8
  · rw [F 6 (by decide)]; exact t9
  · obtain ⟨q1, q2, q3⟩ := t10 z y1 y3
    refine ⟨?_, q2, ?_⟩
    · rw [F (9 + z) (by omega), if_neg (by omega), if_neg (by omega)]; exact q1
    · have F7 : f_t (w_fs (w_fs Z 2 0) 3 (it_id r)) 7 = f_t Z 7 := by rw [F 7 (by decide)]; rfl
      rw [F7]; exact q3
  · rw [F 2 (by decide)]; rfl
end
