/-! ===== the class runs as the evaluator: IMPORT ===== -/
section
variable {C : C_} {sil : Bool} {o a0 : Nat} {D : Prop} {K0 : Int} {hb : Bool} {s s1 : S_} {E E1 : N_} {w : W_} {fr : Nat} {Q : Option am_V → W_ → Prop} {i : Int} {k : Nat} {n : Int} {id : Nat} {a b c v : T_}
/-- a file's name is looked at -/
theorem sim_nm {w0 w5 : W_} {s5 : S_} {f mm dd : Nat} (R5 : RD C sil o a0 D K0 hb s5 E w5) (nD : ¬ D) (hf : 20 ≤ fr) (hc : w5.1 33 1 = w0.1 33 1 + 1) (hc0 : 0 ≤ w0.1 33 1) (hq : fQ (w0.1 33 1) hb w0 w5) (htx : hb = true → w0.1 41 13 < w0.1 33 1) (f0 : f_t w5 0 = 4) (f1 : f_t w5 1 = (id : Int)) (f2 : f_t w5 2 = 1) (f10 : f_t w5 10 = (dd : Int)) (dd8 : dd ≤ 8) (hid : id < 180) (g3 : w_g w5 5 id = n) (n0 : 0 ≤ n ∧ n < 100) (ef : n / 10 % 3 = (f : Int)) (f3 : f < 3) (em : n % 10 = (mm : Int)) (hs2 : s_fs s5 f = 2) (hd : w5.1 41 10 = -1) (hi : 0 ≤ i ∧ i ≤ 900000) (hN : s_nt s1 ≤ 900000) (h : o_name C id (s_fe s5 f mm) E (u_dp s5 dd) = some (v, E1, s1)) (K : ∀ w', RD C sil o a0 D K0 hb s1 E1 w' → w'.1 33 1 = w0.1 33 1 → fQ (w0.1 33 1) hb w0 w' → vW_ w' v (w'.1 41 11) → w'.1 41 10 = -1 → dr fr Q (i + 1) w') : dr fr Q i w5 := by
  have hcn := R5.1.2.2.1.2.2.2
  have hct := R5.2.2.2.1
  have ho := RD_oK R5.1
  have kn := (CR_o R5.1).2
  have hnr := R5.1.2.2.1.2.2.1 f f3 hs2 mm (by omega)
  have c1 : 1 ≤ w5.1 33 1 ∧ w5.1 33 1 < 24000 := by omega
  have ek : w_g w5 44 (n / 10 % 3 * 10 + n % 10) = w5.2 44 (f * 10 + mm) := w_g_0 w5 44 (by omega)
  have htq : hb = true → w5.1 41 13 < w0.1 33 1 := fun q => by rw [hq.1.2]; exact htx q
  have R6 := RD_14 (d := dd) R5 nD dd8
  obtain ⟨R7, c7⟩ := RD_po (n := w0.1 33 1) R6 hc hc0 htq
  have O6 : oQ (w0.1 33 1) w5 (w_f w5 41 14 (dd : Int)) := oQ_14 ho
  have h6 := oK_x O6.2.2.2 ho
  have O7 : oQ (w0.1 33 1) w5 (w_po (w_f w5 41 14 (dd : Int))) := oQ_tr O6 (oQ_po h6)
  have h7 := oK_x O7.2.2.2 ho
  have d7 : (w_po (w_f w5 41 14 (dd : Int))).1 41 10 = -1 := hd
  cases q : s_fe s5 f mm with
  | none =>
    rw [q] at h hnr
    have hnr : w5.2 44 (f * 10 + mm) = 20005 := hnr
    have hs1 : f_note C (f_code 4 id) (u_dp s5 dd) = s1 := by
      have := congrArg (fun z => z.map fun y => y.2.2) h
      injection this
    have hE : E = E1 := by
      have := congrArg (fun z => z.map fun y => y.2.1) h
      injection this
    have hv : vW = v := by
      have := congrArg (fun z => z.map fun y => y.1) h
      injection this
    subst hs1 hE hv
    refine dr_4 (f := 6) (by omega) hd c1 f0 (lk_93e (id := (id : Int)) (n := n) f1 f2 ⟨by omega, by omega⟩ g3 n0 (ek.trans hnr) kn c1) (by omega) (by omega) fun w' hw => ?_
    have hcode : (100000 * 4 + w_spot (id : Int)) = f_code 4 id := f_code_w 4 id
    rw [hw, f10, hcode]
    have R8 := RD_val (j := 11) (x := 20005) R7 (Or.inr rfl)
    have O8 : oQ (w0.1 33 1) (w_po (w_f w5 41 14 (dd : Int))) (w_f (w_po (w_f w5 41 14 (dd : Int))) 41 11 20005) := oQ_val h7 (Or.inr rfl)
    have h8 := oK_x O8.2.2.2 h7
    have hN' : s_nt s5 + 1 ≤ 900000 := hN
    exact sim_fin (w0 := w0) (RD_nt (f := f_code 4 id) R8 (by show s_nt s5 < 1000000; omega)) ((w_nt_n h8).1.trans c7) (fQ_tr hq (oQ_fQ (oQ_tr O7 (oQ_tr O8 (oQ_nt h8))))) ((w_nt_n h8).2.1.trans d7) vW_W K
  | some x =>
    rw [q] at h hnr
    have hnr : vW_ w5 x (w5.2 44 (f * 10 + mm)) := by
      have z : vR (w5.1 13 2) (w5.2 13) (fW0 w5) x (w5.2 44 (f * 10 + mm)) := hnr
      have g : g0 (w5.2 7) := R5.2.2.2.2.2.2.2.2.resolve_left nD
      exact vR_mono hcn.1.1 (Int.le_refl _) (fun _ _ => rfl) (fW_g0 g) z
    have hs1 : u_dp s5 dd = s1 := by
      have := congrArg (fun z => z.map fun y => y.2.2) h
      injection this
    have hE : E = E1 := by
      have := congrArg (fun z => z.map fun y => y.2.1) h
      injection this
    have hv : x = v := by
      have := congrArg (fun z => z.map fun y => y.1) h
      injection this
    subst hs1 hE hv
    have rg := vW_rg hcn.1.1 (by omega) hnr
    have hx := cR_lt hcn.1.1 hnr.1
    have n5 : w5.2 44 (f * 10 + mm) ≠ 20005 := vW_un hnr
    refine dr_4 (f := 6) (by omega) hd c1 f0 (lk_93d (id := (id : Int)) (n := n) (v := w5.2 44 (f * 10 + mm)) f1 f2 ⟨by omega, by omega⟩ g3 n0 ek ⟨rg.1, n5⟩ c1) (by omega) (by omega) fun w' hw => ?_
    rw [hw, f10]
    exact sim_fin (w0 := w0) R7 c7 (fQ_tr hq (oQ_fQ O7)) d7 (vW_x O7.2.2.2 hcn.1.1 hnr) K
end
