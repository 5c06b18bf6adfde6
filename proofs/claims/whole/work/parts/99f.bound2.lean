/-! ===== the evaluator: it always comes to an end: texts, bodies, files ===== -/
theorem eBR_of_tl {o c c' x r : Nat} {s s1 s2 : S_} (h : eBQ o c (u_go s) s1) (so : eSO x r s1 s2) (hr : r ≤ 1) (hc : c + 1 ≤ c') (hx1 : 11 * x ≤ 22 * (c' - c)) (hx2 : 11 * x ≤ 110 + (c' - c)) (tl : s_tl s2 = s_tl s1) : eBQ o c' s s2 := by
  have ho : o + kt s1 ≤ s_tb s1 := h.2.2.2.2.2.2.2.2.2.1
  have ek : kt s2 = kt s1 := by show mk0 (s_tl s2) = _; rw [tl]
  have et : s_tb s2 = s_tb s1 := so.2.2.1
  exact eBQ_end h so hr hc hx1 hx2 (by omega) (by omega) (by rw [ek, et]; exact sG_same h.2.2.2.2.2.2.2.2.1 so.2.2.2.1 so.2.2.2.2.1 tl)
theorem eBQ_same {o c x : Nat} {s s1 s2 : S_} (h : eBQ o c s s1) (so : eSO 0 0 s1 s2) (tl : s_tl s2 = s_tl s1) : eBQ o c s s2 := by
  obtain ⟨a1, a2, a3, a4, a5, a6, a7, a8, a9, a10, a11⟩ := h
  obtain ⟨b1, b2, b3, b4, b5, b6, b7⟩ := so
  have ek : kt s2 = kt s1 := by show mk0 (s_tl s2) = _; rw [tl]
  have ef := fcz_eq b4
  refine ⟨b2.trans a1, by rw [b3, ef]; exact a2, by rw [ef]; exact a3, by rw [b3, ek]; exact a4, by rw [ek]; exact a5, by rw [b3]; exact a6, by omega, by omega, by rw [b3, ek]; exact sG_same a9 b4 b5 tl, by rw [b3, ek]; exact a10, fun e => ?_⟩
  obtain ⟨x1, x2⟩ := a11 (by rw [← ef]; exact e)
  rw [b3]
  exact ⟨fun q => Nat.le_trans (Nat.mul_le_mul_left 11 b7) (x1 q), fun q => ⟨fun t => by have := (x2 q).1 t; omega, fun t => by have := (x2 q).2 t; omega⟩⟩
theorem tb_lt {n o j c : Nat} {s : S_} (H : eBH n o j c s) : s_tb s < 2000 ∧ s_rw s < 2040 := by
  obtain ⟨a1, a2, a3, a4, a5, a6, a7, a8, a9, a10⟩ := H
  unfold Kd at a2
  omega
theorem t_frm_B {n L : Nat} {C : C_} {rec : K_} {sil : Bool} (hK : eBKn n C rec) (hL : 2 * n + 994 ≤ L) : ∀ (m : Nat) (t : T_), it_len t ≤ m → ∀ (o j w : Nat) (E : N_) (s : S_), eBH (n + 1) o j (c_sz t) s → c_sz t ≤ 60 → nG (s_tb s - o - kt s) E → ∃ w1 E1 s1, t_frm L rec C sil t w E s = some (w1, E1, s1) ∧ eBQ o (c_sz t) s s1 ∧ nG (s_tb s1 - o - kt s1) E1 := by
  intro m
  induction m with
  | zero =>
    intro t ht o j w E s H hc hE
    rcases ct_or t with ⟨k, n, id, x, r, rfl⟩ | ⟨-, he⟩
    · rw [it_ct] at ht; omega
    · rw [he]
      exact ⟨w, E, s, rfl, eBQ_le (eBQ_refl H) (Nat.le_refl _) (Nat.zero_le _), hE⟩
  | succ m ih =>
    intro t ht o j w E s H hc hE
    rcases ct_or t with ⟨k, n', id, x, r, rfl⟩ | ⟨-, he⟩
    · rw [it_ct] at ht
      have hsz := c_sz_ct' k n' id x r
      rw [t_frm_ct, if_pos (tb_lt H).1]
      have H0 : eBH (n + 1) o j ((c_sz x + 1) + c_sz r) s := eBH_le H (by omega)
      have H1 : eBH (n + 1) o j (c_sz x + 1) s := eBH_le H (by omega)
      by_cases c : k = 3
      · rw [if_pos c]
        obtain ⟨⟨v, E2, s2, hr, q1, q2, q3, q4⟩, -⟩ := hK (o + 1) j sil x E false (u_go s) (eBH_go H1) (by omega) (nG_go hE)
        rw [hr]
        dsimp only
        have hk2 : o + 1 + kt s2 ≤ s_tb s2 := q1.2.2.2.2.2.2.2.2.2.1
        have hdp : v_dp v ≤ L := Nat.le_trans (eBH_L (eBH_go H1) q1.2.1 (by omega)) (by omega)
        rw [fu_some hdp]
        dsimp only
        have Q : eBQ (o + 1) (c_sz x + 1) s (f_funs C v (e_id x) s2) := eBR_of_tl q1 eSO_funs.1 (by omega) (Nat.le_refl _) (by omega) (by omega) eSO_funs.2
        have Q0 : eBQ o (c_sz x + 1) s (f_funs C v (e_id x) s2) := eBQ_le Q (by omega) (Nat.le_refl _)
        have so := eSO_funs (C := C) (v := v) (id := e_id x) (s := s2)
        have ek : kt (f_funs C v (e_id x) s2) = kt s2 := by show mk0 (s_tl _) = mk0 _; rw [so.2]
        obtain ⟨w1, E1, s1, g1, g2, g3⟩ := ih r (by omega) o j (m9 (w + v_wd v 1)) E2 (f_funs C v (e_id x) s2) (eBH_step H0 Q0) (by omega) (by rw [so.1.2.2.1, ek]; exact nG_mono q4 (by omega))
        exact ⟨w1, E1, s1, g1, eBQ_le (eBQ_tr Q0 g2) (Nat.le_refl _) (by omega), g3⟩
      · rw [if_neg c]
        have Q0 : eBQ o (c_sz x + 1) s (u_go s) := eBQ_le (eBQ_one H1) (Nat.le_refl _) (by omega)
        obtain ⟨w1, E1, s1, g1, g2, g3⟩ := ih r (by omega) o j (m9 (w + 1)) E (u_go s) (eBH_step H0 Q0) (by omega) (nG_mono hE (by show _ ≤ s_tb s + 1 - o - kt s; omega))
        exact ⟨w1, E1, s1, g1, eBQ_le (eBQ_tr Q0 g2) (Nat.le_refl _) (by omega), g3⟩
    · rw [he]
      exact ⟨w, E, s, rfl, eBQ_le (eBQ_refl H) (Nat.le_refl _) (Nat.zero_le _), hE⟩
/-- one item: its token is open still -/
theorem t_item_B {n L : Nat} {C : C_} {rec : K_} {sil : Bool} (hK : eBKn n C rec) (hL : 2 * n + 994 ≤ L) {o j k : Nat} {n' : Int} {x : T_} {E : N_} {s : S_} (H : eBH (n + 1) o j (c_sz x + 1) s) (hc : c_sz x ≤ 59) (hE : nG (s_tb s - o - kt s) E) : ∃ v E1 s1, t_item L rec C sil k n' x E s = some (v, E1, s1) ∧ eBQ (o + 1) (c_sz x + 1) s s1 ∧ s_tb s + 1 + kt s1 ≤ s_tb s1 + kt s ∧ kt s1 ≤ kt s + c_sz x ∧ gv v ∧ v_m v + (o + 1 + kt s1) ≤ s_tb s1 ∧ nG (s_tb s1 - (o + 1) - kt s1) E1 := by
  have HG := eBH_go H
  unfold t_item
  by_cases c : k = 3
  · rw [if_pos c]
    obtain ⟨⟨v, E2, s2, hr, q1, q2, q3, q4⟩, -⟩ := hK (o + 1) j sil x E true (u_go s) HG (by omega) (nG_go hE)
    rw [hr]
    dsimp only
    have hk2 : o + 1 + kt s2 ≤ s_tb s2 := q1.2.2.2.2.2.2.2.2.2.1
    have hdp : v_dp v ≤ L := Nat.le_trans (eBH_L HG q1.2.1 (by omega)) (by omega)
    rw [fu_some hdp]
    have so := eSO_fn (C := C) (v := v) (id := e_id x) (s := s2) (x := 2)
    have st : s_tl (u_nd (f_funs C v (e_id x) s2) 2) = s_tl s2 := eSO_funs.2
    have ek : kt (u_nd (f_funs C v (e_id x) s2) 2) = kt s2 := by show mk0 (s_tl (u_nd (f_funs C v (e_id x) s2) 2)) = mk0 _; rw [st]
    have e4 : s_tb s + 1 + kt s2 ≤ s_tb s2 + kt s := q1.2.2.2.1
    refine ⟨v, E2, _, rfl, eBR_of_tl q1 so (by omega) (Nat.le_refl _) (by omega) (by omega) st, ?_, ?_, q2, ?_, ?_⟩
    · rw [so.2.2.1, ek]; exact e4
    · rw [ek]; exact q1.2.2.2.2.1
    · rw [so.2.2.1, ek]; exact q3
    · rw [so.2.2.1, ek]; exact q4
  · rw [if_neg c]
    by_cases c4 : k = 4
    · rw [if_pos c4]
      have H2 : eBH (n + 1) (o + 1) j (c_sz x) (u_go s) := by
        obtain ⟨a1, a2, a3, a4, a5, a6, a7, a8, a9, a10⟩ := HG
        exact ⟨a1, a2, a3, a4, by omega, a6, a7, a8, a9, a10⟩
      obtain ⟨w1, E1, s2, g1, g2, g3⟩ := t_frm_B (sil := sil) hK hL _ x (Nat.le_refl _) (o + 1) j 0 E (u_go s) H2 (by omega) (nG_go hE)
      rw [g1]
      have hk2 : o + 1 + kt s2 ≤ s_tb s2 := g2.2.2.2.2.2.2.2.2.2.1
      have e4 : s_tb s + 1 + kt s2 ≤ s_tb s2 + kt s := g2.2.2.2.1
      refine ⟨_, E1, _, rfl, eBR_of_tl (x := 2) g2 eSO_nd (by omega) (Nat.le_refl _) (by omega) (by omega) rfl, e4, g2.2.2.2.2.1, ⟨trivial, fun _ => rfl⟩, ?_, g3⟩
      show 0 + (o + 1 + kt s2) ≤ s_tb s2
      omega
    · rw [if_neg c4]
      have H2 := eBQ_refl (eBH_go (c := 0) (eBH_le H (by omega)))
      have ho := H.2.2.2.2.2.1
      refine ⟨_, E, _, rfl, eBQ_le (eBR_of_tl (c' := 1) (x := 2) H2 eSO_nd (by omega) (Nat.le_refl _) (by omega) (by omega) rfl) (Nat.le_refl _) (by omega), ?_, Nat.le_add_right _ _, ?_, ?_, nG_go hE⟩
      · show s_tb s + 1 + kt s ≤ s_tb s + 1 + kt s
        exact Nat.le_refl _
      · unfold t_leaf
        split
        · exact ⟨trivial, fun _ => rfl⟩
        · split
          · exact ⟨trivial, fun _ => rfl⟩
          · exact ⟨trivial, fun _ => rfl⟩
      · have e0 : v_m (t_leaf k n') = 0 := by
          unfold t_leaf
          split
          · rfl
          · split <;> rfl
        rw [e0]
        show 0 + (o + 1 + kt s) ≤ s_tb s + 1
        omega
theorem t_mks_nil {q : T_} {s : S_} (h : s_tl s = .nil) : t_mks q s = q := by unfold t_mks; rw [h]
theorem t_mks_ne {q : T_} {s : S_} (h : s_tl s ≠ .nil) : t_mks q s = v_chain q (s_tl s) := by
  unfold t_mks
  split
  · rename_i e; exact absurd e h
  · rfl
/-- what a text keeps back: its own first item, or its marks -/
def t_rq (q : T_) (f : Bool) : Nat := if f = true then 1 else mk0 q
/-- a chain and what is put behind it -/
theorem t_put_B {o T k1 tb : Nat} {q v tl : T_} {f : Bool} (hf : v_ff q = f) (gq : v_go q) (mq : v_m q ≤ T) (gvv : gv v) (mv : v_m v ≤ T) (gt : v_go tl) (mt : v_m tl ≤ T) (ft : v_ff tl = false) (hk : k1 = mk0 tl) (hT : T + (o + t_rq q f) + 1 + k1 ≤ tb) {q2 : T_} {f2 : Bool} (h2 : f2 = (t_app q f v).2) (hq : (tl = .nil → q2 = (t_app q f v).1) ∧ (tl ≠ .nil → q2 = v_chain (t_app q f v).1 tl)) : v_ff q2 = f2 ∧ v_go q2 ∧ v_m q2 + (o + t_rq q2 f2) ≤ tb ∧ t_rq q2 f2 ≤ t_rq q f + 1 + k1 := by
  -- behind the value
  have A : v_ff (t_app q f v).1 = (t_app q f v).2 ∧ v_go (t_app q f v).1 ∧ (v_fl v = true ∧ (t_app q f v).2 = true ∧ v_m (t_app q f v).1 ≤ T + t_rq q f ∨ (t_app q f v).1 = q ∧ (t_app q f v).2 = f) := by
    unfold t_app
    by_cases c : v_fl v = true
    · rw [if_pos c]
      have fv := gvv.2 c
      refine ⟨by rw [chain_ff, fv, Bool.or_true], chain_go gq gvv.1, Or.inl ⟨c, rfl, ?_⟩⟩
      unfold t_rq
      cases f with
      | true => exact chain_m2 mq mv hf fv
      | false => exact chain_m1 mq mv hf fv
    · rw [if_neg c]
      exact ⟨hf, gq, Or.inr ⟨rfl, rfl⟩⟩
  obtain ⟨A1, A2, A3⟩ := A
  rw [← h2] at A1 A3
  generalize (t_app q f v).1 = q1 at A1 A2 A3 hq
  by_cases ct : tl = .nil
  · have hq := hq.1 ct
    rw [ct] at hk
    have hk : k1 = 0 := hk
    subst hq
    rcases A3 with ⟨c, e2, m2⟩ | ⟨e1, e2⟩
    · rw [e2] at A1 ⊢
      refine ⟨A1, A2, ?_, ?_⟩
      · show _ + (o + 1) ≤ tb
        omega
      · show 1 ≤ _
        omega
    · rw [e1, e2]
      exact ⟨hf, gq, by omega, by omega⟩
  · have hq := hq.2 ct
    have hk : k1 = v_mk tl := by rw [hk, mk0_ne ct]
    subst hq
    cases f2 with
    | true =>
      refine ⟨by rw [chain_ff, A1]; rfl, chain_go A2 gt, ?_, ?_⟩
      · have x1 : v_m q1 ≤ T + t_rq q f := by
          rcases A3 with ⟨-, -, m2⟩ | ⟨e1, e2⟩
          · exact m2
          · rw [e1]; omega
        have x2 := chain_m3 x1 (Nat.le_trans mt (Nat.le_add_right T (t_rq q f))) A1 ft
        show _ + (o + 1) ≤ tb
        omega
      · show 1 ≤ _
        omega
    | false =>
      rcases A3 with ⟨-, e2, -⟩ | ⟨e1, e2⟩
      · cases e2
      · rw [e1]
        have fq : v_ff q = false := by rw [hf, ← e2]
        refine ⟨by rw [chain_ff, fq, ft]; rfl, chain_go gq gt, ?_, ?_⟩
        · have x1 := chain_m0 mq mt (by rw [hf, ← e2]) ft
          have x2 := chain_mk0 (a := q) (b := tl)
          have x3 : t_rq q f = mk0 q := by rw [← e2]; rfl
          show _ + (o + mk0 _) ≤ tb
          omega
        · have x2 := chain_mk0 (a := q) (b := tl)
          have x3 : t_rq q f = mk0 q := by rw [← e2]; rfl
          show mk0 _ ≤ _
          omega
theorem t_run_B {n L : Nat} {C : C_} {rec : K_} {sil : Bool} (hK : eBKn n C rec) (hL : 2 * n + 994 ≤ L) : ∀ (m : Nat) (t : T_), it_len t ≤ m → ∀ (o j : Nat) (q : T_) (f : Bool) (E : N_) (s : S_), eBH (n + 1) (o + t_rq q f) j (c_sz t) s → 512 ≤ n + 1 + o + s_dp s + 10 * j → c_sz t ≤ 60 → s_tl s = .nil → nG (s_tb s - (o + t_rq q f)) E → v_go q → v_m q + (o + t_rq q f) ≤ s_tb s → v_ff q = f → ∃ q1 f1 E1 s1, t_run L rec C sil t q f E s = some (q1, f1, E1, s1) ∧ eBQ o (c_sz t) s s1 ∧ s_tl s1 = .nil ∧ v_ff q1 = f1 ∧ v_go q1 ∧ v_m q1 + (o + t_rq q1 f1) ≤ s_tb s1 ∧ nG (s_tb s1 - o) E1 := by
  intro m
  induction m with
  | zero =>
    intro t ht o j q f E s H hF hc htl hE gq mq hf
    rcases ct_or t with ⟨k, n, id, x, r, rfl⟩ | ⟨he, -⟩
    · rw [it_ct] at ht; omega
    · rw [he]
      exact ⟨q, f, E, s, rfl, eBQ_le (eBQ_refl H) (Nat.le_add_right _ _) (Nat.zero_le _), htl, hf, gq, mq, nG_mono hE (by omega)⟩
  | succ m ih =>
    intro t ht o j q f E s H hF hc htl hE gq mq hf
    rcases ct_or t with ⟨k, n', id, x, r, rfl⟩ | ⟨he, -⟩
    · rw [it_ct] at ht
      have hsz := c_sz_ct' k n' id x r
      rw [t_run_ct, if_pos (tb_lt H).1]
      have hk0 : kt s = 0 := by show mk0 (s_tl s) = 0; rw [htl]; rfl
      have H0 : eBH (n + 1) (o + t_rq q f) j ((c_sz x + 1) + c_sz r) s := eBH_le H (by omega)
      have H1 : eBH (n + 1) (o + t_rq q f) j (c_sz x + 1) s := eBH_le H (by omega)
      obtain ⟨v, E2, s2, g1, g2, g3, g35, g4, g5, g6⟩ := t_item_B (sil := sil) (k := k) (n' := n') hK hL H1 (by omega) (by rw [hk0]; exact hE)
      rw [g1]
      dsimp only
      have sg := g2.2.2.2.2.2.2.2.2.1
      have ho := g2.2.2.2.2.2.2.2.2.2.1
      have P := t_put_B (o := o) (T := s_tb s2 - (o + t_rq q f + 1) - kt s2) (k1 := kt s2) (tb := s_tb s2) (q := q) (v := v) (tl := s_tl s2) (f := f) hf gq (by omega) g4 (by omega) sg.2.1 sg.2.2.1 sg.2.2.2 rfl (by omega) (q2 := t_mks (t_app q f v).1 s2) rfl ⟨fun c => t_mks_nil c, fun c => t_mks_ne c⟩
      obtain ⟨P1, P2, P3, P4⟩ := P
      have Q0 : eBQ o (c_sz x + 1) s (u_tl s2 .nil) := by
        obtain ⟨b1, b2, b3, b4, b5, b6, b7, b8, b9, b10, b11⟩ := g2
        refine ⟨b1, b2, b3, ?_, ?_, b6, b7, b8, ⟨fun g q => nG_mono (b9.1 g q) ?_, trivial, Nat.zero_le _, rfl⟩, ?_, b11⟩
        · show s_tb s + 0 ≤ s_tb s2 + kt s
          omega
        · show 0 ≤ _
          omega
        · show _ ≤ s_tb s2 - o - 0
          omega
        · show o + 0 ≤ s_tb s2
          omega
      have H2 : eBH (n + 1) (o + t_rq (t_mks (t_app q f v).1 s2) (t_app q f v).2) j (c_sz r) (u_tl s2 .nil) := by
        obtain ⟨a1, a2, a3, a4, a5, a6, a7, a8, a9, a10⟩ := H0
        obtain ⟨b1, b2, b3, b4, b5, b6, b7, b8, b9, b10, b11⟩ := g2
        have b2' : max (s_tb s2) (Kd (s_dp s)) + 500 * fcz s2 ≤ max (s_tb s) (Kd (s_dp s)) + (c_sz x + 1) + 500 * fcz s := b2
        refine ⟨?_, ?_, ?_, fun z => ?_, ?_, ?_, ?_, ?_, b8, ?_⟩
        · show s_dp s2 ≤ 8
          omega
        · show max (s_tb s2) (Kd (s_dp s2)) + c_sz r + 500 * fcz s2 + 500 * j ≤ Kd (s_dp s2) + 1060 + 60 * j
          rw [b1]
          omega
        · show _ + 0 + c_sz r ≤ 358 + 61 * j
          omega
        · have := a4 z
          show _ + 0 + c_sz r ≤ 60 + 58 * s_dp s2
          omega
        · show 512 ≤ n + 1 + (o + _) + s_dp s2 + 10 * j
          omega
        · show _ + 0 ≤ s_tb s2
          omega
        · show fcz s2 + j ≤ 2
          omega
        · show s_rw s2 + 3 * fcz s2 ≤ s_tb s2 + 226
          omega
        · exact ⟨fun g q => nG_mono (b9.1 g q) (by show _ ≤ s_tb s2 - _ - 0; omega), trivial, Nat.zero_le _, rfl⟩
      obtain ⟨q1, f1, E1, s1, h1, h2, h3, h4, h5, h6, h7⟩ := ih r (by omega) o j _ _ E2 (u_tl s2 .nil) H2 (by have := g2.1; show 512 ≤ n + 1 + o + s_dp s2 + 10 * j; omega) (by omega) rfl (nG_mono g6 (by show _ ≤ s_tb s2 - _; omega)) P2 P3 P1
      exact ⟨q1, f1, E1, s1, h1, eBQ_le (eBQ_tr Q0 h2) (Nat.le_refl _) (by omega), h3, h4, h5, h6, h7⟩
    · rw [he]
      exact ⟨q, f, E, s, rfl, eBQ_le (eBQ_refl H) (Nat.le_add_right _ _) (Nat.zero_le _), htl, hf, gq, mq, nG_mono hE (by omega)⟩
/-- a text in its block; o: with the token of the block -/
theorem t_block_B {n L : Nat} {C : C_} {rec : K_} {sil : Bool} (hK : eBKn n C rec) (hL : 2 * n + 994 ≤ L) {o j : Nat} {t : T_} {E : N_} {s : S_} (H : eBH (n + 1) o j (c_sz t) s) (hc : c_sz t ≤ 60) (hE : nG (s_tb s - o - kt s) E) : ∃ v E1 s2, t_block L rec C sil t E s = some (v, E1, u_nd s2 1) ∧ eBQ o (c_sz t) s s2 ∧ s_tl s2 = s_tl s ∧ gv v ∧ v_m v + (o + kt s) ≤ s_tb s2 + 1 ∧ nG (s_tb s2 - o - kt s) E1 := by
  have sG0 := H.2.2.2.2.2.2.2.2.2
  have H2 : eBH (n + 1) (o + kt s + t_rq .nil false) j (c_sz t) (u_tl s .nil) := by
    obtain ⟨a1, a2, a3, a4, a5, a6, a7, a8, a9, a10⟩ := H
    exact ⟨a1, a2, a3, a4, by show 512 ≤ n + 1 + (o + kt s + 0) + s_dp s + 10 * j; omega, a6, a7, a8, a9, ⟨fun g q => nG_mono (a10.1 g q) (by show _ ≤ s_tb s - (o + kt s + 0) - 0; omega), trivial, Nat.zero_le _, rfl⟩⟩
  have hF := H.2.2.2.2.1
  have ho := H.2.2.2.2.2.1
  obtain ⟨q1, f1, E1, s1, h1, h2, h3, h4, h5, h6, h7⟩ := t_run_B (sil := sil) hK hL _ t (Nat.le_refl _) (o + kt s) j .nil false E (u_tl s .nil) H2 (by show 512 ≤ n + 1 + (o + kt s) + s_dp s + 10 * j; omega) hc rfl (nG_mono hE (by show _ ≤ s_tb s - (o + kt s + 0); omega)) trivial (by show 0 + (o + kt s + 0) ≤ s_tb s; omega) rfl
  unfold t_block
  rw [h1]
  have hk1 : kt s1 = 0 := by show mk0 (s_tl s1) = 0; rw [h3]; rfl
  obtain ⟨b1, b2, b3, b4, b5, b6, b7, b8, b9, b10, b11⟩ := h2
  have sgm : v_m (s_tl s) ≤ s_tb s - o - kt s := sG0.2.2.1
  have b6' : s_tb s ≤ s_tb s1 := b6
  refine ⟨_, E1, u_tl s1 (s_tl s), rfl, ⟨b1, b2, b3, ?_, ?_, b6, b7, b8, ?_, ?_, b11⟩, rfl, ?_, ?_, nG_mono h7 (by show _ ≤ s_tb s1 - o - kt s; omega)⟩
  · show s_tb s + kt s ≤ s_tb s1 + kt s
    omega
  · show kt s ≤ kt s + c_sz t
    omega
  · refine ⟨fun g q => nG_mono (b9.1 g q) ?_, sG0.2.1, ?_, sG0.2.2.2⟩
    · show _ ≤ s_tb s1 - o - kt s
      omega
    · show v_m (s_tl s) ≤ s_tb s1 - o - kt s
      omega
  · show o + kt s ≤ s_tb s1
    omega
  · split
    · rename_i c
      exact v_go_9 h5 (h4.trans c)
    · exact gv_E
  · cases f1 with
    | true =>
      have h6 : v_m q1 + (o + kt s + 1) ≤ s_tb s1 := h6
      show v_m (if true = true then .tag 9 q1 else vE) + (o + kt s) ≤ s_tb s1 + 1
      rw [if_pos rfl, v_m_9]
      omega
    | false =>
      show 0 + (o + kt s) ≤ s_tb s1 + 1
      omega
/-- ahead of a body -/
theorem eBH_body {n o j cb : Nat} {s : S_} (hF : 512 ≤ n + (o + 1) + s_dp s + 10 * j + 1) (hd : s_dp s < 8) (hb : s_b s < 300) (ht : s_tb s ≤ s_b s) (ho : o + 1 + kt s ≤ s_tb s) (hf : fcz s + j ≤ 2) (hr : s_rw s + 1 + 3 * fcz s ≤ s_tb s + 226) (hcb : cb ≤ 58) (hs : sG (s_tb s - (o + 1) - kt s) s) (hk : j = 0 → o + 1 + kt s + cb ≤ 60 + 58 * (s_dp s + 1)) : eBH n (o + 1) j cb (s_in s) := by
  refine ⟨by show s_dp s + 1 ≤ 8; omega, ?_, ?_, fun q => ?_, ?_, ho, hf, ?_, ht, hs⟩
  · show max (s_tb s) (Kd (s_dp s + 1)) + cb + 500 * fcz s + 500 * j ≤ Kd (s_dp s + 1) + 1060 + 60 * j
    unfold Kd
    omega
  · show o + 1 + kt s + cb ≤ 358 + 61 * j
    omega
  · exact hk q
  · show 512 ≤ n + (o + 1) + (s_dp s + 1) + 10 * j
    omega
  · show s_rw s + 1 + 3 * fcz s ≤ s_tb s + 226
    exact hr
