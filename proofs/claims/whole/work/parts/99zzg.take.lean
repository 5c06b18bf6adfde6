/-! ===== the evaluator: a call that is taken comes to what was kept ===== -/
theorem ev1_bpos {L : Nat} {C : C_} {r1 r2 r4 : K_} (h1 : eMK r1) (h2 : eMK r2) (h4 : eMK r4) {sil : Bool} {e : T_} {E : N_} {hb : Bool} {s : S_} {v : T_} {E1 : N_} {s1 : S_} (h : ev1 L C r1 r2 r4 sil e E hb s = some (v, E1, s1)) (hl : s_lt s ≤ s_b s) : s_b s + 1 ≤ s_b s1 := by
  have hl1 : s_lt (u_go s) ≤ s_b (u_go s) := Nat.le_succ_of_le hl
  rcases ce_or e with ⟨k, n, id, a, b, c, rfl⟩ | he
  · by_cases ko : k < 6 ∨ 31 < k
    · rw [ev1_oth ko] at h
      split at h
      · cases h; exact Nat.le_refl _
      · cases h
    · have kk : k = 6 ∨ k = 7 ∨ k = 8 ∨ k = 16 ∨ k = 22 ∨ k = 23 ∨ k = 24 ∨ k = 25 ∨ k = 26 ∨ k = 27 ∨ k = 29 ∨ k = 14 ∨ k = 17 ∨ (k = 9 ∨ k = 10 ∨ k = 11 ∨ k = 12 ∨ k = 13 ∨ k = 30) ∨ (k = 15 ∨ k = 20 ∨ k = 21 ∨ k = 28 ∨ k = 31) ∨ (k = 18 ∨ k = 19) := by omega
      rcases kk with rfl | rfl | rfl | rfl | rfl | rfl | rfl | rfl | rfl | rfl | rfl | rfl | rfl | kk | kk | kk
      · rw [ev1_6] at h
        split at h
        · cases h; exact Nat.le_refl _
        · cases h
      · rw [ev1_7] at h
        split at h
        · exact ((o_name_M h hl1) : eMQ hb (u_go s) _).1
        · cases h
      · rw [ev1_8] at h
        split at h
        · split at h
          · split at h
            · rename_i w E2 s2 hr
              cases h
              exact ((eMQ_t (eMQ_rw0 (t_block_M (s := u_rw (u_go s) (s_rw s + 1)) h2 hr hl1))) : eMQ hb (u_go s) _).1
            · cases h
          · cases h
        · cases h
      · rw [ev1_16] at h
        split at h
        · exact ((o_mk_M h hl1) : eMQ hb (u_go s) _).1
        · cases h
      · rw [ev1_22] at h
        split at h
        · exact ((o_mk_M h hl1) : eMQ hb (u_go s) _).1
        · cases h
      · rw [ev1_23] at h
        split at h
        · exact ((o_ask_M h hl1) : eMQ hb (u_go s) _).1
        · cases h
      · rw [ev1_24] at h
        split at h
        · exact ((o_ask_M h hl1) : eMQ hb (u_go s) _).1
        · cases h
      · rw [ev1_25] at h
        split at h
        · exact ((o_ask_M h hl1) : eMQ hb (u_go s) _).1
        · cases h
      · rw [ev1_26] at h
        split at h
        · exact ((o_ask_M h hl1) : eMQ hb (u_go s) _).1
        · cases h
      · rw [ev1_27] at h
        split at h
        · exact ((o_ask_M h hl1) : eMQ hb (u_go s) _).1
        · cases h
      · rw [ev1_29] at h
        split at h
        · exact ((o_import_M h4 h hl1) : eMQ hb (u_go s) _).1
        · cases h
      · rw [ev1_14] at h
        split at h
        · split at h
          · rename_i w E2 s2 hr
            have g1 : eMQ hb (u_go s) s2 := h1 _ _ _ _ _ _ _ _ hr hl1
            split at h
            · cases h; exact g1.1
            · split at h
              · exact (eMQ_tr g1 (h1 _ _ _ _ _ _ _ _ h g1.2.2.2.2.1)).1
              · exact (eMQ_tr g1 (o_bad_M h g1.2.2.2.2.1)).1
          · cases h
        · cases h
      · rw [ev1_17] at h
        split at h
        · split at h
          · rename_i w E2 s2 hr
            have g1 : eMQ hb (u_go s) s2 := h1 _ _ _ _ _ _ _ _ hr hl1
            split at h
            · cases h; exact g1.1
            · split at h
              · split at h
                · rename_i w2 E3 s3 hr2
                  have g2 := eMQ_tr g1 (h1 _ _ _ _ _ _ _ _ hr2 g1.2.2.2.2.1)
                  exact (eMQ_tr g2 (o_call_M h2 h g2.2.2.2.2.1)).1
                · cases h
              · exact (eMQ_tr g1 (o_bad_M h g1.2.2.2.2.1)).1
          · cases h
        · cases h
      · rw [ev1_two kk] at h
        split at h
        · split at h
          · rename_i w E2 s2 hr
            have g1 : eMQ hb (u_go s) s2 := h1 _ _ _ _ _ _ _ _ hr hl1
            split at h
            · rename_i w2 E3 s3 hr2
              have g2 := eMQ_tr g1 (h1 _ _ _ _ _ _ _ _ hr2 g1.2.2.2.2.1)
              exact (eMQ_tr g2 (o_pair_M h g2.2.2.2.2.1)).1
            · cases h
          · cases h
        · cases h
      · rw [ev1_one (by omega)] at h
        split at h
        · split at h
          · rename_i w E2 s2 hr
            have g1 : eMQ hb (u_go s) s2 := h1 _ _ _ _ _ _ _ _ hr hl1
            exact (eMQ_tr g1 (o_one_M (fun q => by omega) h g1.2.2.2.2.1)).1
          · cases h
        · cases h
      · cases hb with
        | false =>
          rw [ev1_pl kk] at h
          split at h
          · exact ((o_bad_M h hl1) : eMQ false (u_go s) _).1
          · cases h
        | true =>
          rw [ev1_one (Or.inr (Or.inr (Or.inr (Or.inr (Or.inr ⟨kk, rfl⟩)))))] at h
          split at h
          · split at h
            · rename_i w E2 s2 hr
              have g1 : eMQ true (u_go s) s2 := h1 _ _ _ _ _ _ _ _ hr hl1
              exact (eMQ_tr g1 (o_one_M (fun _ => rfl) h g1.2.2.2.2.1)).1
            · cases h
          · cases h
  · rw [he] at h
    cases h
    exact Nat.le_refl _
theorem ev_bpos (C : C_) (n : Nat) (sil : Bool) (e : T_) (E : N_) (hb : Bool) (s : S_) (v : T_) (E1 : N_) (s1 : S_) (h : ev C n sil e E hb s = some (v, E1, s1)) (hl : s_lt s ≤ s_b s) : s_b s + 1 ≤ s_b s1 := by
  match n, h with
  | 0, h => cases h
  | 1, h => cases h
  | 2, h => cases h
  | 3, h => cases h
  | n + 4, h =>
    rw [ev_4] at h
    exact ev1_bpos (ev_M C _) (ev_M C _) (ev_M C _) h hl
theorem n_clos_E {E E' : N_} {u : Nat → Bool} : ∀ m, (∀ k, k < m → u k = true → E k = E' k) → n_clos E u m = n_clos E' u m := by
  intro m
  induction m with
  | zero => intro _; rfl
  | succ m ih =>
    intro h
    have e1 := ih fun k hk hu => h k (by omega) hu
    cases hu : u m with
    | false => rw [n_clos, n_clos, hu, e1]
    | true => rw [n_clos, n_clos, hu, e1, h m (Nat.lt_succ_self m) hu]
/-- a used name that is a number -/
theorem k_num_E {e : T_} {E0 : N_} {m : Nat} (hm : m < 10) (hu : e_use e m = true) {x : Int} (h : k_nums e (n_clos E0 (e_use e) 10) m = some x) : E0 m = some (vN x) := by
  unfold k_nums at h
  rw [if_pos hu, n_get_clos, if_pos ⟨hm, hu⟩] at h
  cases q : E0 m with
  | none => rw [q] at h; cases h
  | some v =>
    rw [q] at h
    have h : v_num v = some x := h
    obtain ⟨y, e1, e2⟩ := v_num_some (v := v) (by rw [h]; rfl)
    rw [e2] at h
    cases h
    rw [e1]
theorem fit_ni' {e : T_} {E0 : N_} (hk : k_fit e (n_clos E0 (e_use e) 10) = true) : v_ni (.tag 12 (.append e (n_clos E0 (e_use e) 10))) = true := by
  obtain ⟨h1, h2⟩ := k_fit_iff.mp hk
  show (!e_imp (e_part e) && v_ni _) = true
  rw [h1, n_clos_ni' 10 fun m v hm hu hv => ?_]
  · rfl
  · have h3 := h2 m hm hu
    cases q : k_nums e (n_clos E0 (e_use e) 10) m with
    | none => rw [q] at h3; cases h3
    | some x =>
      have := k_num_E hm hu q
      rw [hv] at this
      cases this
      rfl
/-- the function of a record is the function that is called -/
theorem fn_same {r : R_} {e cl : T_} {E0 : N_} {k : Nat} {n : Int} {id : Nat} {a b c : T_} (hr : KR r) (he : e = ce k n id a b c) (hcl : cl = n_clos E0 (e_use e) 10) (hc : v_code (r_fn r) = e) (hf : k_fit e cl = true) (hn : ∀ m, m < 10 → r_nums r m = k_nums e cl m) : r_fn r = .tag 12 (.append e cl) := by
  obtain ⟨C0, n0, E1, s0, s1, h1, h2, ⟨E0', h3⟩, -, -, h6, -⟩ := hr
  obtain ⟨x, hx⟩ := v_isF_of h1
  rw [hx] at hc
  cases x with
  | append e' cl' =>
    have hc : e' = e := hc
    subst hc
    have h3' : cl' = n_clos E0' (e_use e') 10 := by
      rw [hx] at h3
      exact h3
    have hnr : ∀ m, m < 10 → k_nums e' cl' m = k_nums e' cl m := fun m hm => by
      rw [← hn m hm]
      have : r_nums r = k_nums (v_code (r_fn r)) (v_clos (r_fn r)) := by
        conv => lhs; rw [h6]
        rfl
      rw [this, hx]
      rfl
    obtain ⟨-, f2⟩ := k_fit_iff.mp hf
    rw [hx, h3', hcl]
    congr 2
    refine n_clos_E 10 fun m hm hu => ?_
    have z := f2 m hm hu
    cases q : k_nums e' cl m with
    | none => rw [q] at z; cases z
    | some y =>
      have y1 := hnr m hm
      rw [q, h3'] at y1
      rw [hcl] at q
      rw [k_num_E hm hu y1, k_num_E hm hu q]
  | _ => (rw [he] at hc; cases hc)
theorem take_E {C : C_} {m : Nat} {r : R_} {fn v : T_} {s s1 : S_} {x z : Nat} (hr : KR r) (hfn : r_fn r = fn) (hsn : s_dp s + r_sn r < 8) (hlt : s_b s + r_lt r < 300) (hq : ∀ q, r_as r q = true → C.1 q = r_an r q) (hni : v_ni fn = true) (h : o_body (ev C m) C true false fn (vN (r_arg r)) (u_rn s x z) = some (v, s1)) : v = r_val r ∧ (s_b s1 = s_b s + r_b r ∧ s_lt s1 = s_b s + r_lt r ∧ s_sn s1 = max (s_sn s) (r_sn r + 1)) ∧ (s_as s1 = fun q => s_as s q || r_as r q) ∧ (s_nt s1 = s_nt s ∧ s_fl s1 = s_fl s ∧ s_dp s1 = s_dp s ∧ s_tl s1 = s_tl s) ∧ (s_fs s1 = s_fs s ∧ s_fe s1 = s_fe s) ∧ (s_me s1 = s_me s ∧ s_rn s1 = x ∧ s_tk s1 = z) ∧ 1 ≤ r_b r := by
  obtain ⟨C0, n0, E1, s0, s1r, h1, h2, h3, h4, h5, h6, h7, h8, h9⟩ := hr
  have g := h
  obtain ⟨-, E1', s1', me', hr', -, rfl, hme⟩ := o_body_inv h
  rw [hfn] at h1 h2 h3 h4
  obtain ⟨hi, hc⟩ := fn_ni h1 hni
  have m0 := ev_M C0 n0 _ _ _ _ _ _ _ _ h4 (Nat.le_refl _)
  have m1 := ev_M C m _ _ _ _ _ _ _ _ hr' (Nat.le_refl _)
  have N1 := ev_N C m _ _ _ _ _ _ _ _ hr' hi (n_body_ni hc rfl hni)
  have S1 := ev_S C m _ _ _ _ _ _ _ _ hr' hi (n_body_ni hc rfl hni)
  have e_sn : r_sn r = s_sn s1r := by
    conv => lhs; rw [h6]
    rfl
  have e_lt : r_lt r = s_lt s1r - s_b s0 := by
    conv => lhs; rw [h6]
    rfl
  have e_b : r_b r = s_b s1r - s_b s0 := by
    conv => lhs; rw [h6]
    rfl
  have e_as : r_as r = s_as s1r := by
    conv => lhs; rw [h6]
    rfl
  have e_an : r_an r = C0.1 := by
    conv => lhs; rw [h6]
    rfl
  have l0 : s_b s0 ≤ s_lt s1r := m0.2.2.2.1
  have b0 : s_b s0 ≤ s_b s1r := m0.1
  have b2 : s_lt s1r ≤ s_b s1r := m0.2.2.2.2.1
  have H1 : eRH false C0 C (s_in s0) s1r (s_in (u_rn s x z)) := ⟨h5, fun q => Bool.noConfusion q, Nat.le_refl _, Nat.le_refl _, by show s_dp s + 1 + s_sn s1r ≤ 8; omega, by show s_b s + s_lt s1r < 300 + s_b s0; omega, fun q y => by
    rw [← e_as] at y
    rw [hq q y, e_an]⟩
  obtain ⟨a0, -, ⟨a1, a2, ⟨X, a3, a3'⟩, ⟨k, a4, a4'⟩, a5, -⟩, -, -⟩ := ev_R C0 C n0 m _ _ _ _ _ _ _ _ _ _ _ _ _ h4 hr' hi (n_body_ni hc rfl hni) H1
  have ea : s_as s1' = s_as s1r := by rw [a3', a3]; rfl
  have es : s_sn s1' = s_sn s1r := by rw [a4', a4]; rfl
  have a1 : s_b s1' + s_b s0 = s_b s1r + s_b s := a1
  have a2 : s_nt s1' = s_nt s := a2
  have hb1 : 1 ≤ s_b s1r - s_b s0 := by
    have z := ev_bpos C0 n0 _ _ _ _ _ _ _ _ h4 (Nat.le_refl _)
    have z : s_b s0 + 1 ≤ s_b s1r := z
    omega
  have hme' : me' = s_me s1' := by
    rcases hme with ⟨-, e⟩ | ⟨e, -⟩
    · exact e
    · cases e.1
  obtain ⟨c1, c2, c3⟩ := S1.1.2.2.1 rfl
  have N2 := N1.1
  refine ⟨a0, ⟨by show s_b s1' = _; omega, ?_, by show max (s_sn s) (s_sn s1' + 1) = _; rw [es, e_sn]⟩, ?_, ⟨a2, ?_, rfl, ?_⟩, ⟨N2.1, N2.2⟩, ⟨by show me' = _; rw [hme']; exact c1, c2, c3⟩, by rw [e_b]; exact hb1⟩
  · show s_lt s1' = _
    rcases a5 with ⟨y1, y2⟩ | y1
    · have y1 : s_lt s1r = s_b s0 := y1
      have y2 : s_lt s1' = s_b s := y2
      omega
    · have y1 : s_lt s1' + s_b s0 = s_lt s1r + s_b s := y1
      omega
  · show (fun q => s_as s q || s_as s1' q) = _
    rw [ea, e_as]
  · exact m1.2.2.2.2.2.2.2.2.2.2.1 a2
  · exact m1.2.2.2.2.2.2.2.1 rfl
