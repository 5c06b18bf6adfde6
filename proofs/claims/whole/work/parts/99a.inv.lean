/-! ===== the evaluator, kind by kind ===== -/
section
variable {L : Nat} {C : C_} {r1 r2 r4 : K_} {sil hb : Bool} {n : Int} {id k : Nat} {a b c : T_} {E : N_} {s : S_}
theorem ev1_6 : ev1 L C r1 r2 r4 sil (ce 6 n id a b c) E hb s = if s_tb s < 2000 then some (vN n, E, u_go s) else none := rfl
theorem ev1_7 : ev1 L C r1 r2 r4 sil (ce 7 n id a b c) E hb s = if s_tb s < 2000 then o_name C id (E (n % 10).toNat) E (u_go s) else none := rfl
theorem ev1_8 : ev1 L C r1 r2 r4 sil (ce 8 n id a b c) E hb s = if s_tb s < 2000 then (if s_rw s < 2040 then (match t_block L r2 C sil a E (u_rw (u_go s) (s_rw s + 1)) with
      | some (v, _, s1) => some (v, E, s1)
      | none => none) else none) else none := rfl
theorem ev1_16 : ev1 L C r1 r2 r4 sil (ce 16 n id a b c) E hb s = if s_tb s < 2000 then o_mk 12 (ce 16 n id a b c) E (u_go s) else none := rfl
theorem ev1_22 : ev1 L C r1 r2 r4 sil (ce 22 n id a b c) E hb s = if s_tb s < 2000 then o_mk 7 (ce 22 n id a b c) E (u_go s) else none := rfl
theorem ev1_23 : ev1 L C r1 r2 r4 sil (ce 23 n id a b c) E hb s = if s_tb s < 2000 then o_ask C (42 + (n % 3).toNat) id E (u_go s) else none := rfl
theorem ev1_24 : ev1 L C r1 r2 r4 sil (ce 24 n id a b c) E hb s = if s_tb s < 2000 then o_ask C (3 * (n / 3 % 10).toNat + (n % 3).toNat) id E (u_go s) else none := rfl
theorem ev1_25 : ev1 L C r1 r2 r4 sil (ce 25 n id a b c) E hb s = if s_tb s < 2000 then o_ask C (30 + (n % 10).toNat) id E (u_go s) else none := rfl
theorem ev1_26 : ev1 L C r1 r2 r4 sil (ce 26 n id a b c) E hb s = if s_tb s < 2000 then o_ask C 40 id E (u_go s) else none := rfl
theorem ev1_27 : ev1 L C r1 r2 r4 sil (ce 27 n id a b c) E hb s = if s_tb s < 2000 then o_ask C 41 id E (u_go s) else none := rfl
theorem ev1_29 : ev1 L C r1 r2 r4 sil (ce 29 n id a b c) E hb s = if s_tb s < 2000 then o_import L r4 C sil n id E (u_go s) else none := rfl
theorem ev1_14 : ev1 L C r1 r2 r4 sil (ce 14 n id a b c) E hb s = if s_tb s < 2000 then (match r1 sil a E hb (u_go s) with
      | some (v, E1, s1) => if v_isW v = true then some (vW, E1, s1) else (match v_num v with
        | some x => r1 sil (if x = 0 then c else b) E1 hb s1
        | none => o_bad C 3 id E1 s1)
      | none => none) else none := rfl
theorem ev1_17 : ev1 L C r1 r2 r4 sil (ce 17 n id a b c) E hb s = if s_tb s < 2000 then (match r1 sil a E hb (u_go s) with
      | some (v, E1, s1) => if v_isW v = true then some (vW, E1, s1) else if v_isF v = true then (match r1 sil b E1 hb s1 with
        | some (w, E2, s2) => o_call r2 C sil id v w E2 s2
        | none => none) else o_bad C 3 id E1 s1
      | none => none) else none := rfl
theorem ev1_two (hk : k = 9 ∨ k = 10 ∨ k = 11 ∨ k = 12 ∨ k = 13 ∨ k = 30) : ev1 L C r1 r2 r4 sil (ce k n id a b c) E hb s = if s_tb s < 2000 then (match r1 sil a E hb (u_go s) with
    | some (v, E1, s1) => (match r1 sil b E1 hb s1 with
      | some (w, E2, s2) => o_pair L C k id a b v w E2 s2
      | none => none)
    | none => none) else none := by
  rcases hk with rfl | rfl | rfl | rfl | rfl | rfl <;> rfl
theorem ev1_one (hk : k = 15 ∨ k = 20 ∨ k = 21 ∨ k = 28 ∨ k = 31 ∨ (k = 18 ∨ k = 19) ∧ hb = true) : ev1 L C r1 r2 r4 sil (ce k n id a b c) E hb s = if s_tb s < 2000 then (match r1 sil a E hb (u_go s) with
    | some (v, E1, s1) => o_one L C k n id a v (ce k n id a b c) E1 s1
    | none => none) else none := by
  rcases hk with rfl | rfl | rfl | rfl | rfl | ⟨rfl | rfl, rfl⟩ <;> rfl
theorem ev1_pl (hk : k = 18 ∨ k = 19) : ev1 L C r1 r2 r4 sil (ce k n id a b c) E false s = if s_tb s < 2000 then o_bad C 7 id E (u_go s) else none := by
  rcases hk with rfl | rfl <;> rfl
theorem ev1_oth (h1 : k < 6 ∨ 31 < k) : ev1 L C r1 r2 r4 sil (ce k n id a b c) E hb s = if s_tb s < 2000 then some (vW, E, u_go s) else none := by
  unfold ev1 ce
  dsimp only
  split
  · split <;> first | rfl | (exfalso; omega)
  · rfl
end
/-- an expression, or what is broken -/
theorem ce_or (e : T_) : (∃ k n id a b c, e = ce k n id a b c) ∨ ∀ (L : Nat) (C : C_) (r1 r2 r4 : K_) (sil : Bool) (E : N_) (hb : Bool) (s : S_), ev1 L C r1 r2 r4 sil e E hb s = some (vW, E, u_b s (s_b s + 1)) := by
  cases e with
  | tag k e1 =>
    cases e1 with
    | nest n e2 =>
      cases e2 with
      | tag id e3 =>
        cases e3 with
        | append a e4 =>
          cases e4 with
          | append b c => exact Or.inl ⟨k, n, id, a, b, c, rfl⟩
          | _ => exact Or.inr fun _ _ _ _ _ _ _ _ _ => rfl
        | _ => exact Or.inr fun _ _ _ _ _ _ _ _ _ => rfl
      | _ => exact Or.inr fun _ _ _ _ _ _ _ _ _ => rfl
    | _ => exact Or.inr fun _ _ _ _ _ _ _ _ _ => rfl
  | _ => exact Or.inr fun _ _ _ _ _ _ _ _ _ => rfl
/-- how many items -/
def it_len : T_ → Nat
  | .tag _ (.nest _ (.tag _ (.append _ r))) => it_len r + 1
  | _ => 0
theorem it_ct (k : Nat) (n : Int) (id : Nat) (x r : T_) : it_len (ct k n id x r) = it_len r + 1 := rfl
/-- an item, or the end -/
theorem ct_or (t : T_) : (∃ k n id x r, t = ct k n id x r) ∨ (∀ (L : Nat) (rec : K_) (C : C_) (sil : Bool) (q : T_) (f : Bool) (E : N_) (s : S_), t_run L rec C sil t q f E s = some (q, f, E, s)) ∧ (∀ (L : Nat) (rec : K_) (C : C_) (sil : Bool) (w : Nat) (E : N_) (s : S_), t_frm L rec C sil t w E s = some (w, E, s)) := by
  cases t with
  | tag k e1 =>
    cases e1 with
    | nest n e2 =>
      cases e2 with
      | tag id e3 =>
        cases e3 with
        | append a e4 => exact Or.inl ⟨k, n, id, a, e4, rfl⟩
        | _ => exact Or.inr ⟨fun _ _ _ _ _ _ _ _ => rfl, fun _ _ _ _ _ _ _ => rfl⟩
      | _ => exact Or.inr ⟨fun _ _ _ _ _ _ _ _ => rfl, fun _ _ _ _ _ _ _ => rfl⟩
    | _ => exact Or.inr ⟨fun _ _ _ _ _ _ _ _ => rfl, fun _ _ _ _ _ _ _ => rfl⟩
  | _ => exact Or.inr ⟨fun _ _ _ _ _ _ _ _ => rfl, fun _ _ _ _ _ _ _ => rfl⟩
/-- one item of a text -/
def t_item (L : Nat) (rec : K_) (C : C_) (sil : Bool) (k : Nat) (n : Int) (x : T_) (E : N_) (s : S_) : O_ :=
  if k = 3 then (match rec sil x E true (u_go s) with
    | some (v, E1, s1) => (match f_fu L C v (e_id x) s1 with
      | some s2 => some (v, E1, u_nd s2 2)
      | none => none)
    | none => none)
  else if k = 4 then (match t_frm L rec C sil x 0 E (u_go s) with
    | some (w, E1, s1) => some (.tag 4 (.nest w .nil), E1, u_nd s1 2)
    | none => none)
  else some (t_leaf k n, E, u_nd (u_go s) 2)
theorem t_run_ct (L : Nat) (rec : K_) (C : C_) (sil : Bool) (k : Nat) (n : Int) (id : Nat) (x r q : T_) (f : Bool) (E : N_) (s : S_) : t_run L rec C sil (ct k n id x r) q f E s = if s_tb s < 2000 then (match t_item L rec C sil k n x E s with
      | some (v, E1, s1) => t_run L rec C sil r (t_mks (t_app q f v).1 s1) (t_app q f v).2 E1 (u_tl s1 .nil)
      | none => none) else none := rfl
theorem t_frm_ct (L : Nat) (rec : K_) (C : C_) (sil : Bool) (k : Nat) (n : Int) (id : Nat) (x r : T_) (w : Nat) (E : N_) (s : S_) : t_frm L rec C sil (ct k n id x r) w E s = if s_tb s < 2000 then (if k = 3 then (match rec sil x E false (u_go s) with
      | some (v, E1, s1) => (match f_fu L C v (e_id x) s1 with
        | some s2 => t_frm L rec C sil r (m9 (w + v_wd v 1)) E1 s2
        | none => none)
      | none => none)
    else t_frm L rec C sil r (m9 (w + 1)) E (u_go s)) else none := rfl
theorem ev_4 (C : C_) (n : Nat) : ev C (n + 4) = ev1 (2 * n + 1000) C (ev C (n + 3)) (ev C (n + 2)) (ev C n) := rfl
theorem f_notes_eq (C : C_) (f : Int) : ∀ (n : Nat) (s : S_), ∃ l, f_notes C f n s = u_flt s (s_nt s + n) l ∧ (n = 0 → l = s_fl s) ∧ (s_fl s).length ≤ l.length ∧ ((s_fl s).length ≤ 60 → l.length ≤ 60) := by
  intro n
  induction n with
  | zero => intro s; exact ⟨s_fl s, rfl, fun _ => rfl, Nat.le_refl _, fun h => h⟩
  | succ n ih =>
    intro s
    obtain ⟨l, h, -, h2, h3⟩ := ih (f_note C f s)
    refine ⟨l, ?_, fun q => absurd q (Nat.succ_ne_zero n), ?_, ?_⟩
    · rw [f_notes, h]
      unfold f_note
      dsimp only [u_flt, s_nt]
      rw [Nat.add_assoc, Nat.add_comm 1 n]
    · refine Nat.le_trans ?_ h2
      unfold f_note
      dsimp only [u_flt, s_fl]
      split
      · rw [List.length_append]; omega
      · exact Nat.le_refl _
    · intro q
      refine h3 ?_
      unfold f_note
      dsimp only [u_flt, s_fl]
      split
      · rw [List.length_append]
        show _ + 1 ≤ 60
        omega
      · exact q
theorem f_list_eq (C : C_) : ∀ (fs : List Int) (s : S_), ∃ l, f_list C fs s = u_flt s (s_nt s + fs.length) l ∧ (fs.length = 0 → l = s_fl s) := by
  intro fs
  induction fs with
  | nil => intro s; exact ⟨s_fl s, rfl, fun _ => rfl⟩
  | cons f fs ih =>
    intro s
    obtain ⟨l, h, -⟩ := ih (f_note C f s)
    refine ⟨l, ?_, fun q => absurd q (Nat.succ_ne_zero _)⟩
    rw [f_list, h]
    unfold f_note
    dsimp only [u_flt, s_nt, List.length_cons]
    rw [Nat.add_assoc, Nat.add_comm 1]
/-- where functions are minded: nothing else changes -/
theorem f_fu_inv {L : Nat} {C : C_} {v : T_} {id : Nat} {s s1 : S_} (h : f_fu L C v id s = some s1) : v_dp v ≤ L ∧ s1 = f_funs C v id s := by
  unfold f_fu at h
  split at h
  · cases h; exact ⟨by assumption, rfl⟩
  · cases h
/-- the state in which a body is run -/
def s_in (s : S_) : S_ := u_rw (u_as (u_lt (u_sn (u_dp s (s_dp s + 1)) 0) (s_b s)) fun _ => false) (s_rw s + 1)
/-- the state behind a body that was run from s to s1 -/
def s_out (s s1 : S_) (me : List R_) : S_ := u_as (u_sn (u_dp (u_me s1 me) (s_dp s)) (max (s_sn s) (s_sn s1 + 1))) fun q => s_as s q || s_as s1 q
/-- the record that is made -/
def r_rec (C : C_) (fn v w : T_) (s s1 : S_) : R_ := (e_id (v_code fn), (v_num v).getD 0, k_nums (v_code fn) (v_clos fn), w, s_b s1 - s_b s, s_lt s1 - s_b s, s_sn s1, s_as s1, C.1, fn)
theorem o_body_inv {rec : K_} {C : C_} {sil keep : Bool} {fn v w : T_} {s s2 : S_} (h : o_body rec C sil keep fn v s = some (w, s2)) : s_rw s < 2040 ∧ ∃ E1 s1 me, rec sil (e_part (v_code fn)) (n_body (v_code fn) (v_clos fn) v fn) false (s_in s) = some (w, E1, s1) ∧ (keep = true → s_tb s1 ≤ s_tb s + 800 ∧ s_nd s1 ≤ s_nd s + 3950) ∧ s2 = s_out s s1 me ∧ (¬ (keep = true ∧ s_nt s1 = s_nt s ∧ (s_me s1).length < 60) ∧ me = s_me s1 ∨ (keep = true ∧ s_nt s1 = s_nt s ∧ (s_me s1).length < 60) ∧ me = s_me s1 ++ [r_rec C fn v w s s1]) := by
  unfold o_body at h
  split at h
  · rename_i hr
    refine ⟨hr, ?_⟩
    cases hq : rec sil (e_part (v_code fn)) (n_body (v_code fn) (v_clos fn) v fn) false (u_rw (u_as (u_lt (u_sn (u_dp s (s_dp s + 1)) 0) (s_b s)) fun _ => false) (s_rw s + 1)) with
    | none => rw [hq] at h; cases h
    | some p =>
      obtain ⟨w1, E1, s1⟩ := p
      rw [hq] at h
      dsimp only at h
      split at h
      · cases h
      · rename_i hk
        have hk2 : keep = true → s_tb s1 ≤ s_tb s + 800 ∧ s_nd s1 ≤ s_nd s + 3950 := fun q => by
          refine ⟨Nat.le_of_not_lt fun x => hk ⟨q, Or.inl x⟩, Nat.le_of_not_lt fun x => hk ⟨q, Or.inr x⟩⟩
        by_cases c : keep = true ∧ s_nt s1 = s_nt s ∧ (s_me s1).length < 60
        · rw [if_pos c] at h
          cases h
          exact ⟨E1, s1, _, hq, hk2, rfl, Or.inr ⟨c, rfl⟩⟩
        · rw [if_neg c] at h
          cases h
          exact ⟨E1, s1, s_me s1, hq, hk2, rfl, Or.inl ⟨c, rfl⟩⟩
  · cases h
theorem o_call_inv {rec : K_} {C : C_} {sil : Bool} {id : Nat} {fn v w : T_} {E E1 : N_} {s s1 : S_} (h : o_call rec C sil id fn v E s = some (w, E1, s1)) :
    E1 = E ∧ (v_isW v = true ∧ w = vW ∧ s1 = s ∨ v_isW v = false ∧ (8 ≤ s_dp s ∧ w = vW ∧ s1 = f_note C (f_code 5 id) s ∨ s_dp s < 8 ∧ (300 ≤ s_b s ∧ w = vW ∧ s1 = f_note C (f_code 6 id) s ∨ s_b s < 300 ∧
      ((∃ r, r_find C sil fn v s = some r ∧ o_body rec C true false fn v (u_rn s (s_rn s) (s_tk s + 1)) = some (w, s1)) ∨
       r_find C sil fn v s = none ∧ o_body rec C sil (r_keep C sil fn v s) fn v (u_rn s (if sil = true then s_rn s else s_rn s + 1) (s_tk s)) = some (w, s1))))) := by
  unfold o_call at h
  by_cases c1 : v_isW v = true
  · rw [if_pos c1] at h
    cases h
    exact ⟨rfl, Or.inl ⟨c1, rfl, rfl⟩⟩
  · rw [if_neg c1] at h
    have c1' : v_isW v = false := by cases q : v_isW v with
      | false => rfl
      | true => exact absurd q c1
    by_cases c2 : 8 ≤ s_dp s
    · rw [if_pos c2] at h
      cases h
      exact ⟨rfl, Or.inr ⟨c1', Or.inl ⟨c2, rfl, rfl⟩⟩⟩
    · rw [if_neg c2] at h
      by_cases c3 : 300 ≤ s_b s
      · rw [if_pos c3] at h
        cases h
        exact ⟨rfl, Or.inr ⟨c1', Or.inr ⟨Nat.lt_of_not_le c2, Or.inl ⟨c3, rfl, rfl⟩⟩⟩⟩
      · rw [if_neg c3] at h
        refine ⟨?_, Or.inr ⟨c1', Or.inr ⟨Nat.lt_of_not_le c2, Or.inr ⟨Nat.lt_of_not_le c3, ?_⟩⟩⟩⟩
        · cases hf : r_find C sil fn v s with
          | none =>
            rw [hf] at h
            dsimp only at h
            split at h <;> cases h
            rfl
          | some r =>
            rw [hf] at h
            dsimp only at h
            split at h <;> cases h
            rfl
        · cases hf : r_find C sil fn v s with
          | none =>
            rw [hf] at h
            dsimp only at h
            split at h
            · rename_i w1 s2 hb
              cases h
              exact Or.inr ⟨rfl, hb⟩
            · cases h
          | some r =>
            rw [hf] at h
            dsimp only at h
            split at h
            · rename_i w1 s2 hb
              cases h
              exact Or.inl ⟨r, rfl, hb⟩
            · cases h
