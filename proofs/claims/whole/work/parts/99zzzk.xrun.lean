/-! ===== the evaluator: realizing always ends ===== -/
def f_ff : F_ → Bool
  | (0, w, _) => v_ff w
  | (5, _, _) => true
  | _ => false
/-- steps of what holds no element -/
def f_c : F_ → Nat
  | (0, w, _) => if v_ff w = true then 0 else 2 * v_mk w - 1
  | (5, _, _) => 0
  | _ => 1
/-- steps to the next element -/
def f_m : F_ → Nat
  | (0, w, _) => 2 * v_m w + 1
  | (5, v, _) => 2 * v_m v + 3
  | _ => 0
def l_c : List F_ → Nat
  | [] => 0
  | f :: l => f_c f + l_c l
def l_m : List F_ → Nat
  | [] => 0
  | f :: l => if f_ff f = true then f_m f else l_m l
/-- how many are within one another, how many of them by rules -/
def l_cl : List F_ → Nat
  | [] => 0
  | (k, _) :: l => (if k = 2 ∨ k = 3 ∨ k = 4 then 1 else 0) + l_cl l
def l_3 : List F_ → Nat
  | [] => 0
  | (k, _) :: l => (if k = 3 then 1 else 0) + l_3 l
/-- how high a piece may grow -/
def v_h (w : T_) : Nat := 2 * v_m w + (if v_ff w = true then 0 else v_mk w)
/-- contents that are sound -/
def cG (T : Nat) (w : T_) : Prop := v_go w ∧ v_rg w ∧ v_m w ≤ T ∧ v_R w ≤ T
/-- frames that are sound; c: rules that hold -/
def XF (T Y : Nat) : Nat → List F_ → Prop
  | _, [] => True
  | c, (0, w, _, _, _) :: S => (cG T w ∧ S.length + v_h w ≤ 605 * (l_cl S + 1) + 2 * Y ∧ c + v_R w ≤ 300 * (l_cl S + 1) + Y) ∧ XF T Y (c + v_rn w) S
  | c, (5, v, _, _, _) :: S => ((cG T v ∧ v_ff v = true) ∧ S.length + (2 * v_m v + 2) ≤ 605 * (l_cl S + 1) + 2 * Y ∧ c + v_R v ≤ 300 * (l_cl S + 1) + Y) ∧ XF T Y c S
  | c, (1, _, _, _, n) :: S => (n ≤ c ∧ S.length ≤ 605 * (l_cl S + 1) + 2 * Y) ∧ XF T Y n S
  | c, (k, _, _, _, _) :: S => ((k = 2 ∨ k = 3 ∨ k = 4) ∧ S.length ≤ 605 * (l_cl S + 1) + 2 * Y) ∧ XF T Y c S
theorem cG_mono {T T' : Nat} {w : T_} (h : cG T w) (hT : T ≤ T') : cG T' w := ⟨h.1, h.2.1, Nat.le_trans h.2.2.1 hT, Nat.le_trans h.2.2.2 hT⟩
theorem XF_0 {T Y c : Nat} {w : T_} {x : Int × Int × Nat} {S : List F_} : XF T Y c ((0, w, x) :: S) = ((cG T w ∧ S.length + v_h w ≤ 605 * (l_cl S + 1) + 2 * Y ∧ c + v_R w ≤ 300 * (l_cl S + 1) + Y) ∧ XF T Y (c + v_rn w) S) := rfl
theorem XF_5 {T Y c : Nat} {v : T_} {x : Int × Int × Nat} {S : List F_} : XF T Y c ((5, v, x) :: S) = (((cG T v ∧ v_ff v = true) ∧ S.length + (2 * v_m v + 2) ≤ 605 * (l_cl S + 1) + 2 * Y ∧ c + v_R v ≤ 300 * (l_cl S + 1) + Y) ∧ XF T Y c S) := rfl
theorem XF_1 {T Y c n : Nat} {v : T_} {a b : Int} {S : List F_} : XF T Y c ((1, v, a, b, n) :: S) = ((n ≤ c ∧ S.length ≤ 605 * (l_cl S + 1) + 2 * Y) ∧ XF T Y n S) := rfl
theorem XF_k {T Y c k : Nat} (hk : k = 2 ∨ k = 3 ∨ k = 4) {v : T_} {x : Int × Int × Nat} {S : List F_} : XF T Y c ((k, v, x) :: S) = (((k = 2 ∨ k = 3 ∨ k = 4) ∧ S.length ≤ 605 * (l_cl S + 1) + 2 * Y) ∧ XF T Y c S) := by
  rcases hk with rfl | rfl | rfl <;> rfl
/-- what a frame can be -/
theorem XF_or {T Y c : Nat} {f : F_} {S : List F_} (h : XF T Y c (f :: S)) : (∃ w x, f = (0, w, x)) ∨ (∃ v x, f = (5, v, x)) ∨ (∃ v a b n, f = (1, v, a, b, n)) ∨ ∃ k v x, f = (k, v, x) ∧ (k = 2 ∨ k = 3 ∨ k = 4) := by
  obtain ⟨k, v, a, b, n⟩ := f
  by_cases c0 : k = 0
  · subst c0; exact Or.inl ⟨_, _, rfl⟩
  · by_cases c5 : k = 5
    · subst c5; exact Or.inr (Or.inl ⟨_, _, rfl⟩)
    · by_cases c1 : k = 1
      · subst c1; exact Or.inr (Or.inr (Or.inl ⟨_, _, _, _, rfl⟩))
      · refine Or.inr (Or.inr (Or.inr ⟨k, v, _, rfl, ?_⟩))
        unfold XF at h
        split at h
        · rename_i q; cases q
        · rename_i q; cases q; exact absurd rfl c0
        · rename_i q; cases q; exact absurd rfl c5
        · rename_i q; cases q; exact absurd rfl c1
        · rename_i q; cases q; exact h.1.1
theorem XF_mono {T T' Y Y' : Nat} (hT : T ≤ T') (hY : Y ≤ Y') : ∀ (S : List F_) (c : Nat), XF T Y c S → XF T' Y' c S := by
  intro S
  induction S with
  | nil => intro c _; exact trivial
  | cons f S ih =>
    intro c h
    rcases XF_or h with ⟨w, x, rfl⟩ | ⟨v, x, rfl⟩ | ⟨v, a, b, n, rfl⟩ | ⟨k, v, x, rfl, hk⟩
    · rw [XF_0] at h ⊢
      exact ⟨⟨cG_mono h.1.1 hT, by omega, by omega⟩, ih _ h.2⟩
    · rw [XF_5] at h ⊢
      exact ⟨⟨⟨cG_mono h.1.1.1 hT, h.1.1.2⟩, by omega, by omega⟩, ih _ h.2⟩
    · rw [XF_1] at h ⊢
      exact ⟨⟨h.1.1, by omega⟩, ih _ h.2⟩
    · rw [XF_k hk] at h ⊢
      exact ⟨⟨hk, by omega⟩, ih _ h.2⟩
theorem XF_len {T Y c : Nat} {S : List F_} (h : XF T Y c S) (hc : l_cl S ≤ 12) (hY : Y ≤ 1800) : S.length ≤ 12000 := by
  cases S with
  | nil => exact Nat.zero_le _
  | cons f S =>
    rw [List.length_cons]
    rcases XF_or h with ⟨w, x, rfl⟩ | ⟨v, x, rfl⟩ | ⟨v, a, b, n, rfl⟩ | ⟨k, v, x, rfl, hk⟩
    · rw [XF_0] at h
      have : 0 + l_cl S ≤ 12 := hc
      omega
    · rw [XF_5] at h
      have : 0 + l_cl S ≤ 12 := hc
      omega
    · rw [XF_1] at h
      have : 0 + l_cl S ≤ 12 := hc
      omega
    · rw [XF_k hk] at h
      have hc : (if k = 2 ∨ k = 3 ∨ k = 4 then 1 else 0) + l_cl S ≤ 12 := hc
      rw [if_pos hk] at hc
      omega
/-- a rule that holds -/
def rG (T : Nat) (r : T_) : Prop := ∃ n e f, r = .tag 11 (.tag n (.append e f)) ∧ (v_go f ∧ v_rg f ∧ v_m f ≤ T ∧ v_R f ≤ T) ∧ v_isF f = true
abbrev x_Y (s : S_) : Nat := if s_b s < 300 then 0 else 1800
/-- the state while it is realized -/
def XS (el k : Nat) (s : S_) : Prop := (s_dp s = 0 ∧ s_tl s = .nil ∧ s_lt s ≤ s_b s) ∧ (max (s_tb s) 740 + 500 * fcz s ≤ 1800 ∧ fcz s ≤ 2 ∧ s_rw s + 3 * fcz s ≤ s_tb s + 24 + el ∧ s_tb s ≤ s_b s) ∧ (sG (s_tb s) s ∧ sV 0 s) ∧ (s_b s ≤ 3 * s_tb s + el ∧ s_nt s + 300 * fcz s ≤ 130 * s_b s + 900 + 61 * el ∧ s_nd s ≤ 11 * s_tb s + k + 1)
def XQ (T Y : Nat) (q : Q_) : Prop := (q_el q ≤ 201 ∧ (q_fr q ≠ [] → q_el q ≤ 200 ∧ q_wi q = l_cl (q_fr q) ∧ q_wi q ≤ 12 ∧ (q_us q).length = l_3 (q_fr q))) ∧ XF T Y (q_rl q).length (q_fr q) ∧ (∀ r, r ∈ q_rl q → rG T r) ∧ (q_rl q).length ≤ 3900 + Y
def x_P (q : Q_) : Nat := (201 - q_el q) * 3610 + l_c (q_fr q) + l_m (q_fr q)
theorem l_m_le {T Y : Nat} (hT : T ≤ 1800) : ∀ (S : List F_) (c : Nat), XF T Y c S → l_m S ≤ 3603 := by
  intro S
  induction S with
  | nil => intro c _; exact Nat.zero_le _
  | cons f S ih =>
    intro c h
    unfold l_m
    rcases XF_or h with ⟨w, x, rfl⟩ | ⟨v, x, rfl⟩ | ⟨v, a, b, n, rfl⟩ | ⟨k, v, x, rfl, hk⟩
    · rw [XF_0] at h
      split
      · have := h.1.1.2.2.1
        show 2 * v_m w + 1 ≤ 3603
        omega
      · exact ih _ h.2
    · rw [XF_5] at h
      have := h.1.1.1.2.2.1
      show 2 * v_m v + 3 ≤ 3603
      omega
    · rw [XF_1] at h
      exact ih _ h.2
    · rw [XF_k hk] at h
      have e : f_ff (k, v, x) = false := by rcases hk with rfl | rfl | rfl <;> rfl
      rw [e, if_neg Bool.false_ne_true]
      exact ih _ h.2
theorem l_m0 {w : T_} {x : Int × Int × Nat} {S : List F_} : l_m ((0, w, x) :: S) = if v_ff w = true then 2 * v_m w + 1 else l_m S := rfl
theorem l_c0 {w : T_} {x : Int × Int × Nat} {S : List F_} : l_c ((0, w, x) :: S) = (if v_ff w = true then 0 else 2 * v_mk w - 1) + l_c S := rfl
theorem l_m5 {w : T_} {x : Int × Int × Nat} {S : List F_} : l_m ((5, w, x) :: S) = 2 * v_m w + 3 := rfl
theorem l_c5 {w : T_} {x : Int × Int × Nat} {S : List F_} : l_c ((5, w, x) :: S) = l_c S := Nat.zero_add _
theorem l_mk {k : Nat} (hk : 1 ≤ k ∧ k ≤ 4) {w : T_} {x : Int × Int × Nat} {S : List F_} : l_m ((k, w, x) :: S) = l_m S ∧ l_c ((k, w, x) :: S) = 1 + l_c S := by
  have : k = 1 ∨ k = 2 ∨ k = 3 ∨ k = 4 := by omega
  rcases this with rfl | rfl | rfl | rfl <;> exact ⟨rfl, rfl⟩
/-- a value that holds nothing is one step -/
theorem gv_mk {v : T_} (h : gv v) (hf : v_ff v = false) : v_mk v = 1 := by
  cases v with
  | tag k x =>
    by_cases c : k = 8
    · subst c
      cases x with
      | append a b => have := h.2 rfl; rw [hf] at this; cases this
      | _ => rfl
    · unfold v_mk
      split
      · rename_i q; cases q; exact absurd rfl c
      · rfl
  | _ => rfl
/-- content of a rule, a LATE or a heading -/
theorem XF_new {T Y Y' c k : Nat} {v el : T_} {x y z : Int × Int × Nat} {S : List F_} (h : XF T Y c ((0, el, x) :: S)) (hr : v_rn el = 0) (hk : k = 3 ∨ k = 4) (hg : gv v) (hv : rv T v) (hm : v_m v ≤ T) (hY : Y ≤ Y') (hT : (Y = 0 ∧ Y' = 1800 ∧ T ≤ 1800) ∨ T ≤ 300) : XF T Y' c ((0, v, y) :: (k, .nil, z) :: S) := by
  have h' := XF_mono (Nat.le_refl T) hY _ _ h
  rw [XF_0] at h h'
  have hk' : k = 2 ∨ k = 3 ∨ k = 4 := by omega
  obtain ⟨hv1, hv2, hv3⟩ := hv
  rw [XF_0, XF_k hk']
  have e : l_cl ((k, (.nil : T_), z) :: S) = 1 + l_cl S := by
    show (if k = 2 ∨ k = 3 ∨ k = 4 then 1 else 0) + l_cl S = _
    rw [if_pos hk']
  have hh : v_h v ≤ 2 * v_m v + 1 := by
    unfold v_h
    cases q : v_ff v with
    | true => rw [if_pos rfl]; omega
    | false => rw [if_neg Bool.false_ne_true, gv_mk hg q]; omega
  have hS : S.length ≤ 605 * (l_cl S + 1) + 2 * Y := by omega
  have hC : c ≤ 300 * (l_cl S + 1) + Y := by omega
  rw [hv1, e, List.length_cons]
  rw [hr] at h'
  exact ⟨⟨⟨hg.1, hv2, hm, hv3⟩, by omega, by omega⟩, ⟨hk', by omega⟩, h'.2⟩
/-- files are short -/
def GG (G : G_) : Prop := (∀ f, c_sz (G.2.1 f) ≤ 60) ∧ ∀ f, f < 3 → (G.2.2.1 f).length ≤ 300
theorem XS_el {el k : Nat} {s : S_} (h : XS el k s) : XS (el + 1) (k + 1) s := by
  obtain ⟨h1, ⟨h2, h3, h4, h5⟩, h6, h7, h8, h9⟩ := h
  exact ⟨h1, ⟨h2, h3, by omega, h5⟩, h6, by omega, by omega, by omega⟩
theorem XS_k {el k : Nat} {s : S_} (h : XS el k s) : XS (el + 1) k s := by
  obtain ⟨h1, ⟨h2, h3, h4, h5⟩, h6, h7, h8, h9⟩ := h
  exact ⟨h1, ⟨h2, h3, by omega, h5⟩, h6, by omega, by omega, h9⟩
theorem XS_nd {el k : Nat} {s : S_} (h : XS el k s) : XS el (k + 1) (u_nd s 1) := by
  obtain ⟨h1, h2, h6, h7, h8, h9⟩ := h
  exact ⟨h1, h2, h6, h7, h8, by show s_nd s + 1 ≤ 11 * s_tb s + (k + 1) + 1; omega⟩
theorem XS_note {el k : Nat} {s : S_} {C : C_} {f : Int} (h : XS el k s) : XS (el + 1) k (f_note C f s) := by
  obtain ⟨h1, ⟨h2, h3, h4, h5⟩, h6, h7, h8, h9⟩ := h
  exact ⟨h1, ⟨h2, h3, by show s_rw s + 3 * fcz s ≤ s_tb s + 24 + (el + 1); omega, h5⟩, h6, by show s_b s ≤ 3 * s_tb s + (el + 1); omega, by show s_nt s + 1 + 300 * fcz s ≤ 130 * s_b s + 900 + 61 * (el + 1); omega, h9⟩
/-- a body or a LATE's part is run -/
theorem x_body {G : G_} {q : Q_} {sil : Bool} {el k d x y : Nat} {e : T_} {E : N_} {s : S_} (hG : GG G) (hd : d ≤ 1) (H : XS el k s) (hb : s_b s < 300) (hel : el ≤ 199) (he : c_sz e ≤ 58) (hE1 : nG (s_tb s) E) (hE2 : nV (s_tb s) E) : ∃ v E1 s1, ev (g_C G q) x_F sil e E false (u_rw (u_rn (u_dp s d) x y) (s_rw s + 1)) = some (v, E1, s1) ∧ (∀ C id, XS (el + 1) k (f_funs C v id (u_dp s1 0))) ∧ s_dp s1 = d ∧ v_dp v ≤ x_L ∧ gv v ∧ rv (s_tb s1) v ∧ v_m v ≤ s_tb s1 ∧ s_tb s ≤ s_tb s1 ∧ s_b s ≤ s_b s1 ∧ s_tb s1 ≤ 1800 := by
  obtain ⟨⟨h1, h1', h1''⟩, ⟨h2, h3, h4, h5⟩, ⟨h6, h6'⟩, h7, h8, h9⟩ := H
  have hk0 : kt s = 0 := by show mk0 (s_tl s) = 0; rw [h1']; rfl
  have hr0 : v_rn (s_tl s) = 0 := by rw [h1']; rfl
  have hKd : Kd d = 300 + 55 * (8 - d) := rfl
  have B : eBH 512 0 0 (c_sz e) (u_rw (u_rn (u_dp s d) x y) (s_rw s + 1)) := by
    refine ⟨?_, ?_, ?_, fun _ => ?_, ?_, ?_, ?_, ?_, h5, ?_⟩
    · show d ≤ 8
      omega
    · show max (s_tb s) (Kd d) + c_sz e + 500 * fcz s + 500 * 0 ≤ Kd d + 1060 + 60 * 0
      omega
    · show 0 + kt s + c_sz e ≤ 358 + 61 * 0
      omega
    · show 0 + kt s + c_sz e ≤ 60 + 58 * d
      omega
    · show 512 ≤ 512 + 0 + d + 10 * 0
      omega
    · show 0 + kt s ≤ s_tb s
      omega
    · show fcz s + 0 ≤ 2
      omega
    · show s_rw s + 1 + 3 * fcz s ≤ s_tb s + 226
      omega
    · show sG (s_tb s - 0 - kt s) s
      rw [hk0]
      exact h6
  obtain ⟨⟨v, E1, s1, hr, Q, gvv, mv, -⟩, -⟩ := ev_B (C := g_C G q) hG.1 512 0 0 sil e E false _ B (by omega) (by show nG (s_tb s - 0 - kt s) E; rw [hk0]; exact hE1)
  have M := ev_M (g_C G q) 512 sil e E false _ _ _ _ hr h1''
  have U := ev_U (C := g_C G q) hG.2 512 sil e E false _ _ _ _ hr
  have W := ev_W (g_C G q) 512 sil e E false _ _ _ _ hr
  have V := ev_V (g_C G q) 512 0 sil e E false _ _ _ _ hr h6' (by
    show nV (s_tb s - 0 - v_rn (s_tl s)) E
    rw [hr0]
    exact hE2)
  have tl : s_tl s1 = .nil := (M.2.2.2.2.2.2.2.1 rfl).trans h1'
  have k1 : kt s1 = 0 := by show mk0 (s_tl s1) = 0; rw [tl]; rfl
  have r1 : v_rn (s_tl s1) = 0 := by rw [tl]; rfl
  obtain ⟨q1, q2, q3, q4, q5, q6, q7, q8, q9, q10, -⟩ := Q
  have q2 : max (s_tb s1) (Kd d) + 500 * fcz s1 ≤ max (s_tb s) (Kd d) + c_sz e + 500 * fcz s := q2
  have q3 : fcz s1 ≤ fcz s := q3
  have q6 : s_tb s ≤ s_tb s1 := q6
  have q7 : s_rw s1 + 3 * fcz s1 + s_tb s ≤ s_rw s + 1 + 3 * fcz s + s_tb s1 := q7
  obtain ⟨U1, U2⟩ := U
  have U1 : s_b s1 + 3 * s_tb s ≤ s_b s + 3 * s_tb s1 + 1 := U1
  have U2 : s_nt s1 + 130 * s_b s + 300 * fcz s1 ≤ s_nt s + 130 * s_b s1 + 300 * fcz s + 0 := U2
  have W : s_nd s1 + 11 * s_tb s ≤ s_nd s + 11 * s_tb s1 := W
  have M1 : s_b s ≤ s_b s1 := M.1
  have T1 : s_tb s1 ≤ 1800 := by omega
  obtain ⟨V1, V2, V3, -⟩ := V
  have V3 : rv (s_tb s1 - 0 - v_rn (s_tl s1)) v := V3
  rw [r1] at V3
  rw [k1] at q9
  refine ⟨v, E1, s1, hr, fun C id => ?_, q1, ?_, gvv, V3, by omega, q6, M1, T1⟩
  · unfold f_funs
    obtain ⟨l, el', -⟩ := f_notes_eq C (f_code 3 id) (min 60 (v_nf v)) (u_dp s1 0)
    rw [el']
    refine ⟨⟨rfl, tl, M.2.2.2.2.1⟩, ⟨?_, ?_, ?_, q8⟩, ⟨q9, V2⟩, ?_, ?_, ?_⟩
    · show max (s_tb s1) 740 + 500 * fcz s1 ≤ 1800
      omega
    · show fcz s1 ≤ 2
      omega
    · show s_rw s1 + 3 * fcz s1 ≤ s_tb s1 + 24 + (el + 1)
      omega
    · show s_b s1 ≤ 3 * s_tb s1 + (el + 1)
      omega
    · show s_nt s1 + min 60 (v_nf v) + 300 * fcz s1 ≤ 130 * s_b s1 + 900 + 61 * (el + 1)
      omega
    · show s_nd s1 ≤ 11 * s_tb s1 + k + 1
      omega
  · have dpv := v_dp_le v
    show v_dp v ≤ 2016
    omega
/-- what is left of a round when an element is counted -/
theorem XQ_of {T Y : Nat} {q : Q_} (h1 : q_el q ≤ 200) (h2 : q_wi q = l_cl (q_fr q)) (h3 : q_wi q ≤ 12) (h4 : (q_us q).length = l_3 (q_fr q)) (h5 : XF T Y (q_rl q).length (q_fr q)) (h6 : ∀ r, r ∈ q_rl q → rG T r) (h7 : (q_rl q).length ≤ 3900 + Y) : XQ T Y q := ⟨⟨by omega, fun _ => ⟨h1, h2, h3, h4⟩⟩, h5, h6, h7⟩
theorem rG_mono {T T' : Nat} {r : T_} (h : rG T r) (hT : T ≤ T') : rG T' r := by
  obtain ⟨n, e, f, h1, ⟨h2, h3, h4, h5⟩, h6⟩ := h
  exact ⟨n, e, f, h1, ⟨h2, h3, by omega, by omega⟩, h6⟩
theorem x_Y_le {s s1 : S_} (h : s_b s ≤ s_b s1) : x_Y s ≤ x_Y s1 := by
  show (if s_b s < 300 then 0 else 1800) ≤ (if s_b s1 < 300 then 0 else 1800)
  split <;> split <;> omega
/-- the measure, behind an element -/
theorem x_P_el {q q1 : Q_} {w : T_} {x : Int × Int × Nat} {S : List F_} {T Y c : Nat} (hf : q_fr q = (0, w, x) :: S) (he : q_el q ≤ 200) (e1 : q_el q1 = q_el q + 1) (hT : T ≤ 1800) (hX : XF T Y c (q_fr q1)) (hc : l_c (q_fr q1) ≤ l_c S + 2) : x_P q1 < x_P q := by
  have h1 := l_m_le hT _ _ hX
  unfold x_P
  rw [hf, l_c0, e1]
  omega
