/-! ===== realizing: a step ===== -/
section
variable {sil : Bool} {s s1 s2 : S_} {w w' : W_} {Γ Γ' : rG_} {G : G_} {q q1 : Q_} {fr K L : Nat} {P : Option am_V → W_ → Prop} {y : Int}
theorem vv_el {k : Nat} {u : T_} (hk : k = 1 ∨ k = 4 ∨ k = 5) (h : k = 1 → ∃ m t, u = .nest m t) (h4 : k = 4 → ∃ m t, u = .nest m t ∧ 0 ≤ m ∧ m ≤ 9999) (h5 : k = 5 → ∃ id v, u = .tag id v) (hK : vK (.tag k u)) : vv (.tag k u) := by
  refine vv_leaf (by rcases hk with rfl | rfl | rfl <;> omega) (fun s hs => ?_) hK
  rcases hk with rfl | rfl | rfl
  · obtain ⟨m, t, rfl⟩ := h rfl
    show s ≤ 9999
    exact hs
  · obtain ⟨m, t, rfl, h1, h2⟩ := h4 rfl
    show m.toNat ≤ 9999
    omega
  · obtain ⟨id, v, rfl⟩ := h5 rfl
    rw [vK_5] at hK
    exact hK.2 s hs
/-- an element is realized -/
theorem rX_elt {k : Nat} {u w0 : T_} {x : Int × Int × Nat} {S : List F_} (hk : 1 ≤ k ∧ k ≤ 7) (hf : q_fr q = (0, w0, x) :: S) (hw : rFL w0 = [.tag k u]) (hvK : vK (.tag k u)) (H : rXR G sil s q w Γ) (hel : q_el q ≤ 200) (hwi : q_wi q = l_cl (q_fr q) ∧ q_wi q ≤ 12) (hul : (q_us q).length ≤ q_wi q) (hrl : (q_rl q).length ≤ 5700) (hE : x_real (fun C => ev C x_F) G sil (.tag k u) s (p_fr q S) = some (s1, q1)) (hs1 : s_b s1 ≤ 90000 ∧ s_nt s1 ≤ 900000 ∧ s_tb s1 ≤ 1800) (hs : s_nt s + 1 ≤ 1000000) (LL : ∀ w' Γ', rXR G sil s1 q1 w' Γ' → zr234 (fr + 2060) P 23 y w') : zr234 (fr + 2060) P 23 y w := by
  have hK : rKf S := by have := H.2.2; rw [hf] at this; exact this.2
  have e0 : lT (q_fr q) = fP (.tag k u) :: lT S := by
    rw [hf, lT_cons]
    show (rFL w0).map fP ++ _ = _
    rw [hw]; rfl
  have cl0 : cRl (lT S) ≤ q_wi q := by
    have a := cRl_lT (q_fr q)
    have b := cRl_cl (q_fr q)
    have d : cRl (lT (q_fr q)) = 0 + cRl (lT S) := by rw [e0]; rfl
    omega
  refine rX_do H (by omega) e0 (by omega) (fun w1 n c g1 g2 g3 g4 g5 g6 g7 g8 g9 => ?_)
  have ef : fr + 2060 - 1 - 1 = fr + 2058 := by omega
  rw [ef]
  obtain ⟨-, -, ⟨-, hB⟩, -⟩ := id g1
  obtain ⟨-, -, ⟨-, b4, -⟩, ⟨-, -, b9⟩, b10, -⟩ := hB
  have pc : 0 < c ∧ c < 8192 := ⟨g6.1, g6.2.2⟩
  have kinds : ∃ kd : Nat, w1.2 92 c = (kd : Int) ∧ kd < 64 ∧ (kd ≠ 50 ∧ kd ≠ 51) ∧ kd ≠ 18 ∧ kd ≠ 19 := by
    have g := g5
    have K : k = 1 ∨ k = 2 ∨ k = 3 ∨ k = 4 ∨ k = 5 ∨ k = 6 ∨ k = 7 := by omega
    unfold rLF at g
    split at g
    · exact ⟨0, g.1, by decide⟩
    · exact ⟨1, g, by decide⟩
    · exact ⟨2, g.1, by decide⟩
    · exact ⟨4, g.1, by decide⟩
    · exact ⟨20, g.1, by decide⟩
    · exact ⟨21, g.1, by decide⟩
    · exact ⟨22, g.1, by decide⟩
    · rename_i z; cases z; omega
    · rename_i z; cases z; omega
    · rename_i z; cases z; omega
    · exact g.elim
  by_cases many : 200 < q_el q + 1
  · rw [x_real_many (q := p_fr q S) many] at hE
    cases hE
    obtain ⟨kd, k1, k2⟩ := kinds
    exact rX_many (S := S) g1 (by omega) hs pc k1 k2 (by omega) (fun w' h => LL w' Γ h)
  · -- the new q
    have hp1 : q_pg q + (q_wi q : Nat) + 2 ≤ 2 * ((q_el q + 1 : Nat) : Int) := by omega
    have hp2 : q_nx q 41 + (q_wi q : Nat) + 1 ≤ ((q_el q + 1 : Nat) : Int) := by omega
    have tr : ∀ w', (∀ j, j ≠ 64 → w'.1 73 j = w1.1 73 j) → w'.2 = w1.2 → w'.1 73 52 = (n : Int) ∧ rST w' Γ 910 (rLm s) n (lT S) := fun w' h3 h4 => ⟨by rw [h3 52 (by decide)]; exact g2, rST_w (w := w1) (fun j _ => h3 j (by omega)) (fun b _ _ => by rw [h4]) (by rw [h4]; exact ⟨rfl, rfl, rfl, rfl⟩) g4⟩
    have big : ∀ (kd : Nat), w1.2 92 c = (kd : Int) → (kd = 0 ∧ ∃ m u', (.tag k u : T_) = .tag 1 (.nest m u')) ∨ (kd = 4 ∧ ∃ m u', (.tag k u : T_) = .tag 4 (.nest m u')) ∨ (kd = 20 ∧ ∃ id v, (.tag k u : T_) = .tag 5 (.tag id v)) → vv (.tag k u) → x_show (fun C => ev C x_F) G sil (.tag k u) s (p_el (p_fr q S) (q_el q + 1)) = some (s1, q1) → ww_Ct 231 (fr + 2058) [.inr (.inr (.inl 73)), .inl (c : Int)] w1 (rGo (fr + 2060) P y) := by
      intro kd k1 hkd hvv hx
      refine rX_one (S := S) (k := kd) g1 (by omega) pc k1 (by rcases hkd with ⟨rfl, -⟩ | ⟨rfl, -⟩ | ⟨rfl, -⟩ <;> decide) (by omega) (fun w' h1 ⟨nq, h2, h2', h2''⟩ h3 h4 => ?_)
      obtain ⟨t1, t2⟩ := tr w' h3 h4
      have X : rXT w1 Γ w' Γ (-1) := rXT_same (fun j _ => h3 j (by omega)) (fun b _ _ => by rw [h4])
      refine rX_e1 (fr := fr + 2057) (k := kd) (l := lT S) (n := n) hkd hvv h1 ⟨nq, h2, h2', by show nq + 1 ≤ q_el q + 1; omega⟩ t1 t2 rfl hK ⟨g6.1, by rw [h3 26 (by decide)]; exact g6.2.1, g6.2.2⟩ (rCC_mono X g7) (rLF_mono X (rOK_m _) g6.2.1 g5) (by rw [h4]; exact g9) g3 ⟨hwi.2, fun d => ?_⟩ ⟨hp1, hp2⟩ ⟨by show (q_th q).length + 1 ≤ q_el q + 1; omega, by show q_el q + 1 ≤ 200; omega⟩ hul hrl hx hs1 hs (by omega) LL
      have d : q_wi q < 12 := d
      omega
    have K : k = 1 ∨ k = 2 ∨ k = 3 ∨ k = 4 ∨ k = 5 ∨ k = 6 ∨ k = 7 := by omega
    rcases K with rfl | rfl | rfl | rfl | rfl | rfl | rfl
    · rw [x_real_1 (q := p_fr q S) many] at hE
      cases u with
      | nest m t => exact big 0 g5.1 (Or.inl ⟨rfl, m, t, rfl⟩) (vv_el (by omega) (fun _ => ⟨m, t, rfl⟩) (fun q => by omega) (fun q => by omega) hvK) hE
      | _ => exact (show False from g5).elim
    · rw [x_real_2 (q := p_fr q S) many] at hE
      cases hE
      have k1 : w1.2 92 c = 1 := g5
      refine rX_one (S := S) (k := 1) g1 (by omega) pc k1 (by decide) (by omega) (fun w' h1 _ h3 h4 => ?_)
      obtain ⟨t1, t2⟩ := tr w' h3 h4
      exact rX_e2 (fr := fr + 2057) (l := lT S) (n := n) h1 t1 t2 rfl hK (by show q_pg q + (q_wi q : Nat) + 1 ≤ 2 * ((q_el q + 1 : Nat) : Int); omega) pc (by rw [h4]; exact k1) (by omega) (fun w' h => LL w' Γ h)
    · cases u with
      | nest m t =>
        rw [x_real_3 (q := p_fr q S) many] at hE
        cases hE
        obtain ⟨k1, k2, k3, k4⟩ : w1.2 92 c = 2 ∧ w1.2 93 c = m ∧ 0 ≤ m ∧ m < 10 := g5
        refine rX_one (S := S) (k := 2) g1 (by omega) pc k1 (by decide) (by omega) (fun w' h1 _ h3 h4 => ?_)
        obtain ⟨t1, t2⟩ := tr w' h3 h4
        exact rX_e3 (fr := fr + 2057) (m := m.toNat) (l := lT S) (n := n) h1 t1 t2 rfl hK pc (by rw [h4]; exact k1) (by rw [h4, k2]; omega) (by omega) (by omega) (fun w' h => LL w' Γ h)
      | _ => exact (show False from g5).elim
    · rw [x_real_4 (q := p_fr q S) many] at hE
      cases u with
      | nest m t => exact big 4 g5.1 (Or.inr (Or.inl ⟨rfl, m, t, rfl⟩)) (vv_el (by omega) (fun q => by omega) (fun _ => ⟨m, t, rfl, g5.2⟩) (fun q => by omega) hvK) hE
      | _ => exact (show False from g5).elim
    · rw [x_real_5 (q := p_fr q S) many] at hE
      cases u with
      | tag id v => exact big 20 g5.1 (Or.inr (Or.inr ⟨rfl, id, v, rfl⟩)) (vv_el (by omega) (fun q => by omega) (fun q => by omega) (fun _ => ⟨id, v, rfl⟩) hvK) hE
      | _ => exact (show False from g5).elim
    · cases u with
      | tag m t =>
        cases t with
        | nest x0 t0 =>
          rw [x_real_6 (q := p_fr q S) many] at hE
          cases hE
          obtain ⟨k1, k2, k3, k4, k5⟩ : w1.2 92 c = 21 ∧ w1.2 93 c = (m : Int) ∧ w1.2 94 c = x0 ∧ m < 3 ∧ -9999 ≤ x0 ∧ x0 ≤ 9999 := g5
          refine rX_one (S := S) (k := 21) g1 (by omega) pc k1 (by decide) (by omega) (fun w' h1 _ h3 h4 => ?_)
          obtain ⟨t1, t2⟩ := tr w' h3 h4
          exact rX_e6 (fr := fr + 2057) (p := m) (x := x0) (l := lT S) (n := n) h1 t1 t2 rfl hK pc (by rw [h4]; exact k1) (by rw [h4]; exact k2) (by rw [h4]; exact k3) ⟨k4, k5⟩ (by omega) (fun w' h => LL w' Γ h)
        | _ => exact (show False from g5).elim
      | _ => exact (show False from g5).elim
    · cases u with
      | append e0 cl =>
        rw [x_real_7 (q := p_fr q S) many] at hE
        have k1 : w1.2 92 c = 22 := g5.1
        refine rX_one (S := S) (k := 22) g1 (by omega) pc k1 (by decide) (by omega) (fun w' h1 ⟨nq, h2, h2', h2''⟩ h3 h4 => ?_)
        obtain ⟨t1, t2⟩ := tr w' h3 h4
        have X : rXT w1 Γ w' Γ (-1) := rXT_same (fun j _ => h3 j (by omega)) (fun b _ _ => by rw [h4])
        have cc : ((c : Int)).toNat = c := by omega
        refine lk_230d (k := 22) (by omega) (by rw [cc, h4]; exact k1) (by omega) (by omega) (lk_230t (R := fun w' => ∃ Γ', rXR G sil s1 q1 w' Γ') (by omega) rfl (rX_run (l := lT S) (n := n) h1 ⟨nq, h2, h2', by show nq + 1 ≤ q_el q + 1; omega⟩ t1 t2 rfl hK ⟨g6.1, by rw [h3 26 (by decide)]; exact g6.2.1⟩ (rLF_mono X (rOK_m _) g6.2.1 g5) (by omega) ⟨hwi.2, fun d => ?_⟩ ⟨by show q_pg q + (q_wi q : Nat) + 1 ≤ 2 * ((q_el q + 1 : Nat) : Int); omega, hp2⟩ hul hE hs1 (by omega)) (fun w' ⟨Γ', h⟩ => ⟨rfl, LL w' Γ' h⟩))
        have d : q_wi q < 12 := d
        omega
      | _ => exact (show False from g5).elim
end
