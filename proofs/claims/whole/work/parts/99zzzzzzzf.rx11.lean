/-! ===== realizing: an element ===== -/
section
variable {sil : Bool} {s s1 s2 : S_} {w w' : W_} {Γ Γ' : rG_} {G : G_} {q q1 : Q_} {fr K L : Nat} {P : Option am_V → W_ → Prop} {y : Int}
theorem x_real_many {rec : C_ → K_} {el : T_} (h : 200 < q_el q + 1) : x_real rec G sil el s q = some (f_note (g_C G (p_el q (q_el q + 1))) 600000 s, p_fr (p_el q (q_el q + 1)) []) := if_pos h
theorem x_real_2 {rec : C_ → K_} {u : T_} (h : ¬ 200 < q_el q + 1) : x_real rec G sil (.tag 2 u) s q = some (s, q_nl G (p_el q (q_el q + 1))) := if_neg h
theorem x_real_3 {rec : C_ → K_} {l : Int} {u : T_} (h : ¬ 200 < q_el q + 1) : x_real rec G sil (.tag 3 (.nest l u)) s q = some (s, q_label l.toNat (p_el q (q_el q + 1))) := if_neg h
theorem x_real_6 {rec : C_ → K_} {c : Nat} {x : Int} {u : T_} (h : ¬ 200 < q_el q + 1) : x_real rec G sil (.tag 6 (.tag c (.nest x u))) s q = some (s, p_ct (p_el q (q_el q + 1)) (g_up (q_ct (p_el q (q_el q + 1))) c (b9 (q_ct (p_el q (q_el q + 1)) c + x)))) := if_neg h
theorem x_real_7 {rec : C_ → K_} {e cl : T_} (h : ¬ 200 < q_el q + 1) : x_real rec G sil (.tag 7 (.append e cl)) s q = x_late rec G sil e cl s (p_el q (q_el q + 1)) := if_neg h
theorem x_real_1 {rec : C_ → K_} {u : T_} (h : ¬ 200 < q_el q + 1) : x_real rec G sil (.tag 1 u) s q = x_show rec G sil (.tag 1 u) s (p_el q (q_el q + 1)) := if_neg h
theorem x_real_4 {rec : C_ → K_} {u : T_} (h : ¬ 200 < q_el q + 1) : x_real rec G sil (.tag 4 u) s q = x_show rec G sil (.tag 4 u) s (p_el q (q_el q + 1)) := if_neg h
theorem x_real_5 {rec : C_ → K_} {u : T_} (h : ¬ 200 < q_el q + 1) : x_real rec G sil (.tag 5 u) s q = x_show rec G sil (.tag 5 u) s (p_el q (q_el q + 1)) := if_neg h
/-- an element that a rule may show -/
theorem rX_e1 {el : T_} {k c n : Nat} {l : List F_} (hk : (k = 0 ∧ ∃ m u, el = .tag 1 (.nest m u)) ∨ (k = 4 ∧ ∃ m u, el = .tag 4 (.nest m u)) ∨ (k = 20 ∧ ∃ id v, el = .tag 5 (.tag id v))) (hv : vv el) (H : rXC G sil s q w Γ) (H9 : ∃ nq : Nat, rRC (g_C G q) sil False (8 + (nq : Int)) 0 s w Γ ∧ nq ≤ cW (w.2 92) (w.1 73 26 - 1).toNat ∧ nq + 1 ≤ q_el q) (h52 : w.1 73 52 = (n : Int)) (hT : rST w Γ 910 (rLm s) n l) (e : lT (q_fr q) = l) (hK : rKf (q_fr q)) (hc : 0 < c ∧ (c : Int) < w.1 73 26 ∧ c < 8192) (hcc : rCC w Γ (c : Int) [el]) (hL : rLF w Γ el c) (hb : n + uW (w.2 92) c ≤ 910 * cRl l + rLm s) (hcl : 910 * cRl l + rLm s < 16384) (hwi : q_wi q ≤ 12 ∧ (q_wi q < 12 → cRl l ≤ 11)) (hp : q_pg q + (q_wi q : Nat) + 2 ≤ 2 * (q_el q : Nat) ∧ q_nx q 41 + (q_wi q : Nat) + 1 ≤ (q_el q : Nat)) (ht : (q_th q).length + 1 ≤ q_el q ∧ q_el q ≤ 200) (hul : (q_us q).length ≤ q_wi q) (hrl : (q_rl q).length ≤ 5700) (hE : x_show (fun C => ev C x_F) G sil el s q = some (s1, q1)) (hs1 : s_b s1 ≤ 90000 ∧ s_nt s1 ≤ 900000 ∧ s_tb s1 ≤ 1800) (hs : s_nt s + 1 ≤ 1000000) (h1 : 2050 ≤ fr) (LL : ∀ w' Γ', rXR G sil s1 q1 w' Γ' → zr234 (fr + 3) P 23 y w') : zs230 fr (rGo (fr + 3) P y) 34 (c : Int) w := by
  have cc : ((c : Int)).toNat = c := by omega
  obtain ⟨⟨nq, k1, -⟩, h47, ⟨⟨⟨x1, x2, x3, x4⟩, -⟩, hB⟩, ⟨⟨y1, y2⟩, y3⟩, -⟩ := id H
  obtain ⟨-, ⟨b1, b2, b3, b4⟩, -⟩ := hB
  -- with a rule or without
  have M : ∀ (a : Int), q_shown el = a → am_rg a → (∀ P : Option am_V → W_ → Prop, zr225 (fr - 1) P 58 (c : Int) a ((((q_rl q).length : Nat) : Int) - 1) w → ww_Ct 225 (fr - 1) [.inr (.inr (.inl 73)), .inl (c : Int)] w P) → (q_rule el q = none → zr230 fr (rGo (fr + 3) P y) 66 (c : Int) (k : Int) 0 w) → ∃ x : Int, ww_Ct 225 (fr - 1) [.inr (.inr (.inl 73)), .inl (c : Int)] w (fun r w' => ∃ y, r = some (.inl y) ∧ (y = x ∧ w' = w)) ∧ zr230 fr (rGo (fr + 3) P y) 66 (c : Int) (k : Int) x w := by
    intro a ha ar hP hN
    obtain ⟨x, alt, hx⟩ := rX_rule (fr := fr - 1) (e := (c : Int)) H ha ar hrl (by omega)
    refine ⟨x, hP _ (hx _ ⟨x, rfl, rfl, rfl⟩), ?_⟩
    rcases alt with ⟨a1, rfl⟩ | ⟨r, i, a1, a2, rfl⟩
    · exact hN a1
    · have zx := rX_rl H a2
      have hE' : x_rule (fun C => ev C x_F) G sil r el s q = some (s1, q1) := by
        unfold x_show at hE
        rw [a1] at hE
        exact hE
      have hel : rFL el = [el] ∧ v_isC el = true := by
        rcases hk with ⟨-, m, u, rfl⟩ | ⟨-, m, u, rfl⟩ | ⟨-, m, u, rfl⟩ <;> exact ⟨rFL_tag (by omega), rfl⟩
      exact lk_230e (R := fun w' => ∃ Γ', rXR G sil s1 q1 w' Γ') (by omega) zx (rX_use H H9 h52 hT e hK ⟨hc.1, hc.2.1⟩ hcc ⟨hel.1, hel.2, hv⟩ a2 rfl (by omega) hwi ⟨by omega, hp.2⟩ hul hE' hs1 (by omega)) (fun w' ⟨Γ', h⟩ => ⟨rfl, LL w' Γ' h⟩)
  have hN : q_rule el q = none → zr230 fr (rGo (fr + 3) P y) 66 (c : Int) (k : Int) 0 w := by
    intro a1
    unfold x_show at hE
    rw [a1] at hE
    rcases hk with ⟨rfl, m, u, rfl⟩ | ⟨rfl, m, u, rfl⟩ | ⟨rfl, id, v, rfl⟩
    · have hE : some (s, q_lay G m (q_sz q) q) = some (s1, q1) := hE
      cases hE
      obtain ⟨t1, t2, t3⟩ : w.2 92 c = 0 ∧ w.2 93 c = m ∧ -9000 ≤ m ∧ m ≤ 11000 := hL
      refine lk_230w (R := fun w' => rXR G sil s (q_lay G m (q_sz q) q) w' Γ) (by omega) (by omega) rfl ?_ (fun w' h => ⟨rfl, LL w' Γ h⟩)
      rw [cc, t2, x1]
      exact rX_ely H h52 hT e hK (by omega) ht.1 (by omega) ht.2 (by omega)
    · have hE : some (s, q_lay G (2000 + m) m q) = some (s1, q1) := hE
      cases hE
      obtain ⟨t1, t2, t3⟩ : w.2 92 c = 4 ∧ 0 ≤ m ∧ m ≤ 9999 := hL
      have T := (k1.1.2.2.1 c (by omega) hc.2.1).2.1 (Or.inr (by rw [t1]; decide)) 0 (by omega)
      have z3 : Γ.1 c = [.tag 4 (.nest m u)] := by have z := hcc.2; rw [cc] at z; exact z
      rw [z3] at T
      have wl : (rWL [.tag 4 (.nest m u)] (0 + 1)).1 = m.toNat := by
        show m9 (m.toNat + 0) = m.toNat
        rw [Nat.add_zero, m9_id (by omega)]
      rw [wl] at T
      refine lk_230m (d := m) (R := fun w' => rXR G sil s (q_lay G (2000 + m) m q) w' Γ) (by omega) (by omega) rfl ?_ ?_ (fun w' h => ⟨rfl, LL w' Γ h⟩)
      · rw [if_neg (by omega), show (3 * (c : Int) + 1 - 1).toNat = 3 * c + 0 by omega, T]; omega
      · exact rX_ely H h52 hT e hK (by omega) ht.1 (by omega) ht.2 (by omega)
    · have hE : some (x_head G id v s q) = some (s1, q1) := hE
      have hE := Option.some.inj hE
      have e1 : (x_head G id v s q).1 = s1 := by rw [hE]
      have e2 : (x_head G id v s q).2 = q1 := by rw [hE]
      have kv : vK v := by have z := hv.2.2.2; rw [vK_5] at z; exact z.1
      refine lk_230h (R := fun w' => rXR G sil s1 q1 w' Γ) (by omega) rfl ?_ (fun w' h => ⟨rfl, LL w' Γ h⟩)
      have z := rX_hd (fr := fr - 1) H h52 hT e hK kv ⟨hc.1, hc.2.1⟩ hL hb hcl hwi.1 hp hs (by omega)
      rw [e1, e2] at z
      exact z
  rcases hk with ⟨rfl, m, u, rfl⟩ | ⟨rfl, m, u, rfl⟩ | ⟨rfl, id, v, rfl⟩
  · obtain ⟨t1, t2, t3, t4⟩ : w.2 92 c = 0 ∧ w.2 93 c = m ∧ -9000 ≤ m ∧ m ≤ 11000 := hL
    have sh : q_shown (.tag 1 (.nest m u)) = if m < 0 then -1 else m + 2 := rfl
    by_cases d : m < 0
    · rw [if_pos d] at sh
      obtain ⟨x, z1, z2⟩ := M (-1) sh (by unfold am_rg; omega) (fun P h => lk_225c (n := (((q_rl q).length : Nat) : Int)) (k := 0) (a := m) (by omega) (by rw [cc]; exact t1) y1 (by omega) rfl (by rw [cc]; exact t2) (by unfold am_rg; omega) d h) hN
      exact lk_230c0 (k := 0) (by omega) (by omega) (by rw [cc]; exact t1) rfl z1 z2
    · rw [if_neg d] at sh
      obtain ⟨x, z1, z2⟩ := M (m + 2) sh (by unfold am_rg; omega) (fun P h => lk_225d (n := (((q_rl q).length : Nat) : Int)) (k := 0) (a := m) (by omega) (by rw [cc]; exact t1) y1 (by omega) rfl (by rw [cc]; exact t2) (by unfold am_rg; omega) (by omega) (by rw [Int.add_comm]; exact h)) hN
      exact lk_230c0 (k := 0) (by omega) (by omega) (by rw [cc]; exact t1) rfl z1 z2
  · obtain ⟨t1, t2, t3⟩ : w.2 92 c = 4 ∧ 0 ≤ m ∧ m ≤ 9999 := hL
    obtain ⟨x, z1, z2⟩ := M 1 rfl (by unfold am_rg; omega) (fun P h => lk_225b (n := (((q_rl q).length : Nat) : Int)) (k := 4) (by omega) (by rw [cc]; exact t1) y1 (by omega) rfl h) hN
    exact lk_230c4 (k := 4) (by omega) (by omega) (by rw [cc]; exact t1) rfl z1 z2
  · have t1 : w.2 92 c = 20 := hL.1
    obtain ⟨x, z1, z2⟩ := M 0 rfl (by unfold am_rg; omega) (fun P h => lk_225a (n := (((q_rl q).length : Nat) : Int)) (k := 20) (by omega) (by rw [cc]; exact t1) y1 (by omega) rfl h) hN
    exact lk_230c20 (k := 20) (by omega) (by omega) (by rw [cc]; exact t1) rfl z1 z2
end
