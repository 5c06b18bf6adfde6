/-! ===== behind a sweep: the memory, all ===== -/
section
variable {w w' : W_} {first : Int} {sil : Bool} {s : S_}
theorem pre_mem (H : CRm sil s w) (hh : hI (w.1 13 2) (w.2 13) (w.2 7)) (hn : 0 ≤ w.1 13 2 ∧ w.1 13 2 ≤ 262144) (hf : 0 ≤ first ∧ first ≤ w.1 13 2) : h_pre w first := by
  obtain ⟨m1, m2, m3, m4, m5⟩ := H
  refine ⟨⟨hf.1, hf.2, hn.2⟩, ⟨by omega, by omega⟩, fun r r0 r1 => ?_, fun i i0 i1 => ?_⟩
  · have hr : r.toNat < (s_me s).length := by omega
    obtain ⟨-, -, hv, -⟩ := m3 r.toNat _ (List.getElem?_eq_getElem hr)
    have z := cR_lt hn.1 hv.1
    rw [wg_w, wg_n (n := 61 * r.toNat + 2) (by omega)]
    omega
  · obtain ⟨⟨z1, z2⟩, -⟩ := hh i.toNat (by omega)
    have e : 30000 + i = 30000 + ((i.toNat : Nat) : Int) := by omega
    rw [e, pH_w, pH_w, pH_k, pH_k]
    omega
/-- the memory and the heap behind a sweep -/
theorem sw_mem (H : CRm sil s w) (hh : hI (w.1 13 2) (w.2 13) (w.2 7)) (hg : g0 (w.2 7)) (hn : 0 ≤ w.1 13 2 ∧ w.1 13 2 ≤ 262144) (hf : 0 ≤ first ∧ first ≤ w.1 13 3) (hS : h_sw2 w first w') : CRm sil s w' ∧ hI (w'.1 13 2) (w'.2 13) (w'.2 7) ∧ (0 ≤ w'.1 13 2 ∧ w'.1 13 2 ≤ 237700) ∧ (∀ a j, ¬ (a = 13 ∧ (j = 2 ∨ j = 3)) → w'.1 a j = w.1 a j) ∧ ∀ b, b ≠ 11 → b ≠ 13 → b ≠ 14 → w'.2 b = w.2 b := by
  obtain ⟨m1, m2, m3, m4, ⟨hk, U, u1, u2, u3⟩⟩ := H
  obtain ⟨free, m, e1, e2, ⟨f1, f2⟩, e11, hp, h13, h7, hmf, hmR, hmC, hmo⟩ := hS
  have E1 : ∀ a j, ¬ (a = 13 ∧ (j = 2 ∨ j = 3)) → w'.1 a j = w.1 a j := fun a j q => by
    rw [e1, w_f1, w_u_at, if_neg (by omega), w_f1, w_u_at, if_neg (by omega)]
  have E2 : w'.1 13 2 = free := by rw [e1, w_f1, w_u_at, if_neg (by decide), w_f1, w_u_at, if_pos ⟨rfl, rfl⟩]
  have E3 : w'.1 13 3 = free := by rw [e1, w_f1, w_u_at, if_pos ⟨rfl, rfl⟩]
  have low : ∀ k : Nat, (k : Int) < w.1 13 2 → (-2147483648 ≤ w.2 13 (8 * k + 1) ∧ w.2 13 (8 * k + 1) < 30000 + (k : Int)) ∧ -2147483648 ≤ w.2 13 (8 * k + 2) ∧ w.2 13 (8 * k + 2) < 30000 + (k : Int) := fun k hk => (hh k hk).1
  have S : SW w first free m w' := ⟨hf.1, ⟨f1, f2⟩, hp, h13, hmC, hmo, low⟩
  have E7 : w'.2 7 = w.2 7 := e2 7 (by decide) (by decide) (by decide)
  -- what is in the memory is kept
  have kv : ∀ i r, (s_me s)[i]? = some r → kpt (w.1 13 2) first m (w.2 11 (61 * i + 2)) := fun i r hr => by
    have hi : i < (s_me s).length := by
      by_cases c : i < (s_me s).length
      · exact c
      · rw [List.getElem?_eq_none (by omega)] at hr; cases hr
    obtain ⟨-, -, hv, -⟩ := m3 i r hr
    have z := cR_lt hn.1 hv.1
    have y := hmR (i : Int) (by omega) (by omega)
    rw [wg_w, wg_n (n := 61 * i + 2) (by omega)] at y
    by_cases c : w.2 11 (61 * i + 2) < 30000 + first
    · exact Or.inl c
    · exact Or.inr ⟨z.2, y (by omega)⟩
  have v11 : ∀ i r, (s_me s)[i]? = some r → w'.2 11 (61 * i + 2) = h_mvd w' first (w.2 11 (61 * i + 2)) := fun i r hr => by
    have hi : i < (s_me s).length := by
      by_cases c : i < (s_me s).length
      · exact c
      · rw [List.getElem?_eq_none (by omega)] at hr; cases hr
    rw [e11, if_pos ⟨by omega, by omega⟩]
  have o11 : ∀ i j : Nat, j < 61 → j ≠ 2 → w'.2 11 (61 * i + j) = w.2 11 (61 * i + j) := fun i j h1 h2 => by
    rw [e11, if_neg (by omega)]
  have o110 : ∀ i : Nat, w'.2 11 (61 * i) = w.2 11 (61 * i) := fun i => o11 i 0 (by decide) (by decide)
  -- the nodes of files
  have hU : ∀ f, f < 3 → cl free (w'.2 13) (((U f).filter fun x => decide (x < 30000 + first ∨ m (x - 30000).toNat = 1)).map fun x => h_mvd w' first x) := fun f hf3 y hy => by
    obtain ⟨x, hx, rfl⟩ := List.mem_map.mp hy
    obtain ⟨hx, hd⟩ := List.mem_filter.mp hx
    have hd := of_decide_eq_true hd
    obtain ⟨⟨x0, x1⟩, g1, g2⟩ := (u1 f hf3).1 x hx
    have hkx : kpt (w.1 13 2) first m x := by
      rcases hd with q | q
      · exact Or.inl q
      · exact Or.inr ⟨x1, q⟩
    obtain ⟨c1, c2⟩ := SW_c S hkx x0 x1
    have mem : ∀ z : Int, kpt (w.1 13 2) first m z → (30000 ≤ z → z ∈ U f) → 30000 ≤ h_mvd w' first z → h_mvd w' first z ∈ ((U f).filter fun x => decide (x < 30000 + first ∨ m (x - 30000).toNat = 1)).map fun x => h_mvd w' first x := fun z hz hzU hz0 => by
      have z0 : 30000 ≤ z := by
        by_cases c : 30000 ≤ z
        · exact c
        · rw [mv_lo (by omega)] at hz0; exact hz0
      refine List.mem_map.mpr ⟨z, List.mem_filter.mpr ⟨hzU z0, decide_eq_true ?_⟩, rfl⟩
      rcases hz with q | q
      · exact Or.inl q
      · exact Or.inr q.2
    refine ⟨SW_mv S hkx x0, fun q => ?_, fun q => ?_⟩
    · rw [SW_f S hkx x0 x1 (by decide), if_pos (Or.inl rfl)] at q ⊢
      exact mem _ c1 g1 q
    · rw [SW_f S hkx x0 x1 (by decide), if_pos (Or.inr rfl)] at q ⊢
      exact mem _ c2 g2 q
  have memU : ∀ f x, x ∈ U f → kpt (w.1 13 2) first m x → h_mvd w' first x ∈ ((U f).filter fun x => decide (x < 30000 + first ∨ m (x - 30000).toNat = 1)).map fun x => h_mvd w' first x := fun f x hx hkx => by
    refine List.mem_map.mpr ⟨x, List.mem_filter.mpr ⟨hx, decide_eq_true ?_⟩, rfl⟩
    rcases hkx with q | q
    · exact Or.inl q
    · exact Or.inr q.2
  have all : ∀ p : Nat, (p : Int) < free → ∃ f, f < 3 ∧ (30000 + (p : Int)) ∈ ((U f).filter fun x => decide (x < 30000 + first ∨ m (x - 30000).toNat = 1)).map fun x => h_mvd w' first x := fun p hpf => by
    by_cases c : (p : Int) < first
    · obtain ⟨f, hf3, hx⟩ := u3 p (by omega)
      have z := memU f _ hx (Or.inl (by omega))
      rw [mv_lo (by omega)] at z
      exact ⟨f, hf3, z⟩
    · obtain ⟨k, ⟨k0, k1⟩, k2, k3⟩ := h7 (p : Int) (by omega) hpf
      have hr : h_rch w (30000 + k) := by
        rcases hmf k k0 k1 with q | q
        · rw [q] at k2; cases k2
        · exact q.2
      have hx := hr (fun x => 30000 ≤ x → ∃ f, f < 3 ∧ x ∈ U f) (fun r r0 r1 => by
        have hi : r.toNat < (s_me s).length := by omega
        have z := u2 r.toNat _ (List.getElem?_eq_getElem hi)
        have id180 : r_id ((s_me s)[r.toNat]) < 180 := by
          obtain ⟨-, hT⟩ := m4 _ (List.getElem_mem hi)
          obtain ⟨⟨C0, n0, E1, s0, s1, -, -, -, -, -, k6, ⟨-, -, -, -, kce⟩, -⟩, -⟩ := m4 _ (List.getElem_mem hi)
          have e : r_id ((s_me s)[r.toNat]) = e_id (v_code (r_fn ((s_me s)[r.toNat]))) := by
            conv => lhs; rw [k6]
            rfl
          rw [e]
          exact tI_id hT kce
        rw [wg_w, wg_n (n := 61 * r.toNat + 2) (by omega)]
        exact fun q => ⟨_, by omega, z q⟩) (fun i i0 i1 hC => by
        have e : 30000 + i = 30000 + ((i.toNat : Nat) : Int) := by omega
        obtain ⟨f, hf3, hx⟩ := hC (by omega)
        obtain ⟨-, g1, g2⟩ := (u1 f hf3).1 _ hx
        rw [pH_w, pH_w]
        exact ⟨fun q => ⟨f, hf3, g1 q⟩, fun q => ⟨f, hf3, g2 q⟩⟩) (by omega)
      obtain ⟨f, hf3, hx⟩ := hx
      have z := memU f _ hx (Or.inr ⟨by omega, by rw [show (30000 + k - 30000).toNat = k.toNat by omega]; exact k2⟩)
      have ez : h_mvd w' first (30000 + k) = 30000 + (p : Int) := by
        unfold h_mvd
        rw [if_neg (by omega), show (30000 + k - 30000).toNat = k.toNat by omega, k3]
        omega
      rw [ez] at z
      exact ⟨f, hf3, z⟩
  have len : ∀ f, f < 3 → (((U f).filter fun x => decide (x < 30000 + first ∨ m (x - 30000).toNat = 1)).map fun x => h_mvd w' first x).length ≤ 3961 * rN (s_me s) f := fun f hf3 => by
    rw [List.length_map]
    have z1 := List.length_filter_le (fun x => decide (x < 30000 + first ∨ m (x - 30000).toNat = 1)) (U f)
    have z2 := (u1 f hf3).2.1
    omega
  have hfree : free ≤ 237700 := by
    have z := pig free.toNat ((((U 0).filter fun x => decide (x < 30000 + first ∨ m (x - 30000).toNat = 1)).map fun x => h_mvd w' first x) ++ ((((U 1).filter fun x => decide (x < 30000 + first ∨ m (x - 30000).toNat = 1)).map fun x => h_mvd w' first x) ++ (((U 2).filter fun x => decide (x < 30000 + first ∨ m (x - 30000).toNat = 1)).map fun x => h_mvd w' first x))) fun p hpn => by
      obtain ⟨f, hf3, hx⟩ := all p (by omega)
      have hf : f = 0 ∨ f = 1 ∨ f = 2 := by omega
      rcases hf with rfl | rfl | rfl
      · exact List.mem_append_left _ hx
      · exact List.mem_append_right _ (List.mem_append_left _ hx)
      · exact List.mem_append_right _ (List.mem_append_right _ hx)
    rw [List.length_append, List.length_append] at z
    have l0 := len 0 (by decide)
    have l1 := len 1 (by decide)
    have l2 := len 2 (by decide)
    have ls := rN_sum (s_me s)
    omega
  refine ⟨⟨?_, m2, fun i r hr => ?_, fun r hr => ?_, ⟨?_, fun f => ((U f).filter fun x => decide (x < 30000 + first ∨ m (x - 30000).toNat = 1)).map fun x => h_mvd w' first x, fun f hf3 => ⟨?_, len f hf3, fun x _ => ?_, fun x x0 hL => ?_⟩, fun i r hr h30 => ?_, fun k hk3 => ?_⟩⟩, fun p hpn => ?_, ⟨?_, ?_⟩, E1, e2⟩
  · rw [E1 10 1 (by omega)]; exact m1
  · obtain ⟨r1, r2, r3, r4, r5, r6, r7, r8⟩ := m3 i r hr
    refine ⟨by rw [o110]; exact r1, by rw [o11 i 1 (by decide) (by decide)]; exact r2, ?_, by rw [o11 i 3 (by decide) (by decide)]; exact r4, by rw [o11 i 4 (by decide) (by decide)]; exact r5, by rw [o11 i 5 (by decide) (by decide)]; exact r6, fun j hj => ?_, fun q hq => ?_⟩
    · rw [v11 i r hr, E2]
      have z := cR_lt hn.1 r3.1
      exact ⟨SW_R S _ _ r3.1 (kv i r hr), SW_hW S (kv i r hr) z.2 r3.2⟩
    · have y := r7 j hj
      rw [Nat.add_assoc] at y ⊢
      rw [o11 i (6 + j) (by omega) (by omega)]
      exact y
    · have y := r8 q hq
      rw [Nat.add_assoc] at y ⊢
      rw [o11 i (16 + q) (by omega) (by omega)]
      exact y
  · rw [e2 3 (by decide) (by decide) (by decide), e2 5 (by decide) (by decide) (by decide), E7]
    exact m4 r hr
  · rw [E2, E3]; omega
  · rw [E2]; exact hU f hf3
  · rw [E7]; exact hg _ (by omega)
  · rw [E7] at hL
    have z : w.2 7 (2147483652 + 8 * x.toNat + f) = 1 := hL
    rw [hg _ (by omega)] at z
    cases z
  · rw [v11 i r hr] at h30 ⊢
    have h0 : 30000 ≤ w.2 11 (61 * i + 2) := by
      by_cases c : 30000 ≤ w.2 11 (61 * i + 2)
      · exact c
      · rw [mv_lo (by omega)] at h30; exact h30
    exact memU _ _ (u2 i r hr h0) (kv i r hr)
  · rw [E3] at hk3
    exact all k hk3
  · rw [E2] at hpn
    rw [E7]
    have gA0 : ∀ x, gA (w.2 7) x := fun x => hg _ (by omega)
    by_cases c : (p : Int) < first
    · exact nd1_eq (fun i hi => h13 _ (by omega)) (hh p (by omega))
    · obtain ⟨k, ⟨k0, k1⟩, k2, k3⟩ := h7 (p : Int) (by omega) hpn
      obtain ⟨kk, rfl⟩ : ∃ kk : Nat, k = (kk : Int) := ⟨k.toNat, by omega⟩
      rw [Int.toNat_natCast] at k2 k3
      obtain ⟨⟨⟨l1, l2⟩, l3, l4⟩, l5, -⟩ := hh kk (by omega)
      have hkk : kpt (w.1 13 2) first m (30000 + (kk : Int)) := Or.inr ⟨by omega, by rw [show (30000 + (kk : Int) - 30000).toNat = kk by omega]; exact k2⟩
      have em : h_mvd w' first (30000 + (kk : Int)) = 30000 + (p : Int) := by
        unfold h_mvd
        rw [if_neg (by omega), show (30000 + (kk : Int) - 30000).toNat = kk by omega, k3]
        omega
      have F : ∀ f, f < 8 → w'.2 13 (8 * p + f) = if f = 1 ∨ f = 2 then h_mvd w' first (w.2 13 (8 * kk + f)) else w.2 13 (8 * kk + f) := fun f hf8 => by
        have z := SW_f S hkk (by omega) (by omega) hf8
        rw [em, pH_k, pH_k] at z
        exact z
      have mvb : ∀ z : Int, -2147483648 ≤ z → z < 30000 + (kk : Int) → kpt (w.1 13 2) first m z → -2147483648 ≤ h_mvd w' first z ∧ h_mvd w' first z < 30000 + (p : Int) := fun z z0 z1 hz => by
        by_cases d : z < 30000 + first
        · rw [mv_lo d]; omega
        · have y := SW_mv S hz (by omega)
          refine ⟨by omega, ?_⟩
          rcases hz with q | ⟨-, q⟩
          · omega
          · have y2 := hmo (z - 30000) (kk : Int) (by omega) (by omega) k1 q (by rw [Int.toNat_natCast]; exact k2)
            rw [Int.toNat_natCast, k3] at y2
            have e : h_mvd w' first z = 30000 + w'.2 14 (z - 30000).toNat - 1 := if_neg d
            rw [e]
            omega
      obtain ⟨c1, c2⟩ := SW_c S hkk (by omega) (by omega)
      rw [pH_k] at c1 c2
      have F1 := F 1 (by decide)
      have F2 := F 2 (by decide)
      have F0 := F 0 (by decide)
      rw [if_pos (Or.inl rfl)] at F1
      rw [if_pos (Or.inr rfl)] at F2
      rw [if_neg (by decide)] at F0
      have F0 : w'.2 13 (8 * p) = w.2 13 (8 * kk) := F0
      refine ⟨⟨?_, ?_⟩, fun q => ?_, fun _ => ⟨fun _ => gA0 _, fun _ => gA0 _⟩⟩
      · rw [F1]; exact mvb _ l1 l2 c1
      · rw [F2]; exact mvb _ l3 l4 c2
      · rw [F0] at q
        have y := l5 q
        rw [F2, mv_lo (by omega)]
        exact y
  · rw [E2]; omega
  · rw [E2]; exact hfree
end
