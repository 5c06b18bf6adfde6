/-! ===== am_wp is right ===== -/
section WPOK
variable {own nL fr rk : Nat} {bytes : ByteArray} {ini : Bool} {sc : am_Sc} {Q : Option am_V → am_H → Prop} {pc : Nat} {ls st : List am_V} {h : am_H}
theorem am_ret0 {r : Option am_V} (hs : st = r.toList) (hrt : am_rt bytes pc rk r) (hrv : ∀ v, r = some v → am_ok h.2.1 v) (hQ : Q r h) : am_Z own nL fr rk bytes ini sc Q pc ls st h := by
  subst hs
  refine ⟨r, h, ⟨hQ, hrv⟩, Nat.le_refl _, Nat.le_refl _, fun p l e R s m args below meth c D cA A cx Qs α H locs cells slots lsA S hc hs RC => ?_⟩
  exact RC α H locs pc lsA cells slots (fun _ _ => rfl) S.1 S.2.1 hrt hrv (by omega) (by omega) S.2.2.1.2.1
theorem am_retI {x : Int} (hd : decode bytes pc = .ok (.ireturn, 1)) (hrk : rk = 1 ∨ (rk = 2 ∧ (x = 0 ∨ x = 1))) (hQ : Q (some (.inl x)) h) : am_Z own nL fr rk bytes ini sc Q pc ls [.inl x] h := by
  refine am_ret0 (r := some (.inl x)) rfl ?_ (fun v hv => by cases hv; trivial) hQ
  rcases hrk with rfl | ⟨rfl, hx⟩
  · exact hd
  · exact ⟨hd, hx⟩
theorem am_retL {x : Int} (hd : decode bytes pc = .ok (.lreturn, 1)) (hrk : rk = 3) (hQ : Q (some (.inr (.inl x))) h) : am_Z own nL fr rk bytes ini sc Q pc ls [.inr (.inl x)] h := by
  subst hrk
  exact am_ret0 (r := some (.inr (.inl x))) rfl hd (fun v hv => by cases hv; trivial) hQ
theorem am_retA {a : Nat} (hd : decode bytes pc = .ok (.areturn, 1)) (hrk : rk = 4) (ha : 1 ≤ a ∧ a ≤ h.2.1) (hQ : Q (some (.inr (.inr (.inl a)))) h) : am_Z own nL fr rk bytes ini sc Q pc ls [.inr (.inr (.inl a))] h := by
  subst hrk
  exact am_ret0 (r := some (.inr (.inr (.inl a)))) rfl hd (fun v hv => by cases hv; exact ha) hQ
theorem am_retV (hd : decode bytes pc = .ok (.return_, 1)) (hrk : rk = 0) (hQ : Q none h) : am_Z own nL fr rk bytes ini sc Q pc ls [] h := by
  subst hrk
  exact am_ret0 (r := none) rfl hd (fun v hv => by cases hv) hQ
theorem am_sald {q : Nat × (Nat → Int)} {i : Int} (hd : decode bytes pc = .ok (.iaload, 1)) (hs : sc = some q) (h1 : 0 ≤ i) (h2 : i < q.1) (h3 : i < 2147483648)
    (kk : am_Z own nL fr rk bytes ini sc Q (pc + 1) ls (.inl (q.2 i.toNat) :: st) h) : am_Z own nL fr rk bytes ini sc Q pc ls (.inl i :: .inr (.inr (.inr true)) :: st) h := by
  subst hs
  refine am_simple (fun p l e' R s m args below meth c D cA A cx Qs α H locs cells slots lsA S => ⟨am_cons (by exact trivial) (am_tl (am_tl S.2.2.2.1)), fun w => ?_⟩) kk
  obtain ⟨⟨hX, hb, hbA⟩, -⟩ := S.2.2.2.2
  refine va_sld cx.1 cx.2.1 hX hb hbA S.2.1 (am_vin h1 h2 h3) hd ?_
  rw [am_clamp h1 h3]
  exact w
theorem am_slen {q : Nat × (Nat → Int)} (hd : decode bytes pc = .ok (.arraylength, 1)) (hs : sc = some q)
    (kk : am_Z own nL fr rk bytes ini sc Q (pc + 1) ls (.inl q.1 :: st) h) : am_Z own nL fr rk bytes ini sc Q pc ls (.inr (.inr (.inr true)) :: st) h := by
  subst hs
  refine am_simple (fun p l e' R s m args below meth c D cA A cx Qs α H locs cells slots lsA S => ⟨am_cons (by exact trivial) (am_tl S.2.2.2.1), fun w => ?_⟩) kk
  obtain ⟨⟨hX, hb, hbA⟩, -⟩ := S.2.2.2.2
  refine va_slen cx.1 cx.2.1 hX hb hbA S.2.1 hd ?_
  have e : (Int32.ofNat q.1) = Int32.ofInt (q.1 : Int) := Int32.ofInt_eq_ofNat.symm
  rw [e]
  exact w
set_option maxHeartbeats 4000000 in
theorem am_stp_ok {Kz k : am_KT} {i : Instr} {len : Nat} (hd : decode bytes pc = .ok (i, len)) (hk : ∀ pc ls st h, k pc ls st h → am_Z own nL fr rk bytes ini sc Q pc ls st h) (hKz : ∀ pc ls st h, Kz pc ls st h → am_Z own nL fr rk bytes ini sc Q pc ls st h)
    (w : am_stp own nL fr rk ini sc Q Kz k pc i len ls st h) : am_Z own nL fr rk bytes ini sc Q pc ls st h := by
  unfold am_stp at w
  split at w
  · rename_i n
    obtain ⟨rfl, w⟩ := w
    exact am_iconst hd (hk _ _ _ _ w)
  · rename_i n
    obtain ⟨rfl, ⟨a, b⟩, w⟩ := w
    exact am_bipush hd a b (hk _ _ _ _ w)
  · rename_i n
    obtain ⟨rfl, ⟨a, b⟩, w⟩ := w
    exact am_sipush hd a b (hk _ _ _ _ w)
  · rename_i n
    obtain ⟨rfl, w⟩ := w
    exact am_lconst hd (hk _ _ _ _ w)
  · obtain ⟨rfl, w⟩ := w
    obtain ⟨x, e, w⟩ := am_ldI_ok w
    exact am_load_i e (Or.inl ⟨hd, rfl⟩) (hk _ _ _ _ w)
  · obtain ⟨rfl, w⟩ := w
    obtain ⟨x, e, w⟩ := am_ldI_ok w
    exact am_load_i e (Or.inr ⟨_, rfl, hd, rfl⟩) (hk _ _ _ _ w)
  · obtain ⟨rfl, w⟩ := w
    obtain ⟨x, e, w⟩ := am_ldL_ok w
    exact am_load_l e (Or.inl ⟨hd, rfl⟩) (hk _ _ _ _ w)
  · obtain ⟨rfl, w⟩ := w
    obtain ⟨x, e, w⟩ := am_ldL_ok w
    exact am_load_l e (Or.inr ⟨_, rfl, hd, rfl⟩) (hk _ _ _ _ w)
  · obtain ⟨rfl, w⟩ := w
    obtain ⟨a, ha, e, w⟩ := am_ldA_ok w
    exact am_load_a ha e (Or.inl ⟨hd, rfl⟩) (hk _ _ _ _ w)
  · obtain ⟨rfl, w⟩ := w
    obtain ⟨a, ha, e, w⟩ := am_ldA_ok w
    exact am_load_a ha e (Or.inr ⟨_, rfl, hd, rfl⟩) (hk _ _ _ _ w)
  · obtain ⟨rfl, hi, w⟩ := w
    obtain ⟨x, st, rfl, am_w1⟩ := am_pI_ok w
    exact am_store_i hi (Or.inl ⟨hd, rfl⟩) (hk _ _ _ _ am_w1)
  · obtain ⟨rfl, hi, w⟩ := w
    obtain ⟨x, st, rfl, am_w1⟩ := am_pI_ok w
    exact am_store_i hi (Or.inr ⟨_, rfl, hd, rfl⟩) (hk _ _ _ _ am_w1)
  · obtain ⟨rfl, hi, w⟩ := w
    obtain ⟨x, st, rfl, am_w1⟩ := am_pL_ok w
    exact am_store_l hi (Or.inl ⟨hd, rfl⟩) (hk _ _ _ _ am_w1)
  · obtain ⟨rfl, hi, w⟩ := w
    obtain ⟨x, st, rfl, am_w1⟩ := am_pL_ok w
    exact am_store_l hi (Or.inr ⟨_, rfl, hd, rfl⟩) (hk _ _ _ _ am_w1)
  · obtain ⟨rfl, hi, w⟩ := w
    obtain ⟨x, st, rfl, am_w1⟩ := am_pA_ok w
    exact am_store_a hi (Or.inl ⟨hd, rfl⟩) (hk _ _ _ _ am_w1)
  · obtain ⟨rfl, hi, w⟩ := w
    obtain ⟨x, st, rfl, am_w1⟩ := am_pA_ok w
    exact am_store_a hi (Or.inr ⟨_, rfl, hd, rfl⟩) (hk _ _ _ _ am_w1)
  · obtain ⟨rfl, hi, w⟩ := w
    obtain ⟨x, e, w⟩ := am_ldI_ok w
    exact am_iinc e hi hd (hk _ _ _ _ w)
  · obtain ⟨rfl, w⟩ := w
    obtain ⟨y, st, rfl, am_w1⟩ := am_pI_ok w
    obtain ⟨x, st, rfl, am_w2⟩ := am_pI_ok am_w1
    exact am_iadd hd (hk _ _ _ _ am_w2)
  · obtain ⟨rfl, w⟩ := w
    obtain ⟨y, st, rfl, am_w1⟩ := am_pI_ok w
    obtain ⟨x, st, rfl, am_w2⟩ := am_pI_ok am_w1
    exact am_isub hd (hk _ _ _ _ am_w2)
  · obtain ⟨rfl, w⟩ := w
    obtain ⟨y, st, rfl, am_w1⟩ := am_pI_ok w
    obtain ⟨x, st, rfl, am_w2⟩ := am_pI_ok am_w1
    exact am_imul hd (hk _ _ _ _ am_w2)
  · obtain ⟨rfl, w⟩ := w
    obtain ⟨y, st, rfl, am_w1⟩ := am_pL_ok w
    obtain ⟨x, st, rfl, am_w2⟩ := am_pL_ok am_w1
    exact am_ladd hd (hk _ _ _ _ am_w2)
  · obtain ⟨rfl, w⟩ := w
    obtain ⟨y, st, rfl, am_w1⟩ := am_pL_ok w
    obtain ⟨x, st, rfl, am_w2⟩ := am_pL_ok am_w1
    exact am_lsub hd (hk _ _ _ _ am_w2)
  · obtain ⟨rfl, w⟩ := w
    obtain ⟨y, st, rfl, am_w1⟩ := am_pL_ok w
    obtain ⟨x, st, rfl, am_w2⟩ := am_pL_ok am_w1
    exact am_lmul hd (hk _ _ _ _ am_w2)
  · obtain ⟨rfl, w⟩ := w
    obtain ⟨x, st, rfl, am_w1⟩ := am_pI_ok w
    exact am_ineg hd (hk _ _ _ _ am_w1)
  · obtain ⟨rfl, w⟩ := w
    obtain ⟨y, st, rfl, am_w1⟩ := am_pI_ok w
    obtain ⟨x, st, rfl, am_w2⟩ := am_pI_ok am_w1
    exact am_iand hd (hk _ _ _ _ am_w2)
  · obtain ⟨rfl, w⟩ := w
    obtain ⟨y, st, rfl, am_w1⟩ := am_pI_ok w
    obtain ⟨x, st, rfl, am_w2⟩ := am_pI_ok am_w1
    exact am_ior hd (hk _ _ _ _ am_w2)
  · obtain ⟨rfl, w⟩ := w
    obtain ⟨y, st, rfl, am_w1⟩ := am_pI_ok w
    obtain ⟨x, st, rfl, am_w2⟩ := am_pI_ok am_w1
    exact am_ishl hd (hk _ _ _ _ am_w2)
  · obtain ⟨rfl, w⟩ := w
    obtain ⟨y, st, rfl, am_w1⟩ := am_pI_ok w
    obtain ⟨x, st, rfl, am_w2⟩ := am_pI_ok am_w1
    exact am_ishr hd (hk _ _ _ _ am_w2)
  · obtain ⟨rfl, w⟩ := w
    obtain ⟨y, st, rfl, am_w1⟩ := am_pL_ok w
    obtain ⟨x, st, rfl, am_w2⟩ := am_pL_ok am_w1
    exact am_land hd (hk _ _ _ _ am_w2)
  · obtain ⟨rfl, w⟩ := w
    obtain ⟨y, st, rfl, am_w1⟩ := am_pL_ok w
    obtain ⟨x, st, rfl, am_w2⟩ := am_pL_ok am_w1
    exact am_lor hd (hk _ _ _ _ am_w2)
  · obtain ⟨rfl, w⟩ := w
    obtain ⟨y, st, rfl, am_w1⟩ := am_pI_ok w
    obtain ⟨x, st, rfl, am_w2⟩ := am_pL_ok am_w1
    exact am_lshl hd (hk _ _ _ _ am_w2)
  · obtain ⟨rfl, w⟩ := w
    obtain ⟨y, st, rfl, am_w1⟩ := am_pI_ok w
    obtain ⟨x, st, rfl, am_w2⟩ := am_pL_ok am_w1
    exact am_lshr hd (hk _ _ _ _ am_w2)
  · obtain ⟨rfl, w⟩ := w
    obtain ⟨y, st, rfl, am_w1⟩ := am_pI_ok w
    obtain ⟨x, st, rfl, am_w2⟩ := am_pI_ok am_w1
    obtain ⟨⟨a, b, c, d⟩, am_w2⟩ := am_w2
    exact am_idiv hd a b c d (hk _ _ _ _ am_w2)
  · obtain ⟨rfl, w⟩ := w
    obtain ⟨y, st, rfl, am_w1⟩ := am_pI_ok w
    obtain ⟨x, st, rfl, am_w2⟩ := am_pI_ok am_w1
    obtain ⟨⟨a, b, c, d⟩, am_w2⟩ := am_w2
    exact am_irem hd a b c d (hk _ _ _ _ am_w2)
  · obtain ⟨rfl, w⟩ := w
    obtain ⟨x, st, rfl, am_w1⟩ := am_pI_ok w
    obtain ⟨⟨a, b⟩, am_w1⟩ := am_w1
    exact am_i2l hd a b (hk _ _ _ _ am_w1)
  · obtain ⟨rfl, w⟩ := w
    obtain ⟨x, st, rfl, am_w1⟩ := am_pL_ok w
    exact am_l2i hd (hk _ _ _ _ am_w1)
  · obtain ⟨rfl, w⟩ := w
    obtain ⟨y, st, rfl, am_w1⟩ := am_pL_ok w
    obtain ⟨x, st, rfl, am_w2⟩ := am_pL_ok am_w1
    obtain ⟨⟨a, b⟩, ⟨c, d⟩, am_w2⟩ := am_w2
    exact am_lcmp hd a b c d (hk _ _ _ _ am_w2)
  · obtain ⟨rfl, w⟩ := w
    obtain ⟨v, st, rfl, e, am_w1⟩ := am_pO_ok w
    exact am_dup e hd (hk _ _ _ _ am_w1)
  · obtain ⟨rfl, w⟩ := w
    obtain ⟨v, st, rfl, e, am_w1⟩ := am_pO_ok w
    obtain ⟨u, st, rfl, e2, am_w2⟩ := am_pO_ok am_w1
    exact am_dup2 e e2 hd (hk _ _ _ _ am_w2)
  · obtain ⟨rfl, w⟩ := w
    obtain ⟨v, st, rfl, e, am_w1⟩ := am_pO_ok w
    exact am_pop e hd (hk _ _ _ _ am_w1)
  · obtain ⟨rfl, h0, w⟩ := w
    exact am_goto hd (am_tg_ok h0) (hk _ _ _ _ w)
  · obtain ⟨rfl, w⟩ := w
    obtain ⟨y, st, rfl, am_w1⟩ := am_pI_ok w
    obtain ⟨x, st, rfl, am_w2⟩ := am_pI_ok am_w1
    obtain ⟨⟨a, b⟩, ⟨c, d⟩, h0, kt, kf⟩ := am_w2
    exact am_icmp_eq hd (am_tg_ok h0) a b c d (fun z => hk _ _ _ _ (kt z)) (fun z => hk _ _ _ _ (kf z))
  · obtain ⟨rfl, w⟩ := w
    obtain ⟨y, st, rfl, am_w1⟩ := am_pI_ok w
    obtain ⟨x, st, rfl, am_w2⟩ := am_pI_ok am_w1
    obtain ⟨⟨a, b⟩, ⟨c, d⟩, h0, kt, kf⟩ := am_w2
    exact am_icmp_ne hd (am_tg_ok h0) a b c d (fun z => hk _ _ _ _ (kt z)) (fun z => hk _ _ _ _ (kf z))
  · obtain ⟨rfl, w⟩ := w
    obtain ⟨y, st, rfl, am_w1⟩ := am_pI_ok w
    obtain ⟨x, st, rfl, am_w2⟩ := am_pI_ok am_w1
    obtain ⟨⟨a, b⟩, ⟨c, d⟩, h0, kt, kf⟩ := am_w2
    exact am_icmp_lt hd (am_tg_ok h0) a b c d (fun z => hk _ _ _ _ (kt z)) (fun z => hk _ _ _ _ (kf z))
  · obtain ⟨rfl, w⟩ := w
    obtain ⟨y, st, rfl, am_w1⟩ := am_pI_ok w
    obtain ⟨x, st, rfl, am_w2⟩ := am_pI_ok am_w1
    obtain ⟨⟨a, b⟩, ⟨c, d⟩, h0, kt, kf⟩ := am_w2
    exact am_icmp_ge hd (am_tg_ok h0) a b c d (fun z => hk _ _ _ _ (kt z)) (fun z => hk _ _ _ _ (kf z))
  · obtain ⟨rfl, w⟩ := w
    obtain ⟨y, st, rfl, am_w1⟩ := am_pI_ok w
    obtain ⟨x, st, rfl, am_w2⟩ := am_pI_ok am_w1
    obtain ⟨⟨a, b⟩, ⟨c, d⟩, h0, kt, kf⟩ := am_w2
    exact am_icmp_gt hd (am_tg_ok h0) a b c d (fun z => hk _ _ _ _ (kt z)) (fun z => hk _ _ _ _ (kf z))
  · obtain ⟨rfl, w⟩ := w
    obtain ⟨y, st, rfl, am_w1⟩ := am_pI_ok w
    obtain ⟨x, st, rfl, am_w2⟩ := am_pI_ok am_w1
    obtain ⟨⟨a, b⟩, ⟨c, d⟩, h0, kt, kf⟩ := am_w2
    exact am_icmp_le hd (am_tg_ok h0) a b c d (fun z => hk _ _ _ _ (kt z)) (fun z => hk _ _ _ _ (kf z))
  · obtain ⟨rfl, w⟩ := w
    obtain ⟨x, st, rfl, am_w1⟩ := am_pI_ok w
    obtain ⟨⟨a, b⟩, h0, kt, kf⟩ := am_w1
    exact am_if_eq hd (am_tg_ok h0) a b (fun z => hk _ _ _ _ (kt z)) (fun z => hk _ _ _ _ (kf z))
  · obtain ⟨rfl, w⟩ := w
    obtain ⟨x, st, rfl, am_w1⟩ := am_pI_ok w
    obtain ⟨⟨a, b⟩, h0, kt, kf⟩ := am_w1
    exact am_if_ne hd (am_tg_ok h0) a b (fun z => hk _ _ _ _ (kt z)) (fun z => hk _ _ _ _ (kf z))
  · obtain ⟨rfl, w⟩ := w
    obtain ⟨x, st, rfl, am_w1⟩ := am_pI_ok w
    obtain ⟨⟨a, b⟩, h0, kt, kf⟩ := am_w1
    exact am_if_lt hd (am_tg_ok h0) a b (fun z => hk _ _ _ _ (kt z)) (fun z => hk _ _ _ _ (kf z))
  · obtain ⟨rfl, w⟩ := w
    obtain ⟨x, st, rfl, am_w1⟩ := am_pI_ok w
    obtain ⟨⟨a, b⟩, h0, kt, kf⟩ := am_w1
    exact am_if_ge hd (am_tg_ok h0) a b (fun z => hk _ _ _ _ (kt z)) (fun z => hk _ _ _ _ (kf z))
  · obtain ⟨rfl, w⟩ := w
    obtain ⟨x, st, rfl, am_w1⟩ := am_pI_ok w
    obtain ⟨⟨a, b⟩, h0, kt, kf⟩ := am_w1
    exact am_if_gt hd (am_tg_ok h0) a b (fun z => hk _ _ _ _ (kt z)) (fun z => hk _ _ _ _ (kf z))
  · obtain ⟨rfl, w⟩ := w
    obtain ⟨x, st, rfl, am_w1⟩ := am_pI_ok w
    obtain ⟨⟨a, b⟩, h0, kt, kf⟩ := am_w1
    exact am_if_le hd (am_tg_ok h0) a b (fun z => hk _ _ _ _ (kt z)) (fun z => hk _ _ _ _ (kf z))
  · rename_i dflt lo hi offs
    obtain ⟨x, st, rfl, am_w1⟩ := am_pI_ok w
    obtain ⟨⟨a, b⟩, hs, ko, ki⟩ := am_w1
    by_cases c : x < lo ∨ hi < x
    · exact am_tsw_out hd (am_tg_ok (ko c).1) a b c (hk _ _ _ _ (ko c).2)
    · have c1 : lo ≤ x := by omega
      have c2 : x ≤ hi := by omega
      have hlt : (x - lo).toNat < offs.size := by omega
      have ho : offs[(x - lo).toNat]? = some offs[(x - lo).toNat] := Array.getElem?_eq_getElem hlt
      obtain ⟨z0, z1⟩ := am_sw_ok ki c1 offs[(x - lo).toNat] (by rw [Array.getElem?_toList]; exact ho)
      exact am_tsw_in hd a b c1 c2 ho (am_tg_ok z0) (hk _ _ _ _ z1)
  · obtain ⟨rfl, w⟩ := w
    obtain ⟨a, st, rfl, am_w1⟩ := am_pA_ok w
    split at am_w1
    · rename_i hf
      exact am_getf hd hf am_w1.1 (hk _ _ _ _ am_w1.2)
    · exact am_w1.elim
  · obtain ⟨rfl, w⟩ := w
    split at w
    · obtain ⟨a, st, rfl, am_w1⟩ := am_pA_ok w
      split at am_w1
      · rename_i hf
        exact am_putf hd hf am_w1.1 am_w1.2.1 am_w1.2.2.1 (hk _ _ _ _ am_w1.2.2.2)
      · exact am_w1.elim
    · exact w.elim
  · obtain ⟨rfl, w⟩ := w
    obtain ⟨i, st, rfl, am_w1⟩ := am_pI_ok w
    unfold am_ald at am_w1
    split at am_w1
    · exact am_iald hd am_w1.1 am_w1.2.1 am_w1.2.2.1 am_w1.2.2.2.1 (hk _ _ _ _ am_w1.2.2.2.2)
    · split at am_w1
      · rename_i q
        obtain ⟨-, a, b, c, am_w1⟩ := am_w1
        exact am_sald (sc := some q) hd rfl a b c (hk _ _ _ _ am_w1)
      · exact am_w1.elim
    · exact am_w1.elim
  · obtain ⟨rfl, w⟩ := w
    obtain ⟨i, st, rfl, am_w1⟩ := am_pI_ok w
    obtain ⟨a, st, rfl, am_w2⟩ := am_pA_ok am_w1
    exact am_zald hd am_w2.1 am_w2.2.1 am_w2.2.2.1 am_w2.2.2.2.1 (hk _ _ _ _ am_w2.2.2.2.2)
  · obtain ⟨rfl, w⟩ := w
    obtain ⟨i, st, rfl, am_w1⟩ := am_pI_ok w
    obtain ⟨a, st, rfl, am_w2⟩ := am_pA_ok am_w1
    exact am_lald hd am_w2.1 am_w2.2.1 am_w2.2.2.1 am_w2.2.2.2.1 (hk _ _ _ _ am_w2.2.2.2.2)
  · obtain ⟨rfl, w⟩ := w
    obtain ⟨x, st, rfl, am_w1⟩ := am_pI_ok w
    obtain ⟨i, st, rfl, am_w2⟩ := am_pI_ok am_w1
    obtain ⟨a, st, rfl, am_w3⟩ := am_pA_ok am_w2
    exact am_iast hd am_w3.1 am_w3.2.1 am_w3.2.2.1 am_w3.2.2.2.1 (hk _ _ _ _ am_w3.2.2.2.2)
  · obtain ⟨rfl, w⟩ := w
    obtain ⟨x, st, rfl, am_w1⟩ := am_pI_ok w
    obtain ⟨i, st, rfl, am_w2⟩ := am_pI_ok am_w1
    obtain ⟨a, st, rfl, am_w3⟩ := am_pA_ok am_w2
    exact am_zast hd am_w3.1 am_w3.2.1 am_w3.2.2.1 am_w3.2.2.2.1 am_w3.2.2.2.2.1 (hk _ _ _ _ am_w3.2.2.2.2.2)
  · obtain ⟨rfl, w⟩ := w
    obtain ⟨x, st, rfl, am_w1⟩ := am_pL_ok w
    obtain ⟨i, st, rfl, am_w2⟩ := am_pI_ok am_w1
    obtain ⟨a, st, rfl, am_w3⟩ := am_pA_ok am_w2
    exact am_last hd am_w3.1 am_w3.2.1 am_w3.2.2.1 am_w3.2.2.2.1 (hk _ _ _ _ am_w3.2.2.2.2)
  · obtain ⟨rfl, w⟩ := w
    unfold am_aln at w
    split at w
    · exact am_alen hd w.1 (hk _ _ _ _ w.2)
    · split at w
      · rename_i q
        exact am_slen (sc := some q) hd rfl (hk _ _ _ _ w)
      · exact w.elim
    · exact w.elim
  · obtain ⟨rfl, w⟩ := w
    split at w
    · rename_i hf
      exact am_new hd hf (hk _ _ _ _ w)
    · exact hKz _ _ _ _ w
  · obtain ⟨rfl, w⟩ := w
    obtain ⟨x, st, rfl, am_w1⟩ := am_pI_ok w
    exact am_newarr (kd := 0) hd (by decide) rfl rfl rfl (by decide) am_aI am_w1.1 am_w1.2.1 (hk _ _ _ _ am_w1.2.2)
  · obtain ⟨rfl, w⟩ := w
    obtain ⟨x, st, rfl, am_w1⟩ := am_pI_ok w
    exact am_newarr (kd := 1) hd (by decide) rfl rfl rfl (by decide) am_aZ am_w1.1 am_w1.2.1 (hk _ _ _ _ am_w1.2.2)
  · obtain ⟨rfl, w⟩ := w
    obtain ⟨x, st, rfl, am_w1⟩ := am_pI_ok w
    exact am_newarr (kd := 2) hd (by decide) rfl rfl rfl (by decide) am_aJ am_w1.1 am_w1.2.1 (hk _ _ _ _ am_w1.2.2)
  · obtain ⟨rfl, w⟩ := w
    split at w
    · rename_i hoi
      obtain ⟨a, st, rfl, am_w1⟩ := am_pA_ok w
      exact am_objinit hd hoi am_w1.1 am_w1.2.1 (hk _ _ _ _ am_w1.2.2)
    · unfold am_inv at w
      split at w
      · rename_i kd mid n hcl
        obtain ⟨hkd, w⟩ := w
        split at w
        · rename_i as rest hpp
          obtain ⟨pre, e1, e2, e3⟩ := am_pp_ok hpp
          rw [List.append_nil] at e1
          subst e1
          have hkd : kd = 2 ∨ kd = 4 := by simpa using hkd
          rcases hkd with rfl | rfl
          · dsimp only at w
            obtain ⟨a, rest, rfl, am_w2⟩ := am_pA_ok w
            obtain ⟨h8, fr', hfr, r, h1, hK, hct⟩ := am_w2
            exact am_callI hd hcl e2 e3 h8 hfr hct (hk _ _ _ _ hK)
          · dsimp only at w
            obtain ⟨a, rest, rfl, am_w3⟩ := am_pA_ok w
            obtain ⟨h8, fr', hfr, r, h1, hK, hct⟩ := am_w3
            exact am_callIN hd hcl e2 e3 h8 hfr hct (hk _ _ _ _ hK)
        · exact w.elim
      · exact w.elim
  · obtain ⟨rfl, w⟩ := w
    unfold am_inv at w
    split at w
    · rename_i kd mid n hcl
      obtain ⟨hkd, w⟩ := w
      split at w
      · rename_i as rest hpp
        obtain ⟨pre, e1, e2, e3⟩ := am_pp_ok hpp
        rw [List.append_nil] at e1
        subst e1
        have hkd : kd = 0 := by simpa using hkd
        subst hkd
        dsimp only at w
        obtain ⟨a, rest, rfl, am_w1⟩ := am_pA_ok w
        obtain ⟨h8, ho, fr', hfr, r, h1, hK, hct⟩ := am_w1
        exact am_callV hd hcl e2 e3 h8 hfr ho hct (hk _ _ _ _ hK)
      · exact w.elim
    · exact w.elim
  · obtain ⟨rfl, w⟩ := w
    unfold am_inv at w
    split at w
    · rename_i kd mid n hcl
      obtain ⟨hkd, w⟩ := w
      split at w
      · rename_i as rest hpp
        obtain ⟨pre, e1, e2, e3⟩ := am_pp_ok hpp
        rw [List.append_nil] at e1
        subst e1
        have hkd : kd = 1 ∨ kd = 3 := by simpa using hkd
        rcases hkd with rfl | rfl
        · dsimp only at w
          obtain ⟨h8, fr', hfr, r, h1, hK, hct⟩ := w
          exact am_callS hd hcl e2 e3 h8 hfr hct (hk _ _ _ _ hK)
        · dsimp only at w
          obtain ⟨h8, fr', hfr, r, h1, hK, hct⟩ := w
          exact am_callSN hd hcl e2 e3 h8 hfr hct (hk _ _ _ _ hK)
      · exact w.elim
    · exact w.elim
  · obtain ⟨rfl, w⟩ := w
    split at w
    · exact am_retI hd w.1 w.2
    · exact w.elim
  · obtain ⟨rfl, w⟩ := w
    split at w
    · exact am_retL hd w.1 w.2
    · exact w.elim
  · obtain ⟨rfl, w⟩ := w
    split at w
    · exact am_retA hd w.1 w.2.1 w.2.2
    · exact w.elim
  · obtain ⟨rfl, rfl, e, w⟩ := w
    exact am_retV hd e w
  · exact hKz _ _ _ _ w
theorem am_wp1_ok {Kz k : am_KT} (hk : ∀ pc ls st h, k pc ls st h → am_Z own nL fr rk bytes ini sc Q pc ls st h) (hKz : ∀ pc ls st h, Kz pc ls st h → am_Z own nL fr rk bytes ini sc Q pc ls st h)
    (w : am_wp1 own nL fr rk bytes ini sc Q Kz k pc ls st h) : am_Z own nL fr rk bytes ini sc Q pc ls st h := by
  unfold am_wp1 at w
  split at w
  · rename_i hd
    exact am_stp_ok hd hk hKz w
  · exact w.elim
theorem am_wp_ok {cuts : Nat → Bool} {Kz : am_KT} (hKz : ∀ pc ls st h, Kz pc ls st h → am_Z own nL fr rk bytes ini sc Q pc ls st h) : ∀ (n pc : Nat) (ls st : List am_V) (h : am_H), am_wp own nL fr rk bytes ini sc cuts Q Kz n pc ls st h → am_Z own nL fr rk bytes ini sc Q pc ls st h := by
  intro n
  induction n with
  | zero => exact hKz
  | succ n ih =>
    intro pc ls st h w
    unfold am_wp at w
    split at w
    · exact hKz _ _ _ _ w
    · exact am_wp1_ok ih hKz w
/-- a walk; where it stops, the same judgement is left -/
theorem am_go (n : Nat) (cuts : Nat → Bool) (w : am_wp own nL fr rk bytes ini sc cuts Q (am_Z own nL fr rk bytes ini sc Q) n pc ls st h) : am_Z own nL fr rk bytes ini sc Q pc ls st h :=
  am_wp_ok (fun _ _ _ _ h => h) n pc ls st h w
/-- the same, from a place of cuts -/
theorem am_go1 (n : Nat) (cuts : Nat → Bool) (w : am_wp1 own nL fr rk bytes ini sc Q (am_Z own nL fr rk bytes ini sc Q) (am_wp own nL fr rk bytes ini sc cuts Q (am_Z own nL fr rk bytes ini sc Q) n) pc ls st h) : am_Z own nL fr rk bytes ini sc Q pc ls st h :=
  am_wp1_ok (am_wp_ok (fun _ _ _ _ h => h) n) (fun _ _ _ _ h => h) w
end WPOK
