/-! ===== the heap: fields, arrays, new cells ===== -/
def am_oc (h : am_H) (a : Nat) : Nat := match h.1 a with
  | .inr (ci, _) => ci
  | _ => 0
def am_fv (h : am_H) (a k : Nat) : am_V := match h.1 a with
  | .inr (_, fs) => fs k
  | _ => am_X
def am_fi (h : am_H) (a k : Nat) : Int := match am_fv h a k with
  | .inl x => x
  | .inr (.inl x) => x
  | _ => 0
def am_gv (h : am_H) (a k : Nat) : Nat → am_V
  | 0 => .inl (am_fi h a k)
  | 1 => .inl (am_fi h a k)
  | 2 => .inr (.inl (am_fi h a k))
  | _ => am_fv h a k
/-- what an array is: its kind and 1; 0 if it is none -/
def am_ak (h : am_H) (a : Nat) : Nat := match h.1 a with
  | .inl (kd, _, _) => kd + 1
  | _ => 0
def am_ln (h : am_H) (a : Nat) : Nat := match h.1 a with
  | .inl (_, n, _) => n
  | _ => 0
def am_el (h : am_H) (a i : Nat) : Int := match h.1 a with
  | .inl (_, _, f) => f i
  | _ => 0
def am_sf (h : am_H) (a k : Nat) (v : am_V) : am_H := (am_up h.1 a (match h.1 a with
  | .inr (ci, fs) => .inr (ci, am_up fs k v)
  | C => C), h.2)
def am_se (h : am_H) (a i : Nat) (x : Int) : am_H := (am_up h.1 a (match h.1 a with
  | .inl (kd, n, f) => .inl (kd, n, am_up f i x)
  | C => C), h.2)
def am_df (ci k : Nat) : am_V := match am_tk ci k with
  | 0 => .inl 0
  | 1 => .inl 0
  | 2 => .inr (.inl 0)
  | _ => am_X
/-- a value that a field of such a type may have -/
def am_pv (n : Nat) : Nat → am_V → Prop
  | 0, .inl _ => True
  | 1, .inl x => x = 0 ∨ x = 1
  | 2, .inr (.inl _) => True
  | 3, .inr (.inr (.inl a)) => 1 ≤ a ∧ a ≤ n
  | _, _ => False
theorem am_oc_of {h : am_H} {a ci : Nat} (h3 : 3 ≤ ci) (e : am_oc h a = ci) : ∃ fs, h.1 a = .inr (ci, fs) := by
  unfold am_oc at e
  split at e
  · rename_i ci' fs hq
    exact ⟨fs, by rw [hq, e]⟩
  · omega
theorem am_ak_of {h : am_H} {a kd : Nat} (e : am_ak h a = kd + 1) : ∃ n f, h.1 a = .inl (kd, n, f) ∧ am_ln h a = n ∧ ∀ i, am_el h a i = f i := by
  unfold am_ak at e
  split at e
  · rename_i kd' n f hq
    have : kd' = kd := by omega
    subst this
    exact ⟨n, f, hq, by unfold am_ln; rw [hq], fun i => by unfold am_el; rw [hq]⟩
  · omega
theorem am_gv_eq {n ci k a : Nat} {fs : Nat → am_V} {h : am_H} (e : h.1 a = .inr (ci, fs)) (ht : am_tv n (am_tk ci k) (fs k)) : am_gv h a k (am_tk ci k) = fs k := by
  have hv : am_fv h a k = fs k := by unfold am_fv; rw [e]
  generalize am_tk ci k = t at ht
  rcases t with _ | _ | _ | t
  · obtain ⟨x, hx⟩ := ht
    show Sum.inl (am_fi h a k) = _
    unfold am_fi
    rw [hv, hx]
  · obtain ⟨x, hx⟩ := ht
    show Sum.inl (am_fi h a k) = _
    unfold am_fi
    rw [hv, hx]
  · obtain ⟨x, hx⟩ := ht
    show Sum.inr (Sum.inl (am_fi h a k)) = _
    unfold am_fi
    rw [hv, hx]
  · exact hv
theorem am_pv.tv {n t : Nat} {v : am_V} (h : am_pv n t v) : am_tv n t v := by
  rcases t with _ | _ | _ | _ | t <;> rcases v with x | x | a | b <;> first | exact ⟨_, rfl⟩ | exact Or.inr ⟨_, rfl, h⟩ | exact absurd h id
theorem am_map_set {n k : Nat} (hk : k < n) (α : Nat → Nat) (fs : Nat → am_V) (v : am_V) : ((List.range n).map fun j => am_c α (fs j)).set k (am_c α v) = (List.range n).map fun j => am_c α (am_up fs k v j) := by
  apply List.ext_getElem?
  intro j
  by_cases hj : j < n
  · rw [List.getElem?_map, List.getElem?_range hj]
    by_cases e : j = k
    · subst e
      rw [List.getElem?_set_self (by rw [List.length_map, List.length_range]; exact hj)]
      show _ = some (am_c α (am_up fs j v j))
      rw [am_up_same]
    · rw [List.getElem?_set_ne (Ne.symm e), List.getElem?_map, List.getElem?_range hj]
      show some (am_c α (fs j)) = some (am_c α (am_up fs k v j))
      rw [am_up_ne _ _ e]
  · rw [List.getElem?_eq_none (by rw [List.length_set, List.length_map, List.length_range]; omega), List.getElem?_eq_none (by rw [List.length_map, List.length_range]; omega)]
theorem am_ty_cases {t : Nat} {ty : FieldType} (h : am_tyk t ty = true) {n : Nat} {α : Nat → Nat} {v : am_V} (hv : am_pv n t v) : narrow ty (am_c α v) = am_c α v ∧ fits ty (am_c α v) = true := by
  unfold am_tyk at h
  split at h <;> first | (exfalso; exact Bool.false_ne_true h) | skip
  · have := beq_iff_eq.mp h; subst this
    rcases v with x | x | a | b <;> first | exact ⟨rfl, rfl⟩ | exact absurd hv id
  · have := beq_iff_eq.mp h; subst this
    rcases v with x | x | a | b <;> first | exact absurd hv id | skip
    rcases hv with rfl | rfl <;> exact ⟨rfl, rfl⟩
  · have := beq_iff_eq.mp h; subst this
    rcases v with x | x | a | b <;> first | exact ⟨rfl, rfl⟩ | exact absurd hv id
  · have := beq_iff_eq.mp h; subst this
    rcases v with x | x | a | b <;> first | exact ⟨rfl, rfl⟩ | exact absurd hv id
  · have := beq_iff_eq.mp h; subst this
    rcases v with x | x | a | b <;> first | exact ⟨rfl, rfl⟩ | exact absurd hv id
section LD3
variable {own nL fr rk : Nat} {bytes : ByteArray} {ini : Bool} {sc : am_Sc} {Q : Option am_V → am_H → Prop} {pc : Nat} {ls st : List am_V} {h : am_H}
theorem am_getf {idx a ci k : Nat} {fin : Bool} (hd : decode bytes pc = .ok (.getfield idx, 3)) (hf : am_fd own idx = some (ci, k, fin)) (ho : am_oc h a = ci)
    (kk : am_Z own nL fr rk bytes ini sc Q (pc + 3) ls (am_gv h a k (am_tk ci k) :: st) h) : am_Z own nL fr rk bytes ini sc Q pc ls (.inr (.inr (.inl a)) :: st) h := by
  obtain ⟨C, T, N, ty, hc, h3, h15, hk, hfin, hl⟩ := am_fd_ok hf
  obtain ⟨fs, hfs⟩ := am_oc_of h3 ho
  have hN : N = am_nf ci := am_nf_eq hc.1
  refine am_simple (fun p l e R s m args below meth c D cA A cx Qs α H locs cells slots lsA S => ?_) kk
  have ha := S.2.2.2.1 _ List.mem_cons_self
  have hwf := S.1.2.2 a ha.1 ha.2
  rw [hfs] at hwf
  have hv := hwf.2.2 k (hN ▸ hk)
  rw [am_gv_eq hfs hv]
  refine ⟨am_cons hv.ok (am_tl S.2.2.2.1), fun w => ?_⟩
  have he := am_ws_at cA α h ha.1 ha.2
  rw [hfs] at he
  exact va_get (D := D) (ci := ci) (v := am_c α (fs k)) cx.1 cx.2.1 cx.2.2.2.2.1 hc.2.1 cx.2.2.2.1 cx.2.2.2.2.2.2.1.1 S.1.1 (a - 1) he hc.1 k hk (cx.2.2.2.2.1 _ hl) (fun _ h9 => h9)
    (by rw [List.getElem?_map, List.getElem?_range (hN ▸ hk)]; rfl) hd w
/-- a change of the heap, no new cells -/
theorem am_hp {pc' : Nat} {st' : List am_V} {h1 : am_H} (hn : h1.2 = h.2)
    (hw : ∀ (p : Program) (l : Launch) (e : Env) (R : Room) (s : State) (m : MethodId) (args : Array Value) (below : List Frame) (meth : Method) (c : Code) (D : va_G) (cA : Nat → ClassId) (A : Nat → Prop),
      am_Cx own nL fr bytes ini p s m args meth c R D cA A → ∀ (Q : State → Prop) (α : Nat → Nat) (H : Heap) (locs : List Loc) (cells slots : Nat) (lsA : Array Slot),
      am_S D cA A sc nL l s α h H locs ls lsA st → (∀ v ∈ st', am_ok h.2.1 v) ∧ ((∀ (H1 : Heap) (locs1 : List Loc), am_Rep D cA A α h1 H1 → va_S A s.heap H1 locs1 → W p l e R s m args below meth c H1 locs1 cells slots Q (F0 m pc' lsA (st'.map (am_c α)))) → W p l e R s m args below meth c H locs cells slots Q (F0 m pc lsA (st.map (am_c α)))))
    (k : am_Z own nL fr rk bytes ini sc Q pc' ls st' h1) : am_Z own nL fr rk bytes ini sc Q pc ls st h := by
  obtain ⟨r, h', hQ, e1, e2, k⟩ := k
  rw [hn] at e1 e2
  refine ⟨r, h', hQ, e1, e2, fun p l e R s m args below meth c D cA A cx Qs α H locs cells slots lsA S hc hs RC => ?_⟩
  obtain ⟨ok, w⟩ := hw p l e R s m args below meth c D cA A cx Qs α H locs cells slots lsA S
  rw [← hn] at hc hs ok RC
  refine w (fun H1 locs1 hR hS => k p l e R s m args below meth c D cA A cx Qs α H1 locs1 cells slots lsA ⟨hR, hS, by rw [hn]; exact S.2.2.1, ok, S.2.2.2.2⟩ hc hs RC)
theorem am_putf {idx a ci k : Nat} {fin : Bool} {v : am_V} (hd : decode bytes pc = .ok (.putfield idx, 3)) (hf : am_fd own idx = some (ci, k, fin)) (ho : am_oc h a = ci) (hfi : fin = true → ini = true ∧ ci = own + 3) (hv : am_pv h.2.1 (am_tk ci k) v)
    (kk : am_Z own nL fr rk bytes ini sc Q (pc + 3) ls st (am_sf h a k v)) : am_Z own nL fr rk bytes ini sc Q pc ls (v :: .inr (.inr (.inl a)) :: st) h := by
  obtain ⟨C, T, N, ty, hc, h3, h15, hk, hfin, hl⟩ := am_fd_ok hf
  obtain ⟨fs, hfs⟩ := am_oc_of h3 ho
  have hN : N = am_nf ci := am_nf_eq hc.1
  have hty := am_tkAt h3 h15 hc hk
  have hsf : am_sf h a k v = (am_up h.1 a (.inr (ci, am_up fs k v)), h.2) := by unfold am_sf; rw [hfs]
  refine am_hp (by rw [hsf]) (fun p l e R s m args below meth c D cA A cx Qs α H locs cells slots lsA S => ⟨am_tl (am_tl S.2.2.2.1), fun w => ?_⟩) kk
  have ha := S.2.2.2.1 (.inr (.inr (.inl a))) (List.mem_cons_of_mem _ List.mem_cons_self)
  have hwf := S.1.2.2 a ha.1 ha.2
  rw [hfs] at hwf
  have he := am_ws_at cA α h ha.1 ha.2
  rw [hfs] at he
  obtain ⟨hn, hfit⟩ := am_ty_cases hty (α := α) hv
  have hset := am_ws_set cA α h ha.1 ha.2 (.inr (ci, am_up fs k v))
  have hlen : k < ((List.range (am_nf ci)).map fun j => am_c α (fs j)).length := by rw [List.length_map, List.length_range]; exact hN ▸ hk
  have hms : ((List.range (am_nf ci)).map fun j => am_c α (fs j)).set k (am_c α v) = (List.range (am_nf ci)).map fun j => am_c α (am_up fs k v j) := am_map_set (hN ▸ hk) α fs v
  have fin' : ∀ (H1 : Heap) (locs1 : List Loc), va_P D vwCl ((am_ws cA α h).set (a - 1) (α a, .inr (ci, ((List.range (am_nf ci)).map fun j => am_c α (fs j)).set k (am_c α v)))) H1 → va_D A ((am_ws cA α h).set (a - 1) (α a, .inr (ci, ((List.range (am_nf ci)).map fun j => am_c α (fs j)).set k (am_c α v)))) → va_S A s.heap H1 locs1 → W p l e R s m args below meth c H1 locs1 cells slots Qs (F0 m (pc + 3) lsA (st.map (am_c α))) := by
    intro H1 locs1 hP hD hS
    rw [hms] at hP hD
    have hset : (am_ws cA α h).set (a - 1) (α a, .inr (ci, (List.range (am_nf ci)).map fun j => am_c α (am_up fs k v j))) = am_ws cA α (am_sf h a k v) := by rw [hsf]; exact hset
    rw [hset] at hP hD
    refine w H1 locs1 ⟨hP, hD, ?_⟩ hS
    rw [hsf]
    refine am_wf_set S.1.2.2 ⟨h3, h15, fun j hj => ?_⟩
    by_cases e : j = k
    · subst e
      rw [am_up_same]
      exact hv.tv
    · rw [am_up_ne _ _ e]
      exact hwf.2.2 j hj
  cases fin with
  | false => exact va_put (D := D) (ci := ci) (v := am_c α v) cx.1 cx.2.1 cx.2.2.2.2.1 hc.2.1 ty hc.2.2.1 hc.2.2.2.1 cx.2.2.2.1 cx.2.2.2.2.2.2.1.1 S.1.1 S.1.2.1 S.2.1 (a - 1) he hc.1 k hk (cx.2.2.2.2.1 _ hl) (fun _ h9 => h9) hfin (hc.2.2.1 k hk) hn hfit hlen hd fin'
  | true =>
    obtain ⟨hi1, hi2⟩ := hfi rfl
    refine va_putF (D := D) (ci := ci) (v := am_c α v) cx.1 cx.2.1 cx.2.2.2.2.1 hc.2.1 ty hc.2.2.1 hc.2.2.2.1 cx.2.2.2.1 cx.2.2.2.2.2.2.1.1 S.1.1 S.1.2.1 S.2.1 (a - 1) he hc.1 k hk (cx.2.2.2.2.1 _ hl) (fun _ h9 => h9) hfin (cx.2.2.2.2.2.1 hi1) ?_ (hc.2.2.1 k hk) hn hfit hlen hd fin'
    rw [hc.2.2.2.2.1 k hk, hc.2.2.2.2.2, hi2, Nat.add_sub_cancel]
theorem am_vin {i : Int} {n : Nat} (h1 : 0 ≤ i) (h2 : i < n) (h3 : i < 2147483648) : vp_in (Int32.ofInt i) n := by
  rintro (q | q)
  · have := (am_lt32 (x := i) (y := 0) (by omega) h3 (by decide) (by decide)).mp q
    omega
  · rw [am_clamp h1 h3] at q
    omega
/-- loads -/
theorem am_iald {a : Nat} {i : Int} (hd : decode bytes pc = .ok (.iaload, 1)) (hk : am_ak h a = 1) (h1 : 0 ≤ i) (h2 : i < am_ln h a) (h3 : i < 2147483648)
    (kk : am_Z own nL fr rk bytes ini sc Q (pc + 1) ls (.inl (am_el h a i.toNat) :: st) h) : am_Z own nL fr rk bytes ini sc Q pc ls (.inl i :: .inr (.inr (.inl a)) :: st) h := by
  obtain ⟨n, f, e, hn, hel⟩ := am_ak_of hk
  rw [hn] at h2
  refine am_simple (fun p l e' R s m args below meth c D cA A cx Qs α H locs cells slots lsA S => ⟨am_cons (by exact trivial) (am_tl (am_tl S.2.2.2.1)), fun w => ?_⟩) kk
  have ha := S.2.2.2.1 (.inr (.inr (.inl a))) (List.mem_cons_of_mem _ List.mem_cons_self)
  have he := am_ws_at cA α h ha.1 ha.2
  rw [e] at he
  refine va_iald (D := D) cx.1 cx.2.1 cx.2.2.2.2.2.2.1.1 S.1.1 (a - 1) 0 (f := fun j => Int32.ofInt (f j)) he rfl (am_vin h1 h2 h3) hd ?_
  rw [am_clamp h1 h3, ← hel]
  exact w
theorem am_zald {a : Nat} {i : Int} (hd : decode bytes pc = .ok (.baload, 1)) (hk : am_ak h a = 2) (h1 : 0 ≤ i) (h2 : i < am_ln h a) (h3 : i < 2147483648)
    (kk : am_Z own nL fr rk bytes ini sc Q (pc + 1) ls (.inl (am_el h a i.toNat) :: st) h) : am_Z own nL fr rk bytes ini sc Q pc ls (.inl i :: .inr (.inr (.inl a)) :: st) h := by
  obtain ⟨n, f, e, hn, hel⟩ := am_ak_of hk
  rw [hn] at h2
  refine am_simple (fun p l e' R s m args below meth c D cA A cx Qs α H locs cells slots lsA S => ⟨am_cons (by exact trivial) (am_tl (am_tl S.2.2.2.1)), fun w => ?_⟩) kk
  have ha := S.2.2.2.1 (.inr (.inr (.inl a))) (List.mem_cons_of_mem _ List.mem_cons_self)
  have he := am_ws_at cA α h ha.1 ha.2
  rw [e] at he
  refine va_zald (D := D) cx.1 cx.2.1 cx.2.2.2.2.2.2.1.1 S.1.1 (a - 1) 1 (f := fun j => Int32.ofInt (f j)) he rfl (am_vin h1 h2 h3) hd ?_
  rw [am_clamp h1 h3, ← hel]
  exact w
theorem am_lald {a : Nat} {i : Int} (hd : decode bytes pc = .ok (.laload, 1)) (hk : am_ak h a = 3) (h1 : 0 ≤ i) (h2 : i < am_ln h a) (h3 : i < 2147483648)
    (kk : am_Z own nL fr rk bytes ini sc Q (pc + 1) ls (.inr (.inl (am_el h a i.toNat)) :: st) h) : am_Z own nL fr rk bytes ini sc Q pc ls (.inl i :: .inr (.inr (.inl a)) :: st) h := by
  obtain ⟨n, f, e, hn, hel⟩ := am_ak_of hk
  rw [hn] at h2
  refine am_simple (fun p l e' R s m args below meth c D cA A cx Qs α H locs cells slots lsA S => ⟨am_cons (by exact trivial) (am_tl (am_tl S.2.2.2.1)), fun w => ?_⟩) kk
  have ha := S.2.2.2.1 (.inr (.inr (.inl a))) (List.mem_cons_of_mem _ List.mem_cons_self)
  have he := am_ws_at cA α h ha.1 ha.2
  rw [e] at he
  refine va_lald (D := D) cx.1 cx.2.1 cx.2.2.2.2.2.2.1.1 S.1.1 (a - 1) 2 (f := fun j => Int64.ofInt (f j)) he rfl (am_vin h1 h2 h3) hd ?_
  rw [am_clamp h1 h3, ← hel]
  exact w
theorem am_alen {a : Nat} (hd : decode bytes pc = .ok (.arraylength, 1)) (hk : am_ak h a ≠ 0)
    (kk : am_Z own nL fr rk bytes ini sc Q (pc + 1) ls (.inl (am_ln h a) :: st) h) : am_Z own nL fr rk bytes ini sc Q pc ls (.inr (.inr (.inl a)) :: st) h := by
  obtain ⟨kd, hkd⟩ : ∃ kd, am_ak h a = kd + 1 := ⟨am_ak h a - 1, by omega⟩
  obtain ⟨n, f, e, hn, hel⟩ := am_ak_of hkd
  refine am_simple (fun p l e' R s m args below meth c D cA A cx Qs α H locs cells slots lsA S => ⟨am_cons (by exact trivial) (am_tl S.2.2.2.1), fun w => ?_⟩) kk
  have ha := S.2.2.2.1 (.inr (.inr (.inl a))) List.mem_cons_self
  have he := am_ws_at cA α h ha.1 ha.2
  have hwf := S.1.2.2 a ha.1 ha.2
  rw [e] at he hwf
  have hkd2 : kd ≤ 2 := hwf
  obtain ⟨ty, hty⟩ : ∃ ty, (am_tys cA)[kd]? = some (cA kd, ty) := by
    rcases (show kd = 0 ∨ kd = 1 ∨ kd = 2 by omega) with rfl | rfl | rfl <;> exact ⟨_, rfl⟩
  refine va_alen (D := D) (v := Int32.ofInt (am_ln h a)) cx.1 cx.2.1 cx.2.2.2.2.2.2.1.1 S.1.1 (a - 1) kd he hty ?_ hd w
  rw [hn, Int32.ofInt_eq_ofNat]
  rfl
theorem am_updm {f : Nat → Int} {k : Nat} {x : Int} : (upd (fun j => Int32.ofInt (f j)) k (Int32.ofInt x)) = fun j => Int32.ofInt (am_up f k x j) := by
  funext j
  unfold upd am_up
  split <;> rfl
theorem am_iast {a : Nat} {i x : Int} (hd : decode bytes pc = .ok (.iastore, 1)) (hk : am_ak h a = 1) (h1 : 0 ≤ i) (h2 : i < am_ln h a) (h3 : i < 2147483648)
    (kk : am_Z own nL fr rk bytes ini sc Q (pc + 1) ls st (am_se h a i.toNat x)) : am_Z own nL fr rk bytes ini sc Q pc ls (.inl x :: .inl i :: .inr (.inr (.inl a)) :: st) h := by
  obtain ⟨n, f, e, hn, hel⟩ := am_ak_of hk
  rw [hn] at h2
  have hse : am_se h a i.toNat x = (am_up h.1 a (.inl (0, n, am_up f i.toNat x)), h.2) := by unfold am_se; rw [e]
  refine am_hp (by rw [hse]) (fun p l e' R s m args below meth c D cA A cx Qs α H locs cells slots lsA S => ⟨am_tl (am_tl (am_tl S.2.2.2.1)), fun w => ?_⟩) kk
  have ha := S.2.2.2.1 (.inr (.inr (.inl a))) (List.mem_cons_of_mem _ (List.mem_cons_of_mem _ List.mem_cons_self))
  have he := am_ws_at cA α h ha.1 ha.2
  rw [e] at he
  have hset := am_ws_set cA α h ha.1 ha.2 (.inl (0, n, am_up f i.toNat x))
  refine va_iast (D := D) cx.1 cx.2.1 cx.2.2.2.2.2.2.1.1 S.1.1 S.1.2.1 S.2.1 (a - 1) 0 (f := fun j => Int32.ofInt (f j)) he rfl (am_vin h1 h2 h3) hd (fun H1 locs1 hP hD hS => ?_)
  rw [am_clamp h1 h3, am_updm] at hP hD
  have hset : (am_ws cA α h).set (a - 1) (α a, .inl (cA 0, n, .inl fun j => Int32.ofInt (am_up f i.toNat x j))) = am_ws cA α (am_se h a i.toNat x) := by rw [hse]; exact hset
  rw [hset] at hP hD
  refine w H1 locs1 ⟨hP, hD, ?_⟩ hS
  rw [hse]
  exact am_wf_set S.1.2.2 (show 0 ≤ 2 by decide)
theorem am_zast {a : Nat} {i x : Int} (hd : decode bytes pc = .ok (.bastore, 1)) (hk : am_ak h a = 2) (h1 : 0 ≤ i) (h2 : i < am_ln h a) (h3 : i < 2147483648) (hx : x = 0 ∨ x = 1)
    (kk : am_Z own nL fr rk bytes ini sc Q (pc + 1) ls st (am_se h a i.toNat x)) : am_Z own nL fr rk bytes ini sc Q pc ls (.inl x :: .inl i :: .inr (.inr (.inl a)) :: st) h := by
  obtain ⟨n, f, e, hn, hel⟩ := am_ak_of hk
  rw [hn] at h2
  have hse : am_se h a i.toNat x = (am_up h.1 a (.inl (1, n, am_up f i.toNat x)), h.2) := by unfold am_se; rw [e]
  refine am_hp (by rw [hse]) (fun p l e' R s m args below meth c D cA A cx Qs α H locs cells slots lsA S => ⟨am_tl (am_tl (am_tl S.2.2.2.1)), fun w => ?_⟩) kk
  have ha := S.2.2.2.1 (.inr (.inr (.inl a))) (List.mem_cons_of_mem _ (List.mem_cons_of_mem _ List.mem_cons_self))
  have he := am_ws_at cA α h ha.1 ha.2
  rw [e] at he
  have hset := am_ws_set cA α h ha.1 ha.2 (.inl (1, n, am_up f i.toNat x))
  refine va_zast (D := D) cx.1 cx.2.1 cx.2.2.2.2.2.2.1.1 S.1.1 S.1.2.1 S.2.1 (a - 1) 1 (f := fun j => Int32.ofInt (f j)) he rfl (am_vin h1 h2 h3) hd (fun H1 locs1 hP hD hS => ?_)
  have hnar : vp_nar .boolean (Int32.ofInt x) = Int32.ofInt x := by rcases hx with rfl | rfl <;> rfl
  rw [hnar, am_clamp h1 h3, am_updm] at hP hD
  have hset : (am_ws cA α h).set (a - 1) (α a, .inl (cA 1, n, .inl fun j => Int32.ofInt (am_up f i.toNat x j))) = am_ws cA α (am_se h a i.toNat x) := by rw [hse]; exact hset
  rw [hset] at hP hD
  refine w H1 locs1 ⟨hP, hD, ?_⟩ hS
  rw [hse]
  exact am_wf_set S.1.2.2 (show 1 ≤ 2 by decide)
theorem am_updl {f : Nat → Int} {k : Nat} {x : Int} : (vp_updL (fun j => Int64.ofInt (f j)) k (Int64.ofInt x)) = fun j => Int64.ofInt (am_up f k x j) := by
  funext j
  unfold vp_updL am_up
  split <;> rfl
theorem am_last {a : Nat} {i x : Int} (hd : decode bytes pc = .ok (.lastore, 1)) (hk : am_ak h a = 3) (h1 : 0 ≤ i) (h2 : i < am_ln h a) (h3 : i < 2147483648)
    (kk : am_Z own nL fr rk bytes ini sc Q (pc + 1) ls st (am_se h a i.toNat x)) : am_Z own nL fr rk bytes ini sc Q pc ls (.inr (.inl x) :: .inl i :: .inr (.inr (.inl a)) :: st) h := by
  obtain ⟨n, f, e, hn, hel⟩ := am_ak_of hk
  rw [hn] at h2
  have hse : am_se h a i.toNat x = (am_up h.1 a (.inl (2, n, am_up f i.toNat x)), h.2) := by unfold am_se; rw [e]
  refine am_hp (by rw [hse]) (fun p l e' R s m args below meth c D cA A cx Qs α H locs cells slots lsA S => ⟨am_tl (am_tl (am_tl S.2.2.2.1)), fun w => ?_⟩) kk
  have ha := S.2.2.2.1 (.inr (.inr (.inl a))) (List.mem_cons_of_mem _ (List.mem_cons_of_mem _ List.mem_cons_self))
  have he := am_ws_at cA α h ha.1 ha.2
  rw [e] at he
  have hset := am_ws_set cA α h ha.1 ha.2 (.inl (2, n, am_up f i.toNat x))
  refine va_last (D := D) cx.1 cx.2.1 cx.2.2.2.2.2.2.1.1 S.1.1 S.1.2.1 S.2.1 (a - 1) 2 (f := fun j => Int64.ofInt (f j)) he rfl (am_vin h1 h2 h3) hd (fun H1 locs1 hP hD hS => ?_)
  rw [am_clamp h1 h3, am_updl] at hP hD
  have hset : (am_ws cA α h).set (a - 1) (α a, .inl (cA 2, n, .inr (.inl fun j => Int64.ofInt (am_up f i.toNat x j)))) = am_ws cA α (am_se h a i.toNat x) := by rw [hse]; exact hset
  rw [hset] at hP hD
  refine w H1 locs1 ⟨hP, hD, ?_⟩ hS
  rw [hse]
  exact am_wf_set S.1.2.2 (show 2 ≤ 2 by decide)
end LD3
