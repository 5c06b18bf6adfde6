/-! ===== what a state leads to ===== -/
def am_K (D : va_G) (cA : Nat → ClassId) (U : State) : Prop := va_K D vwCl (am_tys cA) U ∧ ∀ w ∈ am_NW, va_Nw w U
theorem am_K.warm {D : va_G} {cA : Nat → ClassId} {s U : State} (hW : s.WarmedH U.vm) (h : am_K D cA s) : am_K D cA U := by
  refine ⟨va_K.moved hW.alike h.1, fun w hw => ?_⟩
  obtain ⟨o, i, y, b, rfl⟩ := am_nwp_ok w hw
  exact (h.2 _ hw).warmM hW
theorem am_K.same {D : va_G} {cA : Nat → ClassId} {s U : State} (e : s.vm = U.vm) (h : am_K D cA s) : am_K D cA U := by
  refine ⟨va_K.moved (by rw [e]; exact Vm.Alike.refl U.vm) h.1, fun w hw => ?_⟩
  obtain ⟨o, i, y, b, rfl⟩ := am_nwp_ok w hw
  exact (h.2 _ hw).same rfl e
/-- which cells may change: those of the world, and new ones -/
def am_A (α : Nat → Nat) (h : am_H) (sz : Nat) : Nat → Prop := fun q => (∃ i, 1 ≤ i ∧ i ≤ h.2.1 ∧ q = α i) ∨ sz ≤ q
/-- the script: its length and its ints -/
abbrev am_Sc : Type := Option (Nat × (Nat → Int))
/-- words of a throw that only the tables decide -/
def am_xw : List Cond := [.castable "java/lang/IndexOutOfBoundsException" "java/lang/IndexOutOfBoundsException", .castable "java/lang/IllegalArgumentException" "java/lang/IllegalArgumentException", .castable "java/lang/IllegalStateException" "java/lang/IllegalStateException", .declares ⟨"java/lang/RuntimeException", "<init>", "()V"⟩, .declares ⟨"java/lang/Exception", "<init>", "()V"⟩, .declares ⟨"java/lang/Throwable", "<init>", "()V"⟩]
/-- what a throw looks for: no traces, two statics; which class isn't below which -/
def am_lx (l : Launch) (A : Nat → Prop) (U : State) : Prop := l.stackTraces = false ∧ (vx_Zq Bundle.tN "UNASSIGNED_STACK" Bundle.steD A U U.heap ∧ vx_Zq Bundle.tN "SUPPRESSED_SENTINEL" Bundle.listD A U U.heap) ∧ (∀ w ∈ am_xw, va_Nw w U) ∧ va_Nc "java/lang/IllegalArgumentException" "java/lang/IndexOutOfBoundsException" U ∧ va_Nc "java/lang/IllegalStateException" "java/lang/IndexOutOfBoundsException" U ∧ va_Nc "java/lang/IllegalStateException" "java/lang/IllegalArgumentException" U
def am_sok (sc : am_Sc) (l : Launch) (α : Nat → Nat) (A : Nat → Prop) (s : State) : Prop := match sc with
  | none => True
  | some (L, f) => (va_X (α 0) L (fun j => Int32.ofInt (f j)) s s.heap ∧ α 0 < s.heap.size ∧ ¬ A (α 0)) ∧ am_lx l A s
/-- what is fixed in a method's run -/
def am_Cx (own nL fr : Nat) (bytes : ByteArray) (ini : Bool) (p : Program) (s : State) (m : MethodId) (args : Array Value) (meth : Method) (c : Code) (R : Room) (D : va_G) (cA : Nat → ClassId) (A : Nat → Prop) : Prop :=
  p.tables.exec = Jvm.exec ∧ c.code = bytes ∧ c.maxLocals = nL ∧ s.vm.findClass (am_R own) = some m.cls ∧ (∀ w ∈ am_G, w.before args s = true) ∧ (ini = true → meth.name = "<init>") ∧ am_K D cA s ∧ R.frames = fr ∧ R.locals = 41 * fr ∧ (∀ q, s.heap.size ≤ q → A q)
/-- what moves -/
def am_S (D : va_G) (cA : Nat → ClassId) (A : Nat → Prop) (sc : am_Sc) (nL : Nat) (l : Launch) (s : State) (α : Nat → Nat) (h : am_H) (H : Heap) (locs : List Loc) (ls : List am_V) (lsA : Array Slot) (st : List am_V) : Prop :=
  am_Rep D cA A α h H ∧ va_S A s.heap H locs ∧ am_lok α h.2.1 ls lsA nL ∧ (∀ v ∈ st, am_ok h.2.1 v) ∧ am_sok sc l α A s
/-- the instruction that ends with such an answer; 1000 and a place: there something is thrown -/
def am_rt (bytes : ByteArray) (pc rk : Nat) (r : Option am_V) : Prop := match rk, r with
  | 0, none => decode bytes pc = .ok (.return_, 1)
  | 1, some (.inl _) => decode bytes pc = .ok (.ireturn, 1)
  | 2, some (.inl x) => decode bytes pc = .ok (.ireturn, 1) ∧ (x = 0 ∨ x = 1)
  | 3, some (.inr (.inl _)) => decode bytes pc = .ok (.lreturn, 1)
  | 4, some (.inr (.inr (.inl _))) => decode bytes pc = .ok (.areturn, 1)
  | 1, none => False
  | 2, none => False
  | 3, none => False
  | 4, none => False
  | n, none => n = 1000 + pc
  | _, _ => False
/-- from this state the method comes to its end with the answer r in the heap h' -/
def am_Ld (own nL fr rk : Nat) (bytes : ByteArray) (ini : Bool) (sc : am_Sc) (pc : Nat) (ls st : List am_V) (h : am_H) (r : Option am_V) (h' : am_H) : Prop :=
  h.2.1 ≤ h'.2.1 ∧ h.2.2 ≤ h'.2.2 ∧ ∀ (p : Program) (l : Launch) (e : Env) (R : Room) (s : State) (m : MethodId) (args : Array Value) (below : List Frame) (meth : Method) (c : Code) (D : va_G) (cA : Nat → ClassId) (A : Nat → Prop),
    am_Cx own nL fr bytes ini p s m args meth c R D cA A → ∀ (Q : State → Prop) (α : Nat → Nat) (H : Heap) (locs : List Loc) (cells slots : Nat) (lsA : Array Slot),
    am_S D cA A sc nL l s α h H locs ls lsA st → cells + (h'.2.1 - h.2.1 + (h'.2.2 - h.2.2) / 1000) ≤ R.cells → slots + (h'.2.2 - h.2.2) ≤ R.slots →
    (∀ (α' : Nat → Nat) (H' : Heap) (locs' : List Loc) (pc' : Nat) (lsA' : Array Slot) (cells' slots' : Nat), (∀ i, i ≤ h.2.1 → α' i = α i) → am_Rep D cA A α' h' H' → va_S A s.heap H' locs' → am_rt bytes pc' rk r → (∀ v, r = some v → am_ok h'.2.1 v) → cells' ≤ cells + (h'.2.1 - h.2.1 + (h'.2.2 - h.2.2) / 1000) → slots' ≤ slots + (h'.2.2 - h.2.2) → lsA'.size = nL →
      W p l e R s m args below meth c H' locs' cells' slots' Q (F0 m pc' lsA' (r.toList.map (am_c α')))) →
    W p l e R s m args below meth c H locs cells slots Q (F0 m pc lsA (st.map (am_c α)))
def am_Z (own nL fr rk : Nat) (bytes : ByteArray) (ini : Bool) (sc : am_Sc) (Q : Option am_V → am_H → Prop) (pc : Nat) (ls st : List am_V) (h : am_H) : Prop :=
  ∃ r h', (Q r h' ∧ ∀ v, r = some v → am_ok h'.2.1 v) ∧ am_Ld own nL fr rk bytes ini sc pc ls st h r h'
/-- an instruction that changes the stack alone -/
theorem am_simple {own nL fr rk : Nat} {bytes : ByteArray} {ini : Bool} {sc : am_Sc} {Q : Option am_V → am_H → Prop} {pc pc' : Nat} {ls st st' : List am_V} {h : am_H}
    (hw : ∀ (p : Program) (l : Launch) (e : Env) (R : Room) (s : State) (m : MethodId) (args : Array Value) (below : List Frame) (meth : Method) (c : Code) (D : va_G) (cA : Nat → ClassId) (A : Nat → Prop),
      am_Cx own nL fr bytes ini p s m args meth c R D cA A → ∀ (Q : State → Prop) (α : Nat → Nat) (H : Heap) (locs : List Loc) (cells slots : Nat) (lsA : Array Slot),
      am_S D cA A sc nL l s α h H locs ls lsA st → (∀ v ∈ st', am_ok h.2.1 v) ∧ (W p l e R s m args below meth c H locs cells slots Q (F0 m pc' lsA (st'.map (am_c α))) → W p l e R s m args below meth c H locs cells slots Q (F0 m pc lsA (st.map (am_c α)))))
    (k : am_Z own nL fr rk bytes ini sc Q pc' ls st' h) : am_Z own nL fr rk bytes ini sc Q pc ls st h := by
  obtain ⟨r, h', hQ, h1, h2, k⟩ := k
  refine ⟨r, h', hQ, h1, h2, fun p l e R s m args below meth c D cA A cx Qs α H locs cells slots lsA S hc hs RC => ?_⟩
  obtain ⟨ok, w⟩ := hw p l e R s m args below meth c D cA A cx Qs α H locs cells slots lsA S
  exact w (k p l e R s m args below meth c D cA A cx Qs α H locs cells slots lsA ⟨S.1, S.2.1, S.2.2.1, ok, S.2.2.2.2⟩ hc hs RC)
theorem am_tl {n : Nat} {v : am_V} {st : List am_V} (h : ∀ u ∈ v :: st, am_ok n u) : ∀ u ∈ st, am_ok n u := fun u hu => h u (List.mem_cons_of_mem _ hu)
theorem am_cons {n : Nat} {v : am_V} {st : List am_V} (hv : am_ok n v) (h : ∀ u ∈ st, am_ok n u) : ∀ u ∈ v :: st, am_ok n u := fun u hu => by
  rcases List.mem_cons.mp hu with rfl | hu
  · exact hv
  · exact h u hu
section LD
variable {own nL fr rk : Nat} {bytes : ByteArray} {ini : Bool} {sc : am_Sc} {Q : Option am_V → am_H → Prop} {pc : Nat} {ls st : List am_V} {h : am_H}
-- constants
theorem am_iconst {n : Int} (hd : decode bytes pc = .ok (.iconst n, 1)) (k : am_Z own nL fr rk bytes ini sc Q (pc + 1) ls (.inl n :: st) h) : am_Z own nL fr rk bytes ini sc Q pc ls st h :=
  am_simple (fun p l e R s m args below meth c D cA A cx Qs α H locs cells slots lsA S => ⟨am_cons (by exact trivial) S.2.2.2.1, fun w => lv_iconst (v := Int32.ofInt n) cx.1 cx.2.1 hd rfl w⟩) k
theorem am_bipush {n : Int} (hd : decode bytes pc = .ok (.bipush n, 2)) (h1 : -128 ≤ n) (h2 : n ≤ 127) (k : am_Z own nL fr rk bytes ini sc Q (pc + 2) ls (.inl n :: st) h) : am_Z own nL fr rk bytes ini sc Q pc ls st h :=
  am_simple (fun p l e R s m args below meth c D cA A cx Qs α H locs cells slots lsA S => ⟨am_cons (by exact trivial) S.2.2.2.1, fun w => lv_bipush (v := Int32.ofInt n) cx.1 cx.2.1 hd (Int8.toInt32_ofInt h1 h2) w⟩) k
theorem am_sipush {n : Int} (hd : decode bytes pc = .ok (.sipush n, 3)) (h1 : -32768 ≤ n) (h2 : n ≤ 32767) (k : am_Z own nL fr rk bytes ini sc Q (pc + 3) ls (.inl n :: st) h) : am_Z own nL fr rk bytes ini sc Q pc ls st h :=
  am_simple (fun p l e R s m args below meth c D cA A cx Qs α H locs cells slots lsA S => ⟨am_cons (by exact trivial) S.2.2.2.1, fun w => lv_sipush (v := Int32.ofInt n) cx.1 cx.2.1 hd (Int16.toInt32_ofInt h1 h2) w⟩) k
theorem am_lconst {n : Fin 2} (hd : decode bytes pc = .ok (.lconst n, 1)) (k : am_Z own nL fr rk bytes ini sc Q (pc + 1) ls (.inr (.inl (n.val : Int)) :: st) h) : am_Z own nL fr rk bytes ini sc Q pc ls st h :=
  am_simple (fun p l e R s m args below meth c D cA A cx Qs α H locs cells slots lsA S => ⟨am_cons (by exact trivial) S.2.2.2.1, fun w => lv_lconst (v := Int64.ofInt (n.val : Int)) cx.1 cx.2.1 hd Int64.ofInt_eq_ofNat.symm w⟩) k
theorem am_ldc {idx : Nat} {x : Int} (hd : decode bytes pc = .ok (.ldc idx, 2)) (hw : Cond.constant (am_R own) idx (Int32.ofInt x) ∈ am_G) (k : am_Z own nL fr rk bytes ini sc Q (pc + 2) ls (.inl x :: st) h) : am_Z own nL fr rk bytes ini sc Q pc ls st h :=
  am_simple (fun p l e R s m args below meth c D cA A cx Qs α H locs cells slots lsA S => ⟨am_cons (by exact trivial) S.2.2.2.1, fun w => lv_ldc cx.1 cx.2.1 cx.2.2.2.1 (cx.2.2.2.2.1 _ hw) hd w⟩) k
theorem am_ldc2 {idx : Nat} {x : Int} (hd : decode bytes pc = .ok (.ldc2_w idx, 3)) (hw : Cond.constantLong (am_R own) idx (Int64.ofInt x) ∈ am_G) (k : am_Z own nL fr rk bytes ini sc Q (pc + 3) ls (.inr (.inl x) :: st) h) : am_Z own nL fr rk bytes ini sc Q pc ls st h :=
  am_simple (fun p l e R s m args below meth c D cA A cx Qs α H locs cells slots lsA S => ⟨am_cons (by exact trivial) S.2.2.2.1, fun w => lv_ldc2 cx.1 cx.2.1 cx.2.2.2.1 (cx.2.2.2.2.1 _ hw) hd w⟩) k
-- locals
theorem am_load_i {i : Nat} {len : Nat} {x : Int} (e : am_gt ls i = .inl x) (hd : decode bytes pc = .ok (.iload i, 2) ∧ len = 2 ∨ ∃ k : Fin 4, k.val = i ∧ decode bytes pc = .ok (.iload_n k, 1) ∧ len = 1)
    (k : am_Z own nL fr rk bytes ini sc Q (pc + len) ls (.inl x :: st) h) : am_Z own nL fr rk bytes ini sc Q pc ls st h := by
  refine am_simple (fun p l e' R s m args below meth c D cA A cx Qs α H locs cells slots lsA S => ⟨am_cons (by exact trivial) S.2.2.2.1, fun w => ?_⟩) k
  have hl := (S.2.2.1.2.2.2 i (by rw [e]; exact fun q => by cases q)).2
  rw [e] at hl
  rcases hd with ⟨hd, rfl⟩ | ⟨j, hj, hd, rfl⟩
  · exact lv_iload cx.1 cx.2.1 hd hl w
  · exact lv_iload_n cx.1 cx.2.1 hd hj hl w
theorem am_load_l {i : Nat} {len : Nat} {x : Int} (e : am_gt ls i = .inr (.inl x)) (hd : decode bytes pc = .ok (.lload i, 2) ∧ len = 2 ∨ ∃ k : Fin 4, k.val = i ∧ decode bytes pc = .ok (.lload_n k, 1) ∧ len = 1)
    (k : am_Z own nL fr rk bytes ini sc Q (pc + len) ls (.inr (.inl x) :: st) h) : am_Z own nL fr rk bytes ini sc Q pc ls st h := by
  refine am_simple (fun p l e' R s m args below meth c D cA A cx Qs α H locs cells slots lsA S => ⟨am_cons (by exact trivial) S.2.2.2.1, fun w => ?_⟩) k
  have hl := (S.2.2.1.2.2.2 i (by rw [e]; exact fun q => by cases q)).2
  rw [e] at hl
  rcases hd with ⟨hd, rfl⟩ | ⟨j, hj, hd, rfl⟩
  · exact lv_lload cx.1 cx.2.1 hd hl w
  · exact lv_lload_n cx.1 cx.2.1 hd hj hl w
theorem am_load_a {i : Nat} {len : Nat} {a : Nat ⊕ Bool} (ha : a ≠ .inr false) (e : am_gt ls i = .inr (.inr a)) (hd : decode bytes pc = .ok (.aload i, 2) ∧ len = 2 ∨ ∃ k : Fin 4, k.val = i ∧ decode bytes pc = .ok (.aload_n k, 1) ∧ len = 1)
    (k : am_Z own nL fr rk bytes ini sc Q (pc + len) ls (.inr (.inr a) :: st) h) : am_Z own nL fr rk bytes ini sc Q pc ls st h := by
  have hX : am_gt ls i ≠ am_X := by rw [e]; intro q; cases q; exact ha rfl
  refine am_simple (fun p l e' R s m args below meth c D cA A cx Qs α H locs cells slots lsA S => ⟨am_cons ?_ S.2.2.2.1, fun w => ?_⟩) k
  · have := (S.2.2.1.2.2.2 i hX).1
    rw [e] at this
    exact this
  have hl := (S.2.2.1.2.2.2 i hX).2
  rw [e] at hl
  obtain ⟨q, hq⟩ : ∃ q : Nat, am_c α (.inr (.inr a)) = .ref q := by
    rcases a with a | b
    · exact ⟨_, rfl⟩
    · cases b
      · exact absurd rfl ha
      · exact ⟨_, rfl⟩
  rw [List.map_cons, hq] at w
  rw [hq] at hl
  rcases hd with ⟨hd, rfl⟩ | ⟨j, hj, hd, rfl⟩
  · exact lv_aload cx.1 cx.2.1 hd hl w
  · exact lv_aload_n cx.1 cx.2.1 hd hj hl w
/-- a change of the locals -/
theorem am_loc {pc' : Nat} {ls' st' : List am_V}
    (hw : ∀ (p : Program) (l : Launch) (e : Env) (R : Room) (s : State) (m : MethodId) (args : Array Value) (below : List Frame) (meth : Method) (c : Code) (D : va_G) (cA : Nat → ClassId) (A : Nat → Prop),
      am_Cx own nL fr bytes ini p s m args meth c R D cA A → ∀ (Q : State → Prop) (α : Nat → Nat) (H : Heap) (locs : List Loc) (cells slots : Nat) (lsA : Array Slot),
      am_S D cA A sc nL l s α h H locs ls lsA st → (∀ v ∈ st', am_ok h.2.1 v) ∧ ((∀ lsA' : Array Slot, am_lok α h.2.1 ls' lsA' nL → W p l e R s m args below meth c H locs cells slots Q (F0 m pc' lsA' (st'.map (am_c α)))) → W p l e R s m args below meth c H locs cells slots Q (F0 m pc lsA (st.map (am_c α)))))
    (k : am_Z own nL fr rk bytes ini sc Q pc' ls' st' h) : am_Z own nL fr rk bytes ini sc Q pc ls st h := by
  obtain ⟨r, h', hQ, h1, h2, k⟩ := k
  refine ⟨r, h', hQ, h1, h2, fun p l e R s m args below meth c D cA A cx Qs α H locs cells slots lsA S hc hs RC => ?_⟩
  obtain ⟨ok, w⟩ := hw p l e R s m args below meth c D cA A cx Qs α H locs cells slots lsA S
  exact w (fun lsA' hl => k p l e R s m args below meth c D cA A cx Qs α H locs cells slots lsA' ⟨S.1, S.2.1, hl, ok, S.2.2.2.2⟩ hc hs RC)
theorem am_store_i {i : Nat} {len : Nat} {x : Int} (hi : i < nL) (hd : decode bytes pc = .ok (.istore i, 2) ∧ len = 2 ∨ ∃ k : Fin 4, k.val = i ∧ decode bytes pc = .ok (.istore_n k, 1) ∧ len = 1)
    (k : am_Z own nL fr rk bytes ini sc Q (pc + len) (am_s1 ls i (.inl x)) st h) : am_Z own nL fr rk bytes ini sc Q pc ls (.inl x :: st) h := by
  refine am_loc (fun p l e' R s m args below meth c D cA A cx Qs α H locs cells slots lsA S => ⟨am_tl S.2.2.2.1, fun w => ?_⟩) k
  rcases hd with ⟨hd, rfl⟩ | ⟨j, hj, hd, rfl⟩
  · exact lv_istore cx.1 cx.2.1 hd S.2.2.1.has hi rfl fun ls' h' => w ls' (S.2.2.1.st1 (v := .inl x) hi trivial h')
  · exact lv_istore_n cx.1 cx.2.1 hd hj S.2.2.1.has hi rfl fun ls' h' => w ls' (S.2.2.1.st1 (v := .inl x) hi trivial h')
theorem am_store_l {i : Nat} {len : Nat} {x : Int} (hi : i + 1 < nL) (hd : decode bytes pc = .ok (.lstore i, 2) ∧ len = 2 ∨ ∃ k : Fin 4, k.val = i ∧ decode bytes pc = .ok (.lstore_n k, 1) ∧ len = 1)
    (k : am_Z own nL fr rk bytes ini sc Q (pc + len) (am_s2 ls i (.inr (.inl x))) st h) : am_Z own nL fr rk bytes ini sc Q pc ls (.inr (.inl x) :: st) h := by
  refine am_loc (fun p l e' R s m args below meth c D cA A cx Qs α H locs cells slots lsA S => ⟨am_tl S.2.2.2.1, fun w => ?_⟩) k
  rcases hd with ⟨hd, rfl⟩ | ⟨j, hj, hd, rfl⟩
  · exact lv_lstore cx.1 cx.2.1 hd S.2.2.1.has hi rfl fun ls' h' => w ls' (S.2.2.1.st2 hi h')
  · exact lv_lstore_n cx.1 cx.2.1 hd hj S.2.2.1.has hi rfl fun ls' h' => w ls' (S.2.2.1.st2 hi h')
theorem am_store_a {i : Nat} {len : Nat} {a : Nat} (hi : i < nL) (hd : decode bytes pc = .ok (.astore i, 2) ∧ len = 2 ∨ ∃ k : Fin 4, k.val = i ∧ decode bytes pc = .ok (.astore_n k, 1) ∧ len = 1)
    (k : am_Z own nL fr rk bytes ini sc Q (pc + len) (am_s1 ls i (.inr (.inr (.inl a)))) st h) : am_Z own nL fr rk bytes ini sc Q pc ls (.inr (.inr (.inl a)) :: st) h := by
  refine am_loc (fun p l e' R s m args below meth c D cA A cx Qs α H locs cells slots lsA S => ⟨am_tl S.2.2.2.1, fun w => ?_⟩) k
  have hv := S.2.2.2.1 _ List.mem_cons_self
  rcases hd with ⟨hd, rfl⟩ | ⟨j, hj, hd, rfl⟩
  · exact lv_astore cx.1 cx.2.1 hd S.2.2.1.has hi rfl fun ls' h' => w ls' (S.2.2.1.st1 (v := .inr (.inr (.inl a))) hi hv h')
  · exact lv_astore_n cx.1 cx.2.1 hd hj S.2.2.1.has hi rfl fun ls' h' => w ls' (S.2.2.1.st1 (v := .inr (.inr (.inl a))) hi hv h')
theorem am_iinc {i : Nat} {n x : Int} (e : am_gt ls i = .inl x) (hi : i < nL) (hd : decode bytes pc = .ok (.iinc i n, 3))
    (k : am_Z own nL fr rk bytes ini sc Q (pc + 3) (am_s1 ls i (.inl (x + n))) st h) : am_Z own nL fr rk bytes ini sc Q pc ls st h := by
  refine am_loc (fun p l e' R s m args below meth c D cA A cx Qs α H locs cells slots lsA S => ⟨S.2.2.2.1, fun w => ?_⟩) k
  have hX : am_gt ls i ≠ am_X := by rw [e]; exact fun q => by cases q
  have hm := am_in_lv (α := α) S.2.2.1.1 hX
  rw [e] at hm
  obtain ⟨q, hq⟩ := List.getElem?_of_mem hm
  exact lv_iinc (v := Int32.ofInt (x + n)) cx.1 cx.2.1 hd S.2.2.1.has (k := q) hq (by rw [Int32.ofInt_add]) hi rfl fun ls' h' => w ls' (S.2.2.1.st1 (v := .inl (x + n)) hi trivial h')
end LD
