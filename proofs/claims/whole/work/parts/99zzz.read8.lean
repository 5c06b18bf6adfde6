/-! ===== reading a file: what is read ===== -/
/-- which slots are written from a place to another -/
abbrev rOut (f p p' q : Nat) : Nat → Prop := fun k => k = q ∨ ((60 * f + p) * 9 ≤ k ∧ k < (60 * f + p') * 9)
def rO (w0 : W_) (f z : Nat) (a46 : Nat → Int) (st : List SE) (p : Nat) (l : List Int) (q : Nat) (v : T_ → Int) (m : Nat) (hb : Bool) (cs : List Int) (r : T_ × Nat × List Int) (w w' : W_) : Prop := RI w0 f z st r.2.1 (l ++ r.2.2) w' ∧ pQ (w0.2 3) (w0.2 5) (w.2 37) (w'.2 37) (rOut f p r.2.1 q) cs (e_imp r.1) (e_nm r.1) ∧ w'.2 37 q = v r.1 ∧ eR (w0.2 3) (w0.2 5) (w'.2 37) a46 m hb r.1 ∧ e_all (fun id => 60 * f + p ≤ id ∧ id < 60 * f + r.2.1) r.1
abbrev vE1 : T_ → Int := fun c => (e_id c : Int) + 1
abbrev vI1 : T_ → Int := fun c => it_id c + 1
def rA (w0 : W_) (f z : Nat) (a46 : Nat → Int) (P : Option am_V → W_ → Prop) (n : Nat) : Prop := ∀ (own : Option Nat) (p on sn : Nat) (hb : Bool) (ar : Int) (st : List SE) (l : List Int) (w : W_) (i : Int) (cs : List Int), z + 1 ≤ n + p → RI w0 f z ((2, (on : Int), (sn : Int), (if hb = true then 1 else 0), ar) :: st) p l w → (60 * f ≤ on ∧ on < 60 * f + p) → sn < 3 → own = (if w0.2 3 on = 15 then some (w0.2 5 on % 10).toNat else none) → cA (w.2 37) f p ar cs → (0 ≤ i ∧ i + 4 * ((z : Int) - p) ≤ 900) → (∀ w' i', i ≤ i' → i' ≤ i + 4 * (((j_go n (tJ (w0.2 3) (w0.2 5) (w0.2 7) f) none own p).2.1 : Int) - p) + 1 → rO w0 f z a46 st p l (on * 9 + sn) vE1 0 hb cs (j_go n (tJ (w0.2 3) (w0.2 5) (w0.2 7) f) none own p) w w' → rl P f i' w') → rl P f i w
def rB (w0 : W_) (f z : Nat) (a46 : Nat → Int) (P : Option am_V → W_ → Prop) (n : Nat) : Prop := ∀ (wh fm hb : Bool) (p : Nat) (o x ib ar : Int) (st : List SE) (l : List Int) (w : W_) (i : Int) (cs : List Int), z + 1 ≤ n + p → RI w0 f z (((if fm = true then 1 else 0), o, x, ib, ar) :: st) p l w → (wh = true ∧ o = 180 + f ∨ wh = false ∧ 60 * (f : Int) ≤ o ∧ o < 60 * (f : Int) + p) → (x = 0 ∨ 60 * (f : Int) + 1 ≤ x ∧ x ≤ 60 * (f : Int) + p) → w.2 37 (lnk o x) = 0 → cA (w.2 37) f p ar cs → (0 ≤ i ∧ i + 4 * ((z : Int) - p) ≤ 900) → (∀ w' i', i ≤ i' → i' ≤ i + 4 * (((j_go n (tJ (w0.2 3) (w0.2 5) (w0.2 7) f) (some (wh, fm)) none p).2.1 : Int) - p) + 1 → rO w0 f z a46 st p l (lnk o x) vI1 (if fm = true then 2 else 1) hb cs (j_go n (tJ (w0.2 3) (w0.2 5) (w0.2 7) f) (some (wh, fm)) none p) w w' → rl P f i' w') → rl P f i w
theorem pQ_eq {a3 a5 a a' : Nat → Int} {S : Nat → Prop} {cs : List Int} {im im' : Bool} {nm nm' : Nat → Bool} (h : pQ a3 a5 a a' S cs im nm) (e1 : im = im') (e2 : ∀ m, nm m = nm' m) : pQ a3 a5 a a' S cs im' nm' := by
  have : nm = nm' := funext e2
  rw [← e1, ← this]
  exact h
theorem pQ_dn {a3 a5 a a' : Nat → Int} {S S' : Nat → Prop} {cs : List Int} {im : Bool} {nm : Nat → Bool} {d : Nat} (h : pQ a3 a5 a a' S ((d : Int) :: cs) im nm) (hS : ∀ k, S k → S' k) (h4 : S' (d * 9 + 4)) (h5 : S' (d * 9 + 5)) : pQ a3 a5 a a' S' cs im nm := by
  refine ⟨fun k hk hc => h.1 k (fun q => hk (hS k q)) fun d' hd => ?_, fun d' hd => h.2 d' (List.mem_cons_of_mem _ hd)⟩
  rcases List.mem_cons.mp hd with rfl | hd
  · refine ⟨fun q => hk ?_, fun q => hk ?_⟩
    · rw [show k = d * 9 + 4 by omega]; exact h4
    · rw [show k = d * 9 + 5 by omega]; exact h5
  · exact hc d' hd
theorem eR_pQ {a3 a5 b3 b5 a a' a46 : Nat → Int} {S : Nat → Prop} {cs : List Int} {im : Bool} {nm : Nat → Bool} {lo hi m : Nat} {hb : Bool} {t : T_} (he : eR b3 b5 a a46 m hb t) (ha : e_all (fun id => lo ≤ id ∧ id < hi) t) (g : pQ a3 a5 a a' S cs im nm) (hS : ∀ k, lo * 9 ≤ k → k < hi * 9 → ¬ S k) (hcs : ∀ d, d ∈ cs → d < (lo : Int)) : eR b3 b5 a' a46 m hb t := eR_ch (S := fun id => lo ≤ id ∧ id < hi) (fun id h _ h46 => ⟨h46, fun s hs => g.1 _ (hS _ (by omega) (by omega)) fun d hd => by
  have := hcs d hd
  omega⟩) t m hb ha he
theorem e_imp_ce1 (k : Nat) (n : Int) (id : Nat) (a b c : T_) : e_imp (ce k n id a b c) = (k == 29 || e_imp a || e_imp b || e_imp c) := rfl
theorem e_nm_ce1 (k : Nat) (n : Int) (id : Nat) (a b c : T_) (m : Nat) : e_nm (ce k n id a b c) m = ((k == 7 && (n % 10).toNat == m) || e_nm a m || e_nm b m || e_nm c m) := rfl
theorem e_all_ce1 {S : Nat → Prop} {k : Nat} {n : Int} {id : Nat} {a b c : T_} : e_all S (ce k n id a b c) = (S id ∧ e_all S a ∧ e_all S b ∧ e_all S c) := rfl
theorem e_imp_ct1 {k : Nat} {n : Int} {id : Nat} {x r : T_} (hn : ∀ b c, r ≠ .append b c) : e_imp (ct k n id x r) = (e_imp x || e_imp r) := by
  unfold ct
  rw [e_imp]
  exact hn
theorem e_nm_ct1 {k : Nat} {n : Int} {id : Nat} {x r : T_} (hn : ∀ b c, r ≠ .append b c) (m : Nat) : e_nm (ct k n id x r) m = (e_nm x m || e_nm r m) := by
  unfold ct
  rw [e_nm]
  exact hn
theorem own_nil (k : Nat) (own : Option Nat) : e_imp (j_own k own) = false ∧ (∀ m, e_nm (j_own k own) m = false) ∧ ∀ S, e_all S (j_own k own) := by
  unfold j_own
  split
  · split
    · exact ⟨rfl, fun _ => rfl, fun _ => trivial⟩
    · exact ⟨rfl, fun _ => rfl, fun _ => trivial⟩
  · exact ⟨rfl, fun _ => rfl, fun _ => trivial⟩
/-- what stands in the tree behind an expression's own turn -/
theorem own_step {a3 a5 a a1 : Nat → Int} {q id : Nat} {ib ar : Int} {g : Option Int} {cs : List Int} {im : Bool} {nm : Nat → Bool} (h : pQ a3 a5 (uP a q id ib ar g) a1 (fun _ => False) cs im nm) (hc : ∀ d, d ∈ cs → 0 ≤ d ∧ d < id) (hq : q % 9 < 4 ∧ q < id * 9) (hz : ∀ s, s < 9 → a (id * 9 + s) = 0) : pQ a3 a5 a a1 (fun k => k = q ∨ (id * 9 ≤ k ∧ k < (id + 1) * 9)) cs im nm ∧ a1 q = (id : Int) + 1 ∧ a1 (id * 9 + 6) = ib ∧ a1 (id * 9 + 7) = (match g with
    | some y => y
    | none => 0) ∧ a1 (id * 9 + 8) = ar ∧ ∀ s, s < 6 → a1 (id * 9 + s) = 0 := by
  have F : ∀ k, k % 9 ≠ 4 ∧ k % 9 ≠ 5 ∨ id * 9 ≤ k → a1 k = uP a q id ib ar g k := fun k hk => h.1 k (fun y => y) fun d hd => by
    have := hc d hd
    omega
  have T := pQ_tr (uP_pQ (a3 := a3) (a5 := a5) (a := a) (q := q) (id := id) (ib := ib) (ar := ar) (g := g) hc hq.1) (pQ_mono h (S' := fun k => k = q ∨ (id * 9 ≤ k ∧ k < (id + 1) * 9)) fun _ y => y.elim) fun d hd => by
    have := hc d hd
    exact ⟨this.1, by omega⟩
  refine ⟨pQ_eq T (Bool.false_or _) fun m => Bool.false_or _, ?_, ?_, ?_, ?_, fun s hs => ?_⟩
  · rw [F _ (by omega)]
    unfold uP
    rw [if_neg (by omega), if_neg (by omega), if_neg (by omega), if_pos rfl]
  · rw [F _ (by omega)]
    unfold uP
    rw [if_neg (by omega), if_neg (by omega), if_pos rfl]
  · rw [F _ (by omega)]
    unfold uP
    rw [if_pos rfl]
    cases g with
    | none => exact hz 7 (by decide)
    | some y => rfl
  · rw [F _ (by omega)]
    unfold uP
    rw [if_neg (by omega), if_pos rfl]
  · rw [F _ (by omega), uP_ne (by omega) (by omega)]
    exact hz s (by omega)
