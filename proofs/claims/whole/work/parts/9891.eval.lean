/-! ===== the evaluator: running ===== -/
/-- a record of the memory: place of the FUNC, argument, numbers, value, begun, the last turn, how deep, asked, answers, function -/
abbrev R_ : Type := Nat × Int × (Nat → Option Int) × T_ × Nat × Nat × Nat × (Nat → Bool) × (Nat → Option Int) × T_
/-- begun, faults with those behind the 60th, faults, depth, how deep calls were, the last turn, asked, marks, states of files, names at their ends, memory, ran, taken, rows, begun without the broken ones, nodes of the class' heap at most -/
abbrev S_ : Type := Nat × Nat × List Int × Nat × Nat × Nat × (Nat → Bool) × T_ × (Nat → Nat) × (Nat → N_) × List R_ × Nat × Nat × Nat × Nat × Nat
/-- answers, rules used up, files (their texts, the faults of reading) -/
abbrev C_ : Type := (Nat → Option Int) × Int × (Nat → T_) × (Nat → List Int)
abbrev s_b (s : S_) : Nat := s.1
abbrev s_nt (s : S_) : Nat := s.2.1
abbrev s_fl (s : S_) : List Int := s.2.2.1
abbrev s_dp (s : S_) : Nat := s.2.2.2.1
abbrev s_sn (s : S_) : Nat := s.2.2.2.2.1
abbrev s_lt (s : S_) : Nat := s.2.2.2.2.2.1
abbrev s_as (s : S_) : Nat → Bool := s.2.2.2.2.2.2.1
abbrev s_tl (s : S_) : T_ := s.2.2.2.2.2.2.2.1
abbrev s_fs (s : S_) : Nat → Nat := s.2.2.2.2.2.2.2.2.1
abbrev s_fe (s : S_) : Nat → N_ := s.2.2.2.2.2.2.2.2.2.1
abbrev s_me (s : S_) : List R_ := s.2.2.2.2.2.2.2.2.2.2.1
abbrev s_rn (s : S_) : Nat := s.2.2.2.2.2.2.2.2.2.2.2.1
abbrev s_tk (s : S_) : Nat := s.2.2.2.2.2.2.2.2.2.2.2.2.1
abbrev s_rw (s : S_) : Nat := s.2.2.2.2.2.2.2.2.2.2.2.2.2.1
abbrev s_tb (s : S_) : Nat := s.2.2.2.2.2.2.2.2.2.2.2.2.2.2.1
abbrev s_nd (s : S_) : Nat := s.2.2.2.2.2.2.2.2.2.2.2.2.2.2.2
abbrev u_b (s : S_) (x : Nat) : S_ := (x, s.2)
abbrev u_flt (s : S_) (n : Nat) (l : List Int) : S_ := (s.1, n, l, s.2.2.2)
abbrev u_dp (s : S_) (x : Nat) : S_ := (s.1, s.2.1, s.2.2.1, x, s.2.2.2.2)
abbrev u_sn (s : S_) (x : Nat) : S_ := (s.1, s.2.1, s.2.2.1, s.2.2.2.1, x, s.2.2.2.2.2)
abbrev u_lt (s : S_) (x : Nat) : S_ := (s.1, s.2.1, s.2.2.1, s.2.2.2.1, s.2.2.2.2.1, x, s.2.2.2.2.2.2)
abbrev u_as (s : S_) (x : Nat → Bool) : S_ := (s.1, s.2.1, s.2.2.1, s.2.2.2.1, s.2.2.2.2.1, s.2.2.2.2.2.1, x, s.2.2.2.2.2.2.2)
abbrev u_tl (s : S_) (x : T_) : S_ := (s.1, s.2.1, s.2.2.1, s.2.2.2.1, s.2.2.2.2.1, s.2.2.2.2.2.1, s.2.2.2.2.2.2.1, x, s.2.2.2.2.2.2.2.2)
abbrev u_fs (s : S_) (x : Nat → Nat) (y : Nat → N_) : S_ := (s.1, s.2.1, s.2.2.1, s.2.2.2.1, s.2.2.2.2.1, s.2.2.2.2.2.1, s.2.2.2.2.2.2.1, s.2.2.2.2.2.2.2.1, x, y, s.2.2.2.2.2.2.2.2.2.2)
abbrev u_me (s : S_) (x : List R_) : S_ := (s.1, s.2.1, s.2.2.1, s.2.2.2.1, s.2.2.2.2.1, s.2.2.2.2.2.1, s.2.2.2.2.2.2.1, s.2.2.2.2.2.2.2.1, s.2.2.2.2.2.2.2.2.1, s.2.2.2.2.2.2.2.2.2.1, x, s.2.2.2.2.2.2.2.2.2.2.2)
abbrev u_rn (s : S_) (x y : Nat) : S_ := (s.1, s.2.1, s.2.2.1, s.2.2.2.1, s.2.2.2.2.1, s.2.2.2.2.2.1, s.2.2.2.2.2.2.1, s.2.2.2.2.2.2.2.1, s.2.2.2.2.2.2.2.2.1, s.2.2.2.2.2.2.2.2.2.1, s.2.2.2.2.2.2.2.2.2.2.1, x, y, s.2.2.2.2.2.2.2.2.2.2.2.2.2)
abbrev u_rw (s : S_) (x : Nat) : S_ := (s.1, s.2.1, s.2.2.1, s.2.2.2.1, s.2.2.2.2.1, s.2.2.2.2.2.1, s.2.2.2.2.2.2.1, s.2.2.2.2.2.2.2.1, s.2.2.2.2.2.2.2.2.1, s.2.2.2.2.2.2.2.2.2.1, s.2.2.2.2.2.2.2.2.2.2.1, s.2.2.2.2.2.2.2.2.2.2.2.1, s.2.2.2.2.2.2.2.2.2.2.2.2.1, x, s.2.2.2.2.2.2.2.2.2.2.2.2.2.2)
/-- one more is begun, not a broken one -/
abbrev u_go (s : S_) : S_ := (s.1 + 1, s.2.1, s.2.2.1, s.2.2.2.1, s.2.2.2.2.1, s.2.2.2.2.2.1, s.2.2.2.2.2.2.1, s.2.2.2.2.2.2.2.1, s.2.2.2.2.2.2.2.2.1, s.2.2.2.2.2.2.2.2.2.1, s.2.2.2.2.2.2.2.2.2.2.1, s.2.2.2.2.2.2.2.2.2.2.2.1, s.2.2.2.2.2.2.2.2.2.2.2.2.1, s.2.2.2.2.2.2.2.2.2.2.2.2.2.1, s_tb s + 1, s_nd s)
/-- k more nodes -/
abbrev u_nd (s : S_) (k : Nat) : S_ := (s.1, s.2.1, s.2.2.1, s.2.2.2.1, s.2.2.2.2.1, s.2.2.2.2.2.1, s.2.2.2.2.2.2.1, s.2.2.2.2.2.2.2.1, s.2.2.2.2.2.2.2.2.1, s.2.2.2.2.2.2.2.2.2.1, s.2.2.2.2.2.2.2.2.2.2.1, s.2.2.2.2.2.2.2.2.2.2.2.1, s.2.2.2.2.2.2.2.2.2.2.2.2.1, s_rw s, s_tb s, s_nd s + k)
def f_spot (id : Nat) : Int := 10000 * (id / 60 : Nat) + 100 * (id % 60 : Nat)
/-- a fault: its code and place, as faults tell it -/
def f_note (C : C_) (f : Int) (s : S_) : S_ := u_flt s (s_nt s + 1) (if (s_fl s).length < 60 then s_fl s ++ [f + C.2.1] else s_fl s)
def f_notes (C : C_) (f : Int) : Nat → S_ → S_
  | 0, s => s
  | n + 1, s => f_notes C f n (f_note C f s)
def f_list (C : C_) : List Int → S_ → S_
  | [], s => s
  | f :: fs, s => f_list C fs (f_note C f s)
def f_code (k id : Nat) : Int := 100000 * (k : Int) + f_spot id
/-- functions have no content -/
def f_funs (C : C_) (v : T_) (id : Nat) (s : S_) : S_ := f_notes C (f_code 3 id) (min 60 (v_nf v)) s
/-- .. where pairs are at most L deep in one another -/
def f_fu (L : Nat) (C : C_) (v : T_) (id : Nat) (s : S_) : Option S_ := if v_dp v ≤ L then some (f_funs C v id s) else none
abbrev O_ : Type := Option (T_ × N_ × S_)
/-- WRONG, with a fault -/
def o_bad (C : C_) (k id : Nat) (E : N_) (s : S_) : O_ := some (vW, E, f_note C (f_code k id) s)
def o_ask (C : C_) (q id : Nat) (E : N_) (s : S_) : O_ := match C.1 q with
  | some x => some (vN x, E, u_as s fun p => p == q || s_as s p)
  | none => o_bad C 7 id E s
def o_mk (k : Nat) (e : T_) (E : N_) (s : S_) : O_ := if s_rw s < 2040 then some (.tag k (.append e (n_clos E (e_use e) 10)), E, u_nd (u_rw s (s_rw s + 1)) (1 + min 10 (c_sz (e_part e)))) else none
def v_arith (k : Nat) (x y : Int) : Int := if k = 9 then b9 (x + y) else if k = 10 then b9 (x - y) else if k = 11 then b9 (x * y) else if x < y then 1 else 0
def o_two (C : C_) (k id : Nat) (v w : T_) (E : N_) (s : S_) : O_ :=
  if v_isW v = true ∨ v_isW w = true then some (vW, E, s) else match v_num v, v_num w with
  | some x, some y => some (vN (v_arith k x y), E, s)
  | _, _ => o_bad C 3 id E s
def o_mark (C : C_) (k : Nat) (n : Int) (id : Nat) (v e : T_) (E : N_) (s : S_) : O_ :=
  if v_isW v = true then some (vW, E, s) else if k = 18 then match v_num v with
    | some x => some (v0, E, u_tl (u_nd s 2) (v_chain (s_tl s) (.tag 10 (.tag (n % 2).toNat (.nest (if n % 2 = 0 then max 1 (min 3 x) else max 0 (min 3 x)) .nil)))))
    | none => o_bad C 3 id E s
  else if v_isF v = true then some (v0, E, u_tl (u_nd s 2) (v_chain (s_tl s) (.tag 11 (.tag n.toNat (.append e v))))) else o_bad C 3 id E s
/-- what has one part -/
def o_one (L : Nat) (C : C_) (k : Nat) (n : Int) (id : Nat) (a v e : T_) (E : N_) (s : S_) : O_ := match k with
  | 15 => some (v0, n_set E (n % 10).toNat v, s)
  | 18 => o_mark C k n id v e E s
  | 19 => o_mark C k n id v e E s
  | 20 => match f_fu L C v (e_id a) s with
    | some s1 => some (.tag 5 (.tag id v), E, u_nd s1 1)
    | none => none
  | 21 => if v_isW v = true then some (vW, E, s) else match v_num v with
    | some x => some (.tag 6 (.tag (n % 3).toNat (.nest x .nil)), E, u_nd s 1)
    | none => o_bad C 3 id E s
  | 28 => match f_fu L C v (e_id a) s with
    | some s1 => some (vN (v_wd v 1), E, s1)
    | none => none
  | _ => if v_isW v = true then some (vW, E, s) else match v with
    | .tag 13 (.append x y) => some (if n % 2 = 0 then x else y, E, s)
    | _ => o_bad C 3 id E s
def o_pair (L : Nat) (C : C_) (k id : Nat) (a b v w : T_) (E : N_) (s : S_) : O_ :=
  if k = 13 then (match f_fu L C v (e_id a) s with
    | some s1 => (match f_fu L C w (e_id b) s1 with
      | some s2 => some (v_join v w, E, u_nd s2 1)
      | none => none)
    | none => none)
  else if k = 30 then some (.tag 13 (.append v w), E, u_nd s 1)
  else o_two C k id v w E s
/-- what an expression is evaluated by: silent, code, names, in a block, state -/
abbrev K_ : Type := Bool → T_ → N_ → Bool → S_ → O_
/-- the items of a text: what is joined so far, is anything in it -/
def t_app (q : T_) (f : Bool) (v : T_) : T_ × Bool := if v_fl v = true then (v_chain q v, true) else (q, f)
def t_mks (q : T_) (s : S_) : T_ := match s_tl s with
  | .nil => q
  | m => v_chain q m
def t_frm (L : Nat) (rec : K_) (C : C_) (sil : Bool) : T_ → Nat → N_ → S_ → Option (Nat × N_ × S_)
  | .tag k (.nest _ (.tag _ (.append x r))), w, E, s => if s_tb s < 2000 then (if k = 3 then
      match rec sil x E false (u_go s) with
      | some (v, E1, s1) => (match f_fu L C v (e_id x) s1 with
        | some s2 => t_frm L rec C sil r (m9 (w + v_wd v 1)) E1 s2
        | none => none)
      | none => none
    else t_frm L rec C sil r (m9 (w + 1)) E (u_go s)) else none
  | _, w, E, s => some (w, E, s)
def t_leaf (k : Nat) (n : Int) : T_ := if k = 0 then .tag 1 (.nest n .nil) else if k = 1 then .tag 2 .nil else .tag 3 (.nest (n % 10) .nil)
def t_run (L : Nat) (rec : K_) (C : C_) (sil : Bool) : T_ → T_ → Bool → N_ → S_ → Option (T_ × Bool × N_ × S_)
  | .tag k (.nest n (.tag _ (.append x r))), q, f, E, s => if s_tb s < 2000 then
      match (if k = 3 then (match rec sil x E true (u_go s) with
          | some (v, E1, s1) => (match f_fu L C v (e_id x) s1 with
            | some s2 => some (v, E1, u_nd s2 2)
            | none => none)
          | none => none)
        else if k = 4 then (match t_frm L rec C sil x 0 E (u_go s) with
          | some (w, E1, s1) => some (.tag 4 (.nest w .nil), E1, u_nd s1 2)
          | none => none)
        else some (t_leaf k n, E, u_nd (u_go s) 2) : O_) with
      | some (v, E1, s1) => t_run L rec C sil r (t_mks (t_app q f v).1 s1) (t_app q f v).2 E1 (u_tl s1 .nil)
      | none => none
    else none
  | _, q, f, E, s => some (q, f, E, s)
/-- a text in a block of its own: its content, its names at the end -/
def t_block (L : Nat) (rec : K_) (C : C_) (sil : Bool) (items : T_) (E : N_) (s : S_) : O_ := match t_run L rec C sil items .nil false E (u_tl s .nil) with
  | some (q, f, E1, s1) => some (if f = true then .tag 9 q else vE, E1, u_tl (u_nd s1 1) (s_tl s))
  | none => none
-- memory
def k_nums (code clos : T_) (m : Nat) : Option Int := if e_use code m = true then (match n_get clos m with
  | some v => v_num v
  | none => none) else none
def k_fit (code clos : T_) : Bool := !e_imp (e_part code) && (List.range 10).all fun m => !e_use code m || (k_nums code clos m).isSome
abbrev r_id (r : R_) : Nat := r.1
abbrev r_arg (r : R_) : Int := r.2.1
abbrev r_nums (r : R_) : Nat → Option Int := r.2.2.1
abbrev r_val (r : R_) : T_ := r.2.2.2.1
abbrev r_b (r : R_) : Nat := r.2.2.2.2.1
abbrev r_lt (r : R_) : Nat := r.2.2.2.2.2.1
abbrev r_sn (r : R_) : Nat := r.2.2.2.2.2.2.1
abbrev r_as (r : R_) : Nat → Bool := r.2.2.2.2.2.2.2.1
abbrev r_an (r : R_) : Nat → Option Int := r.2.2.2.2.2.2.2.2.1
abbrev r_fn (r : R_) : T_ := r.2.2.2.2.2.2.2.2.2
def r_is (C : C_) (id : Nat) (x : Int) (nums : Nat → Option Int) (r : R_) : Bool :=
  r_id r == id && r_arg r == x && (List.range 10).all (fun m => r_nums r m == nums m) && (List.range 45).all fun q => !r_as r q || r_an r q == C.1 q
/-- the record that can be taken -/
def r_find (C : C_) (sil : Bool) (fn v : T_) (s : S_) : Option R_ := match sil, v_num v with
  | false, some x => if k_fit (v_code fn) (v_clos fn) = true then (match (s_me s).find? (r_is C (e_id (v_code fn)) x (k_nums (v_code fn) (v_clos fn))) with
    | some r => if s_dp s + r_sn r < 8 ∧ s_b s + r_lt r < 300 then some r else none
    | none => none) else none
  | _, _ => none
def r_keep (C : C_) (sil : Bool) (fn v : T_) (s : S_) : Bool := !sil && (v_num v).isSome && k_fit (v_code fn) (v_clos fn)
/-- a body, and what is minded of calls in it -/
def o_body (rec : K_) (C : C_) (sil keep : Bool) (fn v : T_) (s : S_) : Option (T_ × S_) := if s_rw s < 2040 then
    match rec sil (e_part (v_code fn)) (n_body (v_code fn) (v_clos fn) v fn) false (u_rw (u_as (u_lt (u_sn (u_dp s (s_dp s + 1)) 0) (s_b s)) fun _ => false) (s_rw s + 1)) with
    | some (w, _, s1) => if keep = true ∧ (s_tb s + 800 < s_tb s1 ∨ s_nd s + 3950 < s_nd s1) then none else some (w, u_as (u_sn (u_dp (if keep = true ∧ s_nt s1 = s_nt s ∧ (s_me s1).length < 60 then
        u_me s1 (s_me s1 ++ [(e_id (v_code fn), (v_num v).getD 0, k_nums (v_code fn) (v_clos fn), w, s_b s1 - s_b s, s_lt s1 - s_b s, s_sn s1, s_as s1, C.1, fn)]) else s1) (s_dp s)) (max (s_sn s) (s_sn s1 + 1))) fun q => s_as s q || s_as s1 q)
    | none => none
  else none
def o_call (rec : K_) (C : C_) (sil : Bool) (id : Nat) (fn v : T_) (E : N_) (s : S_) : O_ :=
  if v_isW v = true then some (vW, E, s) else if 8 ≤ s_dp s then o_bad C 5 id E s else if 300 ≤ s_b s then o_bad C 6 id E s else
  match r_find C sil fn v s with
  | some _ => (match o_body rec C true false fn v (u_rn s (s_rn s) (s_tk s + 1)) with
    | some (w, s1) => some (w, E, s1)
    | none => none)
  | none => (match o_body rec C sil (r_keep C sil fn v s) fn v (u_rn s (if sil = true then s_rn s else s_rn s + 1) (s_tk s)) with
    | some (w, s1) => some (w, E, s1)
    | none => none)
def o_name (C : C_) (id : Nat) (o : Option T_) (E : N_) (s : S_) : O_ := match o with
  | some v => some (v, E, s)
  | none => o_bad C 4 id E s
/-- reads and runs a file -/
def o_file (L : Nat) (rec : K_) (C : C_) (sil : Bool) (f : Nat) (s : S_) : Option (T_ × S_) := if s_rw s < 2040 then
    match t_block L rec C sil (C.2.2.1 f) n_none (u_rw (f_list C (C.2.2.2 f) (u_fs s (fun g => if g = f then 1 else s_fs s g) (s_fe s))) (s_rw s + 1)) with
    | some (v, E, s1) => some (v, u_fs s1 (fun g => if g = f then 2 else s_fs s1 g) (fun g => if g = f then E else s_fe s1 g))
    | none => none
  else none
def o_import (L : Nat) (rec : K_) (C : C_) (sil : Bool) (n : Int) (id : Nat) (E : N_) (s : S_) : O_ :=
  let f := (n / 10 % 3).toNat
  let m := (n % 10).toNat
  if s_fs s f = 1 then o_bad C 8 id E s else if s_fs s f = 0 then (match o_file L rec C sil f (u_dp s 0) with
    | some (_, s1) => o_name C id (s_fe s1 f m) E (u_dp s1 (s_dp s))
    | none => none)
  else o_name C id (s_fe s f m) E s
/-- one expression; parts by r1, bodies and texts by r2, files by r4; L: how deep pairs may be where content is asked for -/
def ev1 (L : Nat) (C : C_) (r1 r2 r4 : K_) : K_ := fun sil e E hb s0 =>
  let s := u_go s0
  match e with
  | .tag k (.nest n (.tag id (.append a (.append b c)))) => if s_tb s0 < 2000 then (match k with
    | 6 => some (vN n, E, s)
    | 7 => o_name C id (E (n % 10).toNat) E s
    | 8 => if s_rw s < 2040 then (match t_block L r2 C sil a E (u_rw s (s_rw s + 1)) with
      | some (v, _, s1) => some (v, E, s1)
      | none => none) else none
    | 16 => o_mk 12 e E s
    | 22 => o_mk 7 e E s
    | 23 => o_ask C (42 + (n % 3).toNat) id E s
    | 24 => o_ask C (3 * (n / 3 % 10).toNat + (n % 3).toNat) id E s
    | 25 => o_ask C (30 + (n % 10).toNat) id E s
    | 26 => o_ask C 40 id E s
    | 27 => o_ask C 41 id E s
    | 29 => o_import L r4 C sil n id E s
    | 14 => match r1 sil a E hb s with
      | some (v, E1, s1) => if v_isW v = true then some (vW, E1, s1) else (match v_num v with
        | some x => r1 sil (if x = 0 then c else b) E1 hb s1
        | none => o_bad C 3 id E1 s1)
      | none => none
    | 17 => match r1 sil a E hb s with
      | some (v, E1, s1) => if v_isW v = true then some (vW, E1, s1) else if v_isF v = true then (match r1 sil b E1 hb s1 with
        | some (w, E2, s2) => o_call r2 C sil id v w E2 s2
        | none => none) else o_bad C 3 id E1 s1
      | none => none
    | 9 => ev2 L C r1 sil k id a b E hb s
    | 10 => ev2 L C r1 sil k id a b E hb s
    | 11 => ev2 L C r1 sil k id a b E hb s
    | 12 => ev2 L C r1 sil k id a b E hb s
    | 13 => ev2 L C r1 sil k id a b E hb s
    | 30 => ev2 L C r1 sil k id a b E hb s
    | 18 => if hb = false then o_bad C 7 id E s else ev3 L C r1 sil k n id a e E hb s
    | 19 => if hb = false then o_bad C 7 id E s else ev3 L C r1 sil k n id a e E hb s
    | 15 => ev3 L C r1 sil k n id a e E hb s
    | 20 => ev3 L C r1 sil k n id a e E hb s
    | 21 => ev3 L C r1 sil k n id a e E hb s
    | 28 => ev3 L C r1 sil k n id a e E hb s
    | 31 => ev3 L C r1 sil k n id a e E hb s
    | _ => some (vW, E, s)) else none
  | _ => some (vW, E, u_b s0 (s_b s0 + 1))
where
  ev2 (L : Nat) (C : C_) (r1 : K_) (sil : Bool) (k id : Nat) (a b : T_) (E : N_) (hb : Bool) (s : S_) : O_ := match r1 sil a E hb s with
    | some (v, E1, s1) => (match r1 sil b E1 hb s1 with
      | some (w, E2, s2) => o_pair L C k id a b v w E2 s2
      | none => none)
    | none => none
  ev3 (L : Nat) (C : C_) (r1 : K_) (sil : Bool) (k : Nat) (n : Int) (id : Nat) (a e : T_) (E : N_) (hb : Bool) (s : S_) : O_ := match r1 sil a E hb s with
    | some (v, E1, s1) => o_one L C k n id a v e E1 s1
    | none => none
def ev (C : C_) : Nat → K_
  | 0 => fun _ _ _ _ _ => none
  | 1 => fun _ _ _ _ _ => none
  | 2 => fun _ _ _ _ _ => none
  | 3 => fun _ _ _ _ _ => none
  | n + 4 => ev1 (2 * n + 1000) C (ev C (n + 3)) (ev C (n + 2)) (ev C n)
