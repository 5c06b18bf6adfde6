/-! ===== values, contents and code as trees ===== -/
abbrev T_ : Type := Std.Format
/-- names and their values -/
abbrev N_ : Type := Nat → Option T_
-- code: an expression (kind, number, place, parts), .nil is a broken one; items: one behind the other
def ce (k : Nat) (n : Int) (id : Nat) (a b c : T_) : T_ := .tag k (.nest n (.tag id (.append a (.append b c))))
def ct (k : Nat) (n : Int) (id : Nat) (x r : T_) : T_ := .tag k (.nest n (.tag id (.append x r)))
def e_id : T_ → Nat
  | .tag _ (.nest _ (.tag id _)) => id
  | _ => 183
/-- is a name looked at in it -/
def e_nm : T_ → Nat → Bool
  | .tag k (.nest n (.tag _ (.append a (.append b c)))), m => (k == 7 && (n % 10).toNat == m) || e_nm a m || e_nm b m || e_nm c m
  | .tag _ (.nest _ (.tag _ (.append x r))), m => e_nm x m || e_nm r m
  | _, _ => false
/-- how many tokens are in it -/
def c_sz : T_ → Nat
  | .tag _ (.nest _ (.tag _ (.append a (.append b c)))) => 1 + c_sz a + c_sz b + c_sz c
  | .tag _ (.nest _ (.tag _ (.append x r))) => 1 + c_sz x + c_sz r
  | _ => 0
-- values
def vN (x : Int) : T_ := .nest x .nil
/-- NOTHING -/
abbrev v0 : T_ := .nil
abbrev vW : T_ := .line
/-- content that is empty -/
abbrev vE : T_ := .align false
def v_isW : T_ → Bool
  | .line => true
  | _ => false
def v_num : T_ → Option Int
  | .nest x .nil => some x
  | _ => none
def v_isN (v : T_) : Bool := (v_num v).isSome
def v_isF : T_ → Bool
  | .tag 12 _ => true
  | _ => false
def v_isP : T_ → Bool
  | .tag 13 _ => true
  | _ => false
def v_isC : T_ → Bool
  | .align _ => true
  | .tag k _ => decide (1 ≤ k ∧ k ≤ 9)
  | _ => false
/-- is there anything in its content to be realized -/
def v_fl : T_ → Bool
  | .nest _ .nil => true
  | .tag 13 (.append a b) => v_fl a || v_fl b
  | .tag k _ => decide (1 ≤ k ∧ k ≤ 9)
  | _ => false
/-- how many functions are in it -/
def v_nf : T_ → Nat
  | .tag 12 _ => 1
  | .tag 13 (.append a b) => v_nf a + v_nf b
  | _ => 0
/-- pairs in one another -/
def v_dp : T_ → Nat
  | .tag 13 (.append a b) => max (v_dp a) (v_dp b) + 1
  | _ => 0
def m9 (x : Nat) : Nat := min 9999 x
/-- the width of a value's content under a SIZE, and the SIZE behind it (for the marks in a text) -/
def v_wq : T_ → Nat → Nat × Nat
  | .nest _ .nil, s => (s, s)
  | .tag 1 _, s => (s, s)
  | .tag 4 (.nest w _), s => (w.toNat, s)
  | .tag 5 (.tag _ v), s => ((v_wq v s).1, s)
  | .tag 8 (.append a b), s => (m9 ((v_wq a s).1 + (v_wq b (v_wq a s).2).1), (v_wq b (v_wq a s).2).2)
  | .tag 13 (.append a b), s => (m9 ((v_wq a s).1 + (v_wq b s).1), s)
  | .tag 9 v, s => ((v_wq v s).1, s)
  | .tag 10 (.tag 0 (.nest x _)), s => (0, x.toNat)
  | _, s => (0, s)
def v_wd (v : T_) (s : Nat) : Nat := (v_wq v s).1
def v_join (a b : T_) : T_ :=
  if v_fl a = false ∧ v_fl b = false then vE
  else if v_fl b = false ∧ v_isC a = true then a
  else if v_fl a = false ∧ v_isC b = true then b
  else .tag 8 (.append (if v_fl a then a else v0) (if v_fl b then b else v0))
def v_chain (a b : T_) : T_ := match a with
  | .nil => b
  | a => .tag 8 (.append a b)
-- names
def n_set (E : N_) (m : Nat) (v : T_) : N_ := fun k => if k = m then some v else E k
def n_none : N_ := fun _ => none
/-- the names told, chained, the last one first -/
def n_clos (E : N_) (u : Nat → Bool) : Nat → T_
  | 0 => .nil
  | m + 1 => match u m, E m with
    | true, some v => .append (.tag m v) (n_clos E u m)
    | _, _ => n_clos E u m
def n_get : T_ → N_
  | .append (.tag m v) r, k => if k = m then some v else n_get r k
  | _, _ => none
/-- a FUNC's own name, if it is the part of a LET -/
def e_own : T_ → Option Nat
  | .tag _ (.nest _ (.tag _ (.append _ (.append (.nest n _) _)))) => some n.toNat
  | _ => none
def e_num : T_ → Int
  | .tag _ (.nest n _) => n
  | _ => 0
def e_kind : T_ → Nat
  | .tag k _ => k
  | _ => 0
def e_part : T_ → T_
  | .tag _ (.nest _ (.tag _ (.append a _))) => a
  | _ => .nil
def e_par (e : T_) : Nat := (e_num e % 10).toNat
/-- the names that a FUNC or LATE keeps -/
def e_use (e : T_) (m : Nat) : Bool := e_nm (e_part e) m && !(e_kind e == 16 && (e_par e == m || e_own e == some m))
/-- is there an IMPORT in it -/
def e_imp : T_ → Bool
  | .tag k (.nest _ (.tag _ (.append a (.append b c)))) => k == 29 || e_imp a || e_imp b || e_imp c
  | .tag _ (.nest _ (.tag _ (.append x r))) => e_imp x || e_imp r
  | _ => false
/-- the names with which a body is run -/
def n_body (code clos v f : T_) : N_ :=
  n_set (match e_own code with
    | some m => n_set (n_get clos) m f
    | none => n_get clos) (e_par code) v
def v_code : T_ → T_
  | .tag _ (.append c _) => c
  | _ => .nil
def v_clos : T_ → T_
  | .tag _ (.append _ c) => c
  | _ => .nil
