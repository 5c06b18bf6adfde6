/-! ===== the evaluator: realizing, rounds ===== -/
/-- a frame: 0 a piece, 5 ahead of a scope, 1 behind a scope (SIZE, INDENT, how many rules), 2 behind a heading, 3 behind a rule, 4 behind a LATE -/
abbrev F_ : Type := Nat × T_ × Int × Int × Nat
/-- SIZE, INDENT, rules, within, SHOWs used up, counters, page, line, pen, things, elements, answers to come, frames -/
abbrev Q_ : Type := Int × Int × List T_ × Nat × List Nat × (Nat → Int) × Int × Int × Int × List (List Int) × Nat × (Nat → Int) × List F_
abbrev q_sz (q : Q_) : Int := q.1
abbrev q_in (q : Q_) : Int := q.2.1
abbrev q_rl (q : Q_) : List T_ := q.2.2.1
abbrev q_wi (q : Q_) : Nat := q.2.2.2.1
abbrev q_us (q : Q_) : List Nat := q.2.2.2.2.1
abbrev q_ct (q : Q_) : Nat → Int := q.2.2.2.2.2.1
abbrev q_pg (q : Q_) : Int := q.2.2.2.2.2.2.1
abbrev q_ln (q : Q_) : Int := q.2.2.2.2.2.2.2.1
abbrev q_pn (q : Q_) : Int := q.2.2.2.2.2.2.2.2.1
abbrev q_th (q : Q_) : List (List Int) := q.2.2.2.2.2.2.2.2.2.1
abbrev q_el (q : Q_) : Nat := q.2.2.2.2.2.2.2.2.2.2.1
abbrev q_nx (q : Q_) : Nat → Int := q.2.2.2.2.2.2.2.2.2.2.2.1
abbrev q_fr (q : Q_) : List F_ := q.2.2.2.2.2.2.2.2.2.2.2.2
/-- SIZE, INDENT, rules -/
abbrev p_mk (q : Q_) (a b : Int) (l : List T_) : Q_ := (a, b, l, q.2.2.2)
abbrev p_wi (q : Q_) (n : Nat) (l : List Nat) : Q_ := (q.1, q.2.1, q.2.2.1, n, l, q.2.2.2.2.2)
abbrev p_ct (q : Q_) (f : Nat → Int) : Q_ := (q.1, q.2.1, q.2.2.1, q.2.2.2.1, q.2.2.2.2.1, f, q.2.2.2.2.2.2)
abbrev p_pn (q : Q_) (a b c : Int) : Q_ := (q.1, q.2.1, q.2.2.1, q.2.2.2.1, q.2.2.2.2.1, q.2.2.2.2.2.1, a, b, c, q.2.2.2.2.2.2.2.2.2)
abbrev p_th (q : Q_) (l : List (List Int)) : Q_ := (q.1, q.2.1, q.2.2.1, q.2.2.2.1, q.2.2.2.2.1, q.2.2.2.2.2.1, q.2.2.2.2.2.2.1, q.2.2.2.2.2.2.2.1, q.2.2.2.2.2.2.2.2.1, l, q.2.2.2.2.2.2.2.2.2.2)
abbrev p_el (q : Q_) (n : Nat) : Q_ := (q.1, q.2.1, q.2.2.1, q.2.2.2.1, q.2.2.2.2.1, q.2.2.2.2.2.1, q.2.2.2.2.2.2.1, q.2.2.2.2.2.2.2.1, q.2.2.2.2.2.2.2.2.1, q.2.2.2.2.2.2.2.2.2.1, n, q.2.2.2.2.2.2.2.2.2.2.2)
abbrev p_nx (q : Q_) (f : Nat → Int) : Q_ := (q.1, q.2.1, q.2.2.1, q.2.2.2.1, q.2.2.2.2.1, q.2.2.2.2.2.1, q.2.2.2.2.2.2.1, q.2.2.2.2.2.2.2.1, q.2.2.2.2.2.2.2.2.1, q.2.2.2.2.2.2.2.2.2.1, q.2.2.2.2.2.2.2.2.2.2.1, f, q_fr q)
abbrev p_fr (q : Q_) (l : List F_) : Q_ := (q.1, q.2.1, q.2.2.1, q.2.2.2.1, q.2.2.2.2.1, q.2.2.2.2.2.1, q.2.2.2.2.2.2.1, q.2.2.2.2.2.2.2.1, q.2.2.2.2.2.2.2.2.1, q.2.2.2.2.2.2.2.2.2.1, q.2.2.2.2.2.2.2.2.2.2.1, q_nx q, l)
/-- what is fixed in a round: answers of the round before, texts of files, faults of reading, width and height of the page -/
abbrev G_ : Type := (Nat → Int) × (Nat → T_) × (Nat → List Int) × Int × Int
def g_C (G : G_) (q : Q_) : C_ := (fun k => some (if k < 42 then G.1 k else q_ct q (k - 42)), (q_us q).length, G.2.1, G.2.2.1)
def g_C0 (G : G_) : C_ := (fun k => if k < 42 then some (G.1 k) else none, 0, G.2.1, G.2.2.1)
def g_up (f : Nat → Int) (k : Nat) (x : Int) : Nat → Int := fun j => if j = k then x else f j
def q_nl (G : G_) (q : Q_) : Q_ := if q_ln q + 1 = G.2.2.2.2 then p_pn q (q_pg q + 1) 0 (q_in q) else p_pn q (q_pg q) (q_ln q + 1) (q_in q)
def q_lay (G : G_) (n w : Int) (q0 : Q_) : Q_ :=
  let q := if G.2.2.2.1 < q_pn q0 + w ∧ q_in q0 < q_pn q0 then q_nl G q0 else q0
  p_nx (p_pn (p_th q (q_th q ++ [[n, w, q_pg q, q_ln q, q_pn q, q_sz q]])) (q_pg q) (q_ln q) (q_pn q + w)) (g_up (q_nx q) 40 (q_pg q + 1))
def q_label (l : Nat) (q : Q_) : Q_ := if q_nx q (30 + l) ≠ 0 then q else
  p_nx q (fun k => if k = 30 + l then q_pg q + 1 else if k = 3 * l then q_ct q 0 else if k = 3 * l + 1 then q_ct q 1 else if k = 3 * l + 2 then q_ct q 2 else q_nx q k)
/-- what an element is shown as by SHOW, below 0: not at all -/
def q_shown : T_ → Int
  | .tag 5 _ => 0
  | .tag 4 _ => 1
  | .tag 1 (.nest n _) => if n < 0 then -1 else n + 2
  | _ => -1
def q_ruleIs (x : Int) (us : List Nat) : T_ → Bool
  | .tag 11 (.tag n (.append e _)) => (n : Int) == x && !us.elem (e_id e)
  | _ => false
def q_rule (el : T_) (q : Q_) : Option T_ := (q_rl q).reverse.find? (q_ruleIs (q_shown el) (q_us q))
abbrev X_ : Type := S_ × Q_
/-- how deep pairs may be where content is asked for while realizing -/
def x_L : Nat := 2016
/-- a rule for an element -/
def x_rule (rec : C_ → K_) (G : G_) (sil : Bool) (r el : T_) (s : S_) (q : Q_) : Option X_ := match r with
  | .tag 11 (.tag _ (.append e f)) =>
    if 12 ≤ q_wi q then some (f_note (g_C G q) (f_code 5 (e_id e)) s, q) else if 300 ≤ s_b s then some (f_note (g_C G q) (f_code 6 (e_id e)) s, q) else
    if s_rw s < 2040 then (match rec (g_C G q) sil (e_part (v_code f)) (n_body (v_code f) (v_clos f) el f) false (u_rw (u_rn (u_dp s 1) (s_rn s + 1) (s_tk s)) (s_rw s + 1)) with
      | some (v, _, s1) => (match f_fu x_L (g_C G q) v (e_id e) (u_dp s1 0) with
        | some s2 => some (s2, p_fr (p_wi q (q_wi q + 1) (q_us q ++ [e_id e])) ((0, v, 0, 0, 0) :: (3, .nil, 0, 0, 0) :: q_fr q))
        | none => none)
      | none => none) else none
  | _ => none
def x_late (rec : C_ → K_) (G : G_) (sil : Bool) (e cl : T_) (s : S_) (q : Q_) : Option X_ :=
  if 12 ≤ q_wi q then some (f_note (g_C G q) (f_code 5 (e_id e)) s, q) else if 300 ≤ s_b s then some (f_note (g_C G q) (f_code 6 (e_id e)) s, q) else
  if s_rw s < 2040 then (match rec (g_C G q) sil (e_part e) (n_get cl) false (u_rw s (s_rw s + 1)) with
    | some (v, _, s1) => (match f_fu x_L (g_C G q) v (e_id (e_part e)) s1 with
      | some s2 => some (s2, p_fr (p_wi q (q_wi q + 1) (q_us q)) ((0, v, 0, 0, 0) :: (4, .nil, 0, 0, 0) :: q_fr q))
      | none => none)
    | none => none) else none
def x_head (G : G_) (id : Nat) (v : T_) (s : S_) (q0 : Q_) : X_ :=
  let q := if q_in q0 < q_pn q0 then q_nl G q0 else q0
  if 12 ≤ q_wi q then (f_note (g_C G q) (f_code 5 id) s, p_nx (q_nl G q) (g_up (q_nx q) 41 (q_nx q 41 + 1)))
  else (s, p_fr (p_wi q (q_wi q + 1) (q_us q)) ((0, v, 0, 0, 0) :: (2, .nil, 0, 0, 0) :: q_fr q))
def x_show (rec : C_ → K_) (G : G_) (sil : Bool) (el : T_) (s : S_) (q : Q_) : Option X_ := match q_rule el q with
  | some r => x_rule rec G sil r el s q
  | none => match el with
    | .tag 5 (.tag id v) => some (x_head G id v s q)
    | .tag 4 (.nest w _) => some (s, q_lay G (2000 + w) w q)
    | .tag 1 (.nest n _) => some (s, q_lay G n (q_sz q) q)
    | _ => none
def x_real (rec : C_ → K_) (G : G_) (sil : Bool) (el : T_) (s : S_) (q0 : Q_) : Option X_ :=
  let q := p_el q0 (q_el q0 + 1)
  if 200 < q_el q then some (f_note (g_C G q) 600000 s, p_fr q []) else match el with
  | .tag 2 _ => some (s, q_nl G q)
  | .tag 3 (.nest l _) => some (s, q_label l.toNat q)
  | .tag 6 (.tag c (.nest x _)) => some (s, p_ct q (g_up (q_ct q) c (b9 (q_ct q c + x))))
  | .tag 7 (.append e cl) => x_late rec G sil e cl s q
  | _ => x_show rec G sil el s q
/-- one frame -/
def x_step (rec : C_ → K_) (G : G_) (sil : Bool) (s : S_) (q0 : Q_) : Option X_ := match q_fr q0 with
  | [] => some (s, q0)
  | (0, w, _) :: r =>
    let q := p_fr q0 r
    match w with
    | .nest x .nil => x_real rec G sil (.tag 1 (.nest (1000 + x) .nil)) (u_nd s 1) q
    | .tag 8 (.append a b) => some (s, p_fr q ((0, a, 0, 0, 0) :: (0, b, 0, 0, 0) :: r))
    | .tag 13 (.append a b) => some (s, if v_fl a = true ∨ v_fl b = true then p_fr q ((0, a, 0, 0, 0) :: (0, b, 0, 0, 0) :: r) else q)
    | .tag 9 v => some (s, p_fr q ((5, v, 0, 0, 0) :: r))
    | .tag 10 (.tag p (.nest x _)) => some (s, if p = 0 then p_mk q x (q_in q) (q_rl q) else p_mk q (q_sz q) x (q_rl q))
    | .tag 11 _ => some (s, p_mk q (q_sz q) (q_in q) (q_rl q ++ [w]))
    | .tag 12 _ => some (s, q)
    | .tag k _ => if 1 ≤ k ∧ k ≤ 7 then x_real rec G sil w s q else some (s, q)
    | _ => some (s, q)
  | (5, v, _) :: r => some (s, p_fr q0 ((0, v, 0, 0, 0) :: (1, .nil, q_sz q0, q_in q0, (q_rl q0).length) :: r))
  | (1, _, a, b, n) :: r => some (s, p_mk (p_fr q0 r) a b ((q_rl q0).take n))
  | (2, _) :: r =>
    let q := q_nl G (p_fr (p_wi q0 (q_wi q0 - 1) (q_us q0)) r)
    some (s, p_nx q (g_up (q_nx q) 41 (q_nx q 41 + 1)))
  | (3, _) :: r => some (s, p_fr (p_wi q0 (q_wi q0 - 1) ((q_us q0).take ((q_us q0).length - 1))) r)
  | (_, _) :: r => some (s, p_fr (p_wi q0 (q_wi q0 - 1) (q_us q0)) r)
/-- frames until none is left; at most 20000 at once -/
def x_run (rec : C_ → K_) (G : G_) (sil : Bool) : Nat → S_ → Q_ → Option X_
  | 0, _, _ => none
  | n + 1, s, q => if (q_fr q).isEmpty = true then some (s, q) else if 20000 < (q_fr q).length ∨ 8000 < (q_rl q).length then none else match x_step rec G sil s q with
    | some (s1, q1) => x_run rec G sil n s1 q1
    | none => none
def q_start (v : T_) : Q_ := (1, 0, [], 0, [], fun _ => 0, 0, 0, 0, [], 0, fun _ => 0, [(0, v, 0, 0, 0)])
/-- the memory, ran and taken go on from round to round -/
def s_start (m : List R_) (rn tk : Nat) : S_ := (0, 0, [], 0, 0, 0, fun _ => false, .nil, fun _ => 0, fun _ => n_none, m, rn, tk, 0, 0, 0)
/-- fuel for running, for realizing -/
def x_F : Nat := 512
def x_FR : Nat := 740000
def x_round (G : G_) (sil : Bool) (s0 : S_) : Option X_ := match o_file x_L (ev (g_C0 G) x_F) (g_C0 G) sil 0 s0 with
  | some (v, s) => x_run (fun C => ev C x_F) G sil x_FR s (q_start v)
  | none => none
/-- rounds: how many are left, answers of the round before, how many there were; settled, how many, the last one -/
def x_rounds (G : G_) (sil : Bool) : Nat → (Nat → Int) → Nat → S_ → Option (Bool × Nat × X_)
  | 0, _, _, _ => none
  | n + 1, bf, many, s => match x_round (bf, G.2) sil s with
    | some (s1, q1) => if (List.range 42).all (fun k => bf k == q_nx q1 k) = true then some (true, many + 1, (s1, q1)) else match n with
      | 0 => some (false, many + 1, (s1, q1))
      | _ => x_rounds G sil n (q_nx q1) (many + 1) (s_start (s_me s1) (s_rn s1) (s_tk s1))
    | none => none
