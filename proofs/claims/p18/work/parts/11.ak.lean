/-! AN ABSTRACT EVALUATOR: linear expressions over symbols with bounds; what is known of cells; calls by contract or in line; cuts at loop heads -/
abbrev ae : Type := List (Nat × Int) × Int
/-- a value: an int as an expression, or (kind, number): 0 a cell, 1 a text, 2 a text's bytes, 3 a table, 4 a long, 5 a long constant, 6 something that is only carried -/
abbrev av : Type := ae ⊕ (Nat × Nat)
abbrev aH : Type := List ((Nat × ae) × ae)
/-- what was written, the latest first: a slot and its value; or anything in a cell -/
abbrev aW : Type := List (Nat × Option (ae × ae))
/-- a path: bounds, facts (each at most 0), what isn't 0, known cells, what was written -/
abbrev aP : Type := List (Int × Int) × List ae × List ae × aH × aW
def aI0 : Int := -2147483648
def aI1 : Int := 2147483647
def ae_k (c : Int) : ae := ([], c)
def ae_s (k : Nat) : ae := ([(k, 1)], 0)
def ae_ins (k : Nat) (c : Int) : List (Nat × Int) → List (Nat × Int)
  | [] => [(k, c)]
  | (j, b) :: t => if k < j then (k, c) :: (j, b) :: t else if k = j then (if b + c = 0 then t else (k, b + c) :: t) else (j, b) :: ae_ins k c t
def ae_add (a b : ae) : ae := (a.1.foldr (fun q l => ae_ins q.1 q.2 l) b.1, a.2 + b.2)
def ae_mul (c : Int) (a : ae) : ae := if c = 0 then ([], 0) else (a.1.map (fun q => (q.1, c * q.2)), c * a.2)
def ae_neg (a : ae) : ae := ae_mul (-1) a
def ae_sub (a b : ae) : ae := ae_add a (ae_neg b)
def ae_inc (a : ae) (c : Int) : ae := (a.1, a.2 + c)
/-- the greatest that it may be -/
def ae_ub (env : List (Int × Int)) : List (Nat × Int) → Int → Option Int
  | [], c => some c
  | (k, a) :: t, c => match env[k]? with
    | none => none
    | some (lo, hi) => ae_ub env t (c + (if 0 ≤ a then a * hi else a * lo))
def ae_le0 (env : List (Int × Int)) (e : ae) : Bool := match ae_ub env e.1 e.2 with
  | some u => decide (u ≤ 0)
  | none => false
/-- whether it is at most 0: by the bounds, by a fact, by two facts -/
def ae_pr (env : List (Int × Int)) (fs : List ae) (e : ae) : Bool :=
  ae_le0 env e || fs.any (fun f => ae_le0 env (ae_sub e f)) || fs.any (fun f => fs.any (fun g => ae_le0 env (ae_sub (ae_sub e f) g)))
def aP_pr (P : aP) (e : ae) : Bool := ae_pr P.1 P.2.1 e
def aP_in (P : aP) (lo hi : Int) (e : ae) : Bool := aP_pr P (ae_inc (ae_neg e) lo) && aP_pr P (ae_inc e (-hi))
def aP_fit (P : aP) (e : ae) : Bool := aP_in P aI0 aI1 e
def aP_bd (P : aP) (e : ae) : Option (Int × Int) := match ae_ub P.1 (ae_neg e).1 (ae_neg e).2, ae_ub P.1 e.1 e.2 with
  | some l, some u => some (-l, u)
  | _, _ => none
def ae_eq (a b : ae) : Bool := match ae_sub a b with
  | ([], 0) => true
  | _ => false
def aP_eq (P : aP) (a b : ae) : Bool := ae_eq a b || (aP_pr P (ae_sub a b) && aP_pr P (ae_sub b a))
/-- a new symbol within bounds -/
def aP_new (P : aP) (lo hi : Int) : ae × aP := (ae_s P.1.length, (P.1 ++ [(lo, hi)], P.2))
def aP_any (P : aP) : ae × aP := aP_new P aI0 aI1
/-- each symbol of factor 1 or -1, by the others' bounds -/
def ae_tight (e : ae) : List (Nat × Int) → List (Int × Int) → Option (List (Int × Int))
  | [], env => some env
  | (k, a) :: t, env => if a = 1 ∨ a = -1 then
      (match env[k]?, ae_ub env (ae_neg (ae_add e (ae_mul (-a) (ae_s k)))).1 (ae_neg (ae_add e (ae_mul (-a) (ae_s k)))).2 with
       | some (lo, hi), some m => if a = 1 then (if m < lo then none else ae_tight e t (if m < hi then env.set k (lo, m) else env))
          else (if hi < -m then none else ae_tight e t (if lo < -m then env.set k (-m, hi) else env))
       | _, _ => ae_tight e t env) else ae_tight e t env
def ae_one (e : ae) : Bool := match e.1 with
  | [(_, a)] => a == 1 || a == -1
  | _ => false
/-- e ≤ 0 from here on; none: it can't be -/
def aP_as (P : aP) (e : ae) : Option aP :=
  if aP_pr P (ae_inc (ae_neg e) 1) then none else if aP_pr P e then some P else
  match ae_tight e e.1 P.1 with
  | none => none
  | some env => if ae_one e then some (env, P.2) else some (env, e :: P.2.1, P.2.2)
/-- a symbol that isn't its bound -/
def aP_bnd (P : aP) (e : ae) : aP := match e with
  | ([(k, a)], c) => match P.1[k]? with
    | none => P
    | some (lo, hi) =>
      if (a = 1 ∧ lo = -c) ∨ (a = -1 ∧ lo = c) then (P.1.set k (lo + 1, hi), P.2)
      else if (a = 1 ∧ hi = -c) ∨ (a = -1 ∧ hi = c) then (P.1.set k (lo, hi - 1), P.2)
      else P
  | _ => P
def aP_nz (P : aP) (e : ae) : Option aP :=
  if aP_pr P e && aP_pr P (ae_neg e) then none else
  some ((e :: P.2.2.1).foldl aP_bnd (P.1, P.2.1, e :: P.2.2.1, P.2.2.2))
/-- whether it is not 0 -/
def aP_isnz (P : aP) (e : ae) : Bool := aP_pr P (ae_inc e 1) || aP_pr P (ae_inc (ae_neg e) 1) || P.2.2.1.any (fun z => ae_eq z e || ae_eq (ae_neg z) e)
def aP_cmp (P : aP) (c : ClassFile.Cond) (a b : ae) (t : Bool) : Option aP := match c, t with
  | .lt, true | .ge, false => aP_as P (ae_inc (ae_sub a b) 1)
  | .ge, true | .lt, false => aP_as P (ae_sub b a)
  | .gt, true | .le, false => aP_as P (ae_inc (ae_sub b a) 1)
  | .le, true | .gt, false => aP_as P (ae_sub a b)
  | .eq, true | .ne, false => (aP_as P (ae_sub a b)).bind (fun P2 => aP_as P2 (ae_sub b a))
  | .ne, true | .eq, false => aP_nz P (ae_sub a b)
/-! the layout of the world: a cell is an object (class; each field a cell, or an int within bounds) or a row (kind; length; bounds of the columns, in turn) -/
abbrev aD : Type := (Nat × List (Nat ⊕ (Int × Int))) ⊕ (Nat × Nat × List (Int × Int))
/-- a rule of rows: cell, stride, column a, value, column b, bounds: where a row's column a has the value, its column b is within -/
abbrev aRule : Type := Nat × Nat × Nat × Int × Nat × Int × Int
/-- the column that an index stands in, if that is the same for all its values -/
def ae_col (s : Nat) (e : ae) : Option Nat := if e.1.all (fun q => decide (q.2 % (s : Int) = 0)) then some (e.2 % (s : Int)).toNat else none
def aD_join : List (Int × Int) → Option (Int × Int)
  | [] => none
  | [q] => some q
  | (lo, hi) :: t => (aD_join t).map (fun q => (if lo < q.1 then lo else q.1, if q.2 < hi then hi else q.2))
def aD_cols (cols : List (Int × Int)) (e : ae) : Option (Int × Int) := match ae_col cols.length e with
  | some k => cols[k]?
  | none => aD_join cols
def aH_get (h : aH) (c : Nat) (ix : ae) : Option ae := (h.find? (fun q => q.1.1 == c && ae_eq q.1.2 ix)).map (·.2)
/-- two indices that can't be the same -/
def ae_apart (a b : ae) : Bool := match ae_sub a b with
  | ([], c) => decide (c ≠ 0)
  | _ => false
def aH_put (h : aH) (c : Nat) (ix v : ae) : aH := ((c, ix), v) :: h.filter (fun q => !(q.1.1 == c) || ae_apart q.1.2 ix)
/-- narrower bounds by a rule, where the other column is known -/
def aR_get (rules : List aRule) (P : aP) (c : Nat) (ix : ae) (b : Int × Int) : Int × Int :=
  match rules.find? (fun r => r.1 == c) with
  | none => b
  | some r => if ae_col r.2.1 ix = some r.2.2.2.2.1 then (match aH_get P.2.2.2.1 c (ae_inc ix ((r.2.2.1 : Int) - (r.2.2.2.2.1 : Int))) with
      | some w => if aP_eq P w (ae_k r.2.2.2.1) then (r.2.2.2.2.2.1, r.2.2.2.2.2.2) else b
      | none => b) else b
/-- whether a store keeps the rules -/
def aR_put (rules : List aRule) (P : aP) (c : Nat) (ix v : ae) : Bool :=
  rules.all (fun r => !(r.1 == c) || (match ae_col r.2.1 ix with
    | none => aP_isnz P (ae_inc v (-r.2.2.2.1)) && aP_in P r.2.2.2.2.2.1 r.2.2.2.2.2.2 v
    | some k =>
      (!(k == r.2.2.1) || aP_isnz P (ae_inc v (-r.2.2.2.1)) || (match aH_get P.2.2.2.1 c (ae_inc ix ((r.2.2.2.2.1 : Int) - (r.2.2.1 : Int))) with
        | some w => aP_in P r.2.2.2.2.2.1 r.2.2.2.2.2.2 w
        | none => false)) &&
      (!(k == r.2.2.2.2.1) || aP_in P r.2.2.2.2.2.1 r.2.2.2.2.2.2 v || (match aH_get P.2.2.2.1 c (ae_inc ix ((r.2.2.1 : Int) - (r.2.2.2.2.1 : Int))) with
        | some w => aP_isnz P (ae_inc w (-r.2.2.2.1))
        | none => false))))
/-- a slot is read -/
def aP_read (rules : List aRule) (P : aP) (c : Nat) (ix : ae) (b : Int × Int) : ae × aP :=
  match aH_get P.2.2.2.1 c ix with
  | some v => (v, P)
  | none =>
    let b2 := aR_get rules P c ix b
    let q := if b2.1 = b2.2 then (ae_k b2.1, P) else aP_new P b2.1 b2.2
    (q.1, (q.2.1, q.2.2.1, q.2.2.2.1, ((c, ix), q.1) :: q.2.2.2.2.1, q.2.2.2.2.2))
def aP_write (P : aP) (c : Nat) (ix v : ae) : aP := (P.1, P.2.1, P.2.2.1, aH_put P.2.2.2.1 c ix v, (c, some (ix, v)) :: P.2.2.2.2)
/-- a cell was written by others -/
def aP_lose (P : aP) (cs : List Nat) : aP := (P.1, P.2.1, P.2.2.1, P.2.2.2.1.filter (fun q => !(cs.elem q.1.1)), cs.map (fun c => (c, none)) ++ P.2.2.2.2)
/-! contracts: method; bounds and facts of the symbols; arguments; known cells; cells that may be written; how deep; cases: further symbols, facts, answer, known cells -/
abbrev aCase : Type := List (Int × Int) × List ae × Option av × aH
abbrev aCon : Type := Nat × List (Int × Int) × List ae × List av × aH × List Nat × Nat × List aCase
/-- a cut: place; bounds, facts; locals, stack, known cells, cells written; measure -/
abbrev aCut : Type := Nat × List (Int × Int) × List ae × List (Nat × av) × List av × aH × List Nat × ae
/-- an expression with expressions for its symbols -/
def ae_sub1 (sg : List (Option ae)) (e : ae) : Option ae := e.1.foldr (fun q acc => match acc, sg[q.1]? with
  | some r, some (some s) => some (ae_add (ae_mul q.2 s) r)
  | _, _ => none) (some ([], e.2))
def ag_bind (sg : List (Option ae)) (p : av) (v : av) : List (Option ae) := match p, v with
  | .inl ([(k, 1)], 0), .inl e => match sg[k]? with
    | some none => sg.set k (some e)
    | _ => sg
  | _, _ => sg
def ag_ok (P : aP) (sg : List (Option ae)) (p v : av) : Bool := match p, v with
  | .inl pe, .inl e => match ae_sub1 sg pe with
    | some r => aP_eq P r e
    | none => false
  | .inr (4, _), .inr (4, _) => true
  | .inr (4, _), .inr (5, _) => true
  | .inr (6, _), .inr (6, _) => true
  | .inr (t, k), .inr (t2, k2) => t == t2 && k == k2 && t != 4 && t != 6
  | _, _ => false
def ag_env (P : aP) : List (Option ae) → List (Int × Int) → Bool
  | [], [] => true
  | some e :: sg, (lo, hi) :: env => (ae_ub P.1 e.1 e.2).isSome && aP_in P lo hi e && ag_env P sg env
  | _, _ => false
def ag_facts (P : aP) (sg : List (Option ae)) (fs : List ae) : Bool := fs.all (fun f => match ae_sub1 sg f with
  | some e => aP_pr P e
  | none => false)
def ag_list (P : aP) (sg : List (Option ae)) : List av → List av → Bool
  | [], [] => true
  | p :: ps, v :: vs => ag_ok P sg p v && ag_list P sg ps vs
  | _, _ => false
def al_ld (lv : List (Nat × av)) (k : Nat) : Option av := (lv.find? (fun q => q.1 == k)).map (·.2)
def av_cat (v : av) : Nat := match v with
  | .inr (4, _) => 2
  | .inr (5, _) => 2
  | _ => 1
def al_s1 (lv : List (Nat × av)) (i : Nat) (v : av) : List (Nat × av) := (i, v) :: lv.filter (fun q => !(q.1 == i) && !(q.1 + 1 == i && av_cat q.2 == 2))
def al_s2 (lv : List (Nat × av)) (i : Nat) (v : av) : List (Nat × av) := (i, v) :: lv.filter (fun q => !(q.1 == i) && (!(q.1 == i + 1) && !(q.1 + 1 == i && av_cat q.2 == 2)))
def ag_lv (P : aP) (sg : List (Option ae)) (pl : List (Nat × av)) (lv : List (Nat × av)) : Bool := pl.all (fun q => match al_ld lv q.1 with
  | some v => ag_ok P sg q.2 v
  | none => false)
def ag_h (P : aP) (sg : List (Option ae)) (ph : aH) : Bool := ph.all (fun q => match ae_sub1 sg q.1.2, ae_sub1 sg q.2 with
  | some ix, some v => (match aH_get P.2.2.2.1 q.1.1 ix with
    | some e => aP_eq P v e
    | none => false)
  | _, _ => false)
def ag_start (npre n : Nat) : List (Option ae) := (List.range n).map (fun k => if k < npre then some (ae_s k) else none)
def ag_bh (P : aP) (h : aH) (sg : List (Option ae)) : List (Option ae) := h.foldl (fun sg q => match ae_sub1 sg q.1.2 with
  | some ix => (match aH_get P.2.2.2.1 q.1.1 ix with | some e => ag_bind sg (.inl q.2) (.inl e) | none => sg)
  | none => sg) sg
/-- the state is one of the cut's, and nearer to the end -/
def ak_cut (npre : Nat) (T : aCut) (mu : Option ae) (lv : List (Nat × av)) (st : List av) (P : aP) : Bool :=
  let sg0 := ag_start npre T.2.1.length
  let sg1 := T.2.2.2.1.foldl (fun sg q => match al_ld lv q.1 with | some v => ag_bind sg q.2 v | none => sg) sg0
  let sg2 := ag_bh P T.2.2.2.2.2.1 sg1
  ag_env P sg2 T.2.1 && ag_facts P sg2 T.2.2.1 && ag_lv P sg2 T.2.2.2.1 lv && ag_list P sg2 T.2.2.2.2.1 st && ag_h P sg2 T.2.2.2.2.2.1 && P.2.2.2.2.all (fun q => T.2.2.2.2.2.2.1.elem q.1) &&
  (match mu with
   | none => true
   | some m => match ae_sub1 sg2 T.2.2.2.2.2.2.2 with
     | some m2 => aP_pr P (ae_inc (ae_sub m2 m) 1)
     | none => false)
/-- an end's symbols -/
def ak_esg (npre : Nat) (cs : aCase) (v : Option av) (P : aP) : List (Option ae) :=
  ag_bh P cs.2.2.2 (match cs.2.2.1, v with | some p, some v => ag_bind (ag_start npre (npre + cs.1.length)) p v | _, _ => ag_start npre (npre + cs.1.length))
/-- an end is one of the cases -/
def ak_end1 (npre : Nat) (md : List Nat) (cs : aCase) (v : Option av) (P : aP) : Bool :=
  ag_env P ((ak_esg npre cs v P).drop npre) cs.1 && ag_facts P (ak_esg npre cs v P) cs.2.1 && (match cs.2.2.1, v with | some p, some v => ag_ok P (ak_esg npre cs v P) p v | none, none => true | _, _ => false) && ag_h P (ak_esg npre cs v P) cs.2.2.2 && P.2.2.2.2.all (fun q => md.elem q.1)
def ak_end (npre : Nat) (md : List Nat) (cases : List aCase) (v : Option av) (P : aP) : Bool := cases.any (fun cs => ak_end1 npre md cs v P)
