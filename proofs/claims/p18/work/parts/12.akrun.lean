/-! THE ABSTRACT EVALUATOR'S STEPS -/
/-- may this slot be written, where these cells (below 1000) and slots (1000 (i + 1) + c) may not -/
def aPk (prot : List Nat) (c : Nat) (ix : ae) : Bool := !(prot.elem c) && prot.all (fun q => decide (q < 1000) || decide (q % 1000 ≠ c) || ae_apart (ae_k (((q / 1000 - 1 : Nat) : Int))) ix)
def aPw (prot : List Nat) (c : Nat) : Bool := !(prot.elem c) && prot.all (fun q => decide (q < 1000) || decide (q % 1000 ≠ c))
/-- a row is copied: what is known of the slots that come -/
def aP_cph (h : aH) (c0 c1 : Nat) (es ed en : ae) : aH := match es, ed, en with
  | ([], s), ([], d), ([], n) => h.filterMap (fun q => if q.1.1 = c0 ∧ q.1.2.1 = [] ∧ s ≤ q.1.2.2 ∧ q.1.2.2 < s + n then some ((c1, ae_k (q.1.2.2 - s + d)), q.2) else none)
  | _, _, _ => []
def aP_cpy (P : aP) (c0 c1 : Nat) (es ed en : ae) : aP := ((aP_lose P [c1]).1, (aP_lose P [c1]).2.1, (aP_lose P [c1]).2.2.1, aP_cph P.2.2.2.1 c0 c1 es ed en ++ (aP_lose P [c1]).2.2.2.1, (aP_lose P [c1]).2.2.2.2)
/-- next places; a call; an answer -/
abbrev aRes : Type := List (Option Nat × List (Nat × av) × List av × aP) ⊕ (Nat × List av × List av) ⊕ (Option av)
/-- what is fixed: the layout, the rules, the tables (length; bounds), cells that may not be written, the contracts -/
abbrev aG : Type := List aD × List aRule × List (ae × Int × Int) × List Nat × List aCon
def ak_nx (lv : List (Nat × av)) (st : List av) (P : aP) : Option aRes := some (.inl [(none, lv, st, P)])
def ak_new (lv : List (Nat × av)) (st : List av) (P : aP) (lo hi : Int) : Option aRes := let q := aP_new P lo hi; ak_nx lv (.inl q.1 :: st) q.2
/-- the exact value where it fits, else any int -/
def ak_num (lv : List (Nat × av)) (st : List av) (P : aP) (e : ae) : Option aRes := if aP_fit P e then ak_nx lv (.inl e :: st) P else ak_new lv st P aI0 aI1
def ak_tg (pc : Nat) (off : Int) : Option Nat := if (pc : Int) + off < 0 then none else some ((pc : Int) + off).toNat
def ak_br (pc : Nat) (off : Int) (lv : List (Nat × av)) (st : List av) (P : aP) (c : ClassFile.Cond) (a b : ae) : Option aRes := match ak_tg pc off with
  | none => none
  | some t => some (.inl ((match aP_cmp P c a b true with | some P2 => [(some t, lv, st, P2)] | none => []) ++ (match aP_cmp P c a b false with | some P2 => [(none, lv, st, P2)] | none => [])))
def ak_isk (e : ae) : Option Int := match e.1 with
  | [] => some e.2
  | _ => none
/-- what a field may hold -/
def aD_fld (lay : List aD) (c ci k : Nat) : Option (Nat ⊕ (Int × Int)) := match lay[c]? with
  | some (.inl (ci2, fs)) => if ci2 = ci then fs[k]? else none
  | _ => none
def aD_row (lay : List aD) (c kd : Nat) : Option (Nat × List (Int × Int)) := match lay[c]? with
  | some (.inr (kd2, N, cols)) => if kd2 = kd then some (N, cols) else none
  | _ => none
def ak_mul (lv : List (Nat × av)) (t : List av) (P : aP) (a b : ae) : Option aRes := match ak_isk a, ak_isk b with
  | some c, _ => ak_num lv t P (ae_mul c b)
  | _, some c => ak_num lv t P (ae_mul c a)
  | _, _ => ak_new lv t P aI0 aI1
/-- a quotient or rest by a number is kept as a cell of its own: 1000000 + 2 c, or one more -/
def ak_div (lv : List (Nat × av)) (t : List av) (P : aP) (a b : ae) : Option aRes := match ak_isk b, aP_bd P a with
  | some c, some (l, u) => if 0 < c ∧ 0 ≤ l then
      (match aH_get P.2.2.2.1 (1000000 + 2 * c.toNat) a with
       | some w => ak_nx lv (.inl w :: t) P
       | none => let q := aP_new P (l / c) (u / c)
         ak_nx lv (.inl q.1 :: t) (q.2.1, if 1 < c ∧ 1 ≤ l then ae_inc (ae_sub q.1 a) 1 :: q.2.2.1 else q.2.2.1, q.2.2.2.1, ((1000000 + 2 * c.toNat, a), q.1) :: q.2.2.2.2.1, q.2.2.2.2.2))
    else if c ≠ 0 then ak_new lv t P aI0 aI1 else none
  | _, _ => if aP_isnz P b then ak_new lv t P aI0 aI1 else none
def ak_rem (lv : List (Nat × av)) (t : List av) (P : aP) (a b : ae) : Option aRes := match ak_isk b, aP_bd P a with
  | some c, some (l, u) => if 0 < c ∧ 0 ≤ l then
      (match aH_get P.2.2.2.1 (1000001 + 2 * c.toNat) a with
       | some w => ak_nx lv (.inl w :: t) P
       | none => let q := aP_new P 0 (if u < c - 1 then u else c - 1)
         ak_nx lv (.inl q.1 :: t) (q.2.1, q.2.2.1, q.2.2.2.1, ((1000001 + 2 * c.toNat, a), q.1) :: q.2.2.2.2.1, q.2.2.2.2.2))
    else if 0 < c then ak_new lv t P (-(c - 1)) (c - 1) else if c ≠ 0 then ak_new lv t P aI0 aI1 else none
  | _, _ => if aP_isnz P b then ak_new lv t P aI0 aI1 else none
def ak_and (lv : List (Nat × av)) (t : List av) (P : aP) (a b : ae) : Option aRes := match ak_isk a, ak_isk b with
  | some c, _ => if 0 ≤ c then ak_new lv t P 0 c else ak_new lv t P aI0 aI1
  | _, some c => if 0 ≤ c then ak_new lv t P 0 c else ak_new lv t P aI0 aI1
  | _, _ => ak_new lv t P aI0 aI1
def ak_bin (lv : List (Nat × av)) (st : List av) (f : ae → ae → List av → Option aRes) : Option aRes := match st with
  | .inl b :: .inl a :: t => f a b t
  | _ => none
def ak_okc (y2 : Nat) (as rest : List av) : Bool := decide ((as.map av_cat).sum ≤ mj_lx y2) && decide (mj_lx y2 ≤ 100) && decide ((rest.map av_cat).sum ≤ 8)
def ak_st1 (y : Nat) (k : Nat) (lv : List (Nat × av)) (st : List av) (P : aP) : Option aRes := match st with
  | .inl e :: t => if k < mj_lx y then ak_nx (al_s1 lv k (.inl e)) t P else none
  | _ => none
def ak_st2 (y : Nat) (k : Nat) (lv : List (Nat × av)) (st : List av) (P : aP) : Option aRes := match st with
  | .inr (4, n) :: t => if k + 1 < mj_lx y then ak_nx (al_s2 lv k (.inr (4, n))) t P else none
  | .inr (5, n) :: t => if k + 1 < mj_lx y then ak_nx (al_s2 lv k (.inr (5, n))) t P else none
  | _ => none
def ak_l2 (lv : List (Nat × av)) (st : List av) (P : aP) : Option aRes := match st with
  | .inr (t1, _) :: .inr (t2, _) :: t => if (t1 = 4 ∨ t1 = 5) ∧ (t2 = 4 ∨ t2 = 5) then ak_nx lv (.inr (4, 0) :: t) P else none
  | _ => none
def ak_lsh (lv : List (Nat × av)) (st : List av) (P : aP) : Option aRes := match st with
  | .inl _ :: .inr (t2, _) :: t => if t2 = 4 ∨ t2 = 5 then ak_nx lv (.inr (4, 0) :: t) P else none
  | _ => none
def ak_sw (pc : Nat) (df : Int) (v : ae) (lv : List (Nat × av)) (st : List av) : List (Int × Int) → aP → Option (List (Option Nat × List (Nat × av) × List av × aP))
  | [], P => match ak_tg pc df with
    | none => none
    | some t => some [(some t, lv, st, P)]
  | (k, off) :: r, P => match ak_tg pc off with
    | none => none
    | some t => match (match aP_cmp P .ne v (ae_k k) true with | some P2 => ak_sw pc df v lv st r P2 | none => some []) with
      | none => none
      | some l => some ((match aP_cmp P .eq v (ae_k k) true with | some P2 => [(some t, lv, st, P2)] | none => []) ++ l)
def ak_zip (lo : Int) : List Int → List (Int × Int)
  | [] => []
  | o :: t => (lo, o) :: ak_zip (lo + 1) t
def ak_S (G : aG) (d y pc : Nat) (lv : List (Nat × av)) (st : List av) (P : aP) : Instr → Option aRes
  | .iconst k => if aI0 ≤ k ∧ k ≤ aI1 then ak_nx lv (.inl (ae_k k) :: st) P else none
  | .bipush k => if -128 ≤ k ∧ k ≤ 127 then ak_nx lv (.inl (ae_k k) :: st) P else none
  | .sipush k => if -32768 ≤ k ∧ k ≤ 32767 then ak_nx lv (.inl (ae_k k) :: st) P else none
  | .lconst _ => ak_nx lv (.inr (4, 0) :: st) P
  | .iload_n k => match al_ld lv k with
    | some (.inl e) => ak_nx lv (.inl e :: st) P
    | _ => none
  | .iload k => match al_ld lv k with
    | some (.inl e) => ak_nx lv (.inl e :: st) P
    | _ => none
  | .lload_n k => match al_ld lv k with
    | some (.inr (4, n)) => ak_nx lv (.inr (4, n) :: st) P
    | some (.inr (5, n)) => ak_nx lv (.inr (5, n) :: st) P
    | _ => none
  | .lload k => match al_ld lv k with
    | some (.inr (4, n)) => ak_nx lv (.inr (4, n) :: st) P
    | some (.inr (5, n)) => ak_nx lv (.inr (5, n) :: st) P
    | _ => none
  | .aload_n k => match al_ld lv k with
    | some (.inr (t, n)) => if t < 4 then ak_nx lv (.inr (t, n) :: st) P else none
    | _ => none
  | .istore_n k => ak_st1 y k lv st P
  | .istore k => ak_st1 y k lv st P
  | .lstore_n k => ak_st2 y k lv st P
  | .lstore k => ak_st2 y k lv st P
  | .iinc k c => match al_ld lv k with
    | some (.inl e) => if k < mj_lx y then (if aP_fit P (ae_inc e c) then ak_nx (al_s1 lv k (.inl (ae_inc e c))) st P else (let q := aP_any P; ak_nx (al_s1 lv k (.inl q.1)) st q.2)) else none
    | _ => none
  | .iadd => ak_bin lv st (fun a b t => ak_num lv t P (ae_add a b))
  | .isub => ak_bin lv st (fun a b t => if aP_fit P (ae_sub a b) then ak_nx lv (.inl (ae_sub a b) :: t) P else
      (let q := aP_any P; if aP_isnz P (ae_sub a b) then ak_nx lv (.inl q.1 :: t) (q.2.1, q.2.2.1, q.1 :: q.2.2.2.1, q.2.2.2.2) else ak_nx lv (.inl q.1 :: t) q.2))
  | .imul => ak_bin lv st (fun a b t => ak_mul lv t P a b)
  | .idiv => ak_bin lv st (fun a b t => ak_div lv t P a b)
  | .irem => ak_bin lv st (fun a b t => ak_rem lv t P a b)
  | .iand => ak_bin lv st (fun a b t => ak_and lv t P a b)
  | .ior => ak_bin lv st (fun _ _ t => ak_new lv t P aI0 aI1)
  | .ixor => ak_bin lv st (fun _ _ t => ak_new lv t P aI0 aI1)
  | .ishl => ak_bin lv st (fun _ _ t => ak_new lv t P aI0 aI1)
  | .ishr => ak_bin lv st (fun a b t => if ak_isk b = some 0 then ak_nx lv (.inl a :: t) P else ak_new lv t P aI0 aI1)
  | .iushr => ak_bin lv st (fun _ _ t => ak_new lv t P aI0 aI1)
  | .ineg => match st with
    | .inl a :: t => ak_num lv t P (ae_neg a)
    | _ => none
  | .i2l => match st with
    | .inl _ :: t => ak_nx lv (.inr (4, 0) :: t) P
    | _ => none
  | .i2b => match st with
    | .inl _ :: t => ak_new lv t P (-128) 127
    | _ => none
  | .i2s => match st with
    | .inl _ :: t => ak_new lv t P (-32768) 32767
    | _ => none
  | .i2c => match st with
    | .inl _ :: t => ak_new lv t P 0 65535
    | _ => none
  | .ladd => ak_l2 lv st P
  | .lmul => ak_l2 lv st P
  | .land => ak_l2 lv st P
  | .lor => ak_l2 lv st P
  | .ldiv => match st with
    | .inr (5, n) :: .inr (t2, _) :: t => if (t2 = 4 ∨ t2 = 5) ∧ 0 < n ∧ n < 1000000 then ak_nx lv (.inr (4, 0) :: t) P else none
    | _ => none
  | .lshl => ak_lsh lv st P
  | .lshr => ak_lsh lv st P
  | .lushr => ak_lsh lv st P
  | .lcmp => match st with
    | .inr (t1, _) :: .inr (t2, _) :: t => if (t1 = 4 ∨ t1 = 5) ∧ (t2 = 4 ∨ t2 = 5) then ak_new lv t P aI0 aI1 else none
    | _ => none
  | .l2i => match st with
    | .inr (t1, _) :: t => if t1 = 4 ∨ t1 = 5 then ak_new lv t P aI0 aI1 else none
    | _ => none
  | .pop => match st with
    | v :: t => if av_cat v = 1 then ak_nx lv t P else none
    | _ => none
  | .dup => match st with
    | v :: t => if av_cat v = 1 then ak_nx lv (v :: v :: t) P else none
    | _ => none
  | .dup2 => match st with
    | v :: u :: t => if av_cat v = 1 ∧ av_cat u = 1 then ak_nx lv (v :: u :: v :: u :: t) P else none
    | _ => none
  | .ifCond c off => match st with
    | .inl a :: t => ak_br pc off lv t P c a (ae_k 0)
    | _ => none
  | .if_icmp c off => match st with
    | .inl b :: .inl a :: t => ak_br pc off lv t P c a b
    | _ => none
  | .goto off => match ak_tg pc off with
    | some t => some (.inl [(some t, lv, st, P)])
    | none => none
  | .tableswitch df lo hi offs => match st with
    | .inl v :: t => if (offs.size : Int) = hi - lo + 1 then (ak_sw pc df v lv t (ak_zip lo offs.toList) P).map .inl else none
    | _ => none
  | .lookupswitch df ps => match st with
    | .inl v :: t => if (ps.toList.zip (ps.toList.drop 1)).all (fun (a, next) => a.1 < next.1) = true then (ak_sw pc df v lv t ps.toList P).map .inl else none
    | _ => none
  | .getfield ix => match st with
    | .inr (0, c) :: t => match mj_ffl (mj_cn y) ix with
      | some q => match aD_fld G.1 c q.2.2.1 q.2.2.2.1 with
        | some (.inl c2) => ak_nx lv (.inr (0, c2) :: t) P
        | some (.inr b) => let r := aP_read [] P c (ae_k q.2.2.2.1) b; ak_nx lv (.inl r.1 :: t) r.2
        | none => none
      | none => none
    | .inr (1, i) :: t => match mj_fsl (mj_cn y) ix with
      | some q => if q.2.2.1 = 0 then ak_nx lv (.inr (2, i) :: t) P else if q.2.2.1 = 1 then ak_nx lv (.inl (ae_k 0) :: t) P else none
      | none => none
    | _ => none
  | .putfield ix => match st with
    | .inl e :: .inr (0, c) :: t => match mj_ffl (mj_cn y) ix with
      | some q => match aD_fld G.1 c q.2.2.1 q.2.2.2.1 with
        | some (.inr (lo, hi)) => if aPk G.2.2.2.1 c (ae_k q.2.2.2.1) = true ∧ mj_fin q.2.2.1 q.2.2.2.1 = false ∧ aP_in P lo hi e = true ∧ (mj_fty q.2.2.1 q.2.2.2.1 = some .int ∨ (mj_fty q.2.2.1 q.2.2.2.1 = some .boolean ∧ lo = 0 ∧ hi = 1)) then ak_nx lv t (aP_write P c (ae_k q.2.2.2.1) e) else none
        | _ => none
      | none => none
    | _ => none
  | .getstatic ix => match mj_fstl (mj_cn y) ix with
    | some q => if q.2.2.1 < 2 then ak_nx lv (.inr (3, q.2.2.1) :: st) P else if q.2.2.1 = 2 then ak_nx lv (.inl (ae_k 1) :: st) P else if q.2.2.1 = 3 then ak_nx lv (.inr (6, 0) :: st) P else none
    | none => none
  | .iaload => match st with
    | .inl i :: .inr (0, c) :: t => match aD_row G.1 c 0 with
      | some (N, cols) => if aP_in P 0 ((N : Int) - 1) i then (match aD_cols cols i with
        | some b => let r := aP_read G.2.1 P c i b; ak_nx lv (.inl r.1 :: t) r.2
        | none => none) else none
      | none => none
    | .inl i :: .inr (3, k) :: t => match G.2.2.1[k]? with
      | some (L, lo, hi) => if k < 3 ∧ aP_pr P (ae_neg i) = true ∧ aP_pr P (ae_inc (ae_sub i L) 1) = true then ak_new lv t P lo hi else none
      | none => none
    | _ => none
  | .laload => match st with
    | .inl i :: .inr (0, c) :: t => match aD_row G.1 c 1 with
      | some (N, _) => if aP_in P 0 ((N : Int) - 1) i then ak_nx lv (.inr (4, 0) :: t) P else none
      | none => none
    | _ => none
  | .baload => match st with
    | .inl i :: .inr (0, c) :: t => match aD_row G.1 c 2 with
      | some (N, cols) => if aP_in P 0 ((N : Int) - 1) i then (match aD_cols cols i with
        | some b => let r := aP_read [] P c i b; ak_nx lv (.inl r.1 :: t) r.2
        | none => none) else none
      | none => none
    | .inl i :: .inr (2, k) :: t => if aP_in P 0 ((mj_txl k : Int) - 1) i then ak_new lv t P aI0 aI1 else none
    | _ => none
  | .iastore => match st with
    | .inl x :: .inl i :: .inr (0, c) :: t => match aD_row G.1 c 0 with
      | some (N, cols) => if aP_in P 0 ((N : Int) - 1) i then (match ae_col cols.length i with
        | some k => (match cols[k]? with
          | some (lo, hi) => if aPk G.2.2.2.1 c i = true ∧ aP_in P lo hi x = true ∧ aR_put G.2.1 P c i x = true then ak_nx lv t (aP_write P c i x) else none
          | none => none)
        | none => if aPk G.2.2.2.1 c i = true ∧ cols.all (fun b => aP_in P b.1 b.2 x) = true ∧ aR_put G.2.1 P c i x = true then ak_nx lv t (aP_write P c i x) else none) else none
      | none => none
    | _ => none
  | .lastore => match st with
    | .inr (t1, _) :: .inl i :: .inr (0, c) :: t => match aD_row G.1 c 1 with
      | some (N, _) => if aPw G.2.2.2.1 c = true ∧ (t1 = 4 ∨ t1 = 5) ∧ aP_in P 0 ((N : Int) - 1) i = true then ak_nx lv t (P.1, P.2.1, P.2.2.1, P.2.2.2.1, (c, none) :: P.2.2.2.2) else none
      | none => none
    | _ => none
  | .bastore => match st with
    | .inl x :: .inl i :: .inr (0, c) :: t => match aD_row G.1 c 2 with
      | some (N, cols) => if aPk G.2.2.2.1 c i = true ∧ aP_in P 0 ((N : Int) - 1) i = true ∧ aP_in P 0 1 x = true ∧ cols = [(0, 1)] ∧ G.2.1.all (fun r => !(r.1 == c)) = true then ak_nx lv t (aP_write P c i x) else none
      | none => none
    | _ => none
  | .arraylength => match st with
    | .inr (0, c) :: t => match aD_row G.1 c 0 with
      | some (N, _) => if N < 1000000 then ak_nx lv (.inl (ae_k N) :: t) P else none
      | none => none
    | .inr (2, k) :: t => if mj_txl k < 1000000 then ak_nx lv (.inl (ae_k (mj_txl k)) :: t) P else none
    | .inr (3, k) :: t => match G.2.2.1[k]? with
      | some (L, _, _) => if k < 3 then ak_nx lv (.inl L :: t) P else none
      | none => none
    | _ => none
  | .ldc ix => match mj_fkl (mj_cn y) ix with
    | some q => if q.2.2.1 = 0 ∧ aI0 ≤ q.2.2.2.1 ∧ q.2.2.2.1 ≤ aI1 then ak_nx lv (.inl (ae_k q.2.2.2.1) :: st) P else if q.2.2.1 = 2 ∧ 0 ≤ q.2.2.2.1 ∧ q.2.2.2.1 < 24 then ak_nx lv (.inr (1, q.2.2.2.1.toNat) :: st) P else none
    | none => none
  | .ldc_w ix => match mj_fkl (mj_cn y) ix with
    | some q => if q.2.2.1 = 0 ∧ aI0 ≤ q.2.2.2.1 ∧ q.2.2.2.1 ≤ aI1 then ak_nx lv (.inl (ae_k q.2.2.2.1) :: st) P else none
    | none => none
  | .ldc2_w ix => match mj_fkl (mj_cn y) ix with
    | some q => if q.2.2.1 = 1 then (if 0 < q.2.2.2.1 ∧ q.2.2.2.1 < 1000000 then ak_nx lv (.inr (5, q.2.2.2.1.toNat) :: st) P else ak_nx lv (.inr (4, 0) :: st) P) else none
    | none => none
  | .invokevirtual ix => match mj_fml (mj_cn y) ix with
    | some q => if q.2.2.1 = 0 then (match st.drop (mj_m q.2.2.2.1).2.2.2.2.2.2 with
      | .inr (0, c) :: rest => match G.1[c]? with
        | some (.inl (ci, _)) => if ci = mj_cn q.2.2.2.1 ∧ ci < 7 ∧ ak_okc q.2.2.2.1 (.inr (0, c) :: (st.take (mj_m q.2.2.2.1).2.2.2.2.2.2).reverse) rest = true then some (.inr (.inl (q.2.2.2.1, .inr (0, c) :: (st.take (mj_m q.2.2.2.1).2.2.2.2.2.2).reverse, rest))) else none
        | _ => none
      | .inr (1, i) :: rest => if mj_cn q.2.2.2.1 = 7 ∧ ak_okc q.2.2.2.1 (.inr (1, i) :: (st.take (mj_m q.2.2.2.1).2.2.2.2.2.2).reverse) rest = true then some (.inr (.inl (q.2.2.2.1, .inr (1, i) :: (st.take (mj_m q.2.2.2.1).2.2.2.2.2.2).reverse, rest))) else none
      | _ => none) else none
    | none => none
  | .invokestatic ix => match mj_fml (mj_cn y) ix with
    | some q => if q.2.2.1 = 1 ∨ q.2.2.1 = 4 then (if (mj_m q.2.2.2.1).2.2.2.2.2.2 ≤ st.length ∧ ak_okc q.2.2.2.1 (st.take (mj_m q.2.2.2.1).2.2.2.2.2.2).reverse (st.drop (mj_m q.2.2.2.1).2.2.2.2.2.2) = true then some (.inr (.inl (q.2.2.2.1, (st.take (mj_m q.2.2.2.1).2.2.2.2.2.2).reverse, st.drop (mj_m q.2.2.2.1).2.2.2.2.2.2))) else none)
      else if q.2.2.1 = 6 then (match st with
        | .inl nn :: .inl dp :: .inr (0, c1) :: .inl sp :: .inr (0, c0) :: t => match aD_row G.1 c0 0, aD_row G.1 c1 0 with
          | some (N0, k0), some (N1, k1) => if aPw G.2.2.2.1 c1 = true ∧ 1 ≤ d ∧ (t.map av_cat).sum ≤ 8 ∧ aP_pr P (ae_neg sp) = true ∧ aP_pr P (ae_neg dp) = true ∧ aP_pr P (ae_neg nn) = true ∧ aP_pr P (ae_inc (ae_add sp nn) (-(N0 : Int))) = true ∧ aP_pr P (ae_inc (ae_add dp nn) (-(N1 : Int))) = true ∧
              k0 = [(aI0, aI1)] ∧ k1 = [(aI0, aI1)] ∧ G.2.1.all (fun r => !(r.1 == c1)) = true then ak_nx lv t (aP_cpy P c0 c1 sp dp nn) else none
          | _, _ => none
        | _ => none)
      else if q.2.2.1 = 7 ∨ q.2.2.1 = 8 then (match st with
        | .inl b :: .inl a :: t => if 1 ≤ d ∧ (t.map av_cat).sum ≤ 8 then some (.inl ((match aP_cmp P (if q.2.2.1 = 7 then .lt else .gt) a b true with | some P2 => [(none, lv, .inl b :: t, P2)] | none => []) ++ (match aP_cmp P (if q.2.2.1 = 7 then .lt else .gt) a b false with | some P2 => [(none, lv, .inl a :: t, P2)] | none => []))) else none
        | _ => none) else none
    | none => none
  | .ireturn => match st with
    | [.inl e] => (match mj_rx y with
      | some .int => some (.inr (.inr (some (.inl e))))
      | some .boolean => if aP_in P 0 1 e then some (.inr (.inr (some (.inl e)))) else none
      | some .byte => if aP_in P (-128) 127 e then some (.inr (.inr (some (.inl e)))) else none
      | some .char => if aP_in P 0 65535 e then some (.inr (.inr (some (.inl e)))) else none
      | _ => none)
    | _ => none
  | .lreturn => match st with
    | [.inr (4, n)] => if mj_rx y = some .long then some (.inr (.inr (some (.inr (4, n))))) else none
    | _ => none
  | .return_ => match st with
    | [] => if mj_rx y = none then some (.inr (.inr none)) else none
    | _ => none
  | _ => none
def ak_args : Nat → List av → List (Nat × av)
  | _, [] => []
  | i, v :: vs => (i, v) :: ak_args (i + av_cat v) vs
/-- the bounds of an int field -/
def aD_int (lay : List aD) (c k : Nat) : Option (Int × Int) := match lay[c]? with
  | some (.inl (_, fs)) => (match fs[k]? with
    | some (.inr b) => some b
    | _ => none)
  | _ => none
/-- the contract's fields are read, where they aren't known -/
def ak_know (lay : List aD) (h : aH) (P : aP) : aP := h.foldl (fun P q => match ak_isk q.1.2 with
  | some k => if 0 ≤ k then (match aD_int lay q.1.1 k.toNat with
    | some b => (aP_read [] P q.1.1 (ae_k k) b).2
    | none => P) else P
  | none => P) P
/-- the symbols of a contract, at a call -/
def ak_match (P : aP) (c : aCon) (as : List av) : Option (List (Option ae)) :=
  let sg := ag_bh P c.2.2.2.2.1 ((c.2.2.2.1.zip as).foldl (fun sg q => ag_bind sg q.1 q.2) (ag_start 0 c.2.1.length))
  if ag_env P sg c.2.1 && ag_facts P sg c.2.2.1 && ag_list P sg c.2.2.2.1 as && ag_h P sg c.2.2.2.2.1 then some sg else none
def ak_addf (sg : List (Option ae)) : List ae → aP → Option aP
  | [], P => some P
  | f :: t, P => match ae_sub1 sg f with
    | none => ak_addf sg t P
    | some e => (aP_as P e).bind (ak_addf sg t)
def ak_addh (sg : List (Option ae)) (h : aH) (P : aP) : aP := h.foldl (fun P q => match ae_sub1 sg q.1.2, ae_sub1 sg q.2 with
  | some ix, some v => (P.1, P.2.1, P.2.2.1, ((q.1.1, ix), v) :: P.2.2.2.1, P.2.2.2.2)
  | _, _ => P) P
def ak_case (P : aP) (md : List Nat) (sg : List (Option ae)) (cs : aCase) : Option (Option av × aP) :=
  let n := P.1.length
  let P1 := aP_lose (P.1 ++ cs.1, P.2) md
  let sg2 := sg ++ (List.range cs.1.length).map (fun k => some (ae_s (n + k)))
  match ak_addf sg2 cs.2.1 P1 with
  | none => none
  | some P2 => let P3 := ak_addh sg2 cs.2.2.2 P2
    match cs.2.2.1 with
    | none => some (none, P3)
    | some (.inl e) => match ae_sub1 sg2 e with
      | some r => some (some (.inl r), P3)
      | none => some (some (.inr (6, 0)), P3)
    | some (.inr q) => some (some (.inr q), P3)
def ak_bind {α β : Type} (f : α → Option (List β)) : List α → Option (List β)
  | [] => some []
  | a :: t => match f a with
    | none => none
    | some l => match ak_bind f t with
      | none => none
      | some r => some (l ++ r)
/-- an end: an answer, or a place at which to stop -/
abbrev aEnd : Type := (Option av ⊕ (Nat × List (Nat × av) × List av)) × aP
def ak_cont (f : Option av × aP → Option (List aEnd)) : List aEnd → Option (List aEnd)
  | [] => some []
  | (.inr _, _) :: _ => none
  | (.inl v, P) :: t => match f (v, P) with
    | none => none
    | some l => match ak_cont f t with
      | none => none
      | some r => some (l ++ r)
/-- from a place on: all ends; none: it isn't known to go well. fl: a cut or stop that stands here is looked at -/
def ak_run (G : aG) : Nat → Nat → Nat → Nat → List Nat → List aCut → Option ae → Bool → List (Nat × Instr × Nat) → List (Nat × av) → List av → aP → Option (List aEnd)
  | 0, _, _, _, _, _, _, _, _, _, _, _ => none
  | _ + 1, _, _, _, _, _, _, _, [], _, _, _ => none
  | f + 1, d, y, npre, stops, cuts, mu, fl, (pc, i, n) :: tl, lv, st, P =>
    if fl && stops.elem pc then some [(.inr (pc, lv, st), P)] else
    if fl && cuts.any (fun T => T.1 == pc) then (if cuts.any (fun T => T.1 == pc && ak_cut npre T mu lv st P) then some [] else none) else
    match ak_S G d y pc lv st P i with
      | none => none
      | some (.inl nxt) => ak_bind (fun q => ak_run G f d y npre stops cuts mu true (match q.1 with | none => tl | some t => mj_jmp y t) q.2.1 q.2.2.1 q.2.2.2) nxt
      | some (.inr (.inl (y2, as, rest))) => match d with
        | 0 => none
        | d2 + 1 => if y2 < mj_lawNo then (match G.2.2.2.2.find? (fun c => c.1 == y2 && c.2.2.2.2.2.2.1 ≤ d2 && (ak_match (ak_know G.1 c.2.2.2.2.1 P) c as).isSome) with
          | some c => match ak_match (ak_know G.1 c.2.2.2.2.1 P) c as with
            | none => none
            | some sg => ak_bind (fun q => ak_run G f (d2 + 1) y npre stops cuts mu true tl lv ((q.1).toList ++ rest) q.2) (c.2.2.2.2.2.2.2.filterMap (fun cs => ak_case (ak_know G.1 c.2.2.2.2.1 P) c.2.2.2.2.2.1 sg cs))
          | none => match ak_run G f d2 y2 0 [] [] none false (mj_kd y2) (ak_args 0 as) [] P with
            | none => none
            | some ends => ak_cont (fun q => ak_run G f (d2 + 1) y npre stops cuts mu true tl lv ((q.1).toList ++ rest) q.2) ends) else none
      | some (.inr (.inr v)) => some [(.inl v, P)]
/-- an instance: contract, cuts -/
abbrev aInst : Type := aCon × List aCut
def ak_ends (npre : Nat) (c : aCon) : Option (List aEnd) → Bool
  | none => false
  | some ends => ends.all (fun q => match q.1 with | .inl v => ak_end npre c.2.2.2.2.2.1 c.2.2.2.2.2.2.2 v q.2 | .inr _ => false)
def ak_inst (G : aG) (f : Nat) (q : aInst) : Bool :=
  let c := q.1
  let npre := c.2.1.length
  ak_ends npre c (ak_run G f c.2.2.2.2.2.2.1 c.1 npre [] q.2 none true (mj_kd c.1) (ak_args 0 c.2.2.2.1) [] (c.2.1, c.2.2.1, [], c.2.2.2.2.1, [])) &&
  q.2.all (fun T => ae_le0 T.2.1 (ae_neg T.2.2.2.2.2.2.2) && decide (npre ≤ T.2.1.length) && ak_ends npre c (ak_run G f c.2.2.2.2.2.2.1 c.1 npre [] q.2 (some T.2.2.2.2.2.2.2) false (mj_jmp c.1 T.1) T.2.2.2.1 T.2.2.2.2.1 (T.2.1, T.2.2.1, [], T.2.2.2.2.2.1, T.2.2.2.2.2.2.1.map (fun c => (c, none)))))
