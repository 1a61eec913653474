/-! ===== the constructors: cells 0 .. n - 1 of the layout stand; a field or element that is to hold a reference holds null until the number at its place is not 0 ===== -/
abbrev c1_L : Type := List (Nat × Nat × Int32)
def c1_rd : c1_L → Nat → Nat → Int32
  | [], _, _ => 0
  | (a, i, x) :: r, b, j => match Nat.beq b a, Nat.beq j i with
    | true, true => x
    | _, _ => c1_rd r b j
def c1_M (Lm : c1_L) : aM := (c1_rd Lm, fun _ _ => 0)
def c1_fv (C : aC) (M : aM) (a j : Nat) (d : Nat × Nat × Nat) : Value := match d.1 with
  | 0 => .int (M.1 a j)
  | 1 => .long (M.2 a j)
  | _ => if M.1 a j = 0 then .null else .ref (am_ad C (a + d.2.2))
def c1_fs (C : aC) (M : aM) (a : Nat) : List Value := (am_fl (am_sh a)).mapIdx (fun j d => c1_fv C M a j d)
def c1_ac (C : aC) (M : aM) (a : Nat) (q : am_AT) : (Nat → Int32) ⊕ (Nat → Int64) ⊕ (Nat → UInt32) ⊕ (Nat → UInt64) ⊕ (Nat → Option Nat) := match q.1 with
  | 3 => .inr (.inl (M.2 a))
  | 4 => .inr (.inr (.inr (.inr (fun i => if M.1 a i = 0 then none else some (am_ad C (a + (q.2.2.2.2.1 + q.2.2.2.2.2 * i)))))))
  | _ => .inl (M.1 a)
def c1_ce (C : aC) (M : aM) (a : Nat) : va_E := if am_sh a < 20 then .inr (am_sh a, c1_fs C M a) else .inl (C.2.2.1 (am_ar (am_sh a)).2.2.1, (am_ar (am_sh a)).2.1, c1_ac C M a (am_ar (am_sh a)))
def c1_ws (C : aC) (n : Nat) (M : aM) : va_W := (List.range n).map (fun a => (am_ad C a, c1_ce C M a))
/-- how many fields or elements a cell has; all up to a frontier -/
def c1_sz (a : Nat) : Nat := if am_sh a < 20 then (am_fl (am_sh a)).length else (am_ar (am_sh a)).2.1
def c1_S : Nat → Nat
  | 0 => 0
  | n + 1 => c1_S n + c1_sz n
def c1_elt (t : ArrayType) : Nat := match t with
  | .int => 0
  | .byte => 1
  | .boolean => 2
  | .long => 3
  | _ => 9
/-- place, locals, stack, frontier, memory -/
abbrev c1_T : Type := Nat × aL × List aV × Nat × c1_L
abbrev c1_Sm : Type := Nat → Nat → Nat → c1_L → Option (Nat × c1_L)
def c1_okr (n kd a : Nat) : Bool := Nat.blt a n && Nat.beq (am_sh a) kd
def c1_ald (a1 pc : Nat) (al : aL) (st : List aV) (n : Nat) (Lm : c1_L) : Option c1_T := match am_ld al a1 with
  | some (.inr (.inr q)) => some (pc + 1, al, .inr (.inr q) :: st, n, Lm)
  | _ => none
def c1_ild (a1 pc : Nat) (al : aL) (st : List aV) (n : Nat) (Lm : c1_L) : Option c1_T := match am_ld al a1 with
  | some (.inl x) => some (pc + 1, al, .inl x :: st, n, Lm)
  | _ => none
def c1_ist (a1 pc : Nat) (al : aL) (st : List aV) (n : Nat) (Lm : c1_L) : Option c1_T := match Nat.blt a1 al.length, st with
  | true, .inl x :: r => some (pc + 1, am_s1 al a1 (.inl x), r, n, Lm)
  | _, _ => none
def c1_ast (a1 pc : Nat) (al : aL) (st : List aV) (n : Nat) (Lm : c1_L) : Option c1_T := match Nat.blt a1 al.length, st with
  | true, .inr (.inr q) :: r => some (pc + 1, am_s1 al a1 (.inr (.inr q)), r, n, Lm)
  | _, _ => none
def c1_inc (a1 : Nat) (a3 : Int32) (pc : Nat) (al : aL) (st : List aV) (n : Nat) (Lm : c1_L) : Option c1_T := match am_ld al a1 with
  | some (.inl x) => some (pc + 3, am_s1 al a1 (.inl (x + a3)), st, n, Lm)
  | _ => none
def c1_icge (a1 pc : Nat) (al : aL) (st : List aV) (n : Nat) (Lm : c1_L) : Option c1_T := match st with
  | .inl y :: .inl x :: r => if y ≤ x then some (a1, al, r, n, Lm) else some (pc + 3, al, r, n, Lm)
  | _ => none
def c1_dup (pc : Nat) (al : aL) (st : List aV) (n : Nat) (Lm : c1_L) : Option c1_T := match st with
  | .inr (.inr q) :: r => some (pc + 1, al, .inr (.inr q) :: .inr (.inr q) :: r, n, Lm)
  | _ => none
def c1_new (a1 pc : Nat) (al : aL) (st : List aV) (n : Nat) (Lm : c1_L) : Option c1_T := match Nat.beq (am_sh n) a1, Nat.blt n am_N with
  | true, true => some (pc + 3, al, .inr (.inr (a1, n)) :: st, n + 1, Lm)
  | _, _ => none
def c1_nwa (a1 pc : Nat) (al : aL) (st : List aV) (n : Nat) (Lm : c1_L) : Option c1_T := match st with
  | .inl k :: r => match Nat.beq (am_ar (am_sh n)).1 a1, Nat.blt n am_N, decide (k = nI (am_ar (am_sh n)).2.1) with
    | true, true, true => some (pc + 2, al, .inr (.inr (am_sh n, n)) :: r, n + 1, Lm)
    | _, _, _ => none
  | _ => none
def c1_anw (a1 pc : Nat) (al : aL) (st : List aV) (n : Nat) (Lm : c1_L) : Option c1_T := match st with
  | .inl k :: r => match Nat.beq (am_ar (am_sh n)).1 4, Nat.beq (am_ar (am_sh n)).2.2.1 a1, Nat.blt n am_N, decide (k = nI (am_ar (am_sh n)).2.1) with
    | true, true, true, true => some (pc + 3, al, .inr (.inr (am_sh n, n)) :: r, n + 1, Lm)
    | _, _, _, _ => none
  | _ => none
/-- the outer row's kind, its length, the inner ones' kind and length, all as they must be -/
def c1_mnb (n len ek len2 : Nat) : Bool := decide (am_ar (am_sh n) = (4, len, 4, ek, 1, 1)) && decide (am_ar ek = (0, len2, 0, 0, 0, 0)) && Nat.blt (n + len) am_N && (List.range len).all (fun i => Nat.beq (am_sh (n + 1 + i)) ek) && Nat.ble len 1000 && Nat.ble len2 1000
def c1_mna (pc : Nat) (al : aL) (st : List aV) (n : Nat) (Lm : c1_L) : Option c1_T := match st with
  | .inl k2 :: .inl k1 :: r => match c1_mnb n (am_ar (am_sh n)).2.1 (am_ar (am_sh n)).2.2.2.1 (am_ar (am_ar (am_sh n)).2.2.2.1).2.1, decide (k1 = nI (am_ar (am_sh n)).2.1), decide (k2 = nI (am_ar (am_ar (am_sh n)).2.2.2.1).2.1) with
    | true, true, true => some (pc + 4, al, .inr (.inr (am_sh n, n)) :: r, n + 1 + (am_ar (am_sh n)).2.1, (List.range (am_ar (am_sh n)).2.1).map (fun i => (n, i, (1 : Int32))) ++ Lm)
    | _, _, _ => none
  | _ => none
def c1_gf (a1 a2 pc : Nat) (al : aL) (st : List aV) (n : Nat) (Lm : c1_L) : Option c1_T := match st with
  | .inr (.inr (kq, a)) :: r => match Nat.beq kq a1, c1_okr n kq a, am_fd a1 a2, decide (c1_rd Lm a a2 = 0) with
    | true, true, (2, k3, off), false => some (pc + 3, al, .inr (.inr (k3, a + off)) :: r, n, Lm)
    | _, _, _, _ => none
  | _ => none
def c1_pf (ini : Bool) (a1 a2 pc : Nat) (al : aL) (st : List aV) (n : Nat) (Lm : c1_L) : Option c1_T := match st with
  | .inl v :: .inr (.inr (kq, a)) :: r => match Nat.beq kq a1, c1_okr n kq a, am_fd a1 a2, ((am_cl a1).2.1 a2).2.2.2 with
    | true, true, (0, _, _), false => some (pc + 3, al, r, n, (a, a2, v) :: Lm)
    | _, _, _, _ => none
  | .inr (.inr (_, b)) :: .inr (.inr (kq, a)) :: r => match Nat.beq kq a1, c1_okr n kq a, am_fd a1 a2, ((am_cl a1).2.1 a2).2.2.2 with
    | true, true, (2, _, off), true => match ini, Nat.beq b (a + off) with
      | true, true => some (pc + 3, al, r, n, (a, a2, 1) :: Lm)
      | _, _ => none
    | _, _, _, _ => none
  | _ => none
def c1_iast (pc : Nat) (al : aL) (st : List aV) (n : Nat) (Lm : c1_L) : Option c1_T := match st with
  | .inl v :: .inl jj :: .inr (.inr (kq, a)) :: r => match Nat.beq (am_ar kq).1 0, c1_okr n kq a, am_inB jj (am_ar kq).2.1 with
    | true, true, true => some (pc + 1, al, r, n, (a, jj.toNatClampNeg, v) :: Lm)
    | _, _, _ => none
  | _ => none
def c1_aast (pc : Nat) (al : aL) (st : List aV) (n : Nat) (Lm : c1_L) : Option c1_T := match st with
  | .inr (.inr (k2, b)) :: .inl jj :: .inr (.inr (kq, a)) :: r => match am_ar kq, c1_okr n kq a, c1_okr n k2 b with
    | (4, len, ci, _, f0, dd), true, true => match am_inB jj len, Nat.beq b (a + (f0 + dd * jj.toNatClampNeg)), (Nat.beq ci 5 && Nat.beq k2 4 || Nat.beq ci 6 && Nat.beq k2 1) with
      | true, true, true => some (pc + 1, al, r, n, (a, jj.toNatClampNeg, 1) :: Lm)
      | _, _, _ => none
    | _, _, _ => none
  | _ => none
def c1_isp (sem : c1_Sm) (a1 a2 pc : Nat) (al : aL) (st : List aV) (n : Nat) (Lm : c1_L) : Option c1_T := match st with
  | .inr (.inr (kq, a)) :: r => match Nat.ble (am_wd r) 8, a2 with
    | true, 0 => some (pc + 3, al, r, n, Lm)
    | true, _ => match c1_okr n (am_ow a1) a, Nat.beq kq (am_ow a1), sem a1 a n Lm with
      | true, true, some (n2, L2) => some (pc + 3, al, r, n2, L2)
      | _, _, _ => none
    | _, _ => none
  | _ => none
def c1_stp (ini : Bool) (sem : c1_Sm) (ins : Instr) (a1 a2 : Nat) (a3 : Int32) (pc : Nat) (al : aL) (st : List aV) (n : Nat) (Lm : c1_L) : Option c1_T := match ins with
  | .aload_n _ => c1_ald a1 pc al st n Lm
  | .iload_n _ => c1_ild a1 pc al st n Lm
  | .istore_n _ => c1_ist a1 pc al st n Lm
  | .astore_n _ => c1_ast a1 pc al st n Lm
  | .iconst _ => some (pc + 1, al, .inl a3 :: st, n, Lm)
  | .bipush _ => some (pc + 2, al, .inl a3 :: st, n, Lm)
  | .sipush _ => some (pc + 3, al, .inl a3 :: st, n, Lm)
  | .iinc _ _ => c1_inc a1 a3 pc al st n Lm
  | .goto _ => some (a1, al, st, n, Lm)
  | .if_icmp .ge _ => c1_icge a1 pc al st n Lm
  | .dup => c1_dup pc al st n Lm
  | .new _ => c1_new a1 pc al st n Lm
  | .newarray _ => c1_nwa a1 pc al st n Lm
  | .anewarray _ => c1_anw a1 pc al st n Lm
  | .multianewarray _ _ => c1_mna pc al st n Lm
  | .getfield _ => c1_gf a1 a2 pc al st n Lm
  | .putfield _ => c1_pf ini a1 a2 pc al st n Lm
  | .iastore => c1_iast pc al st n Lm
  | .aastore => c1_aast pc al st n Lm
  | .invokespecial _ => c1_isp sem a1 a2 pc al st n Lm
  | _ => none
def c1_run (ini : Bool) (sem : c1_Sm) (cd : List am_E) (stop : Nat) : Nat → c1_T → Option c1_T
  | 0, _ => none
  | f + 1, (pc, al, st, n, Lm) => match Nat.beq pc stop with
    | true => some (pc, al, st, n, Lm)
    | false => match am_fetch cd pc with
      | some (ins, a1, a2, a3, _) => match c1_stp ini sem ins a1 a2 a3 pc al st n Lm with
        | some t => c1_run ini sem cd stop f t
        | none => none
      | none => none
/-- what an entry of a table must be: decoded, and its links in the tables -/
def c1_chi (o pc : Nat) (ins : Instr) (len a1 a2 : Nat) (a3 : Int32) : Bool := match ins with
  | .aload_n k => Nat.beq k.val a1 && Nat.beq len 1
  | .iload_n k => Nat.beq k.val a1 && Nat.beq len 1
  | .istore_n k => Nat.beq k.val a1 && Nat.beq len 1
  | .astore_n k => Nat.beq k.val a1 && Nat.beq len 1
  | .iconst k => decide (Int32.ofInt k = a3) && Nat.beq len 1
  | .bipush k => decide ((Int8.ofInt k).toInt32 = a3) && Nat.beq len 2
  | .sipush k => decide ((Int16.ofInt k).toInt32 = a3) && Nat.beq len 3
  | .iinc i k => Nat.beq i a1 && decide (Int32.ofInt k = a3) && Nat.beq len 3
  | .goto off => decide ((pc : Int) + off = (a1 : Int)) && Nat.beq len 3
  | .if_icmp .ge off => decide ((pc : Int) + off = (a1 : Int)) && Nat.beq len 3
  | .dup => Nat.beq len 1
  | .new i => Nat.beq len 3 && Nat.blt a1 12 && decide (am_at a2 = some (.classLink (am_on o) i (am_cl a1).1))
  | .newarray t => Nat.beq len 2 && Nat.beq (c1_elt t) a1 && Nat.blt a1 4
  | .anewarray i => Nat.beq len 3 && (Nat.beq a1 5 && decide (am_at a2 = some (.classLink (am_on o) i "ArgumentMender$Slot")) || Nat.beq a1 6 && decide (am_at a2 = some (.classLink (am_on o) i "ArgumentMender$Cloth")))
  | .multianewarray i k => Nat.beq len 4 && Nat.beq k 2 && decide (am_at a2 = some (.classLink (am_on o) i "[[I"))
  | .getfield i => Nat.beq len 3 && am_lkF.any (fun q => Nat.beq q.1 o && Nat.beq q.2.1 i && Nat.beq q.2.2.1 a1 && Nat.beq q.2.2.2.1 a2)
  | .putfield i => Nat.beq len 3 && am_lkF.any (fun q => Nat.beq q.1 o && Nat.beq q.2.1 i && Nat.beq q.2.2.1 a1 && Nat.beq q.2.2.2.1 a2) && decide (((am_cl a1).2.1 a2).1 = am_on o)
  | .iastore => Nat.beq len 1
  | .aastore => Nat.beq len 1
  | .invokespecial i => Nat.beq len 3 && (match a2 with
    | 0 => decide (am_at a1 = some (.methodLink (am_on o) i Lib.objectInit))
    | _ => am_lkM.any (fun q => Nat.beq q.1 o && Nat.beq q.2.1 i && Nat.beq q.2.2.1 a1) && Nat.blt a1 9000)
  | .return_ => Nat.beq len 1
  | _ => false
def c1_chk (j : Nat) (q : am_E) : Bool := decide (decode (am_b j) q.1 = .ok (q.2.1, q.2.2.1)) && c1_chi (am_ow j) q.1 q.2.1 q.2.2.1 q.2.2.2.1 q.2.2.2.2.1 q.2.2.2.2.2.1
def c1_s0 : c1_Sm := fun _ _ _ _ => none
def c1_sm (q : Nat) (F : Nat → Nat → c1_L → Option (Nat × c1_L)) (rest : c1_Sm) : c1_Sm := fun j => match Nat.beq j q with
  | true => F
  | false => rest j
/-- a constructor: run up to its return -/
def c1_ctor (kd ml stop : Nat) (sem : c1_Sm) (cd : List am_E) (a n : Nat) (Lm : c1_L) : Option (Nat × c1_L) := match c1_run true sem cd stop 200 (0, some (.inr (.inr (kd, a))) :: List.replicate (ml - 1) none, [], n, Lm) with
  | some (_, _, [], n2, L2) => some (n2, L2)
  | _ => none
def cdI0 : List am_E := [(0, .aload_n 0, 1, 0, 0, 0, 0), (1, .invokespecial 3, 3, 1077, 0, 0, 0), (4, .aload_n 0, 1, 0, 0, 0, 0), (5, .bipush 30, 2, 0, 0, 30, 0), (7, .newarray .int, 2, 0, 0, 0, 0), (9, .putfield 9, 3, 0, 1, 0, 0), (12, .aload_n 0, 1, 0, 0, 0, 0), (13, .bipush 30, 2, 0, 0, 30, 0), (15, .newarray .int, 2, 0, 0, 0, 0), (17, .putfield 15, 3, 0, 2, 0, 0), (20, .aload_n 0, 1, 0, 0, 0, 0), (21, .bipush 30, 2, 0, 0, 30, 0), (23, .newarray .int, 2, 0, 0, 0, 0), (25, .putfield 18, 3, 0, 3, 0, 0), (28, .aload_n 0, 1, 0, 0, 0, 0), (29, .bipush 30, 2, 0, 0, 30, 0), (31, .newarray .int, 2, 0, 0, 0, 0), (33, .putfield 21, 3, 0, 4, 0, 0), (36, .return_, 1, 0, 0, 0, 0)]
set_option maxRecDepth 100000 in
theorem cdI0_ok : cdI0.all (c1_chk 0) = true := by decide +kernel
def cdI3 : List am_E := [(0, .aload_n 0, 1, 0, 0, 0, 0), (1, .invokespecial 3, 3, 1071, 0, 0, 0), (4, .aload_n 0, 1, 0, 0, 0, 0), (5, .bipush 16, 2, 0, 0, 16, 0), (7, .newarray .int, 2, 0, 0, 0, 0), (9, .putfield 9, 3, 1, 7, 0, 0), (12, .aload_n 0, 1, 0, 0, 0, 0), (13, .bipush 16, 2, 0, 0, 16, 0), (15, .newarray .int, 2, 0, 0, 0, 0), (17, .putfield 15, 3, 1, 8, 0, 0), (20, .aload_n 0, 1, 0, 0, 0, 0), (21, .bipush 16, 2, 0, 0, 16, 0), (23, .newarray .int, 2, 0, 0, 0, 0), (25, .putfield 18, 3, 1, 9, 0, 0), (28, .aload_n 0, 1, 0, 0, 0, 0), (29, .bipush 10, 2, 0, 0, 10, 0), (31, .newarray .int, 2, 0, 0, 0, 0), (33, .putfield 21, 3, 1, 10, 0, 0), (36, .aload_n 0, 1, 0, 0, 0, 0), (37, .bipush 10, 2, 0, 0, 10, 0), (39, .newarray .int, 2, 0, 0, 0, 0), (41, .putfield 24, 3, 1, 11, 0, 0), (44, .aload_n 0, 1, 0, 0, 0, 0), (45, .bipush 10, 2, 0, 0, 10, 0), (47, .newarray .int, 2, 0, 0, 0, 0), (49, .putfield 27, 3, 1, 12, 0, 0), (52, .aload_n 0, 1, 0, 0, 0, 0), (53, .bipush 16, 2, 0, 0, 16, 0), (55, .newarray .int, 2, 0, 0, 0, 0), (57, .putfield 30, 3, 1, 13, 0, 0), (60, .aload_n 0, 1, 0, 0, 0, 0), (61, .bipush 9, 2, 0, 0, 9, 0), (63, .newarray .int, 2, 0, 0, 0, 0), (65, .putfield 33, 3, 1, 14, 0, 0), (68, .aload_n 0, 1, 0, 0, 0, 0), (69, .new 36, 3, 0, 1072, 0, 0), (72, .dup, 1, 0, 0, 0, 0), (73, .invokespecial 38, 3, 0, 1, 0, 0), (76, .putfield 39, 3, 1, 15, 0, 0), (79, .return_, 1, 0, 0, 0, 0)]
set_option maxRecDepth 100000 in
theorem cdI3_ok : cdI3.all (c1_chk 3) = true := by decide +kernel
def cdI16 : List am_E := [(0, .aload_n 0, 1, 0, 0, 0, 0), (1, .invokespecial 3, 3, 1034, 0, 0, 0), (4, .aload_n 0, 1, 0, 0, 0, 0), (5, .new 9, 3, 5, 1035, 0, 0), (8, .dup, 1, 0, 0, 0, 0), (9, .invokespecial 11, 3, 38, 1, 0, 0), (12, .putfield 12, 3, 2, 0, 0, 0), (15, .aload_n 0, 1, 0, 0, 0, 0), (16, .new 18, 3, 1, 1066, 0, 0), (19, .dup, 1, 0, 0, 0, 0), (20, .invokespecial 20, 3, 3, 1, 0, 0), (23, .putfield 21, 3, 2, 1, 0, 0), (26, .aload_n 0, 1, 0, 0, 0, 0), (27, .iconst (-1), 1, 0, 0, (-1), 0), (28, .putfield 25, 3, 2, 3, 0, 0), (31, .return_, 1, 0, 0, 0, 0)]
set_option maxRecDepth 100000 in
theorem cdI16_ok : cdI16.all (c1_chk 16) = true := by decide +kernel
def cdI27 : List am_E := [(0, .aload_n 0, 1, 0, 0, 0, 0), (1, .invokespecial 3, 3, 2146, 0, 0, 0), (4, .aload_n 0, 1, 0, 0, 0, 0), (5, .new 9, 3, 9, 2147, 0, 0), (8, .dup, 1, 0, 0, 0, 0), (9, .invokespecial 11, 3, 72, 1, 0, 0), (12, .putfield 12, 3, 3, 0, 0, 0), (15, .return_, 1, 0, 0, 0, 0)]
set_option maxRecDepth 100000 in
theorem cdI27_ok : cdI27.all (c1_chk 27) = true := by decide +kernel
def cdI33 : List am_E := [(0, .aload_n 0, 1, 0, 0, 0, 0), (1, .invokespecial 3, 3, 2172, 0, 0, 0), (4, .aload_n 0, 1, 0, 0, 0, 0), (5, .iconst (-1), 1, 0, 0, (-1), 0), (6, .putfield 9, 3, 4, 0, 0, 0), (9, .aload_n 0, 1, 0, 0, 0, 0), (10, .bipush 60, 2, 0, 0, 60, 0), (12, .newarray .long, 2, 3, 0, 0, 0), (14, .putfield 15, 3, 4, 2, 0, 0), (17, .return_, 1, 0, 0, 0, 0)]
set_option maxRecDepth 100000 in
theorem cdI33_ok : cdI33.all (c1_chk 33) = true := by decide +kernel
def cdI38 : List am_E := [(0, .aload_n 0, 1, 0, 0, 0, 0), (1, .invokespecial 3, 3, 1040, 0, 0, 0), (4, .aload_n 0, 1, 0, 0, 0, 0), (5, .sipush 800, 3, 0, 0, 800, 0), (8, .newarray .byte, 2, 1, 0, 0, 0), (10, .putfield 9, 3, 5, 0, 0, 0), (13, .return_, 1, 0, 0, 0, 0)]
set_option maxRecDepth 100000 in
theorem cdI38_ok : cdI38.all (c1_chk 38) = true := by decide +kernel
def cdI44 : List am_E := [(0, .aload_n 0, 1, 0, 0, 0, 0), (1, .invokespecial 3, 3, 2112, 0, 0, 0), (4, .aload_n 0, 1, 0, 0, 0, 0), (5, .new 9, 3, 8, 2113, 0, 0), (8, .dup, 1, 0, 0, 0, 0), (9, .invokespecial 11, 3, 64, 1, 0, 0), (12, .putfield 12, 3, 6, 0, 0, 0), (15, .aload_n 0, 1, 0, 0, 0, 0), (16, .new 18, 3, 9, 2115, 0, 0), (19, .dup, 1, 0, 0, 0, 0), (20, .invokespecial 20, 3, 72, 1, 0, 0), (23, .putfield 21, 3, 6, 1, 0, 0), (26, .aload_n 0, 1, 0, 0, 0, 0), (27, .new 25, 3, 7, 2117, 0, 0), (30, .dup, 1, 0, 0, 0, 0), (31, .invokespecial 27, 3, 55, 1, 0, 0), (34, .putfield 28, 3, 6, 2, 0, 0), (37, .aload_n 0, 1, 0, 0, 0, 0), (38, .bipush 16, 2, 0, 0, 16, 0), (40, .newarray .int, 2, 0, 0, 0, 0), (42, .putfield 32, 3, 6, 3, 0, 0), (45, .aload_n 0, 1, 0, 0, 0, 0), (46, .sipush 976, 3, 0, 0, 976, 0), (49, .newarray .int, 2, 0, 0, 0, 0), (51, .putfield 36, 3, 6, 4, 0, 0), (54, .aload_n 0, 1, 0, 0, 0, 0), (55, .sipush 1024, 3, 0, 0, 1024, 0), (58, .newarray .int, 2, 0, 0, 0, 0), (60, .putfield 39, 3, 6, 5, 0, 0), (63, .aload_n 0, 1, 0, 0, 0, 0), (64, .sipush 256, 3, 0, 0, 256, 0), (67, .newarray .int, 2, 0, 0, 0, 0), (69, .putfield 42, 3, 6, 6, 0, 0), (72, .return_, 1, 0, 0, 0, 0)]
set_option maxRecDepth 100000 in
theorem cdI44_ok : cdI44.all (c1_chk 44) = true := by decide +kernel
def cdI55 : List am_E := [(0, .aload_n 0, 1, 0, 0, 0, 0), (1, .invokespecial 3, 3, 1238, 0, 0, 0), (4, .aload_n 0, 1, 0, 0, 0, 0), (5, .bipush 16, 2, 0, 0, 16, 0), (7, .newarray .int, 2, 0, 0, 0, 0), (9, .putfield 9, 3, 7, 0, 0, 0), (12, .aload_n 0, 1, 0, 0, 0, 0), (13, .bipush 8, 2, 0, 0, 8, 0), (15, .newarray .int, 2, 0, 0, 0, 0), (17, .putfield 15, 3, 7, 5, 0, 0), (20, .return_, 1, 0, 0, 0, 0)]
set_option maxRecDepth 100000 in
theorem cdI55_ok : cdI55.all (c1_chk 55) = true := by decide +kernel
def cdI64 : List am_E := [(0, .aload_n 0, 1, 0, 0, 0, 0), (1, .invokespecial 3, 3, 2099, 0, 0, 0), (4, .aload_n 0, 1, 0, 0, 0, 0), (5, .bipush 8, 2, 0, 0, 8, 0), (7, .newarray .int, 2, 0, 0, 0, 0), (9, .putfield 9, 3, 8, 0, 0, 0), (12, .aload_n 0, 1, 0, 0, 0, 0), (13, .bipush 9, 2, 0, 0, 9, 0), (15, .newarray .int, 2, 0, 0, 0, 0), (17, .putfield 15, 3, 8, 1, 0, 0), (20, .return_, 1, 0, 0, 0, 0)]
set_option maxRecDepth 100000 in
theorem cdI64_ok : cdI64.all (c1_chk 64) = true := by decide +kernel
def cdI72 : List am_E := [(0, .aload_n 0, 1, 0, 0, 0, 0), (1, .invokespecial 3, 3, 1230, 0, 0, 0), (4, .aload_n 0, 1, 0, 0, 0, 0), (5, .bipush 13, 2, 0, 0, 13, 0), (7, .bipush 16, 2, 0, 0, 16, 0), (9, .multianewarray 9 2, 4, 0, 1231, 0, 0), (13, .putfield 11, 3, 9, 3, 0, 0), (16, .aload_n 0, 1, 0, 0, 0, 0), (17, .bipush 10, 2, 0, 0, 10, 0), (19, .bipush 16, 2, 0, 0, 16, 0), (21, .multianewarray 9 2, 4, 0, 1231, 0, 0), (25, .putfield 16, 3, 9, 4, 0, 0), (28, .aload_n 0, 1, 0, 0, 0, 0), (29, .bipush 10, 2, 0, 0, 10, 0), (31, .newarray .int, 2, 0, 0, 0, 0), (33, .putfield 19, 3, 9, 5, 0, 0), (36, .aload_n 0, 1, 0, 0, 0, 0), (37, .bipush 10, 2, 0, 0, 10, 0), (39, .newarray .int, 2, 0, 0, 0, 0), (41, .putfield 23, 3, 9, 6, 0, 0), (44, .aload_n 0, 1, 0, 0, 0, 0), (45, .bipush 10, 2, 0, 0, 10, 0), (47, .newarray .int, 2, 0, 0, 0, 0), (49, .putfield 26, 3, 9, 7, 0, 0), (52, .aload_n 0, 1, 0, 0, 0, 0), (53, .bipush 10, 2, 0, 0, 10, 0), (55, .newarray .int, 2, 0, 0, 0, 0), (57, .putfield 29, 3, 9, 8, 0, 0), (60, .aload_n 0, 1, 0, 0, 0, 0), (61, .bipush 16, 2, 0, 0, 16, 0), (63, .newarray .int, 2, 0, 0, 0, 0), (65, .putfield 32, 3, 9, 9, 0, 0), (68, .aload_n 0, 1, 0, 0, 0, 0), (69, .bipush 16, 2, 0, 0, 16, 0), (71, .newarray .int, 2, 0, 0, 0, 0), (73, .putfield 35, 3, 9, 10, 0, 0), (76, .aload_n 0, 1, 0, 0, 0, 0), (77, .new 38, 3, 7, 1233, 0, 0), (80, .dup, 1, 0, 0, 0, 0), (81, .invokespecial 40, 3, 55, 1, 0, 0), (84, .putfield 41, 3, 9, 11, 0, 0), (87, .return_, 1, 0, 0, 0, 0)]
set_option maxRecDepth 100000 in
theorem cdI72_ok : cdI72.all (c1_chk 72) = true := by decide +kernel
def cdI79 : List am_E := [(0, .aload_n 0, 1, 0, 0, 0, 0), (1, .invokespecial 1, 3, 1026, 0, 0, 0), (4, .aload_n 0, 1, 0, 0, 0, 0), (5, .new 7, 3, 2, 1029, 0, 0), (8, .dup, 1, 0, 0, 0, 0), (9, .invokespecial 9, 3, 16, 1, 0, 0), (12, .putfield 10, 3, 10, 0, 0, 0), (15, .aload_n 0, 1, 0, 0, 0, 0), (16, .new 16, 3, 1, 1223, 0, 0), (19, .dup, 1, 0, 0, 0, 0), (20, .invokespecial 18, 3, 3, 1, 0, 0), (23, .putfield 19, 3, 10, 1, 0, 0), (26, .aload_n 0, 1, 0, 0, 0, 0), (27, .new 23, 3, 9, 1225, 0, 0), (30, .dup, 1, 0, 0, 0, 0), (31, .invokespecial 25, 3, 72, 1, 0, 0), (34, .putfield 26, 3, 10, 2, 0, 0), (37, .aload_n 0, 1, 0, 0, 0, 0), (38, .new 30, 3, 8, 2094, 0, 0), (41, .dup, 1, 0, 0, 0, 0), (42, .invokespecial 32, 3, 64, 1, 0, 0), (45, .putfield 33, 3, 10, 3, 0, 0), (48, .aload_n 0, 1, 0, 0, 0, 0), (49, .new 37, 3, 6, 2107, 0, 0), (52, .dup, 1, 0, 0, 0, 0), (53, .invokespecial 39, 3, 44, 1, 0, 0), (56, .putfield 40, 3, 10, 4, 0, 0), (59, .aload_n 0, 1, 0, 0, 0, 0), (60, .new 44, 3, 3, 2141, 0, 0), (63, .dup, 1, 0, 0, 0, 0), (64, .invokespecial 46, 3, 27, 1, 0, 0), (67, .putfield 47, 3, 10, 5, 0, 0), (70, .aload_n 0, 1, 0, 0, 0, 0), (71, .iconst 4, 1, 0, 0, 4, 0), (72, .anewarray 51, 3, 5, 2165, 0, 0), (75, .putfield 53, 3, 10, 6, 0, 0), (78, .aload_n 0, 1, 0, 0, 0, 0), (79, .iconst 3, 1, 0, 0, 3, 0), (80, .anewarray 16, 3, 6, 1223, 0, 0), (83, .putfield 57, 3, 10, 7, 0, 0), (86, .aload_n 0, 1, 0, 0, 0, 0), (87, .iconst 3, 1, 0, 0, 3, 0), (88, .newarray .boolean, 2, 2, 0, 0, 0), (90, .putfield 61, 3, 10, 8, 0, 0), (93, .iconst 0, 1, 0, 0, 0, 0), (94, .istore_n 1, 1, 1, 0, 0, 0), (95, .iload_n 1, 1, 1, 0, 0, 0), (96, .iconst 4, 1, 0, 0, 4, 0), (97, .if_icmp .ge 22, 3, 119, 0, 0, 0), (100, .aload_n 0, 1, 0, 0, 0, 0), (101, .getfield 53, 3, 10, 6, 0, 0), (104, .iload_n 1, 1, 1, 0, 0, 0), (105, .new 51, 3, 4, 2165, 0, 0), (108, .dup, 1, 0, 0, 0, 0), (109, .invokespecial 65, 3, 33, 1, 0, 0), (112, .aastore, 1, 0, 0, 0, 0), (113, .iinc 1 1, 3, 1, 0, 1, 0), (116, .goto (-21), 3, 95, 0, 0, 0), (119, .iconst 0, 1, 0, 0, 0, 0), (120, .istore_n 1, 1, 1, 0, 0, 0), (121, .iload_n 1, 1, 1, 0, 0, 0), (122, .iconst 3, 1, 0, 0, 3, 0), (123, .if_icmp .ge 22, 3, 145, 0, 0, 0), (126, .aload_n 0, 1, 0, 0, 0, 0), (127, .getfield 57, 3, 10, 7, 0, 0), (130, .iload_n 1, 1, 1, 0, 0, 0), (131, .new 16, 3, 1, 1223, 0, 0), (134, .dup, 1, 0, 0, 0, 0), (135, .invokespecial 18, 3, 3, 1, 0, 0), (138, .aastore, 1, 0, 0, 0, 0), (139, .iinc 1 1, 3, 1, 0, 1, 0), (142, .goto (-21), 3, 121, 0, 0, 0), (145, .return_, 1, 0, 0, 0, 0)]
set_option maxRecDepth 100000 in
theorem cdI79_ok : cdI79.all (c1_chk 79) = true := by decide +kernel
def cdI169 : List am_E := [(0, .aload_n 0, 1, 0, 0, 0, 0), (1, .invokespecial 3, 3, 6002, 0, 0, 0), (4, .aload_n 0, 1, 0, 0, 0, 0), (5, .bipush 116, 2, 0, 0, 116, 0), (7, .newarray .int, 2, 0, 0, 0, 0), (9, .putfield 9, 3, 11, 1, 0, 0), (12, .aload_n 0, 1, 0, 0, 0, 0), (13, .sipush 348, 3, 0, 0, 348, 0), (16, .newarray .int, 2, 0, 0, 0, 0), (18, .putfield 13, 3, 11, 2, 0, 0), (21, .aload_n 0, 1, 0, 0, 0, 0), (22, .iconst 3, 1, 0, 0, 3, 0), (23, .newarray .boolean, 2, 2, 0, 0, 0), (25, .putfield 16, 3, 11, 3, 0, 0), (28, .aload_n 0, 1, 0, 0, 0, 0), (29, .sipush 800, 3, 0, 0, 800, 0), (32, .newarray .byte, 2, 1, 0, 0, 0), (34, .putfield 20, 3, 11, 4, 0, 0), (37, .aload_n 0, 1, 0, 0, 0, 0), (38, .iconst 5, 1, 0, 0, 5, 0), (39, .newarray .int, 2, 0, 0, 0, 0), (41, .putfield 24, 3, 11, 6, 0, 0), (44, .aload_n 0, 1, 0, 0, 0, 0), (45, .iconst (-1), 1, 0, 0, (-1), 0), (46, .putfield 27, 3, 11, 13, 0, 0), (49, .aload_n 0, 1, 0, 0, 0, 0), (50, .bipush 116, 2, 0, 0, 116, 0), (52, .newarray .int, 2, 0, 0, 0, 0), (54, .putfield 31, 3, 11, 14, 0, 0), (57, .aload_n 0, 1, 0, 0, 0, 0), (58, .bipush 16, 2, 0, 0, 16, 0), (60, .newarray .int, 2, 0, 0, 0, 0), (62, .putfield 34, 3, 11, 15, 0, 0), (65, .aload_n 0, 1, 0, 0, 0, 0), (66, .bipush 16, 2, 0, 0, 16, 0), (68, .newarray .int, 2, 0, 0, 0, 0), (70, .putfield 37, 3, 11, 19, 0, 0), (73, .aload_n 0, 1, 0, 0, 0, 0), (74, .bipush 16, 2, 0, 0, 16, 0), (76, .newarray .int, 2, 0, 0, 0, 0), (78, .putfield 40, 3, 11, 20, 0, 0), (81, .aload_n 0, 1, 0, 0, 0, 0), (82, .bipush 8, 2, 0, 0, 8, 0), (84, .newarray .int, 2, 0, 0, 0, 0), (86, .putfield 43, 3, 11, 21, 0, 0), (89, .aload_n 0, 1, 0, 0, 0, 0), (90, .bipush 16, 2, 0, 0, 16, 0), (92, .newarray .int, 2, 0, 0, 0, 0), (94, .putfield 46, 3, 11, 26, 0, 0), (97, .aload_n 0, 1, 0, 0, 0, 0), (98, .bipush 16, 2, 0, 0, 16, 0), (100, .newarray .int, 2, 0, 0, 0, 0), (102, .putfield 49, 3, 11, 27, 0, 0), (105, .aload_n 0, 1, 0, 0, 0, 0), (106, .sipush 208, 3, 0, 0, 208, 0), (109, .newarray .int, 2, 0, 0, 0, 0), (111, .putfield 52, 3, 11, 28, 0, 0), (114, .aload_n 0, 1, 0, 0, 0, 0), (115, .sipush 160, 3, 0, 0, 160, 0), (118, .newarray .int, 2, 0, 0, 0, 0), (120, .putfield 55, 3, 11, 29, 0, 0), (123, .aload_n 0, 1, 0, 0, 0, 0), (124, .bipush 10, 2, 0, 0, 10, 0), (126, .newarray .int, 2, 0, 0, 0, 0), (128, .putfield 58, 3, 11, 30, 0, 0), (131, .aload_n 0, 1, 0, 0, 0, 0), (132, .bipush 10, 2, 0, 0, 10, 0), (134, .newarray .int, 2, 0, 0, 0, 0), (136, .putfield 61, 3, 11, 31, 0, 0), (139, .aload_n 0, 1, 0, 0, 0, 0), (140, .bipush 10, 2, 0, 0, 10, 0), (142, .newarray .int, 2, 0, 0, 0, 0), (144, .putfield 64, 3, 11, 32, 0, 0), (147, .aload_n 0, 1, 0, 0, 0, 0), (148, .bipush 10, 2, 0, 0, 10, 0), (150, .newarray .int, 2, 0, 0, 0, 0), (152, .putfield 67, 3, 11, 33, 0, 0), (155, .aload_n 0, 1, 0, 0, 0, 0), (156, .bipush 8, 2, 0, 0, 8, 0), (158, .newarray .int, 2, 0, 0, 0, 0), (160, .putfield 70, 3, 11, 34, 0, 0), (163, .aload_n 0, 1, 0, 0, 0, 0), (164, .bipush 9, 2, 0, 0, 9, 0), (166, .newarray .int, 2, 0, 0, 0, 0), (168, .putfield 73, 3, 11, 35, 0, 0), (171, .aload_n 0, 1, 0, 0, 0, 0), (172, .bipush 60, 2, 0, 0, 60, 0), (174, .newarray .int, 2, 0, 0, 0, 0), (176, .putfield 76, 3, 11, 37, 0, 0), (179, .aload_n 0, 1, 0, 0, 0, 0), (180, .sipush 780, 3, 0, 0, 780, 0), (183, .newarray .int, 2, 0, 0, 0, 0), (185, .putfield 79, 3, 11, 38, 0, 0), (188, .aload_n 0, 1, 0, 0, 0, 0), (189, .sipush 256, 3, 0, 0, 256, 0), (192, .newarray .int, 2, 0, 0, 0, 0), (194, .putfield 82, 3, 11, 41, 0, 0), (197, .aload_n 0, 1, 0, 0, 0, 0), (198, .iconst 4, 1, 0, 0, 4, 0), (199, .newarray .int, 2, 0, 0, 0, 0), (201, .dup, 1, 0, 0, 0, 0), (202, .iconst 0, 1, 0, 0, 0, 0), (203, .iconst (-1), 1, 0, 0, (-1), 0), (204, .iastore, 1, 0, 0, 0, 0), (205, .dup, 1, 0, 0, 0, 0), (206, .iconst 1, 1, 0, 0, 1, 0), (207, .iconst (-1), 1, 0, 0, (-1), 0), (208, .iastore, 1, 0, 0, 0, 0), (209, .dup, 1, 0, 0, 0, 0), (210, .iconst 2, 1, 0, 0, 2, 0), (211, .iconst (-1), 1, 0, 0, (-1), 0), (212, .iastore, 1, 0, 0, 0, 0), (213, .dup, 1, 0, 0, 0, 0), (214, .iconst 3, 1, 0, 0, 3, 0), (215, .iconst (-1), 1, 0, 0, (-1), 0), (216, .iastore, 1, 0, 0, 0, 0), (217, .putfield 85, 3, 11, 45, 0, 0), (220, .aload_n 0, 1, 0, 0, 0, 0), (221, .iconst 4, 1, 0, 0, 4, 0), (222, .newarray .int, 2, 0, 0, 0, 0), (224, .putfield 88, 3, 11, 46, 0, 0), (227, .aload_n 0, 1, 0, 0, 0, 0), (228, .sipush 240, 3, 0, 0, 240, 0), (231, .newarray .long, 2, 3, 0, 0, 0), (233, .putfield 91, 3, 11, 47, 0, 0), (236, .aload_n 0, 1, 0, 0, 0, 0), (237, .bipush 60, 2, 0, 0, 60, 0), (239, .newarray .long, 2, 3, 0, 0, 0), (241, .putfield 95, 3, 11, 48, 0, 0), (244, .return_, 1, 0, 0, 0, 0)]
set_option maxRecDepth 100000 in
theorem cdI169_ok : cdI169.all (c1_chk 169) = true := by decide +kernel
def cdI345 : List am_E := [(0, .new 7, 3, 10, 1021, 0, 0), (3, .dup, 1, 0, 0, 0, 0), (4, .invokespecial 9, 3, 79, 1, 0, 0), (7, .astore_n 1, 1, 1, 0, 0, 0), (8, .new 10, 3, 11, 5237, 0, 0), (11, .dup, 1, 0, 0, 0, 0), (12, .invokespecial 12, 3, 169, 1, 0, 0), (15, .astore_n 2, 1, 2, 0, 0, 0), (16, .iconst 0, 1, 0, 0, 0, 0), (17, .istore_n 3, 1, 3, 0, 0, 0)]
set_option maxRecDepth 100000 in
theorem cdI345_ok : cdI345.all (c1_chk 345) = true := by decide +kernel
def c1_0 : Nat → Nat → c1_L → Option (Nat × c1_L) := c1_ctor 0 1 36 c1_s0 cdI0
def c1_3 : Nat → Nat → c1_L → Option (Nat × c1_L) := c1_ctor 1 1 79 (c1_sm 0 c1_0 c1_s0) cdI3
def c1_38 : Nat → Nat → c1_L → Option (Nat × c1_L) := c1_ctor 5 1 13 c1_s0 cdI38
def c1_16 : Nat → Nat → c1_L → Option (Nat × c1_L) := c1_ctor 2 1 31 (c1_sm 38 c1_38 (c1_sm 3 c1_3 c1_s0)) cdI16
def c1_55 : Nat → Nat → c1_L → Option (Nat × c1_L) := c1_ctor 7 1 20 c1_s0 cdI55
def c1_72 : Nat → Nat → c1_L → Option (Nat × c1_L) := c1_ctor 9 1 87 (c1_sm 55 c1_55 c1_s0) cdI72
def c1_27 : Nat → Nat → c1_L → Option (Nat × c1_L) := c1_ctor 3 1 15 (c1_sm 72 c1_72 c1_s0) cdI27
def c1_33 : Nat → Nat → c1_L → Option (Nat × c1_L) := c1_ctor 4 1 17 c1_s0 cdI33
def c1_64 : Nat → Nat → c1_L → Option (Nat × c1_L) := c1_ctor 8 1 20 c1_s0 cdI64
def c1_44 : Nat → Nat → c1_L → Option (Nat × c1_L) := c1_ctor 6 1 72 (c1_sm 72 c1_72 (c1_sm 64 c1_64 (c1_sm 55 c1_55 c1_s0))) cdI44
def c1_79 : Nat → Nat → c1_L → Option (Nat × c1_L) := c1_ctor 10 2 145 (c1_sm 72 c1_72 (c1_sm 64 c1_64 (c1_sm 44 c1_44 (c1_sm 33 c1_33 (c1_sm 27 c1_27 (c1_sm 16 c1_16 (c1_sm 3 c1_3 c1_s0))))))) cdI79
def c1_169 : Nat → Nat → c1_L → Option (Nat × c1_L) := c1_ctor 11 1 244 c1_s0 cdI169
def c1_law : Option c1_T := c1_run false (c1_sm 169 c1_169 (c1_sm 79 c1_79 c1_s0)) cdI345 18 60 (0, [some (.inr (.inr (62, 5200))), none, none, none], [], 0, [])
def c1_tabI : List Nat := [0, 3, 38, 16, 55, 72, 27, 33, 64, 44, 79, 169]
