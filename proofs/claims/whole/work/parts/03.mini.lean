/-! THE MINI MACHINE: whole numbers, references by number, a memory of rows; no classes, no tables of the virtual machine -/
abbrev mV : Type := Int ⊕ (Int ⊕ Nat)
abbrev mL : Type := List (Option mV)
abbrev mH : Type := List (Nat × Nat) × (Nat → Nat → Int)
abbrev mR : Type := Option (Option mV × mH)
def w32 (x : Int) : Int := (x + 2147483648) % 4294967296 - 2147483648
def w64 (x : Int) : Int := (x + 9223372036854775808) % 18446744073709551616 - 9223372036854775808
def w8 (x : Int) : Int := (x + 128) % 256 - 128
def iand (x y : Int) : Int := (Int32.ofInt x &&& Int32.ofInt y).toInt
def ior (x y : Int) : Int := (Int32.ofInt x ||| Int32.ofInt y).toInt
def ixor (x y : Int) : Int := (Int32.ofInt x ^^^ Int32.ofInt y).toInt
def ishl (x y : Int) : Int := (Int32.ofInt x <<< (Int32.ofInt y &&& 31)).toInt
def ishr (x y : Int) : Int := (Int32.ofInt x >>> (Int32.ofInt y &&& 31)).toInt
def iush (x y : Int) : Int := ((Int32.ofInt x).toUInt32 >>> ((Int32.ofInt y).toUInt32 &&& Int32.toUInt32 31)).toInt32.toInt
def icmp (x y : Int) : Int := if x > y then 1 else if x = y then 0 else -1
def catV : mV → Nat
  | .inr (.inl _) => 2
  | _ => 1
def catS (st : List mV) : Nat := (st.map catV).sum
/-- is it a long -/
def lngV : Option (Option mV) → Bool
  | some (some (.inr (.inl _))) => true
  | _ => false
def set1 (ls : mL) (i : Nat) (v : mV) : Option mL :=
  if i < ls.length then some (if i ≠ 0 ∧ lngV ls[i - 1]? = true then (ls.set i (some v)).set (i - 1) none else ls.set i (some v)) else none
def set2 (ls : mL) (i : Nat) (v : mV) : Option mL :=
  if i + 1 < ls.length then some (if i ≠ 0 ∧ lngV ls[i - 1]? = true then ((ls.set i (some v)).set (i + 1) none).set (i - 1) none else (ls.set i (some v)).set (i + 1) none) else none
def ldI (ls : mL) (i : Nat) : Option Int := match ls[i]? with
  | some (some (.inl x)) => some x
  | _ => none
def ldJ (ls : mL) (i : Nat) : Option Int := match ls[i]? with
  | some (some (.inr (.inl x))) => some x
  | _ => none
def ldA (ls : mL) (i : Nat) : Option Nat := match ls[i]? with
  | some (some (.inr (.inr x))) => some x
  | _ => none
/-! memory -/
def mw (h : mH) (a j : Nat) (v : Int) : mH := (h.1, fun b k => if b = a ∧ k = j then v else h.2 b k)
def mrow (h : mH) (a : Nat) (f : Nat → Int) : mH := (h.1, fun b k => if b = a then f k else h.2 b k)
def mnew (h : mH) (kd n : Nat) : mH := (h.1 ++ [(kd, n)], fun b k => if b = h.1.length then 0 else h.2 b k)
def isO (h : mH) (a ci : Nat) : Bool := match h.1[a]? with
  | some q => decide (q.1 = ci) && decide (a ≠ 0)
  | none => false
def gfd (ci k : Nat) (h : mH) (a : Nat) : Option Int := match h.1[a]? with
  | some q => if q.1 = ci ∧ k < q.2 ∧ a ≠ 0 then some (h.2 a k) else none
  | none => none
def pfd (ci k : Nat) (h : mH) (a : Nat) (v : Int) : Option mH := match h.1[a]? with
  | some q => if q.1 = ci ∧ k < q.2 ∧ 6 ≤ a then some (mw h a k v) else none
  | none => none
def ald (kd : Nat) (h : mH) (a : Nat) (j : Int) : Option Int := match h.1[a]? with
  | some q => if q.1 = kd ∧ 0 ≤ j ∧ j < (q.2 : Int) ∧ a ≠ 0 then some (h.2 a j.toNat) else none
  | none => none
def bld (h : mH) (a : Nat) (j : Int) : Option Int := match h.1[a]? with
  | some q => if (q.1 = 11 ∨ q.1 = 12) ∧ 0 ≤ j ∧ j < (q.2 : Int) ∧ a ≠ 0 then some (h.2 a j.toNat) else none
  | none => none
def ast (h : mH) (a : Nat) (j v : Int) : Option mH := match h.1[a]? with
  | some q => if q.1 = 10 ∧ 0 ≤ j ∧ j < (q.2 : Int) ∧ 6 ≤ a then some (mw h a j.toNat v) else none
  | none => none
def bst (h : mH) (a : Nat) (j v : Int) : Option mH := match h.1[a]? with
  | some q => if (q.1 = 11 ∨ q.1 = 12) ∧ 0 ≤ j ∧ j < (q.2 : Int) ∧ 6 ≤ a then some (mw h a j.toNat (if q.1 = 11 then w8 v else iand v 1)) else none
  | none => none
def aln (h : mH) (a : Nat) : Option Int := match h.1[a]? with
  | some q => if 10 ≤ q.1 ∧ q.1 ≤ 13 ∧ q.2 < 1000000 ∧ a ≠ 0 then some (q.2 : Int) else none
  | none => none
/-- n ints of row b into row a, both from their beginnings -/
def acp (h : mH) (b a : Nat) (n : Int) : Option mH := match h.1[b]?, h.1[a]? with
  | some p, some q => if p.1 = 10 ∧ q.1 = 10 ∧ 0 ≤ n ∧ n ≤ (p.2 : Int) ∧ n ≤ (q.2 : Int) ∧ 6 ≤ a ∧ b ≠ 0 then some (mrow h a (fun j => if j < n.toNat then h.2 b j else h.2 a j)) else none
  | _, _ => none
/-- n rows of k ints, one behind the other -/
def mgrd (h : mH) (n k : Nat) : mH := (h.1 ++ (13, n) :: List.replicate n (10, k), fun b j => if b = h.1.length then (if j < n then (h.1.length + 1 + j : Nat) else 0) else if h.1.length < b then 0 else h.2 b j)
def tgt (pc : Nat) (off : Int) : Option Nat := if 0 ≤ (pc : Int) + off then some ((pc : Int) + off).toNat else none
def cnd : Jvm.ClassFile.Cond → Int → Int → Bool
  | .eq, x, y => decide (x = y)
  | .ne, x, y => decide (x ≠ y)
  | .lt, x, y => decide (x < y)
  | .ge, x, y => decide (y ≤ x)
  | .gt, x, y => decide (y < x)
  | .le, x, y => decide (x ≤ y)
def brn (b : Bool) (pc : Nat) (off : Int) (ls : mL) (r : List mV) (h : mH) : Option (Nat × mL × List mV × mH) :=
  (tgt pc off).map (fun t => (if b = true then t else pc + 3, ls, r, h))
def bin (f : Int → Int → Int) (pc : Nat) (ls : mL) (st : List mV) (h : mH) : Option (Nat × mL × List mV × mH) := match st with
  | .inl y :: .inl x :: r => some (pc + 1, ls, .inl (f x y) :: r, h)
  | _ => none
def binJ (f : Int → Int → Int) (pc : Nat) (ls : mL) (st : List mV) (h : mH) : Option (Nat × mL × List mV × mH) := match st with
  | .inr (.inl y) :: .inr (.inl x) :: r => some (pc + 1, ls, .inr (.inl (f x y)) :: r, h)
  | _ => none
/-- the length of an instruction as decoded (0: any) -/
def lenI : Instr → Nat
  | .iload _ | .lload _ | .aload _ | .istore _ | .lstore _ | .astore _ | .bipush _ | .ldc _ | .newarray _ => 2
  | .sipush _ | .ldc_w _ | .ldc2_w _ | .iinc _ _ | .ifCond _ _ | .if_icmp _ _ | .ifnull _ | .ifnonnull _ | .goto _ | .getfield _ | .putfield _ | .getstatic _ | .new _ | .invokevirtual _ | .invokespecial _ | .invokestatic _ => 3
  | .multianewarray _ _ => 4
  | .tableswitch _ _ _ _ | .lookupswitch _ _ => 0
  | _ => 1
def pstep (m : Nat) (ins : Instr) (pc : Nat) (ls : mL) (st : List mV) (h : mH) : Option (Nat × mL × List mV × mH) := match ins with
  | .iload i => (ldI ls i).map (fun x => (pc + 2, ls, .inl x :: st, h))
  | .iload_n i => (ldI ls i.val).map (fun x => (pc + 1, ls, .inl x :: st, h))
  | .lload i => (ldJ ls i).map (fun x => (pc + 2, ls, .inr (.inl x) :: st, h))
  | .lload_n i => (ldJ ls i.val).map (fun x => (pc + 1, ls, .inr (.inl x) :: st, h))
  | .aload i => (ldA ls i).map (fun x => (pc + 2, ls, .inr (.inr x) :: st, h))
  | .aload_n i => (ldA ls i.val).map (fun x => (pc + 1, ls, .inr (.inr x) :: st, h))
  | .istore i => match st with
    | .inl x :: r => (set1 ls i (.inl x)).map (fun l => (pc + 2, l, r, h))
    | _ => none
  | .istore_n i => match st with
    | .inl x :: r => (set1 ls i.val (.inl x)).map (fun l => (pc + 1, l, r, h))
    | _ => none
  | .astore i => match st with
    | .inr (.inr x) :: r => (set1 ls i (.inr (.inr x))).map (fun l => (pc + 2, l, r, h))
    | _ => none
  | .astore_n i => match st with
    | .inr (.inr x) :: r => (set1 ls i.val (.inr (.inr x))).map (fun l => (pc + 1, l, r, h))
    | _ => none
  | .lstore i => match st with
    | .inr (.inl x) :: r => (set2 ls i (.inr (.inl x))).map (fun l => (pc + 2, l, r, h))
    | _ => none
  | .lstore_n i => match st with
    | .inr (.inl x) :: r => (set2 ls i.val (.inr (.inl x))).map (fun l => (pc + 1, l, r, h))
    | _ => none
  | .iinc i n => if -32768 ≤ n ∧ n ≤ 32767 then (ldI ls i).bind (fun x => (set1 ls i (.inl (w32 (x + n)))).map (fun l => (pc + 3, l, st, h))) else none
  | .iconst n => if -1 ≤ n ∧ n ≤ 5 then some (pc + 1, ls, .inl n :: st, h) else none
  | .bipush n => if -128 ≤ n ∧ n ≤ 127 then some (pc + 2, ls, .inl n :: st, h) else none
  | .sipush n => if -32768 ≤ n ∧ n ≤ 32767 then some (pc + 3, ls, .inl n :: st, h) else none
  | .lconst n => some (pc + 1, ls, .inr (.inl (n.val : Int)) :: st, h)
  | .ldc k => match intOf (mown m) k with
    | some v => some (pc + 2, ls, .inl v :: st, h)
    | none => (strOf (mown m) k).map (fun a => (pc + 2, ls, .inr (.inr a) :: st, h))
  | .ldc_w k => (intOf (mown m) k).map (fun v => (pc + 3, ls, .inl v :: st, h))
  | .ldc2_w k => (lngOf (mown m) k).map (fun v => (pc + 3, ls, .inr (.inl v) :: st, h))
  | .iadd => bin (fun x y => w32 (x + y)) pc ls st h
  | .isub => bin (fun x y => w32 (x - y)) pc ls st h
  | .imul => bin (fun x y => w32 (x * y)) pc ls st h
  | .iand => bin iand pc ls st h
  | .ior => bin ior pc ls st h
  | .ixor => bin ixor pc ls st h
  | .ishl => bin ishl pc ls st h
  | .ishr => bin ishr pc ls st h
  | .iushr => bin iush pc ls st h
  | .idiv => match st with
    | .inl y :: .inl x :: r => if y = 0 then none else some (pc + 1, ls, .inl (w32 (x.tdiv y)) :: r, h)
    | _ => none
  | .irem => match st with
    | .inl y :: .inl x :: r => if y = 0 then none else some (pc + 1, ls, .inl (x.tmod y) :: r, h)
    | _ => none
  | .ladd => binJ (fun x y => w64 (x + y)) pc ls st h
  | .lmul => binJ (fun x y => w64 (x * y)) pc ls st h
  | .lrem => match st with
    | .inr (.inl y) :: .inr (.inl x) :: r => if y = 0 then none else some (pc + 1, ls, .inr (.inl (x.tmod y)) :: r, h)
    | _ => none
  | .lcmp => match st with
    | .inr (.inl y) :: .inr (.inl x) :: r => some (pc + 1, ls, .inl (icmp x y) :: r, h)
    | _ => none
  | .i2l => match st with
    | .inl x :: r => some (pc + 1, ls, .inr (.inl x) :: r, h)
    | _ => none
  | .l2i => match st with
    | .inr (.inl x) :: r => some (pc + 1, ls, .inl (w32 x) :: r, h)
    | _ => none
  | .i2b => match st with
    | .inl x :: r => some (pc + 1, ls, .inl (w8 x) :: r, h)
    | _ => none
  | .dup => match st with
    | v :: r => if catV v = 1 then some (pc + 1, ls, v :: v :: r, h) else none
    | _ => none
  | .dup2 => match st with
    | v :: w :: r => if catV v = 1 ∧ catV w = 1 then some (pc + 1, ls, v :: w :: v :: w :: r, h) else none
    | _ => none
  | .pop => match st with
    | v :: r => if catV v = 1 then some (pc + 1, ls, r, h) else none
    | _ => none
  | .ifCond cd off => match st with
    | .inl x :: r => brn (cnd cd x 0) pc off ls r h
    | _ => none
  | .if_icmp cd off => match st with
    | .inl y :: .inl x :: r => brn (cnd cd x y) pc off ls r h
    | _ => none
  | .ifnull off => match st with
    | .inr (.inr a) :: r => brn (decide (a = 0)) pc off ls r h
    | _ => none
  | .ifnonnull off => match st with
    | .inr (.inr a) :: r => brn (decide (a ≠ 0)) pc off ls r h
    | _ => none
  | .goto off => (tgt pc off).map (fun t => (t, ls, st, h))
  | .tableswitch d lo hi offs => match st with
    | .inl x :: r => if x < lo ∨ hi < x then (tgt pc d).map (fun t => (t, ls, r, h)) else (offs[(x - lo).toNat]?).bind (fun o => (tgt pc o).map (fun t => (t, ls, r, h)))
    | _ => none
  | .lookupswitch d ps => match st with
    | .inl x :: r => if (ps.toList.zip (ps.toList.drop 1)).all (fun (a, next) => a.1 < next.1) = true then (tgt pc (Op.lookupswitch.offset ps.toList d x)).map (fun t => (t, ls, r, h)) else none
    | _ => none
  | .getfield k => (fldOf (mown m) k).bind (fun f => match st with
    | .inr (.inr a) :: r => (gfd f.1 f.2.1 h a).map (fun x => (pc + 3, ls, (if f.2.2 = 2 then .inr (.inr x.toNat) else .inl x) :: r, h))
    | _ => none)
  | .putfield k => (fldOf (mown m) k).bind (fun f => match st with
    | .inl v :: .inr (.inr a) :: r => if (f.2.2 = 0 ∨ (f.2.2 = 1 ∧ (v = 0 ∨ v = 1))) ∧ finB m f.1 f.2.1 = true then (pfd f.1 f.2.1 h a v).map (fun h' => (pc + 3, ls, r, h')) else none
    | .inr (.inr b) :: .inr (.inr a) :: r => if f.2.2 = 2 ∧ finB m f.1 f.2.1 = true then (pfd f.1 f.2.1 h a (b : Int)).map (fun h' => (pc + 3, ls, r, h')) else none
    | _ => none)
  | .getstatic k => (staOf (mown m) k).map (fun a => (pc + 3, ls, .inr (.inr a) :: st, h))
  | .iaload => match st with
    | .inl j :: .inr (.inr a) :: r => (ald 10 h a j).map (fun x => (pc + 1, ls, .inl x :: r, h))
    | _ => none
  | .baload => match st with
    | .inl j :: .inr (.inr a) :: r => (bld h a j).map (fun x => (pc + 1, ls, .inl x :: r, h))
    | _ => none
  | .aaload => match st with
    | .inl j :: .inr (.inr a) :: r => (ald 13 h a j).map (fun x => (pc + 1, ls, .inr (.inr x.toNat) :: r, h))
    | _ => none
  | .iastore => match st with
    | .inl v :: .inl j :: .inr (.inr a) :: r => (ast h a j v).map (fun h' => (pc + 1, ls, r, h'))
    | _ => none
  | .bastore => match st with
    | .inl v :: .inl j :: .inr (.inr a) :: r => (bst h a j v).map (fun h' => (pc + 1, ls, r, h'))
    | _ => none
  | .arraylength => match st with
    | .inr (.inr a) :: r => (aln h a).map (fun n => (pc + 1, ls, .inl n :: r, h))
    | _ => none
  | .newarray t => match st with
    | .inl n :: r => if 0 ≤ n ∧ n ≤ 100000 then (match t with
      | .int => some (pc + 2, ls, .inr (.inr h.1.length) :: r, mnew h 10 n.toNat)
      | .byte => some (pc + 2, ls, .inr (.inr h.1.length) :: r, mnew h 11 n.toNat)
      | .boolean => some (pc + 2, ls, .inr (.inr h.1.length) :: r, mnew h 12 n.toNat)
      | _ => none) else none
    | _ => none
  | .new k => (newOf (mown m) k).map (fun ci => (pc + 3, ls, .inr (.inr h.1.length) :: st, mnew h ci (nfld ci)))
  | .multianewarray k d => match st with
    | .inl n2 :: .inl n1 :: r => if mown m = 3 ∧ k = 9 ∧ d = 2 ∧ 0 ≤ n1 ∧ n1 ≤ 100 ∧ 0 ≤ n2 ∧ n2 ≤ 1000 then some (pc + 4, ls, .inr (.inr h.1.length) :: r, mgrd h n1.toNat n2.toNat) else none
    | _ => none
  | .invokespecial k => match invOf (mown m) k, st with
    | some (4, _), .inr (.inr a) :: r => if a ≠ 0 ∧ catS r ≤ 8 ∧ 1 ≤ mdep m then some (pc + 3, ls, r, h) else none
    | _, _ => none
  | .invokestatic k => match invOf (mown m) k, st with
    | some (5, _), .inl n :: .inl dp :: .inr (.inr a) :: .inl sp :: .inr (.inr b) :: r => if sp = 0 ∧ dp = 0 ∧ catS r ≤ 8 ∧ 1 ≤ mdep m then (acp h b a n).map (fun h' => (pc + 3, ls, r, h')) else none
    | _, _ => none
  | .invokevirtual k => match invOf (mown m) k, st with
    | some (6, _), .inr (.inr a) :: r => if a = 4 ∧ catS r ≤ 8 ∧ 2 ≤ mdep m then (aln h 5).map (fun n => (pc + 3, ls, .inl n :: r, h)) else none
    | some (7, _), .inl i :: .inr (.inr a) :: r => if a = 4 ∧ catS r ≤ 8 ∧ 5 ≤ mdep m then (ald 11 h 5 i).map (fun x => (pc + 3, ls, .inl x :: r, h)) else none
    | _, _ => none
  | _ => none
/-- a method's locals at its entry -/
def argL : List mV → mL
  | [] => []
  | v :: r => if catV v = 2 then some v :: none :: argL r else some v :: argL r
/-- what a call takes: the method, its arguments, what is left -/
def callOf (m : Nat) (ins : Instr) (st : List mV) : Option (Nat × List mV × List mV) := match ins with
  | .invokevirtual k => match invOf (mown m) k with
    | some (0, t) => if mpar t + 1 ≤ st.length ∧ catS (st.drop (mpar t + 1)) ≤ 8 ∧ mdep t < mdep m ∧ (argL (st.take (mpar t + 1)).reverse).length ≤ mmax t then some (t, (st.take (mpar t + 1)).reverse, st.drop (mpar t + 1)) else none
    | _ => none
  | .invokespecial k => match invOf (mown m) k with
    | some (1, t) => if mpar t + 1 ≤ st.length ∧ catS (st.drop (mpar t + 1)) ≤ 8 ∧ mdep t < mdep m ∧ (argL (st.take (mpar t + 1)).reverse).length ≤ mmax t then some (t, (st.take (mpar t + 1)).reverse, st.drop (mpar t + 1)) else none
    | some (3, t) => if mpar t + 1 ≤ st.length ∧ catS (st.drop (mpar t + 1)) ≤ 8 ∧ mdep t < mdep m ∧ (argL (st.take (mpar t + 1)).reverse).length ≤ mmax t then some (t, (st.take (mpar t + 1)).reverse, st.drop (mpar t + 1)) else none
    | _ => none
  | .invokestatic k => match invOf (mown m) k with
    | some (2, t) => if mpar t ≤ st.length ∧ catS (st.drop (mpar t)) ≤ 8 ∧ mdep t < mdep m ∧ (argL (st.take (mpar t)).reverse).length ≤ mmax t then some (t, (st.take (mpar t)).reverse, st.drop (mpar t)) else none
    | _ => none
  | _ => none
def retOf (m : Nat) (ins : Instr) (st : List mV) : Option (Option mV) := match ins with
  | .ireturn => match st with
    | [.inl x] => if mans m = 1 ∨ (mans m = 2 ∧ (x = 0 ∨ x = 1)) then some (some (.inl x)) else none
    | _ => none
  | .return_ => match st with
    | [] => if mans m = 0 then some none else none
    | _ => none
  | _ => none
def entL (t : Nat) (as : List mV) : mL := argL as ++ List.replicate (mmax t - (argL as).length) none
/-- of an instance method the receiver is of its own kind; of a constructor it is there -/
def rok (k : Nat) (t : Nat) (as : List mV) (h : mH) : Bool := match k with
  | 0 => (match as with
    | .inr (.inr a) :: _ => isO h a (mown t)
    | _ => false)
  | 2 => true
  | _ => (match as with
    | .inr (.inr a) :: _ => decide (a ≠ 0)
    | _ => false)
def wayI : Instr → Nat
  | .invokevirtual _ => 0
  | .invokestatic _ => 2
  | _ => 1
abbrev mF : Type := Nat → Nat → mL → List mV → mH → mR
def asI (x : mR) : Option (Int × mH) := x.bind (fun r => match r.1 with
  | some (.inl v) => some (v, r.2)
  | _ => none)
def asU (x : mR) : Option mH := x.bind (fun r => match r.1 with
  | none => some r.2
  | _ => none)
def cal (f : mF) (k t : Nat) (as : List mV) (h : mH) : mR := if rok k t as h = true then f t 0 (entL t as) [] h else none
def ex (f : mF) (ins : Instr) (m pc : Nat) (ls : mL) (st : List mV) (h : mH) : mR := match retOf m ins st with
  | some v => some (v, h)
  | none => match callOf m ins st with
    | some q => if mans q.1 = 0 then (asU (cal f (wayI ins) q.1 q.2.1 h)).bind (fun h' => f m (pc + 3) ls q.2.2 h')
      else (asI (cal f (wayI ins) q.1 q.2.1 h)).bind (fun r => f m (pc + 3) ls (.inl r.1 :: q.2.2) r.2)
    | none => match pstep m ins pc ls st h with
      | some q => f m q.1 q.2.1 q.2.2.1 q.2.2.2
      | none => none
def exec1 (f : mF) (m pc : Nat) (ls : mL) (st : List mV) (h : mH) : mR := match decode (codeOf m) pc with
  | .ok q => if lenI q.1 = q.2 ∨ lenI q.1 = 0 then ex f q.1 m pc ls st h else none
  | .error _ => none
def mrun : Nat → mF
  | 0 => fun _ _ _ _ _ => none
  | n + 1 => exec1 (mrun n)
/-! its limit -/
def mle (f g : mF) : Prop := ∀ m pc ls st h r, f m pc ls st h = some r → g m pc ls st h = some r
theorem cal_mono {f g : mF} (hfg : mle f g) {k t : Nat} {as : List mV} {h : mH} {r} (e : cal f k t as h = some r) : cal g k t as h = some r := by
  unfold cal at e ⊢
  split at e
  · rename_i h1; rw [if_pos h1]; exact hfg _ _ _ _ _ _ e
  · cases e
theorem ex_mono {f g : mF} (hfg : mle f g) {ins : Instr} {m pc : Nat} {ls : mL} {st : List mV} {h : mH} {r} (e : ex f ins m pc ls st h = some r) : ex g ins m pc ls st h = some r := by
  unfold ex at e ⊢
  split at e
  · exact e
  · split at e
    · split at e
      · rename_i h3
        rw [if_pos h3]
        obtain ⟨h', e1, e2⟩ := Option.bind_eq_some_iff.mp e
        obtain ⟨r0, e3, e4⟩ := Option.bind_eq_some_iff.mp e1
        refine Option.bind_eq_some_iff.mpr ⟨h', Option.bind_eq_some_iff.mpr ⟨r0, cal_mono hfg e3, e4⟩, hfg _ _ _ _ _ _ e2⟩
      · rename_i h3
        rw [if_neg h3]
        obtain ⟨h', e1, e2⟩ := Option.bind_eq_some_iff.mp e
        obtain ⟨r0, e3, e4⟩ := Option.bind_eq_some_iff.mp e1
        refine Option.bind_eq_some_iff.mpr ⟨h', Option.bind_eq_some_iff.mpr ⟨r0, cal_mono hfg e3, e4⟩, hfg _ _ _ _ _ _ e2⟩
    · split at e
      · exact hfg _ _ _ _ _ _ e
      · cases e
theorem exec1_mono {f g : mF} (hfg : mle f g) {m pc : Nat} {ls : mL} {st : List mV} {h : mH} {r} (e : exec1 f m pc ls st h = some r) : exec1 g m pc ls st h = some r := by
  unfold exec1 at e ⊢
  split at e
  · split at e
    · rename_i h1; rw [if_pos h1]; exact ex_mono hfg e
    · cases e
  · cases e
theorem mrun_succ : ∀ n, mle (mrun n) (mrun (n + 1))
  | 0 => fun _ _ _ _ _ _ e => by cases e
  | n + 1 => fun _ _ _ _ _ _ e => exec1_mono (mrun_succ n) e
theorem mrun_le {a b : Nat} (hab : a ≤ b) : mle (mrun a) (mrun b) := by
  induction hab with
  | refl => exact fun _ _ _ _ _ _ e => e
  | step _ ih => exact fun _ _ _ _ _ _ e => mrun_succ _ _ _ _ _ _ _ (ih _ _ _ _ _ _ e)

/-- what a predicate singles out, if anything -/
noncomputable def pick1 {α : Type} (P : α → Prop) : Option α := by
  classical
  exact if e : ∃ r, P r then some (Classical.choose e) else none
theorem pick1_some {α : Type} {P : α → Prop} (hu : ∀ a b, P a → P b → a = b) (r : α) : pick1 P = some r ↔ P r := by
  unfold pick1
  constructor
  · intro h
    split at h
    · rename_i e
      have := Classical.choose_spec e
      cases h; exact this
    · cases h
  · intro h
    rw [dif_pos ⟨r, h⟩]
    exact congrArg some (hu _ _ (Classical.choose_spec (⟨r, h⟩ : ∃ r, P r)) h)
noncomputable def Lim : mF := fun m pc ls st h => pick1 (fun r => ∃ n, mrun n m pc ls st h = some r)
theorem Lim_some {m pc : Nat} {ls : mL} {st : List mV} {h : mH} {r} : Lim m pc ls st h = some r ↔ ∃ n, mrun n m pc ls st h = some r := by
  unfold Lim
  refine pick1_some (fun a b ha hb => ?_) r
  obtain ⟨n, ha⟩ := ha
  obtain ⟨k, hb⟩ := hb
  have h1 := mrun_le (Nat.le_max_left n k) _ _ _ _ _ _ ha
  have h2 := mrun_le (Nat.le_max_right n k) _ _ _ _ _ _ hb
  exact Option.some.inj (h1.symm.trans h2)
theorem mrun_Lim (n : Nat) : mle (mrun n) Lim := fun _ _ _ _ _ _ e => Lim_some.mpr ⟨n, e⟩
theorem cal_Lim {k t : Nat} {as : List mV} {h : mH} {r} (e : cal Lim k t as h = some r) : ∃ n, cal (mrun n) k t as h = some r := by
  unfold cal at e
  split at e
  · rename_i h1
    obtain ⟨n, hn⟩ := Lim_some.mp e
    exact ⟨n, by unfold cal; rw [if_pos h1]; exact hn⟩
  · cases e
theorem ex_Lim {ins : Instr} {m pc : Nat} {ls : mL} {st : List mV} {h : mH} {r} (e : ex Lim ins m pc ls st h = some r) : ∃ n, ex (mrun n) ins m pc ls st h = some r := by
  unfold ex at e
  split at e
  · rename_i v h1
    exact ⟨0, by unfold ex; rw [h1]; exact e⟩
  · rename_i h1
    split at e
    · rename_i q h2
      split at e
      · rename_i h3
        obtain ⟨h', e1, e2⟩ := Option.bind_eq_some_iff.mp e
        obtain ⟨r0, e3, e4⟩ := Option.bind_eq_some_iff.mp e1
        obtain ⟨n, hn⟩ := cal_Lim e3
        obtain ⟨k, hk⟩ := Lim_some.mp e2
        refine ⟨max n k, ?_⟩
        unfold ex
        rw [h1, h2]
        simp only [if_pos h3]
        exact Option.bind_eq_some_iff.mpr ⟨h', Option.bind_eq_some_iff.mpr ⟨r0, cal_mono (mrun_le (Nat.le_max_left n k)) hn, e4⟩, mrun_le (Nat.le_max_right n k) _ _ _ _ _ _ hk⟩
      · rename_i h3
        obtain ⟨h', e1, e2⟩ := Option.bind_eq_some_iff.mp e
        obtain ⟨r0, e3, e4⟩ := Option.bind_eq_some_iff.mp e1
        obtain ⟨n, hn⟩ := cal_Lim e3
        obtain ⟨k, hk⟩ := Lim_some.mp e2
        refine ⟨max n k, ?_⟩
        unfold ex
        rw [h1, h2]
        simp only [if_neg h3]
        exact Option.bind_eq_some_iff.mpr ⟨h', Option.bind_eq_some_iff.mpr ⟨r0, cal_mono (mrun_le (Nat.le_max_left n k)) hn, e4⟩, mrun_le (Nat.le_max_right n k) _ _ _ _ _ _ hk⟩
    · rename_i h2
      split at e
      · rename_i q h3
        obtain ⟨k, hk⟩ := Lim_some.mp e
        exact ⟨k, by unfold ex; rw [h1, h2, h3]; exact hk⟩
      · cases e
theorem Lim_eq (m pc : Nat) (ls : mL) (st : List mV) (h : mH) : Lim m pc ls st h = exec1 Lim m pc ls st h := by
  apply Option.ext
  intro r
  constructor
  · intro e
    obtain ⟨n, hn⟩ := Lim_some.mp e
    cases n with
    | zero => cases hn
    | succ n => exact exec1_mono (mrun_Lim n) hn
  · intro e
    unfold exec1 at e
    split at e
    · rename_i q hd
      split at e
      · rename_i h1
        obtain ⟨n, hn⟩ := ex_Lim e
        refine Lim_some.mpr ⟨n + 1, ?_⟩
        show exec1 (mrun n) m pc ls st h = some r
        unfold exec1
        rw [hd]
        show (if lenI q.1 = q.2 ∨ lenI q.1 = 0 then ex (mrun n) q.1 m pc ls st h else none) = some r
        rw [if_pos h1]
        exact hn
      · cases e
    · cases e
