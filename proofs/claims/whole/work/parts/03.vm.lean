/-! A SMALL MACHINE over whole numbers: what the bytecode of this claim's methods does to locals, stack and cells, as a function. Values: int, long, reference (-1 null, -2 the script, else a cell's number), nothing. -/
abbrev vV : Type := Int ⊕ Int ⊕ Int ⊕ Unit
abbrev vI (x : Int) : vV := .inl x
abbrev vL (x : Int) : vV := .inr (.inl x)
abbrev vR (x : Int) : vV := .inr (.inr (.inl x))
abbrev vN : vV := .inr (.inr (.inr ()))
/-- a cell: an object of a class, or an array (0 int, 1 long, 2 byte, 3 4 5 of these) of a length -/
abbrev vSh : Type := Nat ⊕ (Nat × Nat)
abbrev vM : Type := Nat → Nat → Int
abbrev vH : Type := List vSh × vM
def vm_up (M : vM) (a k : Nat) (x : Int) : vM := fun b j => if b = a ∧ j = k then x else M b j
def vm_cat : vV → Nat
  | .inr (.inl _) => 2
  | _ => 1
def vm_cats (st : List vV) : Nat := (st.map vm_cat).sum
def vm_fk (c k : Nat) : Nat := (vm_fks.getD c []).getD k 0
def vm_nf (c : Nat) : Nat := (vm_fks.getD c []).length
/-- a value of a kind: 0 int, 1 long, 2 reference, 3 boolean, 4 byte -/
def vm_tv (t : Nat) (x : Int) : vV := match t with
  | 1 => vL x
  | 2 => vR x
  | _ => vI x
def vm_ty (sh : vSh) (k : Nat) : Nat := match sh with
  | .inl c => vm_fk c k
  | .inr (0, _) => 0
  | .inr (1, _) => 1
  | .inr (2, _) => 4
  | .inr _ => 2
def vm_size (sh : vSh) : Nat := match sh with
  | .inl c => vm_nf c
  | .inr (_, n) => n
def vm_sz (S : List vSh) : Nat := (S.map vm_size).sum
/-- a new cell's contents -/
def vm_new (M : vM) (a : Nat) (sh : vSh) : vM := fun b k => if b = a then (if vm_ty sh k = 2 then -1 else 0) else M b k
def vm_newm (M : vM) (a N : Nat) : vM := fun b k => if b = a then (if k < N then ((a + 1 + k : Nat) : Int) else -1) else if a < b ∧ b ≤ a + N then 0 else M b k
def vm_cpy (M : vM) (s d : Nat) (sp dp n : Nat) : vM := fun b k => if b = d ∧ dp ≤ k ∧ k < dp + n then M s (sp + (k - dp)) else M b k
-- locals
def vm_kill (ls : List vV) (k : Nat) : List vV := match k with
  | 0 => ls
  | j + 1 => match ls[j]? with
    | some (.inr (.inl _)) => ls.set j vN
    | _ => ls
def vm_put1 (ls : List vV) (k : Nat) (v : vV) : List vV := (vm_kill ls k).set k v
def vm_put2 (ls : List vV) (k : Nat) (v : vV) : List vV := ((vm_kill ls k).set k v).set (k + 1) vN
def vm_wide (as : List vV) : List vV := as.flatMap (fun v => if vm_cat v = 2 then [v, vN] else [v])
def vm_init (n : Nat) (as : List vV) : List vV := vm_wide as ++ List.replicate (n - (vm_wide as).length) vN
-- tables
def vm_m (j : Nat) : vm_T := vm_ms.getD j (0, x, code, 0, none, 0)
def vm_own (j : Nat) : Nat := (vm_m j).1
def vm_y (j : Nat) : MethodName := (vm_m j).2.1
def vm_cd (j : Nat) : ByteArray := (vm_m j).2.2.1
def vm_mx (j : Nat) : Nat := (vm_m j).2.2.2.1
def vm_rt (j : Nat) : Option FieldType := (vm_m j).2.2.2.2.1
def vm_cn' (o : Nat) : String := vm_cls.getD o ""
-- results of one step: an answer, a call, the next state
abbrev vRes : Type := Option (Option vV ⊕ (Nat × List vV × List vV) ⊕ (Nat × List vV × List vV × vH))
def vm_nx (pc : Nat) (ls st : List vV) (hp : vH) : vRes := some (.inr (.inr (pc, ls, st, hp)))
def vm_bi (f : Int32 → Int32 → Int32) (pc : Nat) (ls st : List vV) (hp : vH) : vRes := match st with
  | .inl y :: .inl x :: r => vm_nx (pc + 1) ls (vI (f (Int32.ofInt x) (Int32.ofInt y)).toInt :: r) hp
  | _ => none
def vm_bl (f : Int64 → Int64 → Int64) (pc : Nat) (ls st : List vV) (hp : vH) : vRes := match st with
  | .inr (.inl y) :: .inr (.inl x) :: r => vm_nx (pc + 1) ls (vL (f (Int64.ofInt x) (Int64.ofInt y)).toInt :: r) hp
  | _ => none
def vm_bs (f : Int64 → Int32 → Int64) (pc : Nat) (ls st : List vV) (hp : vH) : vRes := match st with
  | .inl y :: .inr (.inl x) :: r => vm_nx (pc + 1) ls (vL (f (Int64.ofInt x) (Int32.ofInt y)).toInt :: r) hp
  | _ => none
def vm_load (n : Nat) (pc k : Nat) (ls st : List vV) (hp : vH) (t : Nat) : vRes := match ls[k]?, t with
  | some (.inl x), 0 => vm_nx (pc + n) ls (vI x :: st) hp
  | some (.inr (.inl x)), 1 => vm_nx (pc + n) ls (vL x :: st) hp
  | some (.inr (.inr (.inl x))), 2 => vm_nx (pc + n) ls (vR x :: st) hp
  | _, _ => none
def vm_store (n : Nat) (pc k : Nat) (ls st : List vV) (hp : vH) (t : Nat) : vRes := match st, t with
  | .inl x :: r, 0 => if k < ls.length then vm_nx (pc + n) (vm_put1 ls k (vI x)) r hp else none
  | .inr (.inl x) :: r, 1 => if k + 1 < ls.length then vm_nx (pc + n) (vm_put2 ls k (vL x)) r hp else none
  | .inr (.inr (.inl x)) :: r, 2 => if k < ls.length then vm_nx (pc + n) (vm_put1 ls k (vR x)) r hp else none
  | _, _ => none
def vm_cmp (c : ClassFile.Cond) (x y : Int) : Bool := match c with
  | .eq => decide (x = y)
  | .ne => decide (¬ x = y)
  | .lt => decide (x < y)
  | .ge => decide (y ≤ x)
  | .gt => decide (y < x)
  | .le => decide (x ≤ y)
def vm_br (c : Bool) (pc : Nat) (off : Int) (ls st : List vV) (hp : vH) : vRes := if 0 ≤ (pc : Int) + off then vm_nx (if c = true then ((pc : Int) + off).toNat else pc + 3) ls st hp else none
/-- an array's cell: its kind and length -/
def vm_ar (S : List vSh) (r : Int) : Option (Nat × Nat × Nat) := if r < 0 then none else match S[r.toNat]? with
  | some (.inr (t, n)) => some (r.toNat, t, n)
  | _ => none
def vm_ald (t t' : Nat) (xs : Nat → Int) (L : Nat) (pc : Nat) (ls st : List vV) (hp : vH) : vRes := match st with
  | .inl i :: .inr (.inr (.inl r)) :: rest =>
    if r = -2 then (if t = 0 ∧ 0 ≤ i ∧ i < L then vm_nx (pc + 1) ls (vI (xs i.toNat) :: rest) hp else none)
    else match vm_ar hp.1 r with
      | some (a, u, n) => if (u = t ∨ u = t') ∧ 0 ≤ i ∧ i < n then vm_nx (pc + 1) ls (vm_tv (vm_ty (.inr (u, n)) 0) (hp.2 a i.toNat) :: rest) hp else none
      | _ => none
  | _ => none
def vm_len (L : Nat) (pc : Nat) (ls st : List vV) (hp : vH) : vRes := match st with
  | .inr (.inr (.inl r)) :: rest =>
    if r = -2 then vm_nx (pc + 1) ls (vI L :: rest) hp
    else match vm_ar hp.1 r with
      | some (_, u, n) => if n ≤ 4096 ∧ u < 6 then vm_nx (pc + 1) ls (vI n :: rest) hp else none
      | _ => none
  | _ => none
def vm_aald (pc : Nat) (ls st : List vV) (hp : vH) : vRes := match st with
  | .inl i :: .inr (.inr (.inl r)) :: rest => match vm_ar hp.1 r with
      | some (a, u, n) => if (u = 3 ∨ u = 4 ∨ u = 5) ∧ 0 ≤ i ∧ i < n then vm_nx (pc + 1) ls (vR (hp.2 a i.toNat) :: rest) hp else none
      | _ => none
  | _ => none
def vm_asti (t : Nat) (pc : Nat) (ls st : List vV) (hp : vH) : vRes := match st with
  | .inl x :: .inl i :: .inr (.inr (.inl r)) :: rest => match vm_ar hp.1 r with
      | some (a, u, n) => if u = t ∧ 0 ≤ i ∧ i < n then vm_nx (pc + 1) ls rest (hp.1, vm_up hp.2 a i.toNat (if t = 2 then (Int32.ofInt x).toInt8.toInt32.toInt else x)) else none
      | _ => none
  | _ => none
def vm_astl (pc : Nat) (ls st : List vV) (hp : vH) : vRes := match st with
  | .inr (.inl x) :: .inl i :: .inr (.inr (.inl r)) :: rest => match vm_ar hp.1 r with
      | some (a, u, n) => if u = 1 ∧ 0 ≤ i ∧ i < n then vm_nx (pc + 1) ls rest (hp.1, vm_up hp.2 a i.toNat x) else none
      | _ => none
  | _ => none
def vm_obj (S : List vSh) (r : Int) (c : Nat) : Bool := decide (0 ≤ r ∧ S[r.toNat]? = some (.inl c))
def vm_getf (own pc idx : Nat) (ls st : List vV) (hp : vH) : vRes := match st, vm_fl.lookup (own, idx) with
  | .inr (.inr (.inl r)) :: rest, some (c, k, _) => if vm_obj hp.1 r c = true then vm_nx (pc + 3) ls (vm_tv (vm_fk c k) (hp.2 r.toNat k) :: rest) hp else none
  | _, _ => none
/-- whether a value fits a slot's kind, and its number -/
def vm_fit (t : Nat) (v : vV) : Option Int := match v, t with
  | .inl x, 0 => some x
  | .inr (.inl x), 1 => some x
  | .inr (.inr (.inl x)), 2 => if 0 ≤ x then some x else none
  | .inl x, 3 => if x = 0 ∨ x = 1 then some x else none
  | _, _ => none
def vm_putf (isInit : Bool) (own pc idx : Nat) (ls st : List vV) (hp : vH) (fin : Nat → Nat → Bool × Bool) : vRes := match st, vm_fl.lookup (own, idx) with
  | v :: .inr (.inr (.inl r)) :: rest, some (c, k, _) => match vm_fit (vm_fk c k) v with
    | some z => if vm_obj hp.1 r c = true ∧ ((fin c k).1 = false ∨ (isInit = true ∧ (fin c k).2 = true)) then vm_nx (pc + 3) ls rest (hp.1, vm_up hp.2 r.toNat k z) else none
    | none => none
  | _, _ => none
/-- the tables of the fields: class, its fields, types, how many -/
def vm_F (c : Nat) : vw_C := vwCl.getD c ("", fun _ => ("", "", "", false), 0)
def vm_fin (own : Nat) (c k : Nat) : Bool × Bool := (((vm_F c).2.1 k).2.2.2, ((vm_F c).2.1 k).1 == vm_cn' own)
def vm_refs (st : List vV) (na : Nat) : Option (List vV × List vV) := if na ≤ st.length then some ((st.take na).reverse, st.drop na) else none
def vm_inv (op : Nat) (own pc idx : Nat) (ls st : List vV) (hp : vH) : vRes := match vm_ml.lookup (own, idx) with
  | some (kind, j, na, _) =>
    if kind = 6 then
      (if op = 1 then match st with
        | .inl n :: .inl dp :: .inr (.inr (.inl d)) :: .inl sp :: .inr (.inr (.inl s)) :: rest => match vm_ar hp.1 s, vm_ar hp.1 d with
          | some (a, 2, n0), some (a', 2, n1) => if 0 ≤ n ∧ 0 ≤ dp ∧ 0 ≤ sp ∧ sp + n ≤ n0 ∧ dp + n ≤ n1 ∧ vm_cats rest ≤ 8 then vm_nx (pc + 3) ls rest (hp.1, vm_cpy hp.2 a a' sp.toNat dp.toNat n.toNat) else none
          | _, _ => none
        | _ => none
       else none)
    else if kind = 5 then
      (if op = 2 then match st with
        | .inr (.inr (.inl r)) :: rest => if 0 ≤ r ∧ vm_cats rest ≤ 8 then vm_nx (pc + 3) ls rest hp else none
        | _ => none
       else none)
    else match vm_refs st na with
      | some (as, rest) =>
        if kind = 1 ∨ kind = 3 then (if op = 1 ∧ vm_cats rest ≤ 8 then some (.inr (.inl (j, as, rest))) else none)
        else match rest with
          | .inr (.inr (.inl r)) :: rest =>
            if vm_cats rest ≤ 8 ∧ 0 ≤ r then
              (if kind = 0 then (match hp.1[r.toNat]? with | some (.inl c) => (if op = 0 ∧ c < 12 ∧ (vm_F c).1 = (vm_y j).cls then some (.inr (.inl (j, vR r :: as, rest))) else none) | _ => none)
               else if op = 2 then some (.inr (.inl (j, vR r :: as, rest))) else none)
            else none
          | _ => none
      | none => none
  | none => none
def vm_ret (j : Nat) (st : List vV) (hp : vH) (t : Nat) : vRes := match st, t with
  | [.inl x], 0 => if vm_rt j = some .int then some (.inl (some (vI x))) else if vm_rt j = some .boolean then (if x = 0 ∨ x = 1 then some (.inl (some (vI x))) else none) else none
  | [.inr (.inl x)], 1 => if vm_rt j = some .long then some (.inl (some (vL x))) else none
  | [], 2 => if vm_rt j = none then some (.inl none) else none
  | _, _ => none
def vm_new' (own pc idx : Nat) (ls st : List vV) (hp : vH) : vRes := match vm_nw.lookup (own, idx) with
  | some (c, _) => vm_nx (pc + 3) ls (vR hp.1.length :: st) (hp.1 ++ [.inl c], vm_new hp.2 hp.1.length (.inl c))
  | none => none
def vm_newa (atype : ArrayType) (pc : Nat) (ls st : List vV) (hp : vH) : vRes := match st, (match atype with | .int => some 0 | .long => some 1 | .byte => some 2 | _ => none : Option Nat) with
  | .inl n :: rest, some t => if 0 ≤ n ∧ n ≤ 4096 then vm_nx (pc + 2) ls (vR hp.1.length :: rest) (hp.1 ++ [.inr (t, n.toNat)], vm_new hp.2 hp.1.length (.inr (t, n.toNat))) else none
  | _, _ => none
def vm_newn (own pc idx d : Nat) (ls st : List vV) (hp : vH) : vRes := match st, vm_mn.lookup (own, idx) with
  | .inl k :: .inl n :: rest, some (t, _) => if d = 2 ∧ 0 ≤ n ∧ n ≤ 4096 ∧ 0 ≤ k ∧ k ≤ 4096 then vm_nx (pc + 4) ls (vR hp.1.length :: rest) ((hp.1 ++ [.inr (t, n.toNat)]) ++ List.replicate n.toNat (.inr (t - 3, k.toNat)), vm_newm hp.2 hp.1.length n.toNat) else none
  | _, _ => none
/-- one instruction -/
def vm_i (xs : Nat → Int) (L j pc : Nat) (ls st : List vV) (hp : vH) (i : Instr) (len : Nat) : vRes := match i with
  | .iconst n => vm_nx (pc + 1) ls (vI (Int32.ofInt n).toInt :: st) hp
  | .bipush n => vm_nx (pc + 2) ls (vI (Int8.ofInt n).toInt32.toInt :: st) hp
  | .sipush n => vm_nx (pc + 3) ls (vI (Int16.ofInt n).toInt32.toInt :: st) hp
  | .lconst n => vm_nx (pc + 1) ls (vL (Int64.ofNat n).toInt :: st) hp
  | .ldc idx => (match vm_cn.lookup (vm_own j, idx) with | some (0, v, _) => vm_nx (pc + 2) ls (vI (Int32.ofInt v).toInt :: st) hp | _ => none)
  | .ldc_w idx => (match vm_cn.lookup (vm_own j, idx) with | some (0, v, _) => vm_nx (pc + 3) ls (vI (Int32.ofInt v).toInt :: st) hp | _ => none)
  | .ldc2_w idx => (match vm_cn.lookup (vm_own j, idx) with | some (1, v, _) => vm_nx (pc + 3) ls (vL (Int64.ofInt v).toInt :: st) hp | _ => none)
  | .iload k => vm_load 2 pc k ls st hp 0
  | .iload_n k => vm_load 1 pc k ls st hp 0
  | .lload k => vm_load 2 pc k ls st hp 1
  | .lload_n k => vm_load 1 pc k ls st hp 1
  | .aload k => vm_load 2 pc k ls st hp 2
  | .aload_n k => vm_load 1 pc k ls st hp 2
  | .istore k => vm_store 2 pc k ls st hp 0
  | .istore_n k => vm_store 1 pc k ls st hp 0
  | .lstore k => vm_store 2 pc k ls st hp 1
  | .lstore_n k => vm_store 1 pc k ls st hp 1
  | .astore k => vm_store 2 pc k ls st hp 2
  | .astore_n k => vm_store 1 pc k ls st hp 2
  | .iinc k n => (match ls[k]? with | some (.inl x) => vm_nx (pc + 3) (vm_put1 ls k (vI (Int32.ofInt x + Int32.ofInt n).toInt)) st hp | _ => none)
  | .iadd => vm_bi (fun x y => x + y) pc ls st hp
  | .isub => vm_bi (fun x y => x - y) pc ls st hp
  | .imul => vm_bi (fun x y => x * y) pc ls st hp
  | .iand => vm_bi (fun x y => x &&& y) pc ls st hp
  | .ixor => vm_bi (fun x y => x ^^^ y) pc ls st hp
  | .ishl => vm_bi (fun x y => x <<< (y &&& 31)) pc ls st hp
  | .ishr => vm_bi (fun x y => x >>> (y &&& 31)) pc ls st hp
  | .iushr => vm_bi (fun x y => (x.toUInt32 >>> (y.toUInt32 &&& Int32.toUInt32 31)).toInt32) pc ls st hp
  | .idiv => (match st with | .inl 0 :: _ => none | _ => vm_bi (fun x y => x / y) pc ls st hp)
  | .irem => (match st with | .inl 0 :: _ => none | _ => vm_bi (fun x y => x - x / y * y) pc ls st hp)
  | .ineg => (match st with | .inl x :: r => vm_nx (pc + 1) ls (vI (-Int32.ofInt x).toInt :: r) hp | _ => none)
  | .ladd => vm_bl (fun x y => x + y) pc ls st hp
  | .lsub => vm_bl (fun x y => x - y) pc ls st hp
  | .lmul => vm_bl (fun x y => x * y) pc ls st hp
  | .land => vm_bl (fun x y => x &&& y) pc ls st hp
  | .lor => vm_bl (fun x y => x ||| y) pc ls st hp
  | .lshl => vm_bs (fun x y => x <<< (y.toInt64 &&& 63)) pc ls st hp
  | .lshr => vm_bs (fun x y => x >>> (y.toInt64 &&& 63)) pc ls st hp
  | .lushr => vm_bs (fun x y => (x.toUInt64 >>> (y.toInt64.toUInt64 &&& Int64.toUInt64 63)).toInt64) pc ls st hp
  | .ldiv => (match st with | .inr (.inl 0) :: _ => none | _ => vm_bl (fun x y => x / y) pc ls st hp)
  | .lrem => (match st with | .inr (.inl 0) :: _ => none | _ => vm_bl (fun x y => x - x / y * y) pc ls st hp)
  | .lneg => (match st with | .inr (.inl x) :: r => vm_nx (pc + 1) ls (vL (-Int64.ofInt x).toInt :: r) hp | _ => none)
  | .lcmp => (match st with | .inr (.inl y) :: .inr (.inl x) :: r => vm_nx (pc + 1) ls (vI (if y < x then 1 else if x = y then 0 else -1) :: r) hp | _ => none)
  | .i2l => (match st with | .inl x :: r => vm_nx (pc + 1) ls (vL x :: r) hp | _ => none)
  | .l2i => (match st with | .inr (.inl x) :: r => vm_nx (pc + 1) ls (vI (Int64.ofInt x).toInt32.toInt :: r) hp | _ => none)
  | .i2b => (match st with | .inl x :: r => vm_nx (pc + 1) ls (vI (Int32.ofInt x).toInt8.toInt32.toInt :: r) hp | _ => none)
  | .dup => (match st with | v :: r => if vm_cat v = 1 then vm_nx (pc + 1) ls (v :: v :: r) hp else none | _ => none)
  | .dup2 => (match st with | v :: w :: r => if vm_cat v = 1 ∧ vm_cat w = 1 then vm_nx (pc + 1) ls (v :: w :: v :: w :: r) hp else none | _ => none)
  | .pop2 => (match st with | v :: r => if vm_cat v = 2 then vm_nx (pc + 1) ls r hp else none | _ => none)
  | .ifCond c off => (match st with | .inl x :: r => vm_br (vm_cmp c x 0) pc off ls r hp | _ => none)
  | .if_icmp c off => (match st with | .inl y :: .inl x :: r => vm_br (vm_cmp c x y) pc off ls r hp | _ => none)
  | .goto off => vm_br true pc off ls st hp
  | .tableswitch dflt lo hi offs => (match st with
    | .inl x :: r => if x < lo ∨ hi < x then vm_br true pc dflt ls r hp else match offs[(x - lo).toNat]? with | some off => vm_br true pc off ls r hp | none => none
    | _ => none)
  | .getfield idx => vm_getf (vm_own j) pc idx ls st hp
  | .putfield idx => vm_putf ((vm_y j).name == "<init>") (vm_own j) pc idx ls st hp (vm_fin (vm_own j))
  | .iaload => vm_ald 0 0 xs L pc ls st hp
  | .laload => vm_ald 1 1 xs L pc ls st hp
  | .baload => vm_ald 2 2 xs L pc ls st hp
  | .aaload => vm_aald pc ls st hp
  | .arraylength => vm_len L pc ls st hp
  | .iastore => vm_asti 0 pc ls st hp
  | .bastore => vm_asti 2 pc ls st hp
  | .lastore => vm_astl pc ls st hp
  | .new idx => vm_new' (vm_own j) pc idx ls st hp
  | .newarray t => vm_newa t pc ls st hp
  | .multianewarray idx d => vm_newn (vm_own j) pc idx d ls st hp
  | .invokevirtual idx => vm_inv 0 (vm_own j) pc idx ls st hp
  | .invokestatic idx => vm_inv 1 (vm_own j) pc idx ls st hp
  | .invokespecial idx => vm_inv 2 (vm_own j) pc idx ls st hp
  | .ireturn => vm_ret j st hp 0
  | .lreturn => vm_ret j st hp 1
  | .return_ => vm_ret j st hp 2
  | _ => none
/-- how long an instruction is -/
def vm_il (i : Instr) (len : Nat) : Nat := match i with
  | .bipush _ | .ldc _ | .iload _ | .lload _ | .aload _ | .istore _ | .lstore _ | .astore _ | .newarray _ => 2
  | .sipush _ | .ldc_w _ | .ldc2_w _ | .iinc _ _ | .ifCond _ _ | .if_icmp _ _ | .goto _ | .getfield _ | .putfield _ | .new _ | .invokevirtual _ | .invokestatic _ | .invokespecial _ => 3
  | .multianewarray _ _ => 4
  | .tableswitch _ _ _ _ => len
  | _ => 1
/-- only returns answer, only invokes call -/
def vm_go (i : Instr) (q : vRes) : vRes := match q with
  | some (.inl r) => (match i with
    | .ireturn => some (.inl r)
    | .lreturn => some (.inl r)
    | .return_ => some (.inl r)
    | _ => none)
  | some (.inr (.inl r)) => (match i with
    | .invokevirtual _ => some (.inr (.inl r))
    | .invokestatic _ => some (.inr (.inl r))
    | .invokespecial _ => some (.inr (.inl r))
    | _ => none)
  | q => q
def vm_do (xs : Nat → Int) (L j pc : Nat) (ls st : List vV) (hp : vH) : vRes := match decode (vm_cd j) pc with
  | .ok (i, len) => if vm_il i len = len then vm_go i (vm_i xs L j pc ls st hp i len) else none
  | _ => none
abbrev vO : Type := Nat → List vV → vH → Option (Option vV × vH)
def vm_run (xs : Nat → Int) (L : Nat) (orc : vO) : Nat → Nat → Nat → List vV → List vV → vH → Option (Option vV × vH)
  | 0, _, _, _, _, _ => none
  | n + 1, j, pc, ls, st, hp => match vm_do xs L j pc ls st hp with
    | none => none
    | some (.inl r) => some (r, hp)
    | some (.inr (.inl (j', as, rest))) => match orc j' as hp with
      | none => none
      | some (r, hp1) => if hp.1.length ≤ hp1.1.length ∧ vm_sz hp.1 ≤ vm_sz hp1.1 then vm_run xs L orc n j (pc + 3) ls (r.toList ++ rest) hp1 else none
    | some (.inr (.inr (pc', ls', st', hp'))) => if hp.1.length ≤ hp'.1.length ∧ vm_sz hp.1 ≤ vm_sz hp'.1 then vm_run xs L orc n j pc' ls' st' hp' else none
def vm_call (xs : Nat → Int) (L : Nat) : Nat → Nat → vO
  | 0, _ => fun _ _ _ => none
  | d + 1, n => fun j as hp => if j < vm_jl ∧ (vm_wide as).length ≤ vm_mx j then vm_run xs L (vm_call xs L d n) n j 0 (vm_init (vm_mx j) as) [] hp else none
