/-! THE SMALL MACHINE: the methods' resolved code, run over a memory of cells by number; a call is a run of its own -/
/-- a cell: an object (class, fields), an array of ints (tag 0: int; 1: byte; 2: boolean; 5: int, read only), of longs, of references (the class of its elements) -/
abbrev zk_AC : Type := (Nat × List Value) ⊕ ((Nat × Nat × (Nat → Int32)) ⊕ ((Nat × (Nat → Int64)) ⊕ (Nat × Nat × (Nat → Option Nat))))
abbrev zk_M : Type := Nat → zk_AC
/-- the memory, how many cells, how many slots were made -/
abbrev zk_S : Type := zk_M × Nat × Nat
abbrev zk_R : Type := Option Value × zk_S
/-- resolved code: pc, the next pc, the instruction (operands resolved, targets absolute) -/
abbrev zk_C : Type := List (Nat × Nat × Instr)
abbrev zk_ob (ci : Nat) (fs : List Value) : zk_AC := .inl (ci, fs)
abbrev zk_ia (tag n : Nat) (f : Nat → Int32) : zk_AC := .inr (.inl (tag, n, f))
abbrev zk_la (n : Nat) (f : Nat → Int64) : zk_AC := .inr (.inr (.inl (n, f)))
abbrev zk_ra (ci n : Nat) (f : Nat → Option Nat) : zk_AC := .inr (.inr (.inr (ci, n, f)))
def zk_up (M : zk_M) (k : Nat) (c : zk_AC) : zk_M := fun j => if j = k then c else M j
theorem zk_up_s (M : zk_M) (k : Nat) (c : zk_AC) : zk_up M k c k = c := if_pos rfl
theorem zk_up_n {M : zk_M} {k j : Nat} {c : zk_AC} (h : j ≠ k) : zk_up M k c j = M j := if_neg h
/-- no cell -/
abbrev zk_no : zk_AC := .inl (99, [])
def zk_lk (pc : Nat) : zk_C → Option (Nat × Instr)
  | [] => none
  | (p, n, i) :: r => bif Nat.beq p pc then some (n, i) else zk_lk pc r
def zk_gf (s : zk_S) (a ci j : Nat) : Option Value := match s.1 a with
  | .inl (c, fs) => if c = ci then fs[j]? else none
  | .inr _ => none
def zk_gI (s : zk_S) (a ci j : Nat) : Option Int32 := match zk_gf s a ci j with
  | some (.int x) => some x
  | _ => none
def zk_gL (s : zk_S) (a ci j : Nat) : Option Int64 := match zk_gf s a ci j with
  | some (.long x) => some x
  | _ => none
def zk_gR (s : zk_S) (a ci j : Nat) : Option Nat := match zk_gf s a ci j with
  | some (.ref x) => some x
  | _ => none
def zk_pf (s : zk_S) (a ci j : Nat) (v : Value) : Option zk_S := match s.1 a with
  | .inl (c, fs) => if c = ci ∧ j < fs.length then some (zk_up s.1 a (.inl (c, fs.set j v)), s.2) else none
  | .inr _ => none
def zk_al (s : zk_S) (a : Nat) : Option Int32 := match s.1 a with
  | .inl _ => none
  | .inr (.inl (_, n, _)) => some (nI n)
  | .inr (.inr (.inl (n, _))) => some (nI n)
  | .inr (.inr (.inr (_, n, _))) => some (nI n)
def zk_ldI (s : zk_S) (a : Nat) (i : Int32) : Option Int32 := match s.1 a with
  | .inr (.inl (t, n, f)) => if (t = 0 ∨ t = 5) ∧ ¬ (i < 0 ∨ n ≤ i.toNatClampNeg) then some (f i.toNatClampNeg) else none
  | _ => none
def zk_ldB (s : zk_S) (a : Nat) (i : Int32) : Option Int32 := match s.1 a with
  | .inr (.inl (t, n, f)) => if (t = 1 ∨ t = 2) ∧ ¬ (i < 0 ∨ n ≤ i.toNatClampNeg) then some (f i.toNatClampNeg) else none
  | _ => none
def zk_ldL (s : zk_S) (a : Nat) (i : Int32) : Option Int64 := match s.1 a with
  | .inr (.inr (.inl (n, f))) => if ¬ (i < 0 ∨ n ≤ i.toNatClampNeg) then some (f i.toNatClampNeg) else none
  | _ => none
def zk_ldR (s : zk_S) (a : Nat) (i : Int32) : Option (Option Nat) := match s.1 a with
  | .inr (.inr (.inr (_, n, f))) => if ¬ (i < 0 ∨ n ≤ i.toNatClampNeg) then some (f i.toNatClampNeg) else none
  | _ => none
def zk_stI (s : zk_S) (a : Nat) (i x : Int32) : Option zk_S := match s.1 a with
  | .inr (.inl (t, n, f)) => if t = 0 ∧ ¬ (i < 0 ∨ n ≤ i.toNatClampNeg) then some (zk_up s.1 a (zk_ia t n (upd f i.toNatClampNeg x)), s.2) else none
  | _ => none
def zk_stZ (s : zk_S) (a : Nat) (i x : Int32) : Option zk_S := match s.1 a with
  | .inr (.inl (t, n, f)) => if t = 2 ∧ ¬ (i < 0 ∨ n ≤ i.toNatClampNeg) then some (zk_up s.1 a (zk_ia t n (upd f i.toNatClampNeg (x &&& 1))), s.2) else none
  | _ => none
def zk_stL (s : zk_S) (a : Nat) (i : Int32) (x : Int64) : Option zk_S := match s.1 a with
  | .inr (.inr (.inl (n, f))) => if ¬ (i < 0 ∨ n ≤ i.toNatClampNeg) then some (zk_up s.1 a (zk_la n (vp_updL f i.toNatClampNeg x)), s.2) else none
  | _ => none
def zk_stR (s : zk_S) (a : Nat) (i : Int32) (v : Nat) : Option zk_S := match s.1 a with
  | .inr (.inr (.inr (ci, n, f))) => match s.1 v with
    | .inl (c, _) => if c = ci ∧ ¬ (i < 0 ∨ n ≤ i.toNatClampNeg) then some (zk_up s.1 a (zk_ra ci n (va_up f i.toNatClampNeg (some v))), s.2) else none
    | .inr _ => none
  | _ => none
/-- a new cell of so many slots -/
def zk_nw (s : zk_S) (c : zk_AC) (w : Nat) : zk_S := (zk_up s.1 s.2.1 c, s.2.1 + 1, s.2.2 + w)
def zk_cI (r : Option zk_R) : Option (Int32 × zk_S) := r.bind fun p => match p with
  | (some (.int x), s) => some (x, s)
  | _ => none
def zk_cL (r : Option zk_R) : Option (Int64 × zk_S) := r.bind fun p => match p with
  | (some (.long x), s) => some (x, s)
  | _ => none
def zk_cV (r : Option zk_R) : Option zk_S := r.bind fun p => match p with
  | (none, s) => some s
  | _ => none
def zk_cR (r : Option zk_R) : Option (Option Nat × zk_S) := r.bind fun p => match p with
  | (some (.ref x), s) => some (some x, s)
  | (some .null, s) => some (none, s)
  | _ => none
/-- the receiver's class -/
def zk_rv (s : zk_S) (b ci : Nat) : Option Unit := match s.1 b with
  | .inl (c, _) => if c = ci then some () else none
  | .inr _ => none
/-- no long stands ahead of place n -/
def zk_nl (L : List Value) (n : Nat) : Bool := match n with
  | 0 => true
  | j + 1 => match L[j]? with
    | some (.long _) => false
    | some (.double _) => false
    | _ => true
def zk_sw {α : Type} (x : Int32) (d : Int) (k : Nat → Option α) : List (Int × Int) → Option α
  | [] => k d.toNat
  | (c, t) :: r => if x = Int32.ofInt c then k t.toNat else zk_sw x d k r
section
variable (df : Nat → List Value)
/-- a call's operand: the method's number, how many arguments, what it answers (0: nothing, 1: int, 2: long, 3: a reference), its class -/
def zk_inv (call : Nat → List Value → zk_S → Option zk_R) (nx : Nat) (L : List Value) (o : Nat) (as rest : List Value) (s : zk_S) (k : Nat → List Value → List Value → zk_S → Option zk_R) : Option zk_R :=
  bif Nat.ble (rest.map fun v => v.category).sum 8 then
    match o / 10000 % 10 with
    | 0 => (zk_cV (call (o % 1000) as s)).bind fun t => k nx L rest t
    | 1 => (zk_cI (call (o % 1000) as s)).bind fun p => k nx L (.int p.1 :: rest) p.2
    | 2 => (zk_cL (call (o % 1000) as s)).bind fun p => k nx L (.long p.1 :: rest) p.2
    | _ => (zk_cR (call (o % 1000) as s)).bind fun p => match p.1 with
      | some a => k nx L (.ref a :: rest) p.2
      | none => k nx L (.null :: rest) p.2
  else none
def zk_ins (call : Nat → List Value → zk_S → Option zk_R) (d : Nat) (i : Instr) (nx : Nat) (L S : List Value) (s : zk_S) (k : Nat → List Value → List Value → zk_S → Option zk_R) : Option zk_R :=
  match i with
  | .iload n => match L[n]? with
    | some (.int x) => k nx L (.int x :: S) s
    | _ => none
  | .lload n => match L[n]? with
    | some (.long x) => k nx L (.long x :: S) s
    | _ => none
  | .aload n => match L[n]? with
    | some (.ref a) => k nx L (.ref a :: S) s
    | some .null => k nx L (.null :: S) s
    | _ => none
  | .istore n => match S with
    | .int x :: S => bif zk_nl L n && Nat.blt n L.length then k nx (L.set n (.int x)) S s else none
    | _ => none
  | .lstore n => match S with
    | .long x :: S => bif zk_nl L n && Nat.blt (n + 1) L.length then k nx ((L.set n (.long x)).set (n + 1) (.retAddr 0)) S s else none
    | _ => none
  | .astore n => match S with
    | .ref a :: S => bif zk_nl L n && Nat.blt n L.length then k nx (L.set n (.ref a)) S s else none
    | .null :: S => bif zk_nl L n && Nat.blt n L.length then k nx (L.set n .null) S s else none
    | _ => none
  | .iconst v => k nx L (.int (Int32.ofInt v) :: S) s
  | .sipush v => k nx L (.long (Int64.ofInt v) :: S) s
  | .ldc e => k nx L (.ref e :: S) s
  | .aconst_null => k nx L (.null :: S) s
  | .dup => match S with
    | v :: S => bif Nat.beq v.category 1 then k nx L (v :: v :: S) s else none
    | _ => none
  | .dup2 => match S with
    | v :: w :: S => bif Nat.beq v.category 1 && Nat.beq w.category 1 then k nx L (v :: w :: v :: w :: S) s else none
    | _ => none
  | .pop => match S with
    | v :: S => bif Nat.beq v.category 1 then k nx L S s else none
    | _ => none
  | .iinc n c => match L[n]? with
    | some (.int x) => bif zk_nl L n && Nat.blt n L.length then k nx (L.set n (.int (x + Int32.ofInt c))) S s else none
    | _ => none
  | .iadd => match S with
    | .int y :: .int x :: S => k nx L (.int (x + y) :: S) s
    | _ => none
  | .isub => match S with
    | .int y :: .int x :: S => k nx L (.int (x - y) :: S) s
    | _ => none
  | .imul => match S with
    | .int y :: .int x :: S => k nx L (.int (x * y) :: S) s
    | _ => none
  | .idiv => match S with
    | .int y :: .int x :: S => if y = 0 then none else k nx L (.int (x / y) :: S) s
    | _ => none
  | .irem => match S with
    | .int y :: .int x :: S => if y = 0 then none else k nx L (.int (x - x / y * y) :: S) s
    | _ => none
  | .ineg => match S with
    | .int x :: S => k nx L (.int (-x) :: S) s
    | _ => none
  | .ishl => match S with
    | .int y :: .int x :: S => k nx L (.int (x <<< (y &&& 31)) :: S) s
    | _ => none
  | .ishr => match S with
    | .int y :: .int x :: S => k nx L (.int (x >>> (y &&& 31)) :: S) s
    | _ => none
  | .iushr => match S with
    | .int y :: .int x :: S => k nx L (.int ((x.toUInt32 >>> (y.toUInt32 &&& Int32.toUInt32 31)).toInt32) :: S) s
    | _ => none
  | .iand => match S with
    | .int y :: .int x :: S => k nx L (.int (x &&& y) :: S) s
    | _ => none
  | .ior => match S with
    | .int y :: .int x :: S => k nx L (.int (x ||| y) :: S) s
    | _ => none
  | .ixor => match S with
    | .int y :: .int x :: S => k nx L (.int (x ^^^ y) :: S) s
    | _ => none
  | .ladd => match S with
    | .long y :: .long x :: S => k nx L (.long (x + y) :: S) s
    | _ => none
  | .lsub => match S with
    | .long y :: .long x :: S => k nx L (.long (x - y) :: S) s
    | _ => none
  | .lmul => match S with
    | .long y :: .long x :: S => k nx L (.long (x * y) :: S) s
    | _ => none
  | .ldiv => match S with
    | .long y :: .long x :: S => if y = 0 then none else k nx L (.long (x / y) :: S) s
    | _ => none
  | .lrem => match S with
    | .long y :: .long x :: S => if y = 0 then none else k nx L (.long (x - x / y * y) :: S) s
    | _ => none
  | .land => match S with
    | .long y :: .long x :: S => k nx L (.long (x &&& y) :: S) s
    | _ => none
  | .lor => match S with
    | .long y :: .long x :: S => k nx L (.long (x ||| y) :: S) s
    | _ => none
  | .lshl => match S with
    | .int y :: .long x :: S => k nx L (.long (x <<< (y.toInt64 &&& 63)) :: S) s
    | _ => none
  | .lushr => match S with
    | .int y :: .long x :: S => k nx L (.long ((x.toUInt64 >>> (y.toInt64.toUInt64 &&& Int64.toUInt64 63)).toInt64) :: S) s
    | _ => none
  | .i2l => match S with
    | .int x :: S => k nx L (.long x.toInt64 :: S) s
    | _ => none
  | .l2i => match S with
    | .long x :: S => k nx L (.int x.toInt32 :: S) s
    | _ => none
  | .i2b => match S with
    | .int x :: S => k nx L (.int x.toInt8.toInt32 :: S) s
    | _ => none
  | .i2c => match S with
    | .int x :: S => k nx L (.int ((x.toUInt32 % 65536).toInt32) :: S) s
    | _ => none
  | .lcmp => match S with
    | .long y :: .long x :: S => k nx L (.int (lg_cmp x y) :: S) s
    | _ => none
  | .ifCond c t => match S with
    | .int x :: S => match c with
      | .eq => if x = 0 then k t.toNat L S s else k nx L S s
      | .ne => if x = 0 then k nx L S s else k t.toNat L S s
      | .lt => if x < 0 then k t.toNat L S s else k nx L S s
      | .ge => if x < 0 then k nx L S s else k t.toNat L S s
      | .gt => if 0 < x then k t.toNat L S s else k nx L S s
      | .le => if 0 < x then k nx L S s else k t.toNat L S s
    | _ => none
  | .if_icmp c t => match S with
    | .int y :: .int x :: S => match c with
      | .eq => if x = y then k t.toNat L S s else k nx L S s
      | .ne => if x = y then k nx L S s else k t.toNat L S s
      | .lt => if x < y then k t.toNat L S s else k nx L S s
      | .ge => if x < y then k nx L S s else k t.toNat L S s
      | .gt => if y < x then k t.toNat L S s else k nx L S s
      | .le => if y < x then k nx L S s else k t.toNat L S s
    | _ => none
  | .ifnull t => match S with
    | .ref _ :: S => k nx L S s
    | .null :: S => k t.toNat L S s
    | _ => none
  | .ifnonnull t => match S with
    | .ref _ :: S => k t.toNat L S s
    | .null :: S => k nx L S s
    | _ => none
  | .goto t => k t.toNat L S s
  | .lookupswitch dflt ps => match S with
    | .int x :: S => zk_sw x dflt (fun t => k t L S s) ps.toList
    | _ => none
  | .getstatic i => match i with
    | 0 => k nx L (.int 1 :: S) s
    | j + 1 => k nx L (.ref (j + 1) :: S) s
  | .getfield o => match S with
    | .ref a :: S => match o % 10 with
      | 0 => (zk_gI s a (o / 1000) (o / 10 % 100)).bind fun x => k nx L (.int x :: S) s
      | 1 => (zk_gL s a (o / 1000) (o / 10 % 100)).bind fun x => k nx L (.long x :: S) s
      | 2 => (zk_gR s a (o / 1000) (o / 10 % 100)).bind fun x => k nx L (.ref x :: S) s
      | _ => none
    | _ => none
  | .putfield o => match S with
    | .int x :: .ref a :: S => match o % 10 with
      | 0 => (zk_pf s a (o / 1000) (o / 10 % 100) (.int x)).bind fun t => k nx L S t
      | 3 => if x = 0 ∨ x = 1 then (zk_pf s a (o / 1000) (o / 10 % 100) (.int x)).bind fun t => k nx L S t else none
      | _ => none
    | .long x :: .ref a :: S => match o % 10 with
      | 1 => (zk_pf s a (o / 1000) (o / 10 % 100) (.long x)).bind fun t => k nx L S t
      | _ => none
    | .ref x :: .ref a :: S => match o % 10 with
      | 2 => (zk_pf s a (o / 1000) (o / 10 % 100) (.ref x)).bind fun t => k nx L S t
      | _ => none
    | _ => none
  | .arraylength => match S with
    | .ref a :: S => (zk_al s a).bind fun x => k nx L (.int x :: S) s
    | _ => none
  | .iaload => match S with
    | .int i :: .ref a :: S => (zk_ldI s a i).bind fun x => k nx L (.int x :: S) s
    | _ => none
  | .baload => match S with
    | .int i :: .ref a :: S => (zk_ldB s a i).bind fun x => k nx L (.int x :: S) s
    | _ => none
  | .laload => match S with
    | .int i :: .ref a :: S => (zk_ldL s a i).bind fun x => k nx L (.long x :: S) s
    | _ => none
  | .aaload => match S with
    | .int i :: .ref a :: S => (zk_ldR s a i).bind fun x => match x with
      | some b => k nx L (.ref b :: S) s
      | none => k nx L (.null :: S) s
    | _ => none
  | .iastore => match S with
    | .int x :: .int i :: .ref a :: S => (zk_stI s a i x).bind fun t => k nx L S t
    | _ => none
  | .bastore => match S with
    | .int x :: .int i :: .ref a :: S => (zk_stZ s a i x).bind fun t => k nx L S t
    | _ => none
  | .lastore => match S with
    | .long x :: .int i :: .ref a :: S => (zk_stL s a i x).bind fun t => k nx L S t
    | _ => none
  | .aastore => match S with
    | .ref v :: .int i :: .ref a :: S => (zk_stR s a i v).bind fun t => k nx L S t
    | _ => none
  | .new ci => k nx L (.ref s.2.1 :: S) (zk_nw s (zk_ob ci (df ci)) (df ci).length)
  | .newarray ty => match S with
    | .int n :: S => if n < 0 ∨ 100000 < n then none else match ty with
      | .int => k nx L (.ref s.2.1 :: S) (zk_nw s (zk_ia 0 n.toNatClampNeg (fun _ => 0)) n.toNatClampNeg)
      | .boolean => k nx L (.ref s.2.1 :: S) (zk_nw s (zk_ia 2 n.toNatClampNeg (fun _ => 0)) n.toNatClampNeg)
      | .long => k nx L (.ref s.2.1 :: S) (zk_nw s (zk_la n.toNatClampNeg (fun _ => 0)) n.toNatClampNeg)
      | _ => none
    | _ => none
  | .anewarray ci => match S with
    | .int n :: S => if n < 0 ∨ 100000 < n then none else k nx L (.ref s.2.1 :: S) (zk_nw s (zk_ra ci n.toNatClampNeg (fun _ => none)) n.toNatClampNeg)
    | _ => none
  | .invokestatic o => bif Nat.ble (o / 1000 % 10) S.length then zk_inv call nx L o (S.take (o / 1000 % 10)).reverse (S.drop (o / 1000 % 10)) s k else none
  | .invokevirtual o => bif Nat.ble (o / 1000 % 10) S.length then match (S.take (o / 1000 % 10)).reverse with
    | .ref b :: as => (zk_rv s b (o / 100000)).bind fun _ => zk_inv call nx L o (.ref b :: as) (S.drop (o / 1000 % 10)) s k
    | _ => none
    else none
  | .invokespecial o => match o with
    | 0 => match S with
      | .ref _ :: S => match d with
        | 0 => none
        | _ + 1 => bif Nat.ble (S.map fun v => v.category).sum 8 then k nx L S s else none
      | _ => none
    | o + 1 => bif Nat.ble ((o + 1) / 1000 % 10) S.length then match (S.take ((o + 1) / 1000 % 10)).reverse with
      | .ref b :: as => zk_inv call nx L (o + 1) (.ref b :: as) (S.drop ((o + 1) / 1000 % 10)) s k
      | _ => none
      else none
  | .ireturn => match S with
    | [.int x] => some (some (.int x), s)
    | _ => none
  | .ret 1 => match S with
    | [.int x] => some (some (.int (x &&& 1)), s)
    | _ => none
  | .ret 2 => match S with
    | [.int x] => some (some (.int x.toInt8.toInt32), s)
    | _ => none
  | .lreturn => match S with
    | [.long x] => some (some (.long x), s)
    | _ => none
  | .areturn => match S with
    | [.ref a] => some (some (.ref a), s)
    | [.null] => some (some .null, s)
    | _ => none
  | .return_ => match S with
    | [] => some (none, s)
    | _ => none
  | .athrow => match S with
    | [] => some (some (.retAddr 0), s)
    | _ => none
  | _ => none
end
