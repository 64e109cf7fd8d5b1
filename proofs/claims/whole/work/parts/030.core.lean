/-! THE PURE MACHINE: a value is an int, a long, or a reference (a tag and a number); a heap is what stands at (number, place); an operation is an instruction with what it links, worked out -/
abbrev xV : Type := Int32 ⊕ (Int64 ⊕ (Nat × Nat))
abbrev xI (x : Int32) : xV := Sum.inl x
abbrev xL (x : Int64) : xV := Sum.inr (Sum.inl x)
abbrev xR (t o : Nat) : xV := Sum.inr (Sum.inr (t, o))
abbrev xH : Type := Nat → Nat → Int32
abbrev xO : Type := Option (Int32 × xH)
/-- instruction; next place; a, b, c, d: what it links; its constant; a switch's rows -/
abbrev xOp : Type := Instr × Nat × Nat × Nat × Nat × Nat × Int32 × List (Int32 × Nat)
/-- lengths of arrays; a constant array's length, its contents; a text's length, its bytes; which text stands in an array of texts -/
abbrev xX : Type := (Nat → Nat) × (Nat → Nat) × (Nat → Nat → Int32) × (Nat → Nat) × (Nat → Nat → Int32) × (Nat → Nat → Nat)
def xup (h : xH) (o k : Nat) (v : Int32) : xH := fun p q => if p = o ∧ q = k then v else h p q
def xcp (h : xH) (a i b j n : Nat) : xH := fun p q => if p = b ∧ j ≤ q ∧ q < j + n then h a (i + (q - j)) else h p q
def xget : List (Option xV) → Nat → Option xV
  | [], _ => none
  | a :: _, 0 => a
  | _ :: l, n + 1 => xget l n
def xset : List (Option xV) → Nat → Option xV → List (Option xV)
  | [], _, _ => []
  | _ :: l, 0, v => v :: l
  | a :: l, n + 1, v => a :: xset l n v
/-- does a long end where this place begins -/
def xlg : List (Option xV) → Nat → Bool
  | [], _ => false
  | _ :: _, 0 => false
  | a :: l, n + 1 => match n, a with
    | 0, some (.inr (.inl _)) => true
    | 0, _ => false
    | _ + 1, _ => xlg l n
def xtk : Nat → List xV → List xV → Option (List xV × List xV)
  | 0, acc, st => some (acc, st)
  | _ + 1, _, [] => none
  | n + 1, acc, v :: st => xtk n (v :: acc) st
def xbd (o : xO) (f : Int32 → xH → xO) : xO := match o with
  | none => none
  | some r => f r.1 r.2
def xbr (cd : Jvm.ClassFile.Cond) (x y : Int32) (T F : xO) : xO := match cd with
  | .eq => if x = y then T else F
  | .ne => if x = y then F else T
  | .lt => if x < y then T else F
  | .ge => if x < y then F else T
  | .gt => if y < x then T else F
  | .le => if y < x then F else T
def xsw (x : Int32) (k : Nat → xO) (d : Nat) : List (Int32 × Nat) → xO
  | [] => k d
  | (v, t) :: l => if x = v then k t else xsw x k d l
/-- the receiver's tag (0: none is asked) -/
def xrc : Nat → List xV → Bool
  | 0, _ => true
  | d + 1, .inr (.inr (t, _)) :: _ => Nat.beq t (d + 1)
  | _ + 1, _ => false
/-- so few stand on the stack -/
def xfit : Nat → List xV → Bool
  | _, [] => true
  | 0, _ :: _ => false
  | n + 1, _ :: l => xfit n l
def xb01 (x : Int32) : Bool := decide (x = 0) || decide (x = 1)
def xch (x : Int32) : Int32 := (x.toUInt32 % 65536).toInt32
def xs1 (st : List xV) (f : Int32 → List xV → xO) : xO := match st with
  | .inl x :: st => f x st
  | _ => none
def xs2 (st : List xV) (f : Int32 → Int32 → List xV → xO) : xO := match st with
  | .inl y :: .inl x :: st => f y x st
  | _ => none
def xsL (st : List xV) (f : Int64 → List xV → xO) : xO := match st with
  | .inr (.inl x) :: st => f x st
  | _ => none
def xsLL (st : List xV) (f : Int64 → Int64 → List xV → xO) : xO := match st with
  | .inr (.inl y) :: .inr (.inl x) :: st => f y x st
  | _ => none
def xsIL (st : List xV) (f : Int32 → Int64 → List xV → xO) : xO := match st with
  | .inl y :: .inr (.inl x) :: st => f y x st
  | _ => none
def xsR (st : List xV) (f : Nat → Nat → List xV → xO) : xO := match st with
  | .inr (.inr (t, o)) :: st => f t o st
  | _ => none
def xsIR (st : List xV) (f : Int32 → Nat → Nat → List xV → xO) : xO := match st with
  | .inl x :: .inr (.inr (t, o)) :: st => f x t o st
  | _ => none
def xsIIR (st : List xV) (f : Int32 → Int32 → Nat → Nat → List xV → xO) : xO := match st with
  | .inl x :: .inl i :: .inr (.inr (t, o)) :: st => f x i t o st
  | _ => none
def xsCp (st : List xV) (f : Int32 → Int32 → Nat → Nat → Int32 → Nat → Nat → List xV → xO) : xO := match st with
  | .inl n :: .inl e :: .inr (.inr (t1, o1)) :: .inl g :: .inr (.inr (t0, o0)) :: st => f n e t1 o1 g t0 o0 st
  | _ => none
def xsD (st : List xV) (f : Int32 → List xV → xO) (g : Nat → Nat → List xV → xO) : xO := match st with
  | .inl x :: st => f x st
  | .inr (.inr (t, o)) :: st => g t o st
  | _ => none
def xsE (st : List xV) (o : xO) : xO := match st with
  | [] => o
  | _ => none
def xlI (ls : List (Option xV)) (a : Nat) (f : Int32 → xO) : xO := match xget ls a with
  | some (.inl x) => f x
  | _ => none
def xlL (ls : List (Option xV)) (a : Nat) (f : Int64 → xO) : xO := match xget ls a with
  | some (.inr (.inl x)) => f x
  | _ => none
def xlR (ls : List (Option xV)) (a : Nat) (f : Nat → Nat → xO) : xO := match xget ls a with
  | some (.inr (.inr (t, o))) => f t o
  | _ => none
def xgd (b : Bool) (o : xO) : xO := bif b then o else none
def xnb (i : Int32) (n : Nat) (o : xO) : xO := if i < 0 ∨ n ≤ i.toNatClampNeg then none else o
def xcl (o : Option (List xV × List xV)) (f : List xV → List xV → xO) : xO := match o with
  | none => none
  | some r => f r.1 r.2
/-- one operation; k: what goes on behind it -/
def xstp (X : xX) (cl : Nat → List xV → xH → xO) (op : xOp) (ls : List (Option xV)) (st : List xV) (h : xH) (k : Nat → List (Option xV) → List xV → xH → xO) : xO :=
  match op with
  | (i, nx, a, b, c, d, z, sw) =>
    match i with
    | .iconst _ => k nx ls (xI z :: st) h
    | .bipush _ => k nx ls (xI z :: st) h
    | .sipush _ => k nx ls (xI z :: st) h
    | .ldc _ => k nx ls (xR 5 b :: st) h
    | .ldc_w _ => k nx ls (xR 5 b :: st) h
    | .ldc2_w _ => k nx ls (xL (Int64.ofNat a) :: st) h
    | .iload_n _ => xlI ls a fun x => k nx ls (xI x :: st) h
    | .iload _ => xlI ls a fun x => k nx ls (xI x :: st) h
    | .lload_n _ => xlL ls a fun x => k nx ls (xL x :: st) h
    | .aload_n _ => xlR ls a fun t o => xgd (!Nat.beq t 0) (k nx ls (xR t o :: st) h)
    | .aload _ => xlR ls a fun t o => xgd (!Nat.beq t 0) (k nx ls (xR t o :: st) h)
    | .istore_n _ => xs1 st fun x st => xgd (!xlg ls a) (k nx (xset ls a (some (xI x))) st h)
    | .istore _ => xs1 st fun x st => xgd (!xlg ls a) (k nx (xset ls a (some (xI x))) st h)
    | .astore_n _ => xsR st fun t o st => xgd (!Nat.beq t 0 && !xlg ls a) (k nx (xset ls a (some (xR t o))) st h)
    | .astore _ => xsR st fun t o st => xgd (!Nat.beq t 0 && !xlg ls a) (k nx (xset ls a (some (xR t o))) st h)
    | .iinc _ _ => xlI ls a fun x => xgd (!xlg ls a) (k nx (xset ls a (some (xI (x + z)))) st h)
    | .iadd => xs2 st fun y x st => k nx ls (xI (x + y) :: st) h
    | .isub => xs2 st fun y x st => k nx ls (xI (x - y) :: st) h
    | .imul => xs2 st fun y x st => k nx ls (xI (x * y) :: st) h
    | .iand => xs2 st fun y x st => k nx ls (xI (x &&& y) :: st) h
    | .ior => xs2 st fun y x st => k nx ls (xI (x ||| y) :: st) h
    | .ixor => xs2 st fun y x st => k nx ls (xI (x ^^^ y) :: st) h
    | .idiv => xs2 st fun y x st => if y = 0 then none else k nx ls (xI (x / y) :: st) h
    | .irem => xs2 st fun y x st => if y = 0 then none else k nx ls (xI (x - x / y * y) :: st) h
    | .ineg => xs1 st fun x st => k nx ls (xI (-x) :: st) h
    | .ishl => xs2 st fun y x st => k nx ls (xI (x <<< (y &&& 31)) :: st) h
    | .ishr => xs2 st fun y x st => k nx ls (xI (x >>> (y &&& 31)) :: st) h
    | .iushr => xs2 st fun y x st => k nx ls (xI (x.toUInt32 >>> (y.toUInt32 &&& Int32.toUInt32 31)).toInt32 :: st) h
    | .i2l => xs1 st fun x st => k nx ls (xL x.toInt64 :: st) h
    | .l2i => xsL st fun x st => k nx ls (xI x.toInt32 :: st) h
    | .i2b => xs1 st fun x st => k nx ls (xI x.toInt8.toInt32 :: st) h
    | .i2s => xs1 st fun x st => k nx ls (xI x.toInt16.toInt32 :: st) h
    | .i2c => xs1 st fun x st => k nx ls (xI (xch x) :: st) h
    | .land => xsLL st fun y x st => k nx ls (xL (x &&& y) :: st) h
    | .lshr => xsIL st fun y x st => k nx ls (xL (x >>> (y.toInt64 &&& 63)) :: st) h
    | .lushr => xsIL st fun y x st => k nx ls (xL (x.toUInt64 >>> (y.toInt64.toUInt64 &&& Int64.toUInt64 63)).toInt64 :: st) h
    | .dup => xsD st (fun x st => k nx ls (xI x :: xI x :: st) h) (fun t o st => k nx ls (xR t o :: xR t o :: st) h)
    | .dup2 => xsIR st fun x t o st => k nx ls (xI x :: xR t o :: xI x :: xR t o :: st) h
    | .pop => xs1 st fun _ st => k nx ls st h
    | .if_icmp cd _ => xs2 st fun y x st => xbr cd x y (k a ls st h) (k nx ls st h)
    | .ifCond cd _ => xs1 st fun x st => xbr cd x 0 (k a ls st h) (k nx ls st h)
    | .goto _ => k a ls st h
    | .tableswitch _ _ _ _ => xs1 st fun x st => xsw x (fun t => k t ls st h) a sw
    | .lookupswitch _ _ => xs1 st fun x st => xsw x (fun t => k t ls st h) a sw
    | .getfield _ => xsR st fun t o st => xgd (Nat.beq t a) (bif Nat.beq c 0 then k nx ls (xI (h o b) :: st) h else bif Nat.beq c 98 then k nx ls (xI z :: st) h else k nx ls (xR c (o + d) :: st) h)
    | .putfield _ => xsIR st fun x t o st => xgd (Nat.beq t a) (xgd (Nat.beq c 0 || xb01 x) (k nx ls st (xup h o b x)))
    | .getstatic _ => bif Nat.beq a 99 then k nx ls (xI z :: st) h else k nx ls (xR a b :: st) h
    | .iaload => xsIR st fun i t o st => bif Nat.beq t 1 then xnb i (X.1 o) (k nx ls (xI (h o i.toNatClampNeg) :: st) h) else xgd (Nat.beq t 4) (xnb i (X.2.1 o) (k nx ls (xI (X.2.2.1 o i.toNatClampNeg) :: st) h))
    | .iastore => xsIIR st fun x i t o st => xgd (Nat.beq t 1) (xnb i (X.1 o) (k nx ls st (xup h o i.toNatClampNeg x)))
    | .baload => xsIR st fun i t o st => bif Nat.beq t 2 || Nat.beq t 3 then xnb i (X.1 o) (k nx ls (xI (h o i.toNatClampNeg) :: st) h) else xgd (Nat.beq t 9) (xnb i (X.2.2.2.1 o) (k nx ls (xI (X.2.2.2.2.1 o i.toNatClampNeg) :: st) h))
    | .bastore => xsIIR st fun x i t o st => bif Nat.beq t 2 then xnb i (X.1 o) (k nx ls st (xup h o i.toNatClampNeg x.toInt8.toInt32)) else xgd (Nat.beq t 3 && xb01 x) (xnb i (X.1 o) (k nx ls st (xup h o i.toNatClampNeg x)))
    | .aaload => xsIR st fun i t o st => bif Nat.beq t 6 then xnb i (X.1 o) (k nx ls (xR 24 (o + 1 + 2 * i.toNatClampNeg) :: st) h) else xgd (Nat.beq t 7) (xnb i (X.1 o) (k nx ls (xR 5 (X.2.2.2.2.2 o i.toNatClampNeg) :: st) h))
    | .arraylength => xsR st fun t o st => bif Nat.beq t 9 then k nx ls (xI (nI (X.2.2.2.1 o)) :: st) h else xgd (Nat.beq t 1 || Nat.beq t 7) (k nx ls (xI (nI (X.1 o)) :: st) h)
    | .invokevirtual _ => xcl (xtk b [] st) fun as st => xgd (xrc d as && xfit 4 st) (xbd (cl a as h) fun r h => k nx ls (bif Nat.beq c 0 then st else xI r :: st) h)
    | .invokestatic _ => bif Nat.beq c 2 then (xs2 st fun y x st => xgd (xfit 4 st) (k nx ls (xI (if x < y then y else x) :: st) h))
      else bif Nat.beq c 3 then (xs2 st fun y x st => xgd (xfit 4 st) (k nx ls (xI (if y < x then y else x) :: st) h))
      else bif Nat.beq c 4 then (xsCp st fun n e t1 o1 g t0 o0 st => xgd (Nat.beq t0 1 && (Nat.beq t1 1 && xfit 4 st)) (if g < 0 ∨ e < 0 ∨ n < 0 ∨ X.1 o0 < g.toNatClampNeg + n.toNatClampNeg ∨ X.1 o1 < e.toNatClampNeg + n.toNatClampNeg then none else k nx ls st (xcp h o0 g.toNatClampNeg o1 e.toNatClampNeg n.toNatClampNeg)))
      else xcl (xtk b [] st) fun as st => xgd (xfit 4 st) (xbd (cl a as h) fun r h => k nx ls (bif Nat.beq c 0 then st else xI r :: st) h)
    | .ireturn => xs1 st fun x st => xsE st (bif Nat.beq c 0 then some (x, h) else bif Nat.beq c 1 then xgd (xb01 x) (some (x, h)) else if xch x = x then some (x, h) else none)
    | .return_ => xsE st (some (0, h))
    | _ => none
def xkill : List (Option xV) → List Bool → List (Option xV)
  | [], _ => []
  | l, [] => l
  | a :: l, b :: m => (bif b then a else none) :: xkill l m
/-- a method's table, in rows of sixteen places of its code -/
abbrev xTb : Type := List (List (Nat × xOp))
def xlk (pc : Nat) : List (Nat × xOp) → Option xOp
  | [] => none
  | (p, o) :: l => bif Nat.beq p pc then some o else xlk pc l
def xat {α : Type} : List α → Nat → Option α
  | [], _ => none
  | a :: _, 0 => some a
  | _ :: l, n + 1 => xat l n
def xop (tb : xTb) (pc : Nat) : Option xOp := match xat tb (pc / 16) with
  | none => none
  | some l => xlk pc l
/-- where a run is cut: the place, which locals live on -/
def xcut (pc : Nat) : List (Nat × List Bool) → Option (List Bool)
  | [] => none
  | (p, o) :: l => bif Nat.beq p pc then some o else xcut pc l
def xrun (X : xX) (tb : xTb) (ct : List (Nat × List Bool)) (cl : Nat → List xV → xH → xO) (kk : Nat → List (Option xV) → List xV → xH → xO) : Nat → Nat → List (Option xV) → List xV → xH → xO
  | 0, _, _, _, _ => none
  | K + 1, pc, ls, st, h => match xop tb pc with
    | none => none
    | some op => xstp X cl op ls st h (fun pc ls st h => match xcut pc ct with
      | none => xrun X tb ct cl kk K pc ls st h
      | some m => kk pc (xkill ls m) st h)
/-- a method's run from a place: n cuts at most -/
def xev (X : xX) (tb : xTb) (ct : List (Nat × List Bool)) (cl : Nat → List xV → xH → xO) : Nat → Nat → List (Option xV) → List xV → xH → xO
  | 0 => fun _ _ _ _ => none
  | n + 1 => xrun X tb ct cl (xev X tb ct cl n) 400
def xent : List xV → List (Option xV)
  | [] => []
  | .inr (.inl x) :: l => some (xL x) :: none :: xent l
  | v :: l => some v :: xent l
def xpad : Nat → List (Option xV) → List (Option xV)
  | 0, _ => []
  | n + 1, [] => none :: xpad n []
  | n + 1, a :: l => a :: xpad n l
/-- a method: its table, how many locals, how many arguments -/
abbrev xMt : Type := xTb × Nat × Nat
def xF : Nat := 1000000
/-- a call of method j, with d methods one within another at most; cts: where each method's run is cut -/
def xM (X : xX) (pt : List xMt) (cts : Nat → List (Nat × List Bool)) : Nat → Nat → List xV → xH → xO
  | 0 => fun _ _ _ => none
  | d + 1 => fun j as h => match xat pt j with
    | none => none
    | some mt => xgd (Nat.beq as.length mt.2.2 && Nat.ble (xent as).length mt.2.1) (xev X mt.1 (cts j) (xM X pt cts d) xF 0 (xpad mt.2.1 (xent as)) [] h)
theorem xF_s : xF = 999999 + 1 := rfl
