def isRf (t : FieldType) : Bool := match t with | .object _ | .array _ => true | _ => false
def tsw (pc : Nat) : Int → List Int → List (Int32 × Nat) → Bool
  | _, [], [] => true
  | lo, o :: os, (k, t) :: r => k.toInt == lo && (pc : Int) + o == (t : Int) && tsw pc (lo + 1) os r
  | _, _, _ => false
def lsw (pc : Nat) : List (Int × Int) → List (Int32 × Nat) → Bool
  | [], [] => true
  | (x, o) :: os, (k, t) :: r => k.toInt == x && (pc : Int) + o == (t : Int) && lsw pc os r
  | _, _ => false
def inc2 : List (Int × Int) → Bool
  | a :: b :: r => decide (a.1 < b.1) && inc2 (b :: r)
  | _ => true
def stOK (m a : Nat) : Bool := Nat.blt a (mL m) && (lgP m).all (fun p => !(Nat.beq a p) && !(Nat.beq a (p + 1)) && true)
/-- the places where arraycopy, Object's constructor are linked -/
def acl (x : Nat) : Bool := Nat.beq x (5 * 2048 + 79) || Nat.beq x (1 * 2048 + 25) || Nat.beq x (6 * 2048 + 315)
def ocl (x : Nat) : Bool := Nat.beq x (6 * 2048 + 3) || Nat.beq x (0 * 2048 + 3) || Nat.beq x (4 * 2048 + 3) || Nat.beq x (3 * 2048 + 3) || Nat.beq x (5 * 2048 + 3) || Nat.beq x (1 * 2048 + 3) || Nat.beq x (2 * 2048 + 3) || Nat.beq x (7 * 2048 + 1)
/-- what the table says of an instruction is so -/
def chI (m pc : Nat) (i : Jvm.ClassFile.Instr) (ln : Nat) (cv : Int32) (cl : Int64) (a b c : Nat) (sw : List (Int32 × Nat)) : Bool := match i with
  | .iconst n => cv == Int32.ofInt n && Nat.beq ln 1
  | .bipush n => cv == (Int8.ofInt n).toInt32 && Nat.beq ln 2
  | .sipush n => cv == (Int16.ofInt n).toInt32 && Nat.beq ln 3
  | .lconst n => cl == Int64.ofNat (n : Nat) && Nat.beq ln 1
  | .ldc x => Nat.beq ln 2 && Nat.blt x 2048 && match slk (mC m * 2048 + x) with | some (s, _) => Nat.beq s a | none => false
  | .ldc_w x => Nat.beq ln 3 && Nat.blt x 2048 && match kck (mC m * 2048 + x) with | some (v, _) => v == cv | none => false
  | .ldc2_w x => Nat.beq ln 3 && Nat.blt x 2048 && match klk (mC m * 2048 + x) with | some (v, _) => v == cl | none => false
  | .iload_n k | .lload_n k | .aload_n k => Nat.beq a k.val && Nat.beq ln 1
  | .istore_n k | .astore_n k => Nat.beq a k.val && stOK m a && Nat.beq ln 1
  | .iload k | .aload k => Nat.beq a k && Nat.beq ln 2
  | .istore k | .astore k => Nat.beq a k && stOK m a && Nat.beq ln 2
  | .iinc k n => Nat.beq a k && cv == Int32.ofInt n && stOK m a && Nat.beq ln 3
  | .ifCond _ off | .if_icmp _ off => (pc : Int) + off == (a : Int) && Nat.beq ln 3
  | .goto off => (pc : Int) + off == (a : Int) && Nat.beq ln 3
  | .tableswitch d lo hi offs => (pc : Int) + d == (a : Int) && tsw pc lo offs.toList sw && hi == lo + (offs.size : Int) - 1
  | .lookupswitch d ps => (pc : Int) + d == (a : Int) && lsw pc ps.toList sw && (ps.toList.zip (ps.toList.drop 1)).all (fun (a, next) => a.1 < next.1)
  | .getfield x => Nat.beq ln 3 && Nat.blt x 2048 && match c with
    | 0 | 1 => match flk (mC m * 2048 + x) with | some (ci, j, _, _) => Nat.beq ci a && Nat.beq j b && (isRf (fTy a b) == Nat.beq c 1) | none => false
    | 2 => Nat.beq (mC m) 9 && Nat.beq x 9
    | 3 => Nat.beq (mC m) 9 && Nat.beq x 15
    | _ => false
  | .putfield x => Nat.beq ln 3 && Nat.blt x 2048 && match flk (mC m * 2048 + x) with
    | some (ci, j, _, _) => Nat.beq ci a && Nat.beq j b && (match c with | 0 => fTy a b == .int | 1 => isRf (fTy a b) | 2 => fTy a b == .boolean | _ => false) && (!(fT a b).2.2.2 || ((mY m).name == "<init>" && Nat.beq (mC m) a))
    | none => false
  | .getstatic x => Nat.beq ln 3 && match c with
    | 0 => Nat.beq (mC m) 9 && Nat.beq x 38
    | 1 => Nat.beq (mC m) 9 && Nat.beq x 1053
    | 2 => Nat.beq (mC m) 6 && Nat.beq x 305
    | _ => false
  | .new x => Nat.beq ln 3 && Nat.blt x 2048 && match clk (mC m * 2048 + x) with | some (ci, _) => Nat.beq ci a && Nat.beq b (nF a) && Nat.blt a 8 | none => false
  | .newarray t => Nat.beq ln 2 && match t with | .int => Nat.beq a 1 | .boolean => Nat.beq a 2 | .long => Nat.beq a 3 | _ => false
  | .anewarray x => Nat.beq ln 3 && Nat.blt x 2048 && match clk (mC m * 2048 + x) with | some (ci, _) => (Nat.beq ci 3 && Nat.beq a 4) || (Nat.beq ci 2 && Nat.beq a 5) | none => false
  | .invokestatic x => Nat.beq ln 3 && Nat.blt x 2048 && ((Nat.beq c 9999 && acl (mC m * 2048 + x)) || (Nat.blt c NM && match mlk (mC m * 2048 + x) with | some (y, _, _) => Nat.beq y c && Nat.beq (mP c).2.1 1 && Nat.beq a (mN c) && Nat.beq b 50 | none => false))
  | .invokevirtual x => Nat.beq ln 3 && Nat.blt x 2048 && (Nat.blt c NM && match mlk (mC m * 2048 + x) with | some (y, _, _) => Nat.beq y c && Nat.beq (mP c).2.1 0 && Nat.beq a (mN c + 1) && Nat.beq b (mC c) && Nat.blt b 10 && !(Nat.beq b 8) | none => false)
  | .invokespecial x => Nat.beq ln 3 && Nat.blt x 2048 && ((Nat.beq c 9998 && ocl (mC m * 2048 + x)) || (Nat.blt c NM && match mlk (mC m * 2048 + x) with | some (y, _, _) => Nat.beq y c && Nat.beq (mP c).2.1 2 && Nat.beq a (mN c + 1) && Nat.beq b 51 | none => false))
  | .ireturn => Nat.beq ln 1 && match c with | 0 => mR m == some .int | 1 => mR m == some .boolean | 2 => mR m == some .byte | 3 => mR m == some .char | _ => false
  | .lreturn => Nat.beq ln 1 && mR m == some .long
  | .areturn => Nat.beq ln 1 && (match mR m with | some t => isRf t | none => false)
  | .return_ => Nat.beq ln 1 && (mR m == none)
  | _ => Nat.beq ln 1
def chE (m pc : Nat) (e : CE) : Bool := (match decode (mB m) pc with | .ok (j, n) => decide (j = e.1) && Nat.beq n e.2.1 | .error _ => false) && chI m pc e.1 e.2.1 e.2.2.1 e.2.2.2.1 e.2.2.2.2.1 e.2.2.2.2.2.1 e.2.2.2.2.2.2.1 e.2.2.2.2.2.2.2
def chM (m : Nat) : Bool := (List.range 2048).all fun pc => match kode m pc with | none => true | some e => chE m pc e
