/-- the receiver of a call: 50 none is asked, 51 any object, 9 a text, else a class of ours -/
def rcv (b : Nat) (v : Option Vl) : Bool := match b with
  | 50 => true
  | 51 => match v with | some (.inr (.inr (some _))) => true | _ => false
  | 9 => match v with | some (.inr (.inr (some (t, k)))) => Nat.beq t tagS && Nat.blt k 7 | _ => false
  | _ => match v with | some (.inr (.inr (some (t, _)))) => Nat.beq (tK t) 0 && Nat.beq (tN t) b | _ => false
/-- a call: 9999 arraycopy, 9998 Object's constructor, else a method of the table -/
def ivk {β : Type} (E : Ev) (c a b pc : Nat) (L : List (Option Vl)) (st : List Vl) (h : Hp) (K : Nat → List (Option Vl) → List Vl → Hp → Option β) : Option β :=
  match Nat.beq c 9999 with
  | true => match st with
    | .inl n :: .inl dp :: .inr (.inr (some (t', k'))) :: .inl sp :: .inr (.inr (some (t, k))) :: r =>
      ck (Nat.beq (tK t) (tK t') && (decide (0 ≤ sp) && decide (0 ≤ dp) && decide (0 ≤ n)) && (Nat.ble (ix sp + ix n) (tN t) && Nat.ble (ix dp + ix n) (tN t')) && Nat.ble (wsum r) 8)
        (match tK t with
        | 1 => K pc L r (hCI h t k t' k' (ix sp) (ix dp) (ix n))
        | 2 => ck (allB (hI h t k) (tN t)) (K pc L r (hCI h t k t' k' (ix sp) (ix dp) (ix n)))
        | 3 => K pc L r (hCL h t k t' k' (ix sp) (ix dp) (ix n))
        | _ => none)
    | _ => none
  | false => match Nat.beq c 9998 with
    | true => match st with | .inr (.inr (some _)) :: r => ck (Nat.ble (wsum r) 8) (K pc L r h) | _ => none
    | false => match Nat.beq c 223 with
      | true => match st with | .inl y :: .inl x :: r => ck (Nat.ble (wsum r) 8) (K pc L (.inl (if x < y then y else x) :: r) h) | _ => none
      | false => match Nat.beq c 224 with
        | true => match st with | .inl y :: .inl x :: r => ck (Nat.ble (wsum r) 8) (K pc L (.inl (if y < x then y else x) :: r) h) | _ => none
        | false => ck (rcv b (st.take a).getLast? && Nat.ble a st.length && Nat.ble (wsum (st.drop a)) 8) (match E c (st.take a).reverse h with
        | some (v, h') => K pc L (psh v (st.drop a)) h'
        | none => none)
/-- one instruction; K goes on -/
def stp {β : Type} (sc : Sc) (E : Ev) (m : Nat) (rt : Rs → Option β) (K : Nat → List (Option Vl) → List Vl → Hp → Option β) (pc : Nat) (L : List (Option Vl)) (st : List Vl) (h : Hp) : Option β :=
  match kode m pc with
  | none => none
  | some (i, ln, cv, cl, a, b, c, sw) =>
    match i with
    | .iconst _ | .bipush _ | .sipush _ | .ldc_w _ => K (pc + ln) L (.inl cv :: st) h
    | .ldc _ => K (pc + ln) L (.inr (.inr (some (tagS, a))) :: st) h
    | .lconst _ | .ldc2_w _ => K (pc + ln) L (.inr (.inl cl) :: st) h
    | .iload_n _ | .iload _ => match L.getD a none with
      | some (.inl x) => K (pc + ln) L (.inl x :: st) h
      | _ => none
    | .lload_n _ => match L.getD a none with
      | some (.inr (.inl x)) => K (pc + ln) L (.inr (.inl x) :: st) h
      | _ => none
    | .aload_n _ | .aload _ => match L.getD a none with
      | some (.inr (.inr (some r))) => K (pc + ln) L (.inr (.inr (some r)) :: st) h
      | _ => none
    | .istore_n _ | .istore _ => match st with
      | .inl x :: r => K (pc + ln) (L.set a (some (.inl x))) r h
      | _ => none
    | .astore_n _ | .astore _ => match st with
      | .inr (.inr (some q)) :: r => K (pc + ln) (L.set a (some (.inr (.inr (some q))))) r h
      | _ => none
    | .iinc _ _ => match L.getD a none with
      | some (.inl x) => K (pc + ln) (L.set a (some (.inl (x + cv)))) st h
      | _ => none
    | .iadd => match st with | .inl y :: .inl x :: r => K (pc + ln) L (.inl (x + y) :: r) h | _ => none
    | .isub => match st with | .inl y :: .inl x :: r => K (pc + ln) L (.inl (x - y) :: r) h | _ => none
    | .imul => match st with | .inl y :: .inl x :: r => K (pc + ln) L (.inl (x * y) :: r) h | _ => none
    | .idiv => match st with | .inl y :: .inl x :: r => ck (!(y == 0)) (K (pc + ln) L (.inl (x / y) :: r) h) | _ => none
    | .irem => match st with | .inl y :: .inl x :: r => ck (!(y == 0)) (K (pc + ln) L (.inl (x % y) :: r) h) | _ => none
    | .ineg => match st with | .inl x :: r => K (pc + ln) L (.inl (-x) :: r) h | _ => none
    | .iand => match st with | .inl y :: .inl x :: r => K (pc + ln) L (.inl (x &&& y) :: r) h | _ => none
    | .ior => match st with | .inl y :: .inl x :: r => K (pc + ln) L (.inl (x ||| y) :: r) h | _ => none
    | .ixor => match st with | .inl y :: .inl x :: r => K (pc + ln) L (.inl (x ^^^ y) :: r) h | _ => none
    | .ishl => match st with | .inl y :: .inl x :: r => K (pc + ln) L (.inl (x <<< (y &&& 31)) :: r) h | _ => none
    | .ishr => match st with | .inl y :: .inl x :: r => K (pc + ln) L (.inl (x >>> (y &&& 31)) :: r) h | _ => none
    | .iushr => match st with | .inl y :: .inl x :: r => K (pc + ln) L (.inl ((x.toUInt32 >>> (y.toUInt32 &&& Int32.toUInt32 31)).toInt32) :: r) h | _ => none
    | .i2l => match st with | .inl x :: r => K (pc + ln) L (.inr (.inl x.toInt64) :: r) h | _ => none
    | .l2i => match st with | .inr (.inl x) :: r => K (pc + ln) L (.inl x.toInt32 :: r) h | _ => none
    | .i2b => match st with | .inl x :: r => K (pc + ln) L (.inl x.toInt8.toInt32 :: r) h | _ => none
    | .i2s => match st with | .inl x :: r => K (pc + ln) L (.inl x.toInt16.toInt32 :: r) h | _ => none
    | .i2c => match st with | .inl x :: r => K (pc + ln) L (.inl (x.toUInt32 % 65536).toInt32 :: r) h | _ => none
    | .land => match st with | .inr (.inl y) :: .inr (.inl x) :: r => K (pc + ln) L (.inr (.inl (x &&& y)) :: r) h | _ => none
    | .lor => match st with | .inr (.inl y) :: .inr (.inl x) :: r => K (pc + ln) L (.inr (.inl (x ||| y)) :: r) h | _ => none
    | .lshl => match st with | .inl y :: .inr (.inl x) :: r => K (pc + ln) L (.inr (.inl (x <<< (y.toInt64 &&& 63))) :: r) h | _ => none
    | .lcmp => match st with | .inr (.inl y) :: .inr (.inl x) :: r => K (pc + ln) L (.inl (lg_cmp x y) :: r) h | _ => none
    | .dup => match st with | v :: r => ck (!(isL v)) (K (pc + ln) L (v :: v :: r) h) | _ => none
    | .dup2 => match st with | v :: w :: r => ck (!(isL v) && !(isL w)) (K (pc + ln) L (v :: w :: v :: w :: r) h) | _ => none
    | .pop => match st with | v :: r => ck (!(isL v)) (K (pc + ln) L r h) | _ => none
    | .ifCond .eq _ => match st with | .inl x :: r => (if x = 0 then K a L r h else K (pc + ln) L r h) | _ => none
    | .ifCond .ne _ => match st with | .inl x :: r => (if x = 0 then K (pc + ln) L r h else K a L r h) | _ => none
    | .ifCond .lt _ => match st with | .inl x :: r => (if x < 0 then K a L r h else K (pc + ln) L r h) | _ => none
    | .ifCond .ge _ => match st with | .inl x :: r => (if x < 0 then K (pc + ln) L r h else K a L r h) | _ => none
    | .ifCond .gt _ => match st with | .inl x :: r => (if 0 < x then K a L r h else K (pc + ln) L r h) | _ => none
    | .ifCond .le _ => match st with | .inl x :: r => (if 0 < x then K (pc + ln) L r h else K a L r h) | _ => none
    | .if_icmp .eq _ => match st with | .inl y :: .inl x :: r => (if x = y then K a L r h else K (pc + ln) L r h) | _ => none
    | .if_icmp .ne _ => match st with | .inl y :: .inl x :: r => (if x = y then K (pc + ln) L r h else K a L r h) | _ => none
    | .if_icmp .lt _ => match st with | .inl y :: .inl x :: r => (if x < y then K a L r h else K (pc + ln) L r h) | _ => none
    | .if_icmp .ge _ => match st with | .inl y :: .inl x :: r => (if x < y then K (pc + ln) L r h else K a L r h) | _ => none
    | .if_icmp .gt _ => match st with | .inl y :: .inl x :: r => (if y < x then K a L r h else K (pc + ln) L r h) | _ => none
    | .if_icmp .le _ => match st with | .inl y :: .inl x :: r => (if y < x then K (pc + ln) L r h else K a L r h) | _ => none
    | .goto _ => K a L st h
    | .tableswitch _ _ _ _ | .lookupswitch _ _ => match st with | .inl x :: r => swK x a (fun t => K t L r h) sw | _ => none
    | .getfield _ => match st with
      | .inr (.inr (some (t, k))) :: r => match c with
        | 0 => ck (Nat.beq (tK t) 0 && Nat.beq (tN t) a) (K (pc + ln) L (.inl (hI h t k b) :: r) h)
        | 1 => ck (Nat.beq (tK t) 0 && Nat.beq (tN t) a) (match hR h t k b with | some q => K (pc + ln) L (.inr (.inr (some q)) :: r) h | none => none)
        | 2 => ck (Nat.beq t tagS && Nat.blt k 7) (K (pc + ln) L (.inr (.inr (some (tagB, k))) :: r) h)
        | 3 => ck (Nat.beq t tagS && Nat.blt k 7) (K (pc + ln) L (.inl 0 :: r) h)
        | _ => none
      | _ => none
    | .putfield _ => match st with
      | v :: .inr (.inr (some (t, k))) :: r => ck (Nat.beq (tK t) 0 && Nat.beq (tN t) a) (match c with
        | 0 => match v with | .inl x => K (pc + ln) L r (hUI h t k b x) | _ => none
        | 1 => match v with | .inr (.inr (some q)) => K (pc + ln) L r (hUR h t k b (some q)) | _ => none
        | 2 => match v with | .inl x => ck (isB x) (K (pc + ln) L r (hUI h t k b x)) | _ => none
        | _ => none)
      | _ => none
    | .getstatic _ => match c with
      | 0 => K (pc + ln) L (.inl 1 :: st) h
      | 1 => K (pc + ln) L (.inr (.inr none) :: st) h
      | 2 => K (pc + ln) L (.inr (.inr (some (tagA, 0))) :: st) h
      | _ => none
    | .iaload => match st with
      | .inl i :: .inr (.inr (some (t, k))) :: r => match tK t with
        | 1 => ck (vin i (tN t)) (K (pc + ln) L (.inl (hI h t k (ix i)) :: r) h)
        | 8 => match sc with | some (n, xs) => ck (vin i n && Nat.beq t tagX && Nat.beq k 0) (K (pc + ln) L (.inl (xs (ix i)) :: r) h) | none => none
        | 10 => ck (vin i 7 && Nat.beq t tagA && Nat.beq k 0) (K (pc + ln) L (.inl (kAb (ix i)) :: r) h)
        | _ => none
      | _ => none
    | .baload => match st with
      | .inl i :: .inr (.inr (some (t, k))) :: r => match tK t with
        | 2 => ck (vin i (tN t)) (K (pc + ln) L (.inl (hI h t k (ix i)) :: r) h)
        | 7 => ck (vin i (sLen k) && Nat.blt k 7 && Nat.beq t tagB) (K (pc + ln) L (.inl (sByt k (ix i)) :: r) h)
        | _ => none
      | _ => none
    | .laload => match st with
      | .inl i :: .inr (.inr (some (t, k))) :: r => ck (Nat.beq (tK t) 3 && vin i (tN t)) (K (pc + ln) L (.inr (.inl (hL h t k (ix i))) :: r) h)
      | _ => none
    | .aaload => match st with
      | .inl i :: .inr (.inr (some (t, k))) :: r => ck ((Nat.beq (tK t) 4 || Nat.beq (tK t) 5) && vin i (tN t)) (match hR h t k (ix i) with | some q => K (pc + ln) L (.inr (.inr (some q)) :: r) h | none => none)
      | _ => none
    | .iastore => match st with
      | .inl x :: .inl i :: .inr (.inr (some (t, k))) :: r => ck (Nat.beq (tK t) 1 && vin i (tN t)) (K (pc + ln) L r (hUI h t k (ix i) x))
      | _ => none
    | .bastore => match st with
      | .inl x :: .inl i :: .inr (.inr (some (t, k))) :: r => ck (Nat.beq (tK t) 2 && vin i (tN t)) (K (pc + ln) L r (hUI h t k (ix i) (x &&& 1)))
      | _ => none
    | .lastore => match st with
      | .inr (.inl x) :: .inl i :: .inr (.inr (some (t, k))) :: r => ck (Nat.beq (tK t) 3 && vin i (tN t)) (K (pc + ln) L r (hUL h t k (ix i) x))
      | _ => none
    | .aastore => match st with
      | .inr (.inr (some (t', k'))) :: .inl i :: .inr (.inr (some (t, k))) :: r => ck (((Nat.beq (tK t) 4 && Nat.beq (tN t') 3) || (Nat.beq (tK t) 5 && Nat.beq (tN t') 2)) && Nat.beq (tK t') 0 && vin i (tN t)) (K (pc + ln) L r (hUR h t k (ix i) (some (t', k'))))
      | _ => none
    | .arraylength => match st with
      | .inr (.inr (some (t, k))) :: r => match tK t with
        | 1 | 2 | 3 | 4 | 5 => K (pc + ln) L (.inl (Int32.ofNat (tN t)) :: r) h
        | 7 => ck (Nat.blt k 7 && Nat.beq t tagB) (K (pc + ln) L (.inl (Int32.ofNat (sLen k)) :: r) h)
        | 8 => match sc with | some (n, _) => ck (Nat.beq t tagX && Nat.beq k 0) (K (pc + ln) L (.inl (Int32.ofNat n) :: r) h) | none => none
        | 10 => ck (Nat.beq t tagA && Nat.beq k 0) (K (pc + ln) L (.inl (Int32.ofNat 7) :: r) h)
        | _ => none
      | _ => none
    | .new _ => match nm h.1 with
      | (t, k) => ck (Nat.beq (tK t) 0 && Nat.beq (tN t) a) (K (pc + ln) L (.inr (.inr (some (t, k))) :: st) (hNew h t k b))
    | .newarray _ | .anewarray _ => match st with
      | .inl x :: r => match nm h.1 with
        | (t, k) => ck (Nat.beq (tK t) a && (x == Int32.ofNat (tN t))) (K (pc + ln) L (.inr (.inr (some (t, k))) :: r) (hNew h t k (tN t)))
      | _ => none
    | .invokestatic _ | .invokevirtual _ | .invokespecial _ => ivk E c a b (pc + ln) L st h K
    | .ireturn => match st with | [.inl x] => ck (rok c x) (rt (some (.inl x), h)) | _ => none
    | .lreturn => match st with | [.inr (.inl x)] => rt (some (.inr (.inl x)), h) | _ => none
    | .areturn => match st with | [.inr (.inr (some q))] => rt (some (.inr (.inr (some q))), h) | _ => none
    | .return_ => match st with | [] => rt (none, h) | _ => none
    | _ => none

/-- n instructions, then K -/
def rk {β : Type} (sc : Sc) (E : Ev) (m : Nat) (rt : Rs → Option β) (K : Nat → List (Option Vl) → List Vl → Hp → Option β) : Nat → Nat → List (Option Vl) → List Vl → Hp → Option β
  | 0 => K
  | n + 1 => stp sc E m rt (rk sc E m rt K n)
abbrev St : Type := Nat × List (Option Vl) × List Vl × Hp
def fr (sc : Sc) (E : Ev) (m pc : Nat) (L : List (Option Vl)) (st : List Vl) (h : Hp) : Option (St ⊕ Rs) :=
  stp sc E m (fun r => some (Sum.inr r)) (fun pc L st h => some (Sum.inl (pc, L, st, h))) pc L st h
def elm {β : Type} (rt : Rs → Option β) (K : Nat → List (Option Vl) → List Vl → Hp → Option β) (x : Option (St ⊕ Rs)) : Option β := match x with
  | none => none
  | some (.inl s) => K s.1 s.2.1 s.2.2.1 s.2.2.2
  | some (.inr r) => rt r
theorem elm_ck {β : Type} {rt : Rs → Option β} {K : Nat → List (Option Vl) → List Vl → Hp → Option β} {b : Bool} {x : Option (St ⊕ Rs)} : elm rt K (ck b x) = ck b (elm rt K x) := by
  cases b <;> rfl
theorem elm_sw {β : Type} {rt : Rs → Option β} {K : Nat → List (Option Vl) → List Vl → Hp → Option β} {x : Int32} {d : Nat} {F : Nat → Option (St ⊕ Rs)} (l : List (Int32 × Nat)) : elm rt K (swK x d F l) = swK x d (fun t => elm rt K (F t)) l := by
  induction l with
  | nil => rfl
  | cons a l ih =>
    obtain ⟨k, t⟩ := a
    simp only [swK]
    split
    · rfl
    · exact ih
theorem elm_ite {β : Type} {rt : Rs → Option β} {K : Nat → List (Option Vl) → List Vl → Hp → Option β} {c : Prop} [Decidable c] {x y : Option (St ⊕ Rs)} : elm rt K (if c then x else y) = if c then elm rt K x else elm rt K y := by
  split <;> rfl
