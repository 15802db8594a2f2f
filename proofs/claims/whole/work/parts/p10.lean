/-- the texts, as bytes -/
def SBYTES : List (List Int32) := [[112, 116, 107, 118, 119, 108], [102, 108, 111, 97, 116, 32], [114, 101, 97, 99, 104, 32], [116, 105, 100, 101, 32], [108, 105, 102, 116, 32], [115, 105, 110, 107, 32], [112, 116, 107, 118, 119, 108]]
abbrev tagS : Nat := 1926
abbrev tagB : Nat := 1943
abbrev tagX : Nat := 1960
abbrev tagF : Nat := 1977
abbrev tagA : Nat := 16330
/-! THE SMALL MACHINE: a method's bytecode over values that are told by names: a cell is (tag, which), a tag tells its kind (tag % 16), its number and its class or length (tag / 2048). -/
abbrev Vl : Type := Int32 ⊕ (Int64 ⊕ Option (Nat × Nat))
abbrev vI (x : Int32) : Vl := Sum.inl x
abbrev vL (x : Int64) : Vl := Sum.inr (Sum.inl x)
abbrev vR (t k : Nat) : Vl := Sum.inr (Sum.inr (some (t, k)))
abbrev vN : Vl := Sum.inr (Sum.inr none)
abbrev FI : Type := Nat → Nat → Nat → Int32
abbrev FL : Type := Nat → Nat → Nat → Int64
abbrev FR : Type := Nat → Nat → Nat → Option (Nat × Nat)
/-- how many cells, how many slots; ints, longs, references by (tag, which, slot) -/
abbrev Hp : Type := Nat × Nat × FI × FL × FR
abbrev Rs : Type := Option Vl × Hp
abbrev Ev : Type := Nat → List Vl → Hp → Option Rs
abbrev Sc : Type := Option (Nat × (Nat → Int32))
abbrev hI (h : Hp) : FI := h.2.2.1
abbrev hL (h : Hp) : FL := h.2.2.2.1
abbrev hR (h : Hp) : FR := h.2.2.2.2
def tK (t : Nat) : Nat := t % 16
def tN (t : Nat) : Nat := t / 2048
def uI (I : FI) (t k j : Nat) (x : Int32) : FI := fun a b c => if a = t ∧ b = k ∧ c = j then x else I a b c
def uL (I : FL) (t k j : Nat) (x : Int64) : FL := fun a b c => if a = t ∧ b = k ∧ c = j then x else I a b c
def uR (I : FR) (t k j : Nat) (x : Option (Nat × Nat)) : FR := fun a b c => if a = t ∧ b = k ∧ c = j then x else I a b c
/-- a new cell: nothing in it -/
def zI (I : FI) (t k : Nat) : FI := fun a b c => if a = t ∧ b = k then 0 else I a b c
def zL (I : FL) (t k : Nat) : FL := fun a b c => if a = t ∧ b = k then 0 else I a b c
def zR (I : FR) (t k : Nat) : FR := fun a b c => if a = t ∧ b = k then none else I a b c
/-- a stretch of a row comes over another's -/
def cI (I : FI) (t k t' k' sp dp n : Nat) : FI := fun a b c => if a = t' ∧ b = k' ∧ (dp ≤ c ∧ c < dp + n) then I t k (sp + (c - dp)) else I a b c
def cL (I : FL) (t k t' k' sp dp n : Nat) : FL := fun a b c => if a = t' ∧ b = k' ∧ (dp ≤ c ∧ c < dp + n) then I t k (sp + (c - dp)) else I a b c
def hUI (h : Hp) (t k j : Nat) (x : Int32) : Hp := (h.1, h.2.1, uI (hI h) t k j x, hL h, hR h)
def hUL (h : Hp) (t k j : Nat) (x : Int64) : Hp := (h.1, h.2.1, hI h, uL (hL h) t k j x, hR h)
def hUR (h : Hp) (t k j : Nat) (x : Option (Nat × Nat)) : Hp := (h.1, h.2.1, hI h, hL h, uR (hR h) t k j x)
def hCI (h : Hp) (t k t' k' sp dp n : Nat) : Hp := (h.1, h.2.1, cI (hI h) t k t' k' sp dp n, hL h, hR h)
def hCL (h : Hp) (t k t' k' sp dp n : Nat) : Hp := (h.1, h.2.1, hI h, cL (hL h) t k t' k' sp dp n, hR h)
def hNew (h : Hp) (t k n : Nat) : Hp := (h.1 + 1, h.2.1 + n, zI (hI h) t k, zL (hL h) t k, zR (hR h) t k)
def ix (i : Int32) : Nat := i.toNatClampNeg
def vin (i : Int32) (n : Nat) : Bool := decide (0 ≤ i) && decide (i.toNatClampNeg < n)
def ck {β : Type} (b : Bool) (x : Option β) : Option β := match b with | true => x | false => none
theorem ck_t {β : Type} {b : Bool} {x : Option β} (h : b = true) : ck b x = x := by subst h; rfl
theorem ck_tt {β : Type} {x : Option β} : ck true x = x := rfl
theorem ck_some {β : Type} {b : Bool} {x : Option β} {y : β} (h : ck b x = some y) : b = true ∧ x = some y := by
  cases b with
  | true => exact ⟨rfl, h⟩
  | false => cases h
def bnd {α β : Type} (x : Option (α × Hp)) (f : α → Hp → Option β) : Option β := match x with | some (r, h) => f r h | none => none
theorem bnd_s {α β : Type} {r : α} {h : Hp} {f : α → Hp → Option β} : bnd (some (r, h)) f = f r h := rfl
def psh (r : Option Vl) (st : List Vl) : List Vl := match r with | some v => v :: st | none => st
def isL (v : Vl) : Bool := match v with | .inr (.inl _) => true | _ => false
def wsum (st : List Vl) : Nat := match st with | [] => 0 | v :: r => (match isL v with | true => 2 | false => 1) + wsum r
def swK {γ : Type} (x : Int32) (d : Nat) (K : Nat → γ) : List (Int32 × Nat) → γ
  | [] => K d
  | (k, t) :: r => if x = k then K t else swK x d K r
/-- may it be returned: 0 any int, 1 a boolean, 2 a byte, 3 a char -/
def rok (c : Nat) (x : Int32) : Bool := match c with
  | 0 => true
  | 1 => x == 0 || x == 1
  | 2 => x.toInt8.toInt32 == x
  | _ => x.toUInt32.toUInt16.toUInt32.toInt32 == x
def isB (x : Int32) : Bool := x == 0 || x == 1
/-- all of a row are booleans -/
def allB (f : Nat → Int32) : Nat → Bool
  | 0 => true
  | n + 1 => isB (f n) && allB f n
/-- the texts: their signs -/
def sLen (k : Nat) : Nat := (SBYTES.getD k []).length
def sByt (k j : Nat) : Int32 := (SBYTES.getD k []).getD j 0
def kAb (j : Nat) : Int32 := ([-1, 0, 0, 0, 1, 2, 3] : List Int32).getD j 0

/-- the cells in the order in which they are made -/
def nmL : List (Nat × Nat) := [(12288, 0), (12308, 0), (32, 0), (204849, 0), (8256, 0), (12369, 0), (131169, 0), (41073, 0), (12421, 0), (6288, 0), (204961, 0), (204977, 0), (204993, 0), (205009, 0), (10464, 0), (10481, 0), (10497, 0), (10513, 0), (10530, 0), (41265, 0), (12609, 0), (12625, 0), (12641, 0), (2416, 0), (10625, 0), (10641, 0), (10657, 0), (2480, 0), (20929, 0), (20945, 0), (20961, 0), (2544, 0), (16897, 0), (16913, 0), (16929, 0), (12849, 0), (10464, 1), (10481, 1), (10497, 1), (10513, 1), (10530, 1), (41265, 1), (12609, 1), (12625, 1), (12641, 1), (2416, 1), (10625, 1), (10641, 1), (10657, 1), (2480, 1), (20929, 1), (20945, 1), (20961, 1), (2544, 1), (16897, 1), (16913, 1), (16929, 1), (12849, 1), (10464, 2), (10481, 2), (10497, 2), (10513, 2), (10530, 2), (41265, 2), (12609, 2), (12625, 2), (12641, 2), (2416, 2), (10625, 2), (10641, 2), (10657, 2), (2480, 2), (20929, 2), (20945, 2), (20961, 2), (2544, 2), (16897, 2), (16913, 2), (16929, 2), (12849, 2), (6288, 1), (204961, 1), (204977, 1), (204993, 1), (205009, 1), (6288, 2), (204961, 2), (204977, 2), (204993, 2), (205009, 2), (6288, 3), (204961, 3), (204977, 3), (204993, 3), (205009, 3), (6288, 4), (204961, 4), (204977, 4), (204993, 4), (205009, 4), (6288, 5), (204961, 5), (204977, 5), (204993, 5), (205009, 5), (6288, 6), (204961, 6), (204977, 6), (204993, 6), (205009, 6), (4672, 0), (123475, 0), (4672, 1), (123475, 1), (4672, 2), (123475, 2), (4672, 3), (123475, 3), (4672, 4), (123475, 4), (4672, 5), (123475, 5), (14944, 0), (10865, 0), (10881, 0), (10897, 0), (41633, 0), (12977, 0), (12993, 0), (13009, 0), (205537, 0), (13041, 0), (123649, 0), (123665, 0), (123681, 0), (123697, 0), (1229633, 0), (207697, 0), (45921, 0), (205682, 0), (11137, 0), (13201, 0), (13217, 0), (74674, 0), (13249, 0), (13265, 0), (11233, 0), (11249, 0), (11265, 0), (21521, 0), (21537, 0), (17457, 0), (17473, 0), (11345, 0), (11361, 0), (11377, 0), (42113, 0), (13457, 0), (13473, 0), (13489, 0), (11457, 0), (11473, 0), (11489, 0), (21745, 0), (21761, 0), (17681, 0), (17697, 0), (42289, 0), (13633, 0), (13649, 0), (738659, 0), (124275, 0)]
def nm (n : Nat) : Nat × Nat := nmL.getD n (15, 0)
/-- which cell each reference holds, behind the making: w k the town that world k holds -/
def SR (w : Nat → Nat) : FR := fun t k j => bif Nat.blt t 8256 then (bif Nat.blt t 2544 then (bif Nat.blt t 2416 then (bif Nat.beq t 32 then (bif Nat.beq j 0 then some (204849, 0) else none) else none) else (bif Nat.blt t 2480 then (bif Nat.beq t 2416 then (bif Nat.blt j 2 then (bif Nat.beq j 1 then some (10625, k) else none) else (bif Nat.blt j 3 then (bif Nat.beq j 2 then some (10641, k) else none) else (bif Nat.beq j 3 then some (10657, k) else none))) else none) else (bif Nat.beq t 2480 then (bif Nat.blt j 2 then (bif Nat.beq j 1 then some (20929, k) else none) else (bif Nat.blt j 3 then (bif Nat.beq j 2 then some (20945, k) else none) else (bif Nat.beq j 3 then some (20961, k) else none))) else none))) else (bif Nat.blt t 4672 then (bif Nat.beq t 2544 then (bif Nat.blt j 2 then (bif Nat.beq j 1 then some (16897, k) else none) else (bif Nat.blt j 3 then (bif Nat.beq j 2 then some (16913, k) else none) else (bif Nat.beq j 3 then some (16929, k) else none))) else none) else (bif Nat.blt t 6288 then (bif Nat.beq t 4672 then (bif Nat.beq j 2 then some (123475, k) else none) else none) else (bif Nat.beq t 6288 then (bif Nat.blt j 6 then (bif Nat.blt j 5 then (bif Nat.beq j 4 then some (204961, k) else none) else (bif Nat.beq j 5 then some (204977, k) else none)) else (bif Nat.blt j 7 then (bif Nat.beq j 6 then some (204993, k) else none) else (bif Nat.beq j 7 then some (205009, k) else none))) else none)))) else (bif Nat.blt t 12308 then (bif Nat.blt t 10464 then (bif Nat.beq t 8256 then (bif Nat.blt j 2 then (bif Nat.beq j 1 then some (12369, 0) else none) else (bif Nat.beq j 2 then some (131169, 0) else none)) else none) else (bif Nat.blt t 12288 then (bif Nat.beq t 10464 then (bif Nat.blt j 8 then (bif Nat.blt j 4 then (bif Nat.blt j 2 then (bif Nat.beq j 1 then some (10481, k) else none) else (bif Nat.blt j 3 then (bif Nat.beq j 2 then some (10497, k) else none) else (bif Nat.beq j 3 then some (10513, k) else none))) else (bif Nat.blt j 5 then (bif Nat.beq j 4 then some (10530, k) else none) else (bif Nat.blt j 7 then (bif Nat.beq j 5 then some (41265, k) else none) else (bif Nat.beq j 7 then some (12609, k) else none)))) else (bif Nat.blt j 12 then (bif Nat.blt j 9 then (bif Nat.beq j 8 then some (12625, k) else none) else (bif Nat.blt j 11 then (bif Nat.beq j 9 then some (12641, k) else none) else (bif Nat.beq j 11 then some (6288, w k) else none))) else (bif Nat.blt j 14 then (bif Nat.blt j 13 then (bif Nat.beq j 12 then some (2416, k) else none) else (bif Nat.beq j 13 then some (2480, k) else none)) else (bif Nat.blt j 15 then (bif Nat.beq j 14 then some (2544, k) else none) else (bif Nat.beq j 15 then some (12849, k) else none))))) else none) else (bif Nat.beq t 12288 then (bif Nat.blt j 5 then (bif Nat.blt j 3 then (bif Nat.blt j 2 then (bif Nat.beq j 0 then some (12308, 0) else none) else (bif Nat.beq j 2 then some (32, 0) else none)) else (bif Nat.blt j 4 then (bif Nat.beq j 3 then some (10464, 0) else none) else (bif Nat.beq j 4 then some (10464, 1) else none))) else (bif Nat.blt j 8 then (bif Nat.blt j 7 then (bif Nat.beq j 5 then some (10464, 2) else none) else (bif Nat.beq j 7 then some (8256, 0) else none)) else (bif Nat.blt j 10 then (bif Nat.beq j 8 then some (41073, 0) else none) else (bif Nat.beq j 10 then some (12421, 0) else none)))) else none))) else (bif Nat.blt t 12421 then (bif Nat.beq t 12308 then (some (6288, j + 1)) else none) else (bif Nat.blt t 14944 then (bif Nat.beq t 12421 then (some (4672, j)) else none) else (bif Nat.beq t 14944 then (bif Nat.blt j 40 then (bif Nat.blt j 21 then (bif Nat.blt j 10 then (bif Nat.blt j 7 then (bif Nat.blt j 5 then (bif Nat.beq j 4 then some (10865, 0) else none) else (bif Nat.blt j 6 then (bif Nat.beq j 5 then some (10881, 0) else none) else (bif Nat.beq j 6 then some (10897, 0) else none))) else (bif Nat.blt j 8 then (bif Nat.beq j 7 then some (41633, 0) else none) else (bif Nat.blt j 9 then (bif Nat.beq j 8 then some (12977, 0) else none) else (bif Nat.beq j 9 then some (12993, 0) else none)))) else (bif Nat.blt j 18 then (bif Nat.blt j 16 then (bif Nat.beq j 10 then some (13009, 0) else none) else (bif Nat.blt j 17 then (bif Nat.beq j 16 then some (205537, 0) else none) else (bif Nat.beq j 17 then some (13041, 0) else none))) else (bif Nat.blt j 19 then (bif Nat.beq j 18 then some (123649, 0) else none) else (bif Nat.blt j 20 then (bif Nat.beq j 19 then some (123665, 0) else none) else (bif Nat.beq j 20 then some (123681, 0) else none))))) else (bif Nat.blt j 32 then (bif Nat.blt j 27 then (bif Nat.blt j 22 then (bif Nat.beq j 21 then some (123697, 0) else none) else (bif Nat.blt j 23 then (bif Nat.beq j 22 then some (1229633, 0) else none) else (bif Nat.beq j 23 then some (207697, 0) else none))) else (bif Nat.blt j 28 then (bif Nat.beq j 27 then some (45921, 0) else none) else (bif Nat.blt j 31 then (bif Nat.beq j 28 then some (205682, 0) else none) else (bif Nat.beq j 31 then some (11137, 0) else none)))) else (bif Nat.blt j 35 then (bif Nat.blt j 33 then (bif Nat.beq j 32 then some (13201, 0) else none) else (bif Nat.blt j 34 then (bif Nat.beq j 33 then some (13217, 0) else none) else (bif Nat.beq j 34 then some (74674, 0) else none))) else (bif Nat.blt j 36 then (bif Nat.beq j 35 then some (13249, 0) else none) else (bif Nat.blt j 39 then (bif Nat.beq j 36 then some (13265, 0) else none) else (bif Nat.beq j 39 then some (11233, 0) else none)))))) else (bif Nat.blt j 63 then (bif Nat.blt j 57 then (bif Nat.blt j 45 then (bif Nat.blt j 41 then (bif Nat.beq j 40 then some (11249, 0) else none) else (bif Nat.blt j 44 then (bif Nat.beq j 41 then some (11265, 0) else none) else (bif Nat.beq j 44 then some (21521, 0) else none))) else (bif Nat.blt j 46 then (bif Nat.beq j 45 then some (21537, 0) else none) else (bif Nat.blt j 47 then (bif Nat.beq j 46 then some (17457, 0) else none) else (bif Nat.beq j 47 then some (17473, 0) else none)))) else (bif Nat.blt j 60 then (bif Nat.blt j 58 then (bif Nat.beq j 57 then some (11345, 0) else none) else (bif Nat.blt j 59 then (bif Nat.beq j 58 then some (11361, 0) else none) else (bif Nat.beq j 59 then some (11377, 0) else none))) else (bif Nat.blt j 61 then (bif Nat.beq j 60 then some (42113, 0) else none) else (bif Nat.blt j 62 then (bif Nat.beq j 61 then some (13457, 0) else none) else (bif Nat.beq j 62 then some (13473, 0) else none))))) else (bif Nat.blt j 69 then (bif Nat.blt j 66 then (bif Nat.blt j 64 then (bif Nat.beq j 63 then some (13489, 0) else none) else (bif Nat.blt j 65 then (bif Nat.beq j 64 then some (11457, 0) else none) else (bif Nat.beq j 65 then some (11473, 0) else none))) else (bif Nat.blt j 67 then (bif Nat.beq j 66 then some (11489, 0) else none) else (bif Nat.blt j 68 then (bif Nat.beq j 67 then some (21745, 0) else none) else (bif Nat.beq j 68 then some (21761, 0) else none)))) else (bif Nat.blt j 73 then (bif Nat.blt j 70 then (bif Nat.beq j 69 then some (17681, 0) else none) else (bif Nat.blt j 72 then (bif Nat.beq j 70 then some (17697, 0) else none) else (bif Nat.beq j 72 then some (42289, 0) else none))) else (bif Nat.blt j 75 then (bif Nat.blt j 74 then (bif Nat.beq j 73 then some (13633, 0) else none) else (bif Nat.beq j 74 then some (13649, 0) else none)) else (bif Nat.blt j 76 then (bif Nat.beq j 75 then some (738659, 0) else none) else (bif Nat.beq j 76 then some (124275, 0) else none))))))) else none))))
def hp (I : FI) (L : FL) (w : Nat → Nat) : Hp := (172, 5908, I, L, SR w)
