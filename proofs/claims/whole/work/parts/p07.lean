def gWords : List Cond := lw_tbl.filter goodWord
def isNest : Cond → Bool
  | .methodLinkNest .. => true
  | .fieldLinkNest .. => true
  | _ => false
def nWords : List Cond := lw_tbl.filter isNest
theorem gw_of {p : Nat} {w : Cond} (h : lw_tbl[p]? = some w) (hg : goodWord w = true) : w ∈ gWords := List.mem_filter.mpr ⟨List.mem_of_getElem? h, hg⟩
theorem nw_of {p : Nat} {w : Cond} (h : lw_tbl[p]? = some w) (hg : isNest w = true) : w ∈ nWords := List.mem_filter.mpr ⟨List.mem_of_getElem? h, hg⟩
theorem gw_good {w : Cond} (h : w ∈ gWords) : (w.onTables && w.keeps) = true ∨ ∃ ty, w = .arrayClass ty := good_of_word (List.mem_filter.mp h).2
def flW (x ci j : Nat) (nest : Bool) : Cond := match nest with
  | true => .fieldLinkNest (cN (x / 2048)) (x % 2048) (cN ci) (fT ci j).2.1 (fT ci j).2.2.1 "DeepWearer"
  | false => .fieldLink (cN (x / 2048)) (x % 2048) (cN ci) (fT ci j).2.1 (fT ci j).2.2.1
def chF (x : Nat) : Bool := match flk x with
  | none => true
  | some (ci, j, nest, p) => decide (lw_tbl[p]? = some (flW x ci j nest)) && Nat.blt ci 8 && Nat.blt j (nF ci) && (!nest || !(Nat.beq (x / 2048) ci))
def mlW (x y : Nat) (nest : Bool) : Cond := match nest with
  | true => .methodLinkNest (cN (x / 2048)) (x % 2048) (mY y) "DeepWearer"
  | false => .methodLink (cN (x / 2048)) (x % 2048) (mY y)
def chL (x : Nat) : Bool := match mlk x with
  | none => true
  | some (y, nest, p) => decide (lw_tbl[p]? = some (mlW x y nest))
def chC (x : Nat) : Bool := (match clk x with
  | none => true
  | some (c, p) => decide (lw_tbl[p]? = some (.classLink (cN (x / 2048)) (x % 2048) (cN c)))) &&
  (match slk x with
  | none => true
  | some (s, p) => decide (lw_tbl[p]? = some (.stringRef (cN (x / 2048)) (x % 2048) (STX.getD s ""))) && Nat.blt s 7) &&
  (match kck x with
  | none => true
  | some (v, p) => decide (lw_tbl[p]? = some (.constant (cN (x / 2048)) (x % 2048) v))) &&
  (match klk x with
  | none => true
  | some (v, p) => decide (lw_tbl[p]? = some (.constantLong (cN (x / 2048)) (x % 2048) v)))
def kdW (m : Nat) : Cond := match (mP m).2.1 with | 1 => .static (mY m) | _ => .instanceMethod (mY m)
/-- the words of a method that is called -/
def WY (m : Nat) : Prop := lw_tbl[(mP m).1]? = some (.code (mY m) (mB m) (mL m) (mR m)) ∧ lw_tbl[(mP m).2.2.1]? = some (kdW m) ∧ lw_tbl[(mP m).2.2.2.2]? = some (.initialized (mY m).cls) ∧ ((mP m).2.1 = 0 → lw_tbl[(mP m).2.2.2.1]? = some (.selects (mY m).cls (mY m) (mY m)))
def chY (m : Nat) : Bool := (!(Nat.beq (mP m).2.1 2) || (mY m).name == "<init>") &&
  ((mY m).cls == cN (mC m) && plainName (mY m).cls && (decide ((mY m).cls ≠ "java/lang/invoke/MethodHandle") && decide ((mY m).cls ≠ "java/lang/invoke/VarHandle"))) &&
  decide ((parseMethodDescriptor (mY m).desc).map (fun d => d.parameters.length) = some (mN m)) && Nat.ble (mL m) 20
set_option maxRecDepth 100000 in
theorem chF_ok : (List.range 32768).all chF = true := by decide +kernel
set_option maxRecDepth 100000 in
theorem chL_ok : (List.range 32768).all chL = true := by decide +kernel
set_option maxRecDepth 100000 in
theorem chC_ok : (List.range 32768).all chC = true := by decide +kernel
