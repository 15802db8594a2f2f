set_option maxHeartbeats 400000
def w00 : Nat → Nat := fun _ => 0
def x18 : Option St := rs none (dnF 2000 6) 206 10 0 [some (vR tagX 0), none, none, none] [] h00
/-- references are as they were told to be -/
def agR (h : Hp) : Bool := (List.range 172).all fun i => match tK (nm i).1 with
  | 1 => true
  | 2 => true
  | 3 => true
  | _ => (List.range (bd (nm i).1)).all fun j => decide (hR h (nm i).1 (nm i).2 j = SR w00 (nm i).1 (nm i).2 j)
def ptI : List (Nat × Nat × Nat × Int32) := [(10464, 0, 0, 0), (14944, 0, 0, 0), (10464, 0, 6, 0), (14944, 0, 2, 0), (10464, 0, 10, 0), (14944, 0, 3, 0), (2416, 0, 0, 0), (14944, 0, 38, 0), (2480, 0, 0, 0), (14944, 0, 42, 0), (2544, 0, 0, 0), (14944, 0, 43, 0), (12288, 0, 1, 0), (14944, 0, 11, 0), (6288, 0, 0, 10), (6288, 0, 1, 0), (6288, 0, 2, 5), (6288, 0, 3, 0), (14944, 0, 12, -1), (12288, 0, 6, 0), (14944, 0, 48, 0), (32, 0, 1, 0), (14944, 0, 13, 0), (12288, 0, 9, 0), (14944, 0, 71, 0)]
def ptO (I : FI) : Bool := ptI.all fun q => decide (I q.1 q.2.1 q.2.2.1 = q.2.2.2)
def smL : List (Nat × Nat) := (List.range 5).flatMap (fun j => [(10481, j), (10497, j), (10513, j), (10530, j)]) ++ (List.range 20).map (fun j => (41265, j)) ++ (List.range 6).flatMap (fun j => [(12609, j), (12625, j), (12641, j)])
def smO (I : FI) : Bool := smL.all fun q => decide (rvM I q.1 q.2 = I q.1 0 q.2)
def rtO (I : FI) (L : FL) : Bool := (List.range 6).all fun t => decide (I 4672 t 0 = -1) && decide (I 13633 0 t = -1) && decide (I 4672 t 1 = 0) && decide (I 13649 0 t = 0) && (List.range 60).all fun i => decide (L 738659 0 (60 * t + i) = L 123475 t i)
def hlO (I : FI) : Bool := (List.range 22).all fun i => decide (I 45921 0 i = ltrs.getD i 0)
def ok18 (x : Option St) : Bool := match x with
  | some (pc, L, st, h) => Nat.beq pc 18 && (decide (L = [some (vR 1960 0), some (vR 12288 0), some (vR 14944 0), some (vI 0)]) && (st.isEmpty && (Nat.beq h.1 172 && (Nat.beq h.2.1 5908 && (agR h && (ptO (hI h) && (smO (hI h) && (rtO (hI h) (hL h) && hlO (hI h)))))))))
  | none => false
set_option maxRecDepth 100000 in
theorem start_ok : ok18 x18 = true := by decide +kernel
def okB : Bool := (List.range 172).all fun i => (List.range (bd (nm i).1)).all fun j => match SR w00 (nm i).1 (nm i).2 j with
  | none => true
  | some q => nmL.any fun p => Nat.beq p.1 q.1 && Nat.beq p.2 q.2
set_option maxRecDepth 100000 in
theorem okB_t : okB = true := by decide +kernel
