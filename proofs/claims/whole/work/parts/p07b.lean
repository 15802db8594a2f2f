set_option maxRecDepth 100000 in
theorem chY_0 : (List.range 15).all (fun k => Nat.beq (0 + k) 206 || chY (0 + k)) = true := by decide +kernel
set_option maxRecDepth 100000 in
theorem chY_15 : (List.range 15).all (fun k => Nat.beq (15 + k) 206 || chY (15 + k)) = true := by decide +kernel
set_option maxRecDepth 100000 in
theorem chY_30 : (List.range 15).all (fun k => Nat.beq (30 + k) 206 || chY (30 + k)) = true := by decide +kernel
set_option maxRecDepth 100000 in
theorem chY_45 : (List.range 15).all (fun k => Nat.beq (45 + k) 206 || chY (45 + k)) = true := by decide +kernel
set_option maxRecDepth 100000 in
theorem chY_60 : (List.range 15).all (fun k => Nat.beq (60 + k) 206 || chY (60 + k)) = true := by decide +kernel
set_option maxRecDepth 100000 in
theorem chY_75 : (List.range 15).all (fun k => Nat.beq (75 + k) 206 || chY (75 + k)) = true := by decide +kernel
set_option maxRecDepth 100000 in
theorem chY_90 : (List.range 15).all (fun k => Nat.beq (90 + k) 206 || chY (90 + k)) = true := by decide +kernel
set_option maxRecDepth 100000 in
theorem chY_105 : (List.range 15).all (fun k => Nat.beq (105 + k) 206 || chY (105 + k)) = true := by decide +kernel
set_option maxRecDepth 100000 in
theorem chY_120 : (List.range 15).all (fun k => Nat.beq (120 + k) 206 || chY (120 + k)) = true := by decide +kernel
set_option maxRecDepth 100000 in
theorem chY_135 : (List.range 15).all (fun k => Nat.beq (135 + k) 206 || chY (135 + k)) = true := by decide +kernel
set_option maxRecDepth 100000 in
theorem chY_150 : (List.range 15).all (fun k => Nat.beq (150 + k) 206 || chY (150 + k)) = true := by decide +kernel
set_option maxRecDepth 100000 in
theorem chY_165 : (List.range 15).all (fun k => Nat.beq (165 + k) 206 || chY (165 + k)) = true := by decide +kernel
set_option maxRecDepth 100000 in
theorem chY_180 : (List.range 15).all (fun k => Nat.beq (180 + k) 206 || chY (180 + k)) = true := by decide +kernel
set_option maxRecDepth 100000 in
theorem chY_195 : (List.range 15).all (fun k => Nat.beq (195 + k) 206 || chY (195 + k)) = true := by decide +kernel
set_option maxRecDepth 100000 in
theorem chY_210 : (List.range 13).all (fun k => Nat.beq (210 + k) 206 || chY (210 + k)) = true := by decide +kernel
set_option maxRecDepth 100000 in
theorem chY_225 : (List.range 1).all (fun k => Nat.beq (225 + k) 206 || chY (225 + k)) = true := by decide +kernel
theorem chY_r {m lo n : Nat} (h : (List.range n).all (fun k => Nat.beq (lo + k) 206 || chY (lo + k)) = true) (h1 : lo ≤ m) (h2 : m < lo + n) (h6 : m ≠ 206) : chY m = true := by
  have h3 := List.all_eq_true.mp h (m - lo) (List.mem_range.mpr (by omega))
  rw [show lo + (m - lo) = m by omega] at h3
  rcases (Bool.or_eq_true _ _).mp h3 with z | z
  · exact absurd (Nat.eq_of_beq_eq_true z) (by omega)
  · exact z
theorem chY_at {m : Nat} (hm : m < 226) (h6 : m ≠ 206) (h7 : m ≠ 223 ∧ m ≠ 224) : chY m = true := by
  rcases Nat.lt_or_ge m 15 with q | q
  · exact chY_r chY_0 (by omega) (by omega) h6
  rcases Nat.lt_or_ge m 30 with q | q
  · exact chY_r chY_15 (by omega) (by omega) h6
  rcases Nat.lt_or_ge m 45 with q | q
  · exact chY_r chY_30 (by omega) (by omega) h6
  rcases Nat.lt_or_ge m 60 with q | q
  · exact chY_r chY_45 (by omega) (by omega) h6
  rcases Nat.lt_or_ge m 75 with q | q
  · exact chY_r chY_60 (by omega) (by omega) h6
  rcases Nat.lt_or_ge m 90 with q | q
  · exact chY_r chY_75 (by omega) (by omega) h6
  rcases Nat.lt_or_ge m 105 with q | q
  · exact chY_r chY_90 (by omega) (by omega) h6
  rcases Nat.lt_or_ge m 120 with q | q
  · exact chY_r chY_105 (by omega) (by omega) h6
  rcases Nat.lt_or_ge m 135 with q | q
  · exact chY_r chY_120 (by omega) (by omega) h6
  rcases Nat.lt_or_ge m 150 with q | q
  · exact chY_r chY_135 (by omega) (by omega) h6
  rcases Nat.lt_or_ge m 165 with q | q
  · exact chY_r chY_150 (by omega) (by omega) h6
  rcases Nat.lt_or_ge m 180 with q | q
  · exact chY_r chY_165 (by omega) (by omega) h6
  rcases Nat.lt_or_ge m 195 with q | q
  · exact chY_r chY_180 (by omega) (by omega) h6
  rcases Nat.lt_or_ge m 210 with q | q
  · exact chY_r chY_195 (by omega) (by omega) h6
  rcases Nat.lt_or_ge m 225 with q | q
  · exact chY_r chY_210 (by omega) (by omega) h6
  exact chY_r chY_225 (by omega) (by omega) h6
