set_option maxHeartbeats 400000
section P49
variable {d : Nat} {I : FI} {L : FL} {w : Nat → Nat} {nW nT : Nat} {x y z : Int32}
/-- thing -/
def ntD (I : FI) (n : Nat) (x y : Int32) : FI := uI (uI (uI (uI I 12609 0 n x) 12625 0 n y) 12641 0 n 0) 10464 0 6 (c (n + 1))
def ntM (I : FI) (n : Nat) (x y : Int32) : FI := uI (uI (uI (uI I 12977 0 n x) 12993 0 n y) 13009 0 n 0) 14944 0 2 (c (n + 1))
theorem s35 (hn : nT < 6) (h5 : I 10464 0 6 = c nT) : dn (d + 1) 35 [vR 10464 0, vI x, vI y] (hp I L w) = some (some (vI (c nT)), hp (ntD I nT x y) L w) := by
  rw [e35, b35_0]
  simp only [h5, uI_t (show (10464 : Nat) ≠ 12609 by omega), uI_t (show (10464 : Nat) ≠ 12625 by omega), uI_t (show (10464 : Nat) ≠ 12641 by omega), vin_c hn (show 6 < 2147483648 by omega), ck_tt, ix_c (show nT < 2147483648 by omega), c_s]
  rfl
theorem s56 (h1 : nW ≤ 5) (h2 : nT ≤ 6) (h4 : I 10464 0 0 = c nW) (h5 : I 10464 0 6 = c nT) : dn (d + 2) 56 [vR 12288 0, vI x, vI y] (hp I L w) = (if 0 ≤ y ∧ y < c nW then (if 0 ≤ x ∧ x ≤ 9 then (if nT < 6 then some (some (vI (c nT)), hp (ntD I nT x y) L w) else some (some (vI (-4)), hp I L w)) else some (some (vI (-2)), hp I L w)) else some (some (vI (-1)), hp I L w)) := by
  rw [e56, b56_0, s31, bn_s, h4]
  show rn none _ 56 8 _ [vI _] _ = _
  rw [b56_8, ib, s103, bn_s]
  show (if _ then rn none _ 56 19 _ [vI _] _ else _) = _
  rw [b56_19, ib, h5, show (6 : Int32) = c 6 from rfl]
  by_cases f : nT < 6
  · rw [if_pos (show c nT < c 6 from by rw [c_lt (by omega) (by omega)]; exact f), if_pos f, s35 f h5, bn_s]
    show (if _ then if _ then rn none _ 56 49 _ [vI _] _ else _ else _) = _
    rw [b56_49]
  · rw [if_neg (show ¬ c nT < c 6 from by rw [c_lt (by omega) (by omega)]; exact f), if_neg f]
theorem s116 (h1 : nW ≤ 5) (h2 : nT ≤ 6) (h4 : I 14944 0 0 = c nW) (h5 : I 14944 0 2 = c nT) : dn (d + 3) 116 [vR 14944 0, vI x, vI y] (hp I L w) = (if 0 ≤ y ∧ y < c nW then (if 0 ≤ x ∧ x ≤ 9 then (if nT < 6 then some (some (vI (c nT)), hp (ntM I nT x y) L w) else some (some (vI (-4)), hp I L w)) else some (some (vI (-2)), hp I L w)) else some (some (vI (-1)), hp I L w)) := by
  rw [e116, b116_0, s110 (by omega) h4, bn_s]
  show rn none _ 116 5 _ [vI _] _ = _
  rw [b116_5, ib, s106, bn_s]
  show (if _ then rn none _ 116 18 _ [vI _] _ else _) = _
  rw [b116_18, ib]
  simp only [h5, uI_t (show (14944 : Nat) ≠ 12977 by omega), uI_t (show (14944 : Nat) ≠ 12993 by omega), uI_t (show (14944 : Nat) ≠ 13009 by omega), ix_c (show nT < 2147483648 by omega), c_s]
  by_cases f : nT < 6
  · rw [if_neg (show ¬ c nT = 6 from fun q => by
      have := c_inj (a := nT) (b := 6) (by omega) (by omega) q
      omega), if_pos f]
    simp only [vin_c f (show 6 < 2147483648 by omega), ck_tt]
    rw [show c (nT + 1) - 1 = c nT from by rw [show (1 : Int32) = c 1 from rfl, c_sub (by omega), Nat.add_sub_cancel]]
    rfl
  · obtain rfl : nT = 6 := by omega
    rw [if_pos (show c 6 = 6 from rfl), if_neg f]
/-- leave -/
theorem s61 (h1 : nW ≤ 5) (h4 : I 10464 0 0 = c nW) : dn (d + 2) 61 [vR 12288 0, vI x, vI y] (hp I L w) = (if 0 ≤ x ∧ x < c nW then some (some (vI (if I 10530 0 (ix x) = 0 then 0 else 1)), hp (uI I 10530 0 (ix x) (y &&& 1)) L w) else some (some (vI (-1)), hp I L w)) := by
  rw [e61, b61_0, s31, bn_s, h4]
  show rn none _ 61 8 _ [vI _] _ = _
  rw [b61_8, ib]
  by_cases a : 0 ≤ x ∧ x < c nW
  · obtain ⟨t, ht, h6, rfl⟩ := of_5 h1 a
    rw [if_pos a, if_pos a, ck_t (vin_c h6 (by omega)), ck_t (vin_c h6 (by omega))]
    split <;> rfl
  · rw [if_neg a, if_neg a]
def gl (g : Int32) (x y : Int32) : Int32 := if y = 0 then g &&& ((1 <<< (x &&& 31)) ^^^ (-1)) else g ||| (1 <<< (x &&& 31))
theorem s118 : dn (d + 1) 118 [vR 14944 0, vI x, vI y] (hp I L w) = some (none, hp (uI I 14944 0 1 (gl (I 14944 0 1) x y)) L w) := by
  rw [e118, b118_0]
  unfold gl
  split <;> rfl
theorem s119 (h1 : nW ≤ 5) (h4 : I 14944 0 0 = c nW) : dn (d + 3) 119 [vR 14944 0, vI x, vI y] (hp I L w) = (if 0 ≤ x ∧ x < c nW then some (some (vI (if hs (I 14944 0 1) (ix x) = true then 1 else 0)), hp (uI I 14944 0 1 (gl (I 14944 0 1) x y)) L w) else some (some (vI (-1)), hp I L w)) := by
  rw [e119, b119_0, s110 (by omega) h4, bn_s]
  show rn none _ 119 5 _ [vI _] _ = _
  rw [b119_5, ib]
  by_cases a : 0 ≤ x ∧ x < c nW
  · obtain ⟨t, ht, h6, rfl⟩ := of_5 h1 a
    rw [if_pos a, if_pos a, s107, bn_s]
    show rn none _ 119 19 _ [vI _] _ = _
    rw [b119_19, ib, s118, bn_s, bn_s]
    show (if _ then rn none _ 119 34 _ [] _ else rn none _ 119 34 _ [] _) = _
    rw [b119_34, b119_34, ix_c (by omega)]
    split <;> rfl
  · rw [if_neg a, if_neg a]
/-- count -/
def cntF (a b e f g h i j x : Int32) : Int32 := if x = 0 then a else if x = 1 then b else if x = 2 then e else if x = 3 then f else if x = 4 then g else if x = 5 then h else if x = 6 then i else if x = 7 then j else -2
theorem s96 : dn (d + 1) 96 [vR 12288 0, vI x] (hp I L w) = some (some (vI (cntF (I 10464 0 0) (I 10464 0 6) (I 12288 0 1) (I 2416 0 0) (I 2480 0 0) (I 2544 0 0) (I 32 0 1) (I 12288 0 9) x)), hp I L w) := by
  rw [e96, b96_0]
  unfold cntF
  repeat' (split <;> try rfl)
theorem s199 : dn (d + 1) 199 [vR 14944 0, vI x] (hp I L w) = some (some (vI (cntF (I 14944 0 0) (I 14944 0 2) (I 14944 0 11) (I 14944 0 38) (I 14944 0 42) (I 14944 0 43) (I 14944 0 13) (I 14944 0 71) x)), hp I L w) := by
  rw [e199, b199_0]
  unfold cntF
  repeat' (split <;> try rfl)
/-- feed -/
theorem s65 {n : Nat} (hn : n ≤ 100) (h : I 32 0 1 = c n) : dn (d + 2) 65 [vR 12288 0, vI x] (hp I L w) = (if 0 ≤ x ∧ x ≤ 127 then (if n < 100 then some (some (vI (c (n + 1))), hp (uI (uI I 204849 0 n x) 32 0 1 (c (n + 1))) L w) else some (some (vI (-4)), hp I L w)) else some (some (vI (-2)), hp I L w)) := by
  rw [e65, b65_0, s103, bn_s]
  show rn none _ 65 6 _ [vI _] _ = _
  rw [b65_6, ib]
  simp only [h, uI_t (show (32 : Nat) ≠ 204849 by omega), uI_e, ix_c (show n < 2147483648 by omega), c_s]
  by_cases f : n < 100
  · rw [if_pos (show c n < 100 from by rw [show (100 : Int32) = c 100 from rfl, c_lt (by omega) (by omega)]; exact f), if_pos f, ck_t (vin_c f (by omega))]
  · rw [if_neg (show ¬ c n < 100 from by rw [show (100 : Int32) = c 100 from rfl, c_lt (by omega) (by omega)]; exact f), if_neg f]
theorem s125 {n : Nat} (hn : n ≤ 100) (h : I 14944 0 13 = c n) : dn (d + 2) 125 [vR 14944 0, vI x] (hp I L w) = (if 0 ≤ x ∧ x ≤ 127 then (if n < 100 then some (some (vI (c (n + 1))), hp (uI (uI I 205537 0 n x) 14944 0 13 (c (n + 1))) L w) else some (some (vI (-4)), hp I L w)) else some (some (vI (-2)), hp I L w)) := by
  rw [e125, b125_0, s106, bn_s]
  show rn none _ 125 8 _ [vI _] _ = _
  rw [b125_8, ib]
  simp only [h, uI_t (show (14944 : Nat) ≠ 205537 by omega), uI_e, ix_c (show n < 2147483648 by omega), c_s]
  by_cases f : n < 100
  · rw [if_neg (show ¬ c n = 100 from fun q => by
      have := c_inj (a := n) (b := 100) (by omega) (by omega) q
      omega), if_pos f, ck_t (vin_c f (by omega))]
  · obtain rfl : n = 100 := by omega
    rw [if_pos (show c 100 = 100 from rfl), if_neg f]
end P49
