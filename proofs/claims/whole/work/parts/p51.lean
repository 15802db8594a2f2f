set_option maxHeartbeats 400000
section P51
variable {d : Nat} {I : FI} {L : FL} {w : Nat → Nat} {nW nT n : Nat} {x y z : Int32}
def nra (I : FI) (k n : Nat) (x y z : Int32) : FI := uI (uI (uI (uI I 10625 k n x) 10641 k n y) 10657 k n z) 2416 k 0 (c (n + 1))
theorem s13a {k : Nat} (hn : n ≤ 5) (h : I 2416 k 0 = c n) : dn (d + 1) 13 [vR 2416 k, vI x, vI y, vI z] (hp I L w) = (if n < 5 then some (some (vI (c (n + 1))), hp (nra I k n x y z) L w) else some (some (vI (-4)), hp I L w)) := by
  rw [e13a, b13_0a]
  simp only [h, uI_e, ix_c (show n < 2147483648 by omega), c_s]
  by_cases f : n < 5
  · rw [if_pos (show c n < 5 from by rw [show (5 : Int32) = c 5 from rfl, c_lt (by omega) (by omega)]; exact f), if_pos f, ck_t (vin_c f (by omega)), ck_t (vin_c f (by omega)), ck_t (vin_c f (by omega))]
    rfl
  · rw [if_neg (show ¬ c n < 5 from by rw [show (5 : Int32) = c 5 from rfl, c_lt (by omega) (by omega)]; exact f), if_neg f]
theorem s12a {k : Nat} : dn (d + 1) 12 [vR 2416 k] (hp I L w) = some (some (vI 0), hp (uI I 2416 k 0 0) L w) := by
  rw [e12a, b12_0a, uI_e]
def nrb (I : FI) (k n : Nat) (x y z : Int32) : FI := uI (uI (uI (uI I 20929 k n x) 20945 k n y) 20961 k n z) 2480 k 0 (c (n + 1))
theorem s13b {k : Nat} (hn : n ≤ 10) (h : I 2480 k 0 = c n) : dn (d + 1) 13 [vR 2480 k, vI x, vI y, vI z] (hp I L w) = (if n < 10 then some (some (vI (c (n + 1))), hp (nrb I k n x y z) L w) else some (some (vI (-4)), hp I L w)) := by
  rw [e13b, b13_0b]
  simp only [h, uI_e, ix_c (show n < 2147483648 by omega), c_s]
  by_cases f : n < 10
  · rw [if_pos (show c n < 10 from by rw [show (10 : Int32) = c 10 from rfl, c_lt (by omega) (by omega)]; exact f), if_pos f, ck_t (vin_c f (by omega)), ck_t (vin_c f (by omega)), ck_t (vin_c f (by omega))]
    rfl
  · rw [if_neg (show ¬ c n < 10 from by rw [show (10 : Int32) = c 10 from rfl, c_lt (by omega) (by omega)]; exact f), if_neg f]
theorem s12b {k : Nat} : dn (d + 1) 12 [vR 2480 k] (hp I L w) = some (some (vI 0), hp (uI I 2480 k 0 0) L w) := by
  rw [e12b, b12_0b, uI_e]
def nrc (I : FI) (k n : Nat) (x y z : Int32) : FI := uI (uI (uI (uI I 16897 k n x) 16913 k n y) 16929 k n z) 2544 k 0 (c (n + 1))
theorem s13c {k : Nat} (hn : n ≤ 8) (h : I 2544 k 0 = c n) : dn (d + 1) 13 [vR 2544 k, vI x, vI y, vI z] (hp I L w) = (if n < 8 then some (some (vI (c (n + 1))), hp (nrc I k n x y z) L w) else some (some (vI (-4)), hp I L w)) := by
  rw [e13c, b13_0c]
  simp only [h, uI_e, ix_c (show n < 2147483648 by omega), c_s]
  by_cases f : n < 8
  · rw [if_pos (show c n < 8 from by rw [show (8 : Int32) = c 8 from rfl, c_lt (by omega) (by omega)]; exact f), if_pos f, ck_t (vin_c f (by omega)), ck_t (vin_c f (by omega)), ck_t (vin_c f (by omega))]
    rfl
  · rw [if_neg (show ¬ c n < 8 from by rw [show (8 : Int32) = c 8 from rfl, c_lt (by omega) (by omega)]; exact f), if_neg f]
theorem s12c {k : Nat} : dn (d + 1) 12 [vR 2544 k] (hp I L w) = some (some (vI 0), hp (uI I 2544 k 0 0) L w) := by
  rw [e12c, b12_0c, uI_e]
theorem s75 (h2 : nT ≤ 6) (h5 : I 10464 0 6 = c nT) (hn : n ≤ 5) (h : I 2416 0 0 = c n) : dn (d + 2) 75 [vR 12288 0, vI x, vI y, vI z] (hp I L w) = (if x = -1 then some (some (vI 0), hp (uI I 2416 0 0 0) L w) else if 0 ≤ x ∧ x < c nT then (if (0 ≤ y ∧ y ≤ 999) ∧ (0 ≤ z ∧ z ≤ 20) then (if n < 5 then some (some (vI (c (n + 1))), hp (nra I 0 n x y z) L w) else some (some (vI (-4)), hp I L w)) else some (some (vI (-2)), hp I L w)) else some (some (vI (-1)), hp I L w)) := by
  rw [e75, b75_0, s12a, bn_s, s32, bn_s, h5]
  show (if _ then rn none _ 75 15 _ [vI _] _ else rn none _ 75 24 _ [vI _] _) = _
  rw [b75_15, b75_24, ib, s103, bn_s]
  show (if _ then _ else if _ then rn none _ 75 36 _ [vI _] _ else _) = _
  rw [b75_36, ib, s103, bn_s]
  show (if _ then _ else if _ then if _ then rn none _ 75 45 _ [vI _] _ else _ else _) = _
  rw [b75_45, ib, s13a hn h]
  by_cases a : 0 ≤ y ∧ y ≤ 999
  · rw [if_pos a]
    by_cases b : 0 ≤ z ∧ z ≤ 20
    · rw [if_pos b, if_pos (And.intro a b)]
      by_cases f : n < 5
      · rw [if_pos f, bn_s]
        show (if _ then _ else if _ then rn none _ 75 64 _ [vI _] _ else _) = _
        rw [b75_64]
      · rw [if_neg f, bn_s]
        show (if _ then _ else if _ then rn none _ 75 64 _ [vI _] _ else _) = _
        rw [b75_64]
    · rw [if_neg b, if_neg (show ¬ ((0 ≤ y ∧ y ≤ 999) ∧ (0 ≤ z ∧ z ≤ 20)) from fun q => b q.2)]
  · rw [if_neg a, if_neg (show ¬ ((0 ≤ y ∧ y ≤ 999) ∧ (0 ≤ z ∧ z ≤ 20)) from fun q => a q.1)]
def nsM (I : FI) (n : Nat) (x y z : Int32) : FI := uI (uI (uI (uI I 11233 0 n x) 11249 0 n y) 11265 0 n z) 14944 0 38 (c (n + 1))
theorem s170 (h2 : nT ≤ 6) (h5 : I 14944 0 2 = c nT) (hn : n ≤ 5) (h : I 14944 0 38 = c n) : dn (d + 3) 170 [vR 14944 0, vI x, vI y, vI z] (hp I L w) = (if x = -1 then some (some (vI 0), hp (uI I 14944 0 38 0) L w) else if 0 ≤ x ∧ x < c nT then (if (0 ≤ y ∧ y ≤ 999) ∧ (0 ≤ z ∧ z ≤ 20) then (if n < 5 then some (some (vI (c (n + 1))), hp (nsM I n x y z) L w) else some (some (vI (-4)), hp I L w)) else some (some (vI (-2)), hp I L w)) else some (some (vI (-1)), hp I L w)) := by
  rw [e170, b170_0, s111 (by omega) h5, bn_s]
  show (if _ then _ else rn none _ 170 17 _ [vI _] _) = _
  rw [b170_17, ib, s113, bn_s]
  show (if _ then _ else if _ then rn none _ 170 27 _ [vI _] _ else _) = _
  rw [b170_27, ib, s106, bn_s]
  show (if _ then _ else if _ then if _ then rn none _ 170 38 _ [vI _] _ else _ else _) = _
  rw [b170_38, ib, h]
  simp only [ix_c (show n < 2147483648 by omega), c_s]
  by_cases a : 0 ≤ y ∧ y ≤ 999
  · rw [if_pos a]
    by_cases b : 0 ≤ z ∧ z ≤ 20
    · rw [if_pos b, if_pos (And.intro a b)]
      by_cases f : n < 5
      · rw [if_neg (show ¬ c n = 5 from fun q => by
          have := c_inj (a := n) (b := 5) (by omega) (by omega) q
          omega), if_pos f, ck_t (vin_c f (by omega)), ck_t (vin_c f (by omega)), ck_t (vin_c f (by omega))]
        rfl
      · obtain rfl : n = 5 := by omega
        rw [if_pos (show c 5 = 5 from rfl), if_neg f]
    · rw [if_neg b, if_neg (show ¬ ((0 ≤ y ∧ y ≤ 999) ∧ (0 ≤ z ∧ z ≤ 20)) from fun q => b q.2)]
  · rw [if_neg a, if_neg (show ¬ ((0 ≤ y ∧ y ≤ 999) ∧ (0 ≤ z ∧ z ≤ 20)) from fun q => a q.1)]
theorem s84 (h2 : nT ≤ 6) (h5 : I 10464 0 6 = c nT) (hn : n ≤ 8) (h : I 2544 0 0 = c n) : dn (d + 2) 84 [vR 12288 0, vI x, vI y] (hp I L w) = (if x = -1 then some (some (vI 0), hp (uI I 2544 0 0 0) L w) else if 0 ≤ x ∧ x < c nT then (if 0 ≤ y ∧ y ≤ 999 then (if n < 8 then some (some (vI (c (n + 1))), hp (nrc I 0 n x y 0) L w) else some (some (vI (-4)), hp I L w)) else some (some (vI (-2)), hp I L w)) else some (some (vI (-1)), hp I L w)) := by
  rw [e84, b84_0, s12c, bn_s, s32, bn_s, h5]
  show (if _ then rn none _ 84 15 _ [vI _] _ else rn none _ 84 24 _ [vI _] _) = _
  rw [b84_15, b84_24, ib, s103, bn_s]
  show (if _ then _ else if _ then rn none _ 84 36 _ [vI _] _ else _) = _
  rw [b84_36, ib, s13c hn h]
  by_cases f : n < 8
  · rw [if_pos f, bn_s]
    show (if _ then _ else if _ then if _ then rn none _ 84 55 _ [vI _] _ else _ else _) = _
    rw [b84_55]
  · rw [if_neg f, bn_s]
    show (if _ then _ else if _ then if _ then rn none _ 84 55 _ [vI _] _ else _ else _) = _
    rw [b84_55]
def nbM (I : FI) (n : Nat) (x y : Int32) : FI := uI (uI (uI I 17457 0 n x) 17473 0 n y) 14944 0 43 (c (n + 1))
theorem s183 (h2 : nT ≤ 6) (h5 : I 14944 0 2 = c nT) (hn : n ≤ 8) (h : I 14944 0 43 = c n) : dn (d + 3) 183 [vR 14944 0, vI x, vI y] (hp I L w) = (if x = -1 then some (some (vI 0), hp (uI I 14944 0 43 0) L w) else if 0 ≤ x ∧ x < c nT then (if 0 ≤ y ∧ y ≤ 999 then (if n < 8 then some (some (vI (c (n + 1))), hp (nbM I n x y) L w) else some (some (vI (-4)), hp I L w)) else some (some (vI (-2)), hp I L w)) else some (some (vI (-1)), hp I L w)) := by
  rw [e183, b183_0, s111 (by omega) h5, bn_s]
  show (if _ then _ else rn none _ 183 17 _ [vI _] _) = _
  rw [b183_17, ib, s113, bn_s]
  show (if _ then _ else if _ then rn none _ 183 27 _ [vI _] _ else _) = _
  rw [b183_27, ib, h]
  simp only [ix_c (show n < 2147483648 by omega), c_s]
  by_cases f : n < 8
  · rw [if_neg (show ¬ c n = 8 from fun q => by
      have := c_inj (a := n) (b := 8) (by omega) (by omega) q
      omega), if_pos f, ck_t (vin_c f (by omega)), ck_t (vin_c f (by omega))]
    rfl
  · obtain rfl : n = 8 := by omega
    rw [if_pos (show c 8 = 8 from rfl), if_neg f]
end P51
