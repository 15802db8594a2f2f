set_option maxHeartbeats 400000
/-- a stretch of a row is filled -/
def fil (I : FI) (t k a b : Nat) (x : Int32) : FI := fun t' k' j => if t' = t ∧ k' = k ∧ a ≤ j ∧ j < b then x else I t' k' j
theorem fil_0 {I : FI} {t k a : Nat} {x : Int32} : fil I t k a a x = I := by
  funext t' k' j
  unfold fil
  rw [if_neg (fun z => by omega)]
theorem fil_s {I : FI} {t k a i : Nat} {x : Int32} (h : a ≤ i) : uI (fil I t k a i x) t k i x = fil I t k a (i + 1) x := by
  funext t' k' j
  unfold uI fil
  by_cases e : t' = t ∧ k' = k ∧ j = i
  · rw [if_pos e, if_pos ⟨e.1, e.2.1, by omega, by omega⟩]
  · rw [if_neg e]
    by_cases q : t' = t ∧ k' = k ∧ a ≤ j ∧ j < i
    · rw [if_pos q, if_pos ⟨q.1, q.2.1, q.2.2.1, by omega⟩]
    · rw [if_neg q, if_neg (fun z => by
        have : j ≠ i := fun y => e ⟨z.1, z.2.1, y⟩
        exact q ⟨z.1, z.2.1, z.2.2.1, by omega⟩)]
theorem fil_p {I : FI} {t k a b t' k' : Nat} {x : Int32} (h : t' ≠ t) : fil I t k a b x t' k' = I t' k' := by
  funext j; unfold fil; rw [if_neg (fun z => h z.1)]
theorem s219 {d : Nat} {I : FI} {L : FL} {w : Nat → Nat} {n a b : Nat} (h1 : a ≤ b) (h2 : b ≤ n) (h3 : n < 2147483648) : dn (d + 1) 219 [vI (c n), vI (c a), vI (c b)] (hp I L w) = some (none, hp I L w) := by
  rw [e219, b219_0, if_neg (by rw [c_lt (by omega) (by omega)]; omega), if_neg (by rw [c_n0 (by omega)]; exact id), if_neg (by rw [c_lt (by omega) (by omega)]; omega)]
theorem s222 {d : Nat} {I : FI} {L : FL} {w : Nat → Nat} {k a b : Nat} {x : Int32} (h1 : a ≤ b) (h2 : b ≤ 20) : dn (d + 2) 222 [vR 41265 k, vI (c a), vI (c b), vI x] (hp I L w) = some (none, hp (fil I 41265 k a b x) L w) := by
  have A : ∀ r i, i + r = b → a ≤ i → rn none (dn (d + 1)) 222 10 [some (vR 41265 k), some (vI (c a)), some (vI (c b)), some (vI x), some (vI (c i))] [] (hp (fil I 41265 k a i x) L w) = some (none, hp (fil I 41265 k a b x) L w) := by
    intro r
    induction r with
    | zero =>
      intro i hi ha
      obtain rfl : i = b := by omega
      rw [b222_10, if_neg (by rw [c_lt (by omega) (by omega)]; omega)]
    | succ r ih =>
      intro i hi ha
      rw [b222_10, if_pos (by rw [c_lt (by omega) (by omega)]; omega), ck_t (vin_c (by omega) (by omega)), ix_c (by omega), fil_s ha, c_s]
      exact ih (i + 1) (by omega) (by omega)
  rw [e222, b222_0, show (20 : Int32) = c 20 from rfl, s219 h1 h2 (by omega), bn_s]
  show rn none _ 222 7 _ [] _ = _
  rw [b222_7]
  have := A (b - a) a (by omega) (Nat.le_refl _)
  rw [fil_0] at this
  exact this
section P48
variable {d : Nat} {I : FI} {L : FL} {w : Nat → Nat} {nW nT : Nat} {x y z : Int32}
/-- a wearer more, in the class's cells -/
def nwD (I : FI) (n : Nat) (x y z : Int32) : FI := uI (fil (uI (uI (uI (uI I 10481 0 n x) 10497 0 n y) 10513 0 n z) 10530 0 n 0) 41265 0 (n * 4) ((n + 1) * 4) 0) 10464 0 0 (c (n + 1))
theorem s34 (hn : nW < 5) (h4 : I 10464 0 0 = c nW) : dn (d + 3) 34 [vR 10464 0, vI x, vI y, vI z] (hp I L w) = some (some (vI (c nW)), hp (nwD I nW x y z) L w) := by
  rw [e34, b34_0, h4, ck_t (vin_c hn (by omega)), ck_t (vin_c hn (by omega)), ck_t (vin_c hn (by omega)), ck_t (vin_c hn (by omega)), ix_c (by omega), c_s, show (4 : Int32) = c 4 from rfl, ← Int32.ofNat_mul, ← Int32.ofNat_mul, s222 (by omega) (by omega), bn_s, show (0 &&& 1 : Int32) = 0 from by decide]
  show rn none _ 34 56 _ [] _ = _
  rw [b34_56, fil_p (by omega), uI_p (by omega), uI_p (by omega), uI_p (by omega), uI_p (by omega), h4, c_s]
  rfl
theorem s55 (h1 : nW ≤ 5) (h4 : I 10464 0 0 = c nW) : dn (d + 4) 55 [vR 12288 0, vI x, vI y, vI z] (hp I L w) = (if 0 ≤ x ∧ x ≤ 6 then (if (0 ≤ y ∧ y ≤ 9) ∧ (0 ≤ z ∧ z ≤ 99) then (if nW < 5 then some (some (vI (c nW)), hp (nwD I nW x y z) L w) else some (some (vI (-4)), hp I L w)) else some (some (vI (-2)), hp I L w)) else some (some (vI (-1)), hp I L w)) := by
  rw [e55, b55_0, s103, bn_s]
  show rn none _ 55 6 _ [vI _] _ = _
  rw [b55_6, ib, s103, bn_s]
  show (if _ then rn none _ 55 17 _ [vI _] _ else _) = _
  rw [b55_17, ib, s103, bn_s]
  show (if _ then if _ then rn none _ 55 26 _ [vI _] _ else _ else _) = _
  rw [b55_26, ib, h4, show (5 : Int32) = c 5 from rfl, ]
  by_cases a : 0 ≤ x ∧ x ≤ 6
  · rw [if_pos a, if_pos a]
    by_cases b : 0 ≤ y ∧ y ≤ 9
    · rw [if_pos b]
      by_cases e : 0 ≤ z ∧ z ≤ 99
      · rw [if_pos e, if_pos (And.intro b e)]
        by_cases f : nW < 5
        · rw [if_pos (by rw [c_lt (by omega) (by omega)]; exact f), if_pos f, s34 f h4, bn_s]
          show rn none _ 55 56 _ [vI _] _ = _
          rw [b55_56]
        · rw [if_neg (by rw [c_lt (by omega) (by omega)]; exact f), if_neg f]
      · rw [if_neg e, if_neg (fun z => e z.2)]
    · rw [if_neg b, if_neg (fun z => b z.1)]
  · rw [if_neg a, if_neg a]
/-- a wearer more, in the reference's cells -/
def nwM (I : FI) (n : Nat) (x y z : Int32) : FI := uI (fil (uI (uI (uI (uI I 10865 0 n x) 10881 0 n y) 10897 0 n z) 14944 0 1 (I 14944 0 1 &&& ((1 <<< (c n &&& 31)) ^^^ (-1)))) 41633 0 (n * 4) ((n + 1) * 4) 0) 14944 0 0 (c (n + 1))
theorem c_sub {a b : Nat} (h : b ≤ a) : c a - c b = c (a - b) := (Int32.ofNat_sub a b h).symm
theorem l115 {o : Int32} {J : FI} (hn : nW < 5) (h4 : J 14944 0 0 = c nW) : ∀ r i, i + r = 4 → rn none (dn d) 115 96 [some (vR 14944 0), some (vI x), some (vI y), some (vI z), some (vI (c i))] [] (hp (fil J 41633 0 (nW * 4) (nW * 4 + i) 0) L w) = some (some (vI (c nW)), hp (uI (fil J 41633 0 (nW * 4) ((nW + 1) * 4) 0) 14944 0 0 (c (nW + 1))) L w) := by
  intro r
  induction r with
  | zero =>
    intro i hi
    obtain rfl : i = 4 := by omega
    rw [b115_96, if_neg (by decide), fil_p (by omega), h4, c_s, show (1 : Int32) = c 1 from rfl, c_sub (by omega)]
    rw [show nW * 4 + 4 = (nW + 1) * 4 by omega, Nat.add_sub_cancel]
  | succ r ih =>
    intro i hi
    rw [b115_96, show (4 : Int32) = c 4 from rfl, if_pos (by rw [c_lt (by omega) (by omega)]; omega), fil_p (by omega), h4, ← Int32.ofNat_mul, ← Int32.ofNat_add, show 4 * nW + i = nW * 4 + i by omega, ck_t (vin_c (by omega) (by omega)), ix_c (by omega), fil_s (by omega), c_s]
    exact ih (i + 1) (by omega)
theorem s115 (h1 : nW ≤ 5) (h4 : I 14944 0 0 = c nW) : dn (d + 3) 115 [vR 14944 0, vI x, vI y, vI z] (hp I L w) = (if 0 ≤ x ∧ x ≤ 6 then (if (0 ≤ y ∧ y ≤ 9) ∧ (0 ≤ z ∧ z ≤ 99) then (if nW < 5 then some (some (vI (c nW)), hp (nwM I nW x y z) L w) else some (some (vI (-4)), hp I L w)) else some (some (vI (-2)), hp I L w)) else some (some (vI (-1)), hp I L w)) := by
  rw [e115, b115_0, s106, bn_s]
  show rn none _ 115 8 _ [vI _] _ = _
  rw [b115_8, ib, s106, bn_s]
  show (if _ then rn none _ 115 21 _ [vI _] _ else _) = _
  rw [b115_21, ib, s112, bn_s]
  show (if _ then if _ then rn none _ 115 29 _ [vI _] _ else _ else _) = _
  rw [b115_29, ib, h4]
  by_cases a : 0 ≤ x ∧ x ≤ 6
  · rw [if_pos a, if_pos a]
    by_cases b : 0 ≤ y ∧ y ≤ 9
    · rw [if_pos b]
      by_cases e : 0 ≤ z ∧ z ≤ 99
      · rw [if_pos e, if_pos (And.intro b e)]
        by_cases f : nW < 5
        · rw [if_neg (show ¬ c nW = 5 from fun q => by
            have := c_inj (a := nW) (b := 5) (by omega) (by omega) q
            omega), if_pos f, ck_t (vin_c f (by omega)), ck_t (vin_c f (by omega)), ck_t (vin_c f (by omega)), ix_c (by omega)]
          have := l115 (d := d + 2) (L := L) (w := w) (x := x) (y := y) (z := z) (o := 0) (J := uI (uI (uI (uI I 10865 0 nW x) 10881 0 nW y) 10897 0 nW z) 14944 0 1 (I 14944 0 1 &&& ((1 <<< (c nW &&& 31)) ^^^ (-1)))) f (by rw [uI_j (by omega), uI_t (by omega), uI_t (by omega), uI_t (by omega)]; exact h4) 4 0 rfl
          rw [show nW * 4 + 0 = nW * 4 from rfl, fil_0] at this
          exact this
        · obtain rfl : nW = 5 := by omega
          rw [if_pos (show c 5 = 5 from rfl), if_neg f]
      · rw [if_neg e, if_neg (fun z => e z.2)]
    · rw [if_neg b, if_neg (fun z => b z.1)]
  · rw [if_neg a, if_neg a]
end P48
