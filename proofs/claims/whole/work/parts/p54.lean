set_option maxHeartbeats 200000
section P54
variable {d : Nat} {I : FI} {L : FL} {w : Nat → Nat} {nW nT n : Nat} {x y : Int32}
def nkM (I : FI) (n : Nat) (x y : Int32) : FI := uI (uI (uI I 21521 0 n x) 21537 0 n (if 0 < x then y else 0)) 14944 0 42 (c (n + 1))
theorem s180 (h1 : nW ≤ 5) (h2 : nT ≤ 6) (h4 : I 14944 0 0 = c nW) (h5 : I 14944 0 2 = c nT) (hn : n ≤ 10) (h : I 14944 0 42 = c n) : dn (d + 3) 180 [vR 14944 0, vI x, vI y] (hp I L w) = wkF x y (c nW) (c nT) (some (some (vI 0), hp (uI I 14944 0 42 0) L w)) (some (some (vI (-1)), hp I L w)) (some (some (vI (-2)), hp I L w)) (some (some (vI (-4)), hp I L w)) (some (some (vI (c (n + 1))), hp (nkM I n x y) L w)) (n < 10) := by
  have e1 : ∀ y, dn (d + 2) 110 [vR 14944 0, vI y] (hp I L w) = some (some (vI (bi (0 ≤ y ∧ y < c nW))), hp I L w) := fun y => s110 (by omega) h4
  have e2 : ∀ y, dn (d + 2) 111 [vR 14944 0, vI y] (hp I L w) = some (some (vI (bi (0 ≤ y ∧ y < c nT))), hp I L w) := fun y => s111 (by omega) h5
  have A : ∀ o : Option Rs, (if n < 10 then some (some (vI (c (n + 1))), hp (nkM I n x y) L w) else some (some (vI (-4)), hp I L w)) = o → (if I 14944 0 42 = 10 then some (some (vI (-4)), hp I L w) else ck (vin (I 14944 0 42) 10) (if 0 < x then ck (vin (I 14944 0 42) 10) (some (some (vI ((I 14944 0 42) + 1)), hp (uI (uI (uI I 21521 0 (ix (I 14944 0 42)) x) 21537 0 (ix (I 14944 0 42)) y) 14944 0 42 ((I 14944 0 42) + 1)) L w)) else ck (vin (I 14944 0 42) 10) (some (some (vI ((I 14944 0 42) + 1)), hp (uI (uI (uI I 21521 0 (ix (I 14944 0 42)) x) 21537 0 (ix (I 14944 0 42)) 0) 14944 0 42 ((I 14944 0 42) + 1)) L w)))) = o := by
    intro o ho
    rw [← ho, h]
    unfold nkM
    by_cases f : n < 10
    · have g : ¬ c n = 10 := fun q => by
        have := c_inj (a := n) (b := 10) (by omega) (by omega) q
        omega
      rw [if_neg g, if_pos f, ck_t (vin_c f (by omega)), ck_t (vin_c f (by omega)), ck_t (vin_c f (by omega)), ix_c (by omega), c_s]
      by_cases p : 0 < x
      · rw [if_pos p, if_pos p]
      · rw [if_neg p, if_neg p]
    · obtain rfl : n = 10 := by omega
      rw [if_pos (show c 10 = 10 from rfl), if_neg f]
  have B := A _ rfl
  rw [e180]
  unfold wkF
  simp only [b180_0, s106, e1, e2, s112, bn_s, psh, b180_19, b180_32, b180_45, b180_60, ib, B]
  clear A B e1 e2
  generalize (if n < 10 then some (some (vI (c (n + 1))), hp (nkM I n x y) L w) else some (some (vI (-4)), hp I L w) : Option Rs) = X1
  generalize (some (some (vI (-1)), hp I L w) : Option Rs) = X2
  generalize (some (some (vI (-2)), hp I L w) : Option Rs) = X3
  generalize (some (some (vI 0), hp (uI I 14944 0 42 0) L w) : Option Rs) = X4
  by_cases a0 : x = -1
  · rw [if_pos a0, if_pos a0]
  · rw [if_neg a0, if_neg a0]
    by_cases a1 : 0 ≤ x ∧ x ≤ 3
    · rw [if_pos a1, if_neg (show ¬ x < 0 from by grind), if_neg (show ¬ 3 < x from by grind)]
      by_cases p : x = 1
      · subst p
        rw [if_pos rfl]
        by_cases q : 0 ≤ y ∧ y < c nW
        · simp [q]
        · simp [q]
      · by_cases p2 : x = 2
        · subst p2
          by_cases q : 0 ≤ y ∧ y < c nT
          · simp [q]
          · simp [q]
        · by_cases p3 : x = 3
          · subst p3
            by_cases q : 0 ≤ y ∧ y ≤ 99
            · simp [q]
            · simp [q]
          · simp [p, p2, p3]
    · rw [if_neg a1]
      by_cases b : x < 0
      · rw [if_pos b]
      · rw [if_neg b, if_pos (show 3 < x from by grind)]
end P54
