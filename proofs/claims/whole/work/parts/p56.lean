set_option maxHeartbeats 200000
section P56
variable {d : Nat} {I : FI} {L : FL} {w : Nat → Nat} {x y s : Int32} {v : Int64}
/-- a number cut to its sort -/
def nrw (s : Int32) (v : Int64) : Int64 := if s = 0 then Int32.toInt64 (Int8.toInt32 (Int32.toInt8 (Int64.toInt32 v))) else if s = 1 then Int32.toInt64 (Int16.toInt32 (Int32.toInt16 (Int64.toInt32 v))) else if s = 2 then Int32.toInt64 (Int64.toInt32 v) else if s = 3 then v else if lg_cmp v 0 = 0 then 0 else 1
theorem s102 : dn (d + 1) 102 [vI s, vL v] (hp I L w) = some (some (vL (nrw s v)), hp I L w) := by
  rw [e102, b102_0]
  unfold nrw
  repeat' (split <;> try rfl)
theorem s202 (hs : 0 ≤ s) (hs' : s ≤ 4) : dn (d + 1) 202 [vR 14944 0, vI s, vL v] (hp I L w) = some (some (vL (nrw s v)), hp I L w) := by
  rw [e202, b202_0]
  unfold nrw
  by_cases a0 : s = 0
  · rw [if_pos a0, if_pos a0]
  · rw [if_neg a0, if_neg a0]
    by_cases a1 : s = 1
    · rw [if_pos a1, if_pos a1]
    · rw [if_neg a1, if_neg a1]
      by_cases a2 : s = 2
      · rw [if_pos a2, if_pos a2]
      · rw [if_neg a2, if_neg a2]
        by_cases a4 : s = 4
        · rw [if_pos a4, if_neg (show ¬ s = 3 from by rw [a4]; decide)]
          split <;> rfl
        · rw [if_neg a4, if_pos (show s = 3 from by grind)]
/-- read -/
theorem s99 {t n : Nat} (ht : t < 6) (hn : n ≤ 60) (h : I 4672 t 1 = c n) : dn (d + 3) 99 [vR 12288 0, vI (c t), vI y] (hp I L w) = some (some (vL (if 0 ≤ y ∧ y < c n then L 123475 t (ix y) else -9223372036854775808)), hp I L w) := by
  rw [e99, b99_0, s101, bn_s]
  show rn none _ 99 4 _ [vI _] _ = _
  rw [b99_4, ib, if_pos (show 0 ≤ c t ∧ c t ≤ 5 from ⟨c_0 (by omega), by rw [show (5 : Int32) = c 5 from rfl, c_le (by omega) (by omega)]; omega⟩), ck_t (vin_c ht (by omega)), ck_t (vin_c ht (by omega)), ix_c (by omega), h]
  by_cases a : y < 0
  · rw [if_pos a, if_neg (show ¬ (0 ≤ y ∧ y < c n) from by grind)]
  · rw [if_neg a]
    by_cases b : y < c n
    · have a' : 0 ≤ y := by grind
      obtain ⟨u, hu, rfl⟩ := of_c (x := y) a' (by omega) b
      rw [if_pos b, if_pos (And.intro a' b), ck_t (vin_c (by omega) (by omega))]
    · rw [if_neg b, if_neg (fun z => b z.2)]
theorem s204 {t n : Nat} (ht : t < 6) (hn : n ≤ 60) (h : I 13649 0 t = c n) (h0 : I 13633 0 t < 0 → n = 0) : dn (d + 3) 204 [vR 14944 0, vI (c t), vI y] (hp I L w) = some (some (vL (if 0 ≤ y ∧ y < c n then L 738659 0 (60 * t + ix y) else -9223372036854775808)), hp I L w) := by
  rw [e204, b204_0, s200, bn_s]
  show rn none _ 204 5 _ [vI _] _ = _
  rw [b204_5, ib, if_pos (show 0 ≤ c t ∧ c t ≤ 5 from ⟨c_0 (by omega), by rw [show (5 : Int32) = c 5 from rfl, c_le (by omega) (by omega)]; omega⟩), ck_t (vin_c ht (by omega)), ck_t (vin_c ht (by omega)), ix_c (by omega), h]
  by_cases a : I 13633 0 t < 0
  · rw [if_pos a, if_neg (show ¬ (0 ≤ y ∧ y < c n) from by rw [h0 a]; intro z; have := z.1; have := z.2; rw [show c 0 = 0 from rfl] at this; grind)]
  · rw [if_neg a, s106, bn_s, bi_congr (cn_1 (by omega))]
    show rn none _ 204 31 _ [vI _] _ = _
    rw [b204_31, ib]
    by_cases b : 0 ≤ y ∧ y < c n
    · obtain ⟨u, hu, rfl⟩ := of_c (x := y) b.1 (by omega) b.2
      rw [if_pos b, if_pos b, show (60 : Int32) = c 60 from rfl, ← Int32.ofNat_mul, cq rfl, ck_t (vin_c (by omega) (by omega)), ix_c (by omega), ix_c (by omega)]
    · rw [if_neg b, if_neg b]
end P56
