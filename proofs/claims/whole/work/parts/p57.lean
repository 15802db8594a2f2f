set_option maxHeartbeats 200000
section P57
variable {d : Nat} {I : FI} {L : FL} {w : Nat → Nat} {x y s : Int32} {v : Int64}
/-- item, of a tape that there is -/
theorem s98 {t n : Nat} (ht : t < 6) (hn : n ≤ 60) (h : I 4672 t 1 = c n) : dn (d + 3) 98 [vR 12288 0, vI (c t), vI y, vL v] (hp I L w) = (if I 4672 t 0 = -1 then some (some (vI (-11)), hp I L w) else if 0 ≤ y ∧ y < c n then some (some (vI 1), hp I (uL L 123475 t (ix y) (nrw (I 4672 t 0) v)) w) else some (some (vI (-13)), hp I L w)) := by
  rw [e98, b98_0, s101, bn_s]
  show rn none _ 98 4 _ [vI _] _ = _
  rw [b98_4, ib, if_pos (show 0 ≤ c t ∧ c t ≤ 5 from ⟨c_0 (by omega), by rw [show (5 : Int32) = c 5 from rfl, c_le (by omega) (by omega)]; omega⟩), ck_t (vin_c ht (by omega)), ix_c (by omega), h]
  by_cases e : I 4672 t 0 = -1
  · rw [if_pos e, if_pos e]
  · rw [if_neg e, if_neg e]
    by_cases a : y < 0
    · rw [if_pos a, if_neg (show ¬ (0 ≤ y ∧ y < c n) from by grind)]
    · rw [if_neg a]
      by_cases b : y < c n
      · have a' : 0 ≤ y := by grind
        obtain ⟨u, hu, rfl⟩ := of_c (x := y) a' (by omega) b
        rw [if_pos b, if_pos (And.intro a' b), s102, bn_s]
        show rn none _ 98 60 _ [vL _, vI _, vR _ _] _ = _
        rw [b98_60, ck_t (vin_c (by omega) (by omega))]
      · rw [if_neg b, if_neg (fun z => b z.2)]
theorem s203 {t n : Nat} (ht : t < 6) (hn : n ≤ 60) (h : I 13649 0 t = c n) (hs : -1 ≤ I 13633 0 t) (hs' : I 13633 0 t ≤ 4) : dn (d + 3) 203 [vR 14944 0, vI (c t), vI y, vL v] (hp I L w) = (if I 13633 0 t = -1 then some (some (vI (-11)), hp I L w) else if 0 ≤ y ∧ y < c n then some (some (vI 1), hp I (uL L 738659 0 (60 * t + ix y) (nrw (I 13633 0 t) v)) w) else some (some (vI (-13)), hp I L w)) := by
  rw [e203, b203_0, s200, bn_s]
  show rn none _ 203 5 _ [vI _] _ = _
  rw [b203_5, ib, if_pos (show 0 ≤ c t ∧ c t ≤ 5 from ⟨c_0 (by omega), by rw [show (5 : Int32) = c 5 from rfl, c_le (by omega) (by omega)]; omega⟩), ck_t (vin_c ht (by omega)), ck_t (vin_c ht (by omega)), ix_c (by omega), h]
  by_cases e : I 13633 0 t = -1
  · rw [if_pos (show I 13633 0 t < 0 from by rw [e]; decide), if_pos e]
  · rw [if_neg (show ¬ I 13633 0 t < 0 from by grind), if_neg e, s106, bn_s, bi_congr (cn_1 (by omega))]
    show rn none _ 203 36 _ [vI _] _ = _
    rw [b203_36, ib, ck_t (vin_c ht (by omega)), ix_c (by omega)]
    by_cases b : 0 ≤ y ∧ y < c n
    · obtain ⟨u, hu, rfl⟩ := of_c (x := y) b.1 (by omega) b.2
      rw [if_pos b, if_pos b, s202 (by grind) hs', bn_s]
      show rn none _ 203 63 _ [vL _, vI _, vR _ _] _ = _
      rw [b203_63, show (60 : Int32) = c 60 from rfl, ← Int32.ofNat_mul, cq rfl, ck_t (vin_c (by omega) (by omega)), ix_c (by omega), ix_c (by omega)]
    · rw [if_neg b, if_neg b]
end P57
