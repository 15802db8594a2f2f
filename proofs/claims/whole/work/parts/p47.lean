set_option maxHeartbeats 400000
section P47
variable {d : Nat} {I : FI} {L : FL} {w : Nat → Nat} {nW nT : Nat} {x y z : Int32}
theorem of_6 (h2 : nT ≤ 6) (a : 0 ≤ x ∧ x < c nT) : ∃ t, t < nT ∧ t < 6 ∧ x = c t := by
  obtain ⟨t, ht, e⟩ := of_c a.1 (by omega) a.2
  exact ⟨t, ht, by omega, e⟩
theorem of_5 (h2 : nW ≤ 5) (a : 0 ≤ x ∧ x < c nW) : ∃ t, t < nW ∧ t < 5 ∧ x = c t := by
  obtain ⟨t, ht, e⟩ := of_c a.1 (by omega) a.2
  exact ⟨t, ht, by omega, e⟩
/-- at -/
def atF (wt pk lw : Nat → Int32) (n x y : Int32) : Int32 := if 0 ≤ x ∧ x < n then (if y = 0 then wt (ix x) else if y = 1 then pk (ix x) else if y = 2 then (if pk (ix x) = -5 then -5 else lw (ix x)) else -1) else -1
theorem s59 (h2 : nT ≤ 6) (h5 : I 10464 0 6 = c nT) : dn (d + 3) 59 [vR 12288 0, vI x, vI y] (hp I L w) = some (some (vI (atF (I 12609 0) (I 12625 0) (I 12641 0) (c nT) x y)), hp I L w) := by
  rw [e59, b59_0, s32, bn_s, h5]
  show rn none _ 59 8 _ [vI _] _ = _
  rw [b59_8, ib]
  unfold atF
  by_cases a : 0 ≤ x ∧ x < c nT
  · obtain ⟨t, ht, h6, rfl⟩ := of_6 h2 a
    rw [if_pos a, if_pos a, ck_t (vin_c h6 (by omega)), ck_t (vin_c h6 (by omega)), s44 h6, bn_s, ix_c (by omega)]
    show (if _ then _ else if _ then _ else if _ then rn none _ 59 68 _ [vI _] _ else _) = _
    rw [b59_68]
    by_cases a0 : y = 0
    · rw [if_pos a0, if_pos a0]
    · rw [if_neg a0, if_neg a0]
      by_cases a1 : y = 1
      · rw [if_pos a1, if_pos a1]
      · rw [if_neg a1, if_neg a1]
        by_cases a2 : y = 2
        · rw [if_pos a2, if_pos a2]
        · rw [if_neg a2, if_neg a2]
  · rw [if_neg a, if_neg a]
theorem s155 (h2 : nT ≤ 6) (h5 : I 14944 0 2 = c nT) : dn (d + 3) 155 [vR 14944 0, vI x, vI y] (hp I L w) = some (some (vI (atF (I 12977 0) (I 12993 0) (I 13009 0) (c nT) x y)), hp I L w) := by
  rw [e155, b155_0, s111 (by omega) h5, bn_s]
  show rn none _ 155 5 _ [vI _] _ = _
  rw [b155_5, ib]
  unfold atF
  by_cases a : 0 ≤ x ∧ x < c nT
  · obtain ⟨t, ht, h6, rfl⟩ := of_6 h2 a
    rw [if_pos a, if_pos a, ck_t (vin_c h6 (by omega)), ck_t (vin_c h6 (by omega)), s152 h6, bn_s, ix_c (by omega)]
    show (if _ then _ else if _ then _ else if _ then rn none _ 155 55 _ [vI _] _ else _) = _
    rw [b155_55]
    by_cases a0 : y = 0
    · rw [if_pos a0, if_pos a0]
    · rw [if_neg a0, if_neg a0]
      by_cases a1 : y = 1
      · rw [if_pos a1, if_pos a1]
      · rw [if_neg a1, if_neg a1]
        by_cases a2 : y = 2
        · rw [if_pos a2, if_pos a2]
        · rw [if_neg a2, if_neg a2]
  · rw [if_neg a, if_neg a]
/-- drop -/
theorem s63 (h1 : nW ≤ 5) (h2 : nT ≤ 6) (h4 : I 10464 0 0 = c nW) (h5 : I 10464 0 6 = c nT) : dn (d + 2) 63 [vR 12288 0, vI x, vI y] (hp I L w) = (if (0 ≤ x ∧ x < c nT) ∧ (0 ≤ y ∧ y < c nW) then some (some (vI (I 12625 0 (ix x))), hp (uI (uI I 12625 0 (ix x) y) 12641 0 (ix x) 0) L w) else some (some (vI (-1)), hp I L w)) := by
  rw [e63, b63_0, s32, bn_s, h5]
  show rn none _ 63 8 _ [vI _] _ = _
  rw [b63_8, ib, s31, bn_s, h4]
  show (if _ then rn none _ 63 19 _ [vI _] _ else _) = _
  rw [b63_19, ib]
  by_cases a : 0 ≤ x ∧ x < c nT
  · by_cases b : 0 ≤ y ∧ y < c nW
    · obtain ⟨t, ht, h6, rfl⟩ := of_6 h2 a
      rw [if_pos a, if_pos b, if_pos ⟨a, b⟩, ck_t (vin_c h6 (by omega)), ck_t (vin_c h6 (by omega)), ck_t (vin_c h6 (by omega))]
    · rw [if_pos a, if_neg b, if_neg (fun z => b z.2)]
  · rw [if_neg a, if_neg (fun z => a z.1)]
theorem s123 (h1 : nW ≤ 5) (h2 : nT ≤ 6) (h4 : I 14944 0 0 = c nW) (h5 : I 14944 0 2 = c nT) : dn (d + 3) 123 [vR 14944 0, vI x, vI y] (hp I L w) = (if (0 ≤ x ∧ x < c nT) ∧ (0 ≤ y ∧ y < c nW) then some (some (vI (I 12993 0 (ix x))), hp (uI (uI I 12993 0 (ix x) y) 13009 0 (ix x) 0) L w) else some (some (vI (-1)), hp I L w)) := by
  rw [e123, b123_0, s111 (by omega) h5, bn_s]
  show rn none _ 123 5 _ [vI _] _ = _
  rw [b123_5, ib, s110 (by omega) h4, bn_s]
  show (if _ then rn none _ 123 13 _ [vI _] _ else _) = _
  rw [b123_13, ib]
  by_cases a : 0 ≤ x ∧ x < c nT
  · by_cases b : 0 ≤ y ∧ y < c nW
    · obtain ⟨t, ht, h6, rfl⟩ := of_6 h2 a
      rw [if_pos a, if_pos b, if_pos ⟨a, b⟩, ck_t (vin_c h6 (by omega)), ck_t (vin_c h6 (by omega)), ck_t (vin_c h6 (by omega))]
    · rw [if_pos a, if_neg b, if_neg (fun z => b z.2)]
  · rw [if_neg a, if_neg (fun z => a z.1)]
/-- row -/
theorem s64 (h1 : nW ≤ 5) (h4 : I 10464 0 0 = c nW) : dn (d + 2) 64 [vR 12288 0, vI x, vI y, vI z] (hp I L w) = (if (0 ≤ x ∧ x < c nW) ∧ (0 ≤ y ∧ y ≤ 3) then (if 0 ≤ z ∧ z ≤ 9 then (if I 10481 0 (ix x) = 6 then some (some (vI (I 41265 0 (ix (x * 4 + y)))), hp (uI I 41265 0 (ix (x * 4 + y)) z) L w) else some (some (vI (-3)), hp I L w)) else some (some (vI (-2)), hp I L w)) else some (some (vI (-1)), hp I L w)) := by
  rw [e64, b64_0, s31, bn_s, h4]
  show rn none _ 64 8 _ [vI _] _ = _
  rw [b64_8, ib, s103, bn_s]
  show (if _ then rn none _ 64 16 _ [vI _] _ else _) = _
  rw [b64_16, ib, s103, bn_s]
  show (if _ then if _ then rn none _ 64 27 _ [vI _] _ else _ else _) = _
  rw [b64_27, ib]
  by_cases a : 0 ≤ x ∧ x < c nW
  · by_cases b : 0 ≤ y ∧ y ≤ 3
    · obtain ⟨t, ht, h6, rfl⟩ := of_5 h1 a
      obtain ⟨u, hu, rfl⟩ := of_c (x := y) (n := 4) b.1 (by omega) (by have := b.2; show y < 4; grind)
      rw [if_pos a, if_pos b, if_pos (And.intro a b), show c t * 4 + c u = c (t * 4 + u) from by rw [show (4 : Int32) = c 4 from rfl, ← Int32.ofNat_mul, ← Int32.ofNat_add], ck_t (vin_c h6 (by omega)), ck_t (vin_c (by omega) (by omega)), ck_t (vin_c (by omega) (by omega))]
    · rw [if_pos a, if_neg b, if_neg (fun z => b z.2)]
  · rw [if_neg a, if_neg (fun z => a z.1)]
theorem s124 (h1 : nW ≤ 5) (h4 : I 14944 0 0 = c nW) : dn (d + 3) 124 [vR 14944 0, vI x, vI y, vI z] (hp I L w) = (if (0 ≤ x ∧ x < c nW) ∧ (0 ≤ y ∧ y ≤ 3) then (if 0 ≤ z ∧ z ≤ 9 then (if I 10865 0 (ix x) = 6 then some (some (vI (I 41633 0 (ix (x * 4 + y)))), hp (uI I 41633 0 (ix (x * 4 + y)) z) L w) else some (some (vI (-3)), hp I L w)) else some (some (vI (-2)), hp I L w)) else some (some (vI (-1)), hp I L w)) := by
  rw [e124, b124_0, s110 (by omega) h4, bn_s]
  show rn none _ 124 5 _ [vI _] _ = _
  rw [b124_5, ib, s106, bn_s]
  show (if _ then rn none _ 124 15 _ [vI _] _ else _) = _
  rw [b124_15, ib, s106, bn_s]
  show (if _ then if _ then rn none _ 124 28 _ [vI _] _ else _ else _) = _
  rw [b124_28, ib]
  by_cases a : 0 ≤ x ∧ x < c nW
  · by_cases b : 0 ≤ y ∧ y ≤ 3
    · obtain ⟨t, ht, h6, rfl⟩ := of_5 h1 a
      obtain ⟨u, hu, rfl⟩ := of_c (x := y) (n := 4) b.1 (by omega) (by have := b.2; show y < 4; grind)
      rw [if_pos a, if_pos b, if_pos (And.intro a b), show 4 * c t + c u = c (t * 4 + u) from by rw [show (4 : Int32) = c 4 from rfl, ← Int32.ofNat_mul, ← Int32.ofNat_add, Nat.mul_comm], show c t * 4 + c u = c (t * 4 + u) from by rw [show (4 : Int32) = c 4 from rfl, ← Int32.ofNat_mul, ← Int32.ofNat_add], ck_t (vin_c h6 (by omega)), ck_t (vin_c (by omega) (by omega)), ck_t (vin_c (by omega) (by omega))]
    · rw [if_pos a, if_neg b, if_neg (fun z => b z.2)]
  · rw [if_neg a, if_neg (fun z => a z.1)]
/-- fetch -/
theorem s62 (h1 : nW ≤ 5) (h2 : nT ≤ 6) (h4 : I 10464 0 0 = c nW) (h5 : I 10464 0 6 = c nT) : dn (d + 4) 62 [vR 12288 0, vI x] (hp I L w) = (if 0 ≤ x ∧ x < c nT then (if I 12625 0 (ix x) = -5 then some (some (vI (-3)), hp I L w) else if allA (arD I w 0) nW < I 12641 0 (ix x) then some (some (vI (-2)), hp I L w) else some (some (vI (I 12641 0 (ix x))), hp (uI (uI I 12625 0 (ix x) (-5)) 12641 0 (ix x) 0) L w)) else some (some (vI (-1)), hp I L w)) := by
  rw [e62, b62_0, s32, bn_s, h5]
  show rn none _ 62 8 _ [vI _] _ = _
  rw [b62_8, ib]
  by_cases a : 0 ≤ x ∧ x < c nT
  · obtain ⟨t, ht, h6, rfl⟩ := of_6 h2 a
    rw [if_pos a, if_pos a, s33 h6, bn_s]
    show rn none _ 62 21 _ [vI _] _ = _
    rw [b62_21, ib, ck_t (vin_c h6 (by omega)), ix_c (by omega), s40 h1 h4, bn_s]
    show (if _ then _ else rn none _ 62 44 _ [vI _] _) = _
    rw [b62_44, s36 h6, bn_s]
    show (if _ then _ else if _ then _ else rn none _ 62 59 _ [] _) = _
    rw [b62_59]
  · rw [if_neg a, if_neg a]
theorem s122 (hT : TI I w) (h1 : nW ≤ 5) (h2 : nT ≤ 6) (h4 : I 14944 0 0 = c nW) (h5 : I 14944 0 2 = c nT) : dn (d + 6) 122 [vR 14944 0, vI x] (hp I L w) = (if 0 ≤ x ∧ x < c nT then (if I 12993 0 (ix x) = -5 then some (some (vI (-3)), hp I L w) else if allA (arD (mv I) w 0) nW < I 13009 0 (ix x) then some (some (vI (-2)), hp I L w) else some (some (vI (I 13009 0 (ix x))), hp (uI (uI I 12993 0 (ix x) (-5)) 13009 0 (ix x) 0) L w)) else some (some (vI (-1)), hp I L w)) := by
  rw [e122, b122_0, s111 (by omega) h5, bn_s]
  show rn none _ 122 5 _ [vI _] _ = _
  rw [b122_5, ib]
  by_cases a : 0 ≤ x ∧ x < c nT
  · obtain ⟨t, ht, h6, rfl⟩ := of_6 h2 a
    rw [if_pos a, if_pos a, s121 h6, bn_s]
    show rn none _ 122 15 _ [vI _] _ = _
    rw [b122_15, ib, s151 hT h1 h4 h6, bn_s]
    show (if _ then _ else rn none _ 122 26 _ [vI _] _) = _
    rw [b122_26, ck_t (vin_c h6 (by omega)), ix_c (by omega), s120 h6, bn_s]
    show (if _ then _ else if _ then _ else rn none _ 122 44 _ [] _) = _
    rw [b122_44]
    unfold wthD outD
    rw [mv_pk, mv_low]
    by_cases b : I 12993 0 t = -5
    · rw [if_pos b, if_pos b]
    · rw [if_neg b, if_neg b]
      by_cases e : allA (arD (mv I) w 0) nW < I 13009 0 t
      · rw [if_pos e, if_neg (show ¬ (!decide (I 12993 0 t = -5) && decide (I 13009 0 t ≤ allA (arD (mv I) w 0) nW)) = true from by simp only [Bool.and_eq_true, decide_eq_true_eq]; intro z; exact absurd z.2 (by grind)), if_pos rfl]
      · rw [if_neg e, if_pos (show (!decide (I 12993 0 t = -5) && decide (I 13009 0 t ≤ allA (arD (mv I) w 0) nW)) = true from by simp only [Bool.and_eq_true, decide_eq_true_eq, Bool.not_eq_true', decide_eq_false_iff_not]; exact ⟨b, by grind⟩), if_neg (by decide)]
  · rw [if_neg a, if_neg a]
end P47
