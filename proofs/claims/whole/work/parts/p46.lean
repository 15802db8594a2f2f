set_option maxHeartbeats 400000
theorem rok_bi {p : Prop} [Decidable p] : rok 1 (bi p) = true := by
  unfold bi
  by_cases h : p
  · rw [if_pos h]; rfl
  · rw [if_neg h]; rfl
theorem bi_congr {p q : Prop} [Decidable p] [Decidable q] (h : p ↔ q) : bi p = bi q := by
  unfold bi
  by_cases a : p
  · rw [if_pos a, if_pos (h.mp a)]
  · rw [if_neg a, if_neg (fun z => a (h.mpr z))]
theorem cn_1 {x : Int32} {n : Nat} (hn : n ≤ 1000) : (0 ≤ x ∧ x ≤ c n - 1) ↔ (0 ≤ x ∧ x < c n) := by
  have h1 : c n ≤ 1000 := by rw [show (1000 : Int32) = c 1000 from rfl, c_le (by omega) (by omega)]; exact hn
  have h2 : 0 ≤ c n := c_0 (by omega)
  grind
theorem s110 {d : Nat} {I : FI} {L : FL} {w : Nat → Nat} {n : Nat} {x : Int32} (hn : n ≤ 1000) (h : I 14944 0 0 = c n) : dn (d + 2) 110 [vR 14944 0, vI x] (hp I L w) = some (some (vI (bi (0 ≤ x ∧ x < c n))), hp I L w) := by
  rw [e110, b110_0, s106, bn_s, h]
  show rn none _ 110 12 _ [vI _] _ = _
  rw [b110_12, ck_t rok_bi, bi_congr (cn_1 hn)]
theorem s111 {d : Nat} {I : FI} {L : FL} {w : Nat → Nat} {n : Nat} {x : Int32} (hn : n ≤ 1000) (h : I 14944 0 2 = c n) : dn (d + 2) 111 [vR 14944 0, vI x] (hp I L w) = some (some (vI (bi (0 ≤ x ∧ x < c n))), hp I L w) := by
  rw [e111, b111_0, s106, bn_s, h]
  show rn none _ 111 12 _ [vI _] _ = _
  rw [b111_12, ck_t rok_bi, bi_congr (cn_1 hn)]
theorem s112 {d : Nat} {I : FI} {L : FL} {w : Nat → Nat} {x : Int32} : dn (d + 2) 112 [vR 14944 0, vI x] (hp I L w) = some (some (vI (bi (0 ≤ x ∧ x ≤ 99))), hp I L w) := by
  rw [e112, b112_0, s106, bn_s]
  show rn none _ 112 8 _ [vI _] _ = _
  rw [b112_8, ck_t rok_bi]
theorem s113 {d : Nat} {I : FI} {L : FL} {w : Nat → Nat} {x : Int32} : dn (d + 2) 113 [vR 14944 0, vI x] (hp I L w) = some (some (vI (bi (0 ≤ x ∧ x ≤ 999))), hp I L w) := by
  rw [e113, b113_0, s106, bn_s]
  show rn none _ 113 9 _ [vI _] _ = _
  rw [b113_9, ck_t rok_bi]
theorem s114 {d : Nat} {I : FI} {L : FL} {w : Nat → Nat} {x : Int32} : dn (d + 2) 114 [vR 14944 0, vI x] (hp I L w) = some (some (vI (bi (0 ≤ x ∧ x ≤ 60))), hp I L w) := by
  rw [e114, b114_0, s106, bn_s]
  show rn none _ 114 8 _ [vI _] _ = _
  rw [b114_8, ck_t rok_bi]
theorem s101 {d : Nat} {I : FI} {L : FL} {w : Nat → Nat} {x : Int32} : dn (d + 2) 101 [vI x] (hp I L w) = some (some (vI (bi (0 ≤ x ∧ x ≤ 5))), hp I L w) := by
  rw [e101, b101_0, s103, bn_s]
  show rn none _ 101 5 _ [vI _] _ = _
  rw [b101_5, ck_t rok_bi]
theorem s200 {d : Nat} {I : FI} {L : FL} {w : Nat → Nat} {x : Int32} : dn (d + 2) 200 [vR 14944 0, vI x] (hp I L w) = some (some (vI (bi (0 ≤ x ∧ x ≤ 5))), hp I L w) := by
  rw [e200, b200_0, s106, bn_s]
  show rn none _ 200 7 _ [vI _] _ = _
  rw [b200_7, ck_t rok_bi]
theorem s36 {d : Nat} {I : FI} {L : FL} {w : Nat → Nat} {k t : Nat} (ht : t < 6) : dn (d + 1) 36 [vR 10464 k, vI (c t)] (hp I L w) = some (none, hp (uI (uI I 12625 k t (-5)) 12641 k t 0) L w) := by
  rw [e36, b36_0, ck_t (vin_c ht (by omega)), ck_t (vin_c ht (by omega)), ix_c (by omega)]
theorem s120 {d : Nat} {I : FI} {L : FL} {w : Nat → Nat} {t : Nat} (ht : t < 6) : dn (d + 1) 120 [vR 14944 0, vI (c t)] (hp I L w) = some (none, hp (uI (uI I 12993 0 t (-5)) 13009 0 t 0) L w) := by
  rw [e120, b120_0, ck_t (vin_c ht (by omega)), ck_t (vin_c ht (by omega)), ix_c (by omega)]
/-- the calls that only look, or write one number: the class's -/
theorem s60 {d : Nat} {I : FI} {L : FL} {w : Nat → Nat} {nW : Nat} {x y : Int32} (h1 : nW ≤ 5) (h4 : I 10464 0 0 = c nW) : dn (d + 2) 60 [vR 12288 0, vI x, vI y] (hp I L w) = (if 0 ≤ x ∧ x < c nW then (if 0 ≤ y ∧ y ≤ 99 then some (some (vI (I 10513 0 (ix x))), hp (uI I 10513 0 (ix x) y) L w) else some (some (vI (-2)), hp I L w)) else some (some (vI (-1)), hp I L w)) := by
  rw [e60, b60_0, s31, bn_s, h4]
  show rn none _ 60 8 _ [vI _] _ = _
  rw [b60_8, ib, s103, bn_s]
  show (if _ then rn none _ 60 19 _ [vI _] _ else _) = _
  rw [b60_19, ib]
  by_cases a : 0 ≤ x ∧ x < c nW
  · obtain ⟨i, hi, rfl⟩ := of_c a.1 (by omega) a.2
    rw [if_pos a, if_pos a, ck_t (vin_c (by omega) (by omega)), ck_t (vin_c (by omega) (by omega))]
  · rw [if_neg a, if_neg a]
theorem s117 {d : Nat} {I : FI} {L : FL} {w : Nat → Nat} {nW : Nat} {x y : Int32} (h1 : nW ≤ 5) (h4 : I 14944 0 0 = c nW) : dn (d + 3) 117 [vR 14944 0, vI x, vI y] (hp I L w) = (if 0 ≤ x ∧ x < c nW then (if 0 ≤ y ∧ y ≤ 99 then some (some (vI (I 10897 0 (ix x))), hp (uI I 10897 0 (ix x) y) L w) else some (some (vI (-2)), hp I L w)) else some (some (vI (-1)), hp I L w)) := by
  rw [e117, b117_0, s110 (by omega) h4, bn_s]
  show rn none _ 117 5 _ [vI _] _ = _
  rw [b117_5, ib, s112, bn_s]
  show (if _ then rn none _ 117 15 _ [vI _] _ else _) = _
  rw [b117_15, ib]
  by_cases a : 0 ≤ x ∧ x < c nW
  · obtain ⟨i, hi, rfl⟩ := of_c a.1 (by omega) a.2
    rw [if_pos a, if_pos a, ck_t (vin_c (by omega) (by omega)), ck_t (vin_c (by omega) (by omega))]
  · rw [if_neg a, if_neg a]
