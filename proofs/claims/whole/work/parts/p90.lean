set_option maxHeartbeats 400000
section TXT
variable {I : FI} {L : FL} {w : Nat → Nat}
/-! the library's calls on texts -/
theorem s211 {d k : Nat} (hk : Nat.blt k 7 = true) : dn (d + 1) 211 [vR 1926 k] (hp I L w) = some (some (vI 0), hp I L w) := by
  rw [e211, b211_0, if_neg (by decide), hk]
  rfl
theorem s212 {d k : Nat} (hk : Nat.blt k 7 = true) : dn (d + 1) 212 [vR 1926 k] (hp I L w) = some (some (vI 1), hp I L w) := by
  rw [e212, b212_0, if_neg (by decide), hk]
  rfl
theorem s207 {d k : Nat} (hk : Nat.blt k 7 = true) (hl : sLen k < 100) : dn (d + 2) 207 [vR 1926 k] (hp I L w) = some (some (vI (c (sLen k))), hp I L w) := by
  rw [e207, b207_0, hk, ck_t (by rfl), ck_t (by rfl), ck_t (by rfl), s211 hk, bn_s]
  show rn none _ 207 9 _ [vI _, vI _] _ = _
  rw [b207_9]
  congr 3
  revert hl
  generalize sLen k = q
  revert q
  decide +kernel
theorem s218 {d i m : Nat} (h : i < m) (hm : m < 2147483648) : dn (d + 1) 218 [vI (c i), vI (c m), vN] (hp I L w) = some (some (vI (c i)), hp I L w) := by
  rw [e218, b218_0, if_neg (show ¬ c i < 0 from by rw [c_n0 (by omega)]; exact id), if_pos (tq_gt h hm)]
theorem s214 {d k i : Nat} (hk : Nat.blt k 7 = true) (hl : sLen k < 100) (hi : i < sLen k) {b : Nat} (hb : b < 128) (hs' : sByt k i = c b) : dn (d + 3) 214 [vR 1943 k, vI (c i)] (hp I L w) = some (some (vI (c b)), hp I L w) := by
  rw [e214, b214_0, hk, ck_t (by rfl), e213, b213_0, s218 hi (by omega), bn_s]
  show bn (rn none _ 213 8 _ [vI _] _) _ = _
  rw [b213_8, bn_s]
  show rn none _ 214 6 _ [] _ = _
  have E : ∀ b, b < 128 → UInt32.toInt32 (Int32.toUInt32 (c b &&& 255) % 65536) = c b := by decide +kernel
  have R : ∀ b, b < 128 → rok 3 (c b) = true := by decide +kernel
  rw [b214_6, hk, vin_c hi (by omega), ck_t (by rfl), ix_c (by omega), hs', E b hb, ck_t (R b hb)]
theorem s208 {d k i : Nat} (hk : Nat.blt k 7 = true) (hl : sLen k < 100) (hi : i < sLen k) {b : Nat} (hb : b < 128) (hs' : sByt k i = c b) : dn (d + 4) 208 [vR 1926 k, vI (c i)] (hp I L w) = some (some (vI (c b)), hp I L w) := by
  have R : ∀ b, b < 128 → rok 3 (c b) = true := by decide +kernel
  rw [e208, b208_0, hk, ck_t (by rfl), s212 hk, bn_s]
  show rn none _ 208 4 _ [vI _] _ = _
  rw [b208_4, if_neg (by decide), hk, ck_t (by rfl), s214 hk hl hi hb hs', bn_s]
  show rn none _ 208 15 _ [vI _] _ = _
  rw [b208_15, ck_t (R b hb)]
theorem l217 {d i b : Nat} {o : Int32} (hi : i < 6) : rn none (dn d) 217 7 [some (vR 1943 6), some (vI o), some (vI 0), some (vI (c 6)), some (vI (c b)), some (vI (c i))] [] (hp I L w) = (if sByt 6 i = c b then some (some (vI (c i)), hp I L w) else rn none (dn d) 217 7 [some (vR 1943 6), some (vI o), some (vI 0), some (vI (c 6)), some (vI (c b)), some (vI (c (i + 1)))] [] (hp I L w)) := by
  rw [b217_7, if_pos (tq_gt (by omega) (by omega)), show sLen 6 = 6 from rfl, vin_c hi (by omega), ck_t (by rfl), ix_c (by omega), c_s]
theorem s209 {d b : Nat} (hb : b < 128) : dn (d + 6) 209 [vR 1926 6, vI (c b)] (hp I L w) = some (some (vI (ltr (c b))), hp I L w) := by
  have hk : Nat.blt 6 7 = true := rfl
  have E : ∀ b, b < 128 → Int8.toInt32 (Int32.toInt8 (c b)) = c b := by decide +kernel
  have F : dn (d + 4) 216 [vR 1943 6, vI (c b), vI 0, vI (c 6)] (hp I L w) = some (some (vI (ltr (c b))), hp I L w) := by
    rw [e216, b216_0, e215, b215_0, if_neg (show ¬ c b < 0 from by rw [c_n0 (by omega)]; exact id), if_neg (show ¬ 255 < c b from tq_ng (a := 255) (by omega) (by omega)), bn_s]
    show rn none _ 216 4 _ [vI _] _ = _
    rw [b216_4, if_neg (by decide), ck_t (by rfl), show sLen 6 = 6 from rfl, show (if (0 : Int32) < 0 then (0 : Int32) else 0) = 0 from rfl, show (if Int32.ofNat 6 < c 6 then Int32.ofNat 6 else c 6) = c 6 from rfl, if_pos (by decide), e217, b217_0, E b hb]
    have Z : rn none (dn (d + 2)) 217 7 [some (vR 1943 6), some (vI (c b)), some (vI 0), some (vI (c 6)), some (vI (c b)), some (vI (c 6))] [] (hp I L w) = some (some (vI (-1)), hp I L w) := by
      rw [b217_7, if_neg (by decide)]
    have G : rn none (dn (d + 2)) 217 7 [some (vR 1943 6), some (vI (c b)), some (vI 0), some (vI (c 6)), some (vI (c b)), some (vI 0)] [] (hp I L w) = some (some (vI (ltr (c b))), hp I L w) := by
      show rn none (dn (d + 2)) 217 7 [some (vR 1943 6), some (vI (c b)), some (vI 0), some (vI (c 6)), some (vI (c b)), some (vI (c 0))] [] (hp I L w) = some (some (vI (ltr (c b))), hp I L w)
      rw [l217 (by omega), l217 (by omega), l217 (by omega), l217 (by omega), l217 (by omega), l217 (by omega), Z]
      have R : ∀ b, b < 128 → (if sByt 6 0 = c b then c 0 else if sByt 6 (0 + 1) = c b then c (0 + 1) else if sByt 6 (0 + 1 + 1) = c b then c (0 + 1 + 1) else if sByt 6 (0 + 1 + 1 + 1) = c b then c (0 + 1 + 1 + 1) else if sByt 6 (0 + 1 + 1 + 1 + 1) = c b then c (0 + 1 + 1 + 1 + 1) else if sByt 6 (0 + 1 + 1 + 1 + 1 + 1) = c b then c (0 + 1 + 1 + 1 + 1 + 1) else -1) = ltr (c b) := by decide +kernel
      rw [← R b hb]
      simp only [ifs (f := fun v => some (some (vI v), hp I L w))]
    rw [G, bn_s]
    show rn none _ 216 36 _ [vI _] _ = _
    rw [b216_36]
  rw [e209, b209_0, ck_t (by rfl), e210, b210_0, ck_t (by rfl), s212 hk, bn_s]
  show bn (rn none _ 210 4 _ [vI _] _) _ = _
  rw [b210_4, if_neg (by decide), ck_t (by rfl), ck_t (by rfl), s207 hk (by decide), bn_s]
  show bn (rn none _ 210 17 _ [vI _, vI _, vI _, vR _ _] _) _ = _
  rw [b210_17, show sLen 6 = 6 from rfl, F, bn_s]
  show bn (rn none _ 210 20 _ [vI _] _) _ = _
  rw [b210_20, bn_s]
  show rn none _ 209 6 _ [vI _] _ = _
  rw [b209_6]
end TXT
