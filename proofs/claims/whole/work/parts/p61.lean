set_option maxHeartbeats 200000
section P61
variable {d : Nat} {I : FI} {L : FL} {w : Nat → Nat} {x y : Int32} {n p kd : Nat}
theorem s93z (hkd : kd < 7) (hK : I 10481 0 p = c kd) (hp5 : p < 5) (hn : n < 16) (h : I 12288 0 9 = c n) {k : Int32} (hk : k = 0 ∨ k = 2 ∨ k = 3 ∨ k = 5) : dn (d + 4) 93 [vR 12288 0, vI (c p), vI k, vI x] (hp I L w) = some (some (vI (gvF kd (I 10497 0 p) x p - I 10497 0 p)), hp (lgI I 41073 12288 9 n (11 :: gbF kd)) L w) := by
  have S : dn (d + 3) 91 [vR 12288 0, vI 11] (hp I L w) = some (none, hp (lgI I 41073 12288 9 n [11]) L w) := s91 (by omega) h
  have e1 : lgI I 41073 12288 9 n [11] 10481 0 = I 10481 0 := lgI_p (by omega) (by omega) _
  have e2 : lgI I 41073 12288 9 n [11] 10497 0 = I 10497 0 := lgI_p (by omega) (by omega) _
  have e3 : lgI I 41073 12288 9 n (11 :: gbF kd) 10497 0 = I 10497 0 := lgI_p (by omega) (by omega) _
  have G := s92 (d := d) (I := lgI I 41073 12288 9 n [11]) (L := L) (w := w) (x := x) hkd hp5 (show n + 1 < 18 by omega) (lgI_c (by omega) h [11])
  rw [e2, show lgI (lgI I 41073 12288 9 n [11]) 41073 12288 9 (n + 1) (gbF kd) = lgI I 41073 12288 9 n (11 :: gbF kd) from lgI_a [11] _] at G
  have F : rn none (dn (d + 3)) 93 115 [some (vR 12288 0), some (vI (c p)), some (vI k), some (vI x)] [] (hp (lgI I 41073 12288 9 n [11]) L w) = some (some (vI (gvF kd (I 10497 0 p) x p - I 10497 0 p)), hp (lgI I 41073 12288 9 n (11 :: gbF kd)) L w) := by
    rw [b93_115, ck_t (vin_c hp5 (by omega)), ix_c (by omega), e1, hK, G, bn_s]
    show rn none _ 93 130 _ [vI _] _ = _
    rw [b93_130, ck_t (vin_c hp5 (by omega)), ix_c (by omega), e3]
  rw [e93, b93_0]
  rcases hk with rfl | rfl | rfl | rfl
  all_goals
    rw [if_neg (by decide), if_neg (by decide), if_neg (by decide), S, bn_s]
    exact F
end P61
