set_option maxHeartbeats 400000
section P67
variable {I : FI} {L : FL} {w : Nat → Nat} {nW nT dy : Nat} {x y z : Int32}
theorem l74 {p : Nat} (hp5 : p < 5) : ∀ r i, i + r = 100 → rn none (dn 59) 74 28 [some (vR 12288 0), some (vI (c p)), some (vI y), some (vI (c i))] [] (hp I L w) = some (some (vI (srch (fun i => decide (y ≤ fl (I 10481 0 p) (I 10497 0 p) (c i))) r i)), hp I L w) := by
  intro r
  induction r with
  | zero =>
    intro i hr
    obtain rfl : i = 100 := by omega
    rw [b74_28, if_pos (by decide)]
    rfl
  | succ r ih =>
    intro i hr
    have e2 : srch (fun i => decide (y ≤ fl (I 10481 0 p) (I 10497 0 p) (c i))) (r + 1) i = if y ≤ fl (I 10481 0 p) (I 10497 0 p) (c i) then c i else srch (fun i => decide (y ≤ fl (I 10481 0 p) (I 10497 0 p) (c i))) r (i + 1) := by
      show (if decide _ = true then _ else _) = _
      simp only [decide_eq_true_eq]
    rw [e2, b74_28, if_neg (show ¬ 99 < c i from tq_ng (a := 99) (by omega) (by omega)), ck_t (vin_c hp5 (by omega)), ck_t (vin_c hp5 (by omega)), ix_c (by omega), s104, bn_s]
    show rn none _ 74 56 _ [vI _] _ = _
    rw [b74_56, c_s]
    by_cases a : y ≤ fl (I 10481 0 p) (I 10497 0 p) (c i)
    · rw [if_pos a, if_neg (by grind)]
    · rw [if_neg a, if_pos (by grind)]
      exact ih (i + 1) (by omega)
theorem l169 {p : Nat} (hp5 : p < 5) : ∀ r i z, i + r = 100 → rn none (dn 59) 169 35 [some (vR 14944 0), some (vI (c p)), some (vI y), some (vI (I 10897 0 p)), some (vI (-5)), some (vI (c i))] [] (hp (uI I 10897 0 p z) L w) = some (some (vI (srch (fun i => decide (y ≤ fl (I 10865 0 p) (I 10881 0 p) (c i))) r i)), hp I L w) := by
  intro r
  induction r with
  | zero =>
    intro i z hr
    obtain rfl : i = 100 := by omega
    rw [b169_35, if_neg (by decide), ck_t (vin_c hp5 (by omega)), ix_c (by omega), uI_u, uI_id rfl]
    rfl
  | succ r ih =>
    intro i z hr
    have e2 : srch (fun i => decide (y ≤ fl (I 10865 0 p) (I 10881 0 p) (c i))) (r + 1) i = if y ≤ fl (I 10865 0 p) (I 10881 0 p) (c i) then c i else srch (fun i => decide (y ≤ fl (I 10865 0 p) (I 10881 0 p) (c i))) r (i + 1) := by
      show (if decide _ = true then _ else _) = _
      simp only [decide_eq_true_eq]
    have e3 : fD (mv (uI I 10897 0 p (c i))) 0 p = fl (I 10865 0 p) (I 10881 0 p) (c i) := by
      unfold fD
      rw [mv_kind, mv_v, mv_th, uI_e, uI_t (by omega), uI_t (by omega)]
    rw [e2, b169_35, if_pos (show c i < 100 from tq_gt (b := 100) (by omega) (by omega)), if_pos (by decide), ck_t (vin_c hp5 (by omega)), ix_c (by omega), uI_u, s147 hp5, bn_s, e3]
    show rn none _ 169 60 _ [vI _] _ = _
    rw [b169_60, c_s]
    by_cases a : y ≤ fl (I 10865 0 p) (I 10881 0 p) (c i)
    · have n0 : ¬ c i < 0 := by rw [c_n0 (by omega)]; exact id
      rw [if_pos a, if_neg (by grind), b169_35, if_neg n0, ck_t (vin_c hp5 (by omega)), ix_c (by omega), uI_u, uI_id rfl, ite_self]
    · rw [if_neg a, if_pos (by grind)]
      exact ih (i + 1) (c i) (by omega)
theorem ask74 (h : RA I w nW nT dy) : Ask I L w 74 169 [vI x, vI y] := by
  obtain ⟨hW, hM, hws, hd, hB, hTA⟩ := id h
  obtain ⟨h1, h2, h3, h4, h5, h6, h7, n, hn, h8⟩ := id hW
  obtain ⟨m1, m2, m3, m4, m5, m6, m7, mT, mF⟩ := id hM
  have e110 : ∀ d, dn (d + 2) 110 [vR 14944 0, vI x] (hp I L w) = some (some (vI (bi (0 ≤ x ∧ x < c nW))), hp I L w) := fun d => s110 (by omega) m4
  by_cases a : 0 ≤ x ∧ x < c nW
  · obtain ⟨p, hp', hp5, rfl⟩ := of_5 h1 a
    by_cases b : 0 ≤ y ∧ y ≤ 999
    · refine ask_of (I1 := I) (I2 := I) (v := vI (srch (fun i => decide (y ≤ fl (I 10481 0 p) (I 10497 0 p) (c i))) 100 0)) (v' := vI (srch (fun i => decide (y ≤ fl (I 10865 0 p) (I 10881 0 p) (c i))) 100 0)) scM.rf ?_ scM.rf ?_ ?_
      · rw [e74, b74_0, s31, bn_s, h4]
        show rn none _ 74 8 _ [vI _] _ = _
        rw [b74_8, ib, if_pos a, s103, bn_s]
        show rn none _ 74 20 _ [vI _] _ = _
        rw [b74_20, ib, if_pos b]
        exact l74 hp5 100 0 rfl
      · rw [e169, b169_0, e110, bn_s]
        show rn none _ 169 5 _ [vI _] _ = _
        rw [b169_5, ib, if_pos a, s113, bn_s]
        show rn none _ 169 15 _ [vI _] _ = _
        rw [b169_15, ib, if_pos b, ck_t (vin_c hp5 (by omega)), ix_c (by omega)]
        have := l169 (I := I) (L := L) (w := w) (y := y) hp5 100 0 (I 10897 0 p) rfl
        rw [uI_id rfl] at this
        exact this
      · rw [show I 10865 0 p = I 10481 0 p from hws.1 p hp5, show I 10881 0 p = I 10497 0 p from hws.2.1 p hp5]
    · refine ask_of (I1 := I) (I2 := I) (v := vI (-2)) (v' := vI (-2)) scM.rf ?_ scM.rf ?_ rfl
      · rw [e74]; simp only [b74_0, s31, bn_s, h4, psh, b74_8, ib, if_pos a, s103, b74_20, if_neg b]
      · rw [e169]; simp only [b169_0, e110, bn_s, psh, b169_5, ib, if_pos a, s113, b169_15, if_neg b]
  · refine ask_of (I1 := I) (I2 := I) (v := vI (-1)) (v' := vI (-1)) scM.rf ?_ scM.rf ?_ rfl
    · rw [e74]; simp only [b74_0, s31, bn_s, h4, psh, b74_8, ib, if_neg a]
    · rw [e169]; simp only [b169_0, e110, bn_s, psh, b169_5, ib, if_neg a]
/-- taken -/
theorem l95 {i : Nat} {k u : Int32} (hi : i < 7) : rn none (dn 59) 95 42 [some (vR 12288 0), some (vI x), some (vI y), some (vI k), some (vI u), some (vI (c i))] [] (hp I L w) = if 0 ≤ u ∧ u ≤ 6 then (if u = y then some (some (vI k), hp I L w) else rn none (dn 59) 95 42 [some (vR 12288 0), some (vI x), some (vI y), some (vI k), some (vI (kAb (ix u))), some (vI (c (i + 1)))] [] (hp I L w)) else some (some (vI (-12)), hp I L w) := by
  rw [b95_42, ck_tt, if_pos (show c i < 7 from tq_gt (b := 7) hi (by omega)), s103, bn_s]
  show rn none _ 95 58 _ [vI _] _ = _
  rw [b95_58, ib, c_s]
  by_cases a : 0 ≤ u ∧ u ≤ 6
  · obtain ⟨t, ht, rfl⟩ := of_c (x := u) (n := 7) a.1 (by omega) (by have := a.2; show u < 7; grind)
    rw [if_pos a, if_pos a, ck_t (show (vin (c t) 7 && true && true) = true from by rw [vin_c ht (by omega)]; rfl)]
  · rw [if_neg a, if_neg a]
def tkF (k y : Int32) : Int32 := if y = 0 then k else if k = y then k else if y = 1 ∧ k = 4 then k else if y = 2 ∧ k = 5 then k else if y = 3 ∧ k = 6 then k else -12
theorem s95l {kd u : Nat} (hkd : kd < 7) (hu : u < 7) : rn none (dn 59) 95 42 [some (vR 12288 0), some (vI x), some (vI (c u)), some (vI (c kd)), some (vI (c kd)), some (vI 0)] [] (hp I L w) = some (some (vI (tkF (c kd) (c u))), hp I L w) := by
  have e1 : ∀ i k z y, i < 7 → ¬ (0 ≤ z ∧ z ≤ 6) → rn none (dn 59) 95 42 [some (vR 12288 0), some (vI x), some (vI y), some (vI k), some (vI z), some (vI (c i))] [] (hp I L w) = some (some (vI (-12)), hp I L w) := fun i k z y hi hz => by rw [l95 hi, if_neg hz]
  have e2 : ∀ i k z y, i < 7 → (0 ≤ z ∧ z ≤ 6) → z = y → rn none (dn 59) 95 42 [some (vR 12288 0), some (vI x), some (vI y), some (vI k), some (vI z), some (vI (c i))] [] (hp I L w) = some (some (vI k), hp I L w) := fun i k z y hi hz he => by rw [l95 hi, if_pos hz, if_pos he]
  have e3 : ∀ i k z y q, i < 7 → (0 ≤ z ∧ z ≤ 6) → ¬ z = y → kAb (ix z) = q → rn none (dn 59) 95 42 [some (vR 12288 0), some (vI x), some (vI y), some (vI k), some (vI z), some (vI (c i))] [] (hp I L w) = rn none (dn 59) 95 42 [some (vR 12288 0), some (vI x), some (vI y), some (vI k), some (vI q), some (vI (c (i + 1)))] [] (hp I L w) := fun i k z y q hi hz he hq => by rw [l95 hi, if_pos hz, if_neg he, hq]
  have E : ∀ b, b ≠ u → ∀ i k, i < 7 → b < 7 → ∀ q, kAb (ix (c b)) = q → rn none (dn 59) 95 42 [some (vR 12288 0), some (vI x), some (vI (c u)), some (vI k), some (vI (c b)), some (vI (c i))] [] (hp I L w) = rn none (dn 59) 95 42 [some (vR 12288 0), some (vI x), some (vI (c u)), some (vI k), some (vI q), some (vI (c (i + 1)))] [] (hp I L w) := fun b hb i k hi h7 q hq => e3 i k _ _ q hi ⟨c_0 (by omega), tq_le (b := 6) (by omega) (by omega)⟩ (tq_ne hb (by omega) (by omega)) hq
  have F : ∀ b, b = u → ∀ i k, i < 7 → b < 7 → rn none (dn 59) 95 42 [some (vR 12288 0), some (vI x), some (vI (c u)), some (vI k), some (vI (c b)), some (vI (c i))] [] (hp I L w) = some (some (vI k), hp I L w) := fun b hb i k hi h7 => e2 i k _ _ hi ⟨c_0 (by omega), tq_le (b := 6) (by omega) (by omega)⟩ (by rw [hb])
  have G : ∀ i k, i < 7 → rn none (dn 59) 95 42 [some (vR 12288 0), some (vI x), some (vI (c u)), some (vI k), some (vI (-1)), some (vI (c i))] [] (hp I L w) = some (some (vI (-12)), hp I L w) := fun i k hi => e1 i k _ _ hi (by decide)
  have Z : ∀ i k, i < 6 → rn none (dn 59) 95 42 [some (vR 12288 0), some (vI x), some (vI (c u)), some (vI k), some (vI (c 0)), some (vI (c i))] [] (hp I L w) = some (some (vI (if u = 0 then k else -12)), hp I L w) := fun i k hi => by
    by_cases q : u = 0
    · rw [F 0 q.symm i k (by omega) (by omega), if_pos q]
    · rw [E 0 (fun z => q z.symm) i k (by omega) (by omega) (-1) (by decide), G (i + 1) k (by omega), if_neg q]
  have O : ∀ b, b = 1 ∨ b = 2 ∨ b = 3 → ∀ i k, i < 5 → rn none (dn 59) 95 42 [some (vR 12288 0), some (vI x), some (vI (c u)), some (vI k), some (vI (c b)), some (vI (c i))] [] (hp I L w) = some (some (vI (if u = b then k else if u = 0 then k else -12)), hp I L w) := fun b hb i k hi => by
    by_cases q : u = b
    · rw [F b q.symm i k (by omega) (by omega), if_pos q]
    · rw [E b (fun z => q z.symm) i k (by omega) (by omega) (c 0) (by rcases hb with rfl | rfl | rfl <;> decide), Z (i + 1) k (by omega), if_neg q]
  have T : ∀ b, b = 4 ∨ b = 5 ∨ b = 6 → ∀ i k, i < 4 → rn none (dn 59) 95 42 [some (vR 12288 0), some (vI x), some (vI (c u)), some (vI k), some (vI (c b)), some (vI (c i))] [] (hp I L w) = some (some (vI (if u = b then k else if u = b - 3 then k else if u = 0 then k else -12)), hp I L w) := fun b hb i k hi => by
    by_cases q : u = b
    · rw [F b q.symm i k (by omega) (by omega), if_pos q]
    · rw [E b (fun z => q z.symm) i k (by omega) (by omega) (c (b - 3)) (by rcases hb with rfl | rfl | rfl <;> decide), O (b - 3) (by omega) (i + 1) k (by omega), if_neg q]
  have R : ∀ kd, kd < 7 → ∀ u, u < 7 → tkF (c kd) (c u) = (if kd = 0 then (if u = 0 then c kd else -12) else if kd < 4 then (if u = kd then c kd else if u = 0 then c kd else -12) else (if u = kd then c kd else if u = kd - 3 then c kd else if u = 0 then c kd else -12)) := by decide
  rw [R kd hkd u hu]
  by_cases q0 : kd = 0
  · subst q0; rw [if_pos rfl]; exact Z 0 _ (by omega)
  · rw [if_neg q0]
    by_cases q4 : kd < 4
    · rw [if_pos q4]; exact O kd (by omega) 0 _ (by omega)
    · rw [if_neg q4]; exact T kd (by omega) 0 _ (by omega)
theorem ask95 (h : RA I w nW nT dy) : Ask I L w 95 198 [vI x, vI y] := by
  obtain ⟨hW, hM, hws, hd, hB, hTA⟩ := id h
  obtain ⟨h1, h2, h3, h4, h5, h6, h7, n, hn, h8⟩ := id hW
  obtain ⟨m1, m2, m3, m4, m5, m6, m7, mT, mF⟩ := id hM
  have e110 : ∀ d, dn (d + 2) 110 [vR 14944 0, vI x] (hp I L w) = some (some (vI (bi (0 ≤ x ∧ x < c nW))), hp I L w) := fun d => s110 (by omega) m4
  by_cases b : 0 ≤ y ∧ y ≤ 6
  · by_cases a : 0 ≤ x ∧ x < c nW
    · obtain ⟨p, hp', hp5, rfl⟩ := of_5 h1 a
      obtain ⟨kd, hk, ek⟩ := (hB.1 p hp').1
      obtain ⟨u, hu, rfl⟩ := of_c (x := y) (n := 7) b.1 (by omega) (by have := b.2; show y < 7; grind)
      refine ask_of (I1 := I) (I2 := I) (v := vI (tkF (c kd) (c u))) (v' := vI (tkF (c kd) (c u))) scM.rf ?_ scM.rf ?_ rfl
      · rw [e95, b95_0, s103, bn_s]
        show rn none _ 95 6 _ [vI _] _ = _
        rw [b95_6, ib, if_pos b, s31, bn_s, h4]
        show rn none _ 95 20 _ [vI _] _ = _
        rw [b95_20, ib, if_pos a, ck_t (vin_c hp5 (by omega)), ix_c (by omega), ek]
        exact s95l hk hu
      · have ek' : I 10865 0 p = c kd := by rw [show I 10865 0 p = I 10481 0 p from hws.1 p hp5, ek]
        rw [e198, b198_0, s106, bn_s]
        show rn none _ 198 8 _ [vI _] _ = _
        rw [b198_8, ib, if_pos b, e110, bn_s]
        show rn none _ 198 19 _ [vI _] _ = _
        rw [b198_19, ib, if_pos a, ck_t (vin_c hp5 (by omega)), ix_c (by omega), ek']
        unfold tkF
        generalize c u = y'
        generalize c kd = k'
        by_cases q0 : y' = 0
        · rw [if_pos q0, if_pos q0]
        · rw [if_neg q0, if_neg q0]
          by_cases q1 : k' = y'
          · rw [if_pos q1, if_pos q1]
          · rw [if_neg q1, if_neg q1]
            grind
    · refine ask_of (I1 := I) (I2 := I) (v := vI (-11)) (v' := vI (-11)) scM.rf ?_ scM.rf ?_ rfl
      · rw [e95]; simp only [b95_0, s31, bn_s, h4, psh, b95_6, ib, if_pos b, s103, b95_20, if_neg a]
      · rw [e198]; simp only [b198_0, s106, bn_s, psh, b198_8, ib, if_pos b, e110, b198_19, if_neg a]
  · refine ask_of (I1 := I) (I2 := I) (v := vI (-2)) (v' := vI (-2)) scM.rf ?_ scM.rf ?_ rfl
    · rw [e95]; simp only [b95_0, s103, bn_s, psh, b95_6, ib, if_neg b]
    · rw [e198]; simp only [b198_0, s106, bn_s, psh, b198_8, ib, if_neg b]
end P67
