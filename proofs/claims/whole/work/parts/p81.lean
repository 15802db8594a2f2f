set_option maxHeartbeats 400000
section P81
variable {I : FI} {L : FL} {w : Nat → Nat} {nW nT dy m : Nat} {x y z x4 x5 : Int32} {v : Int64}
theorem sh_ok {k : Nat} {n i : Int32} (hk : k ≤ 60) (hn : ¬ n < 0) (hi : ¬ i < 0) (h : ¬ c k - n < i) : ∃ m u, n = c m ∧ i = c u ∧ u + m ≤ k := by
  have h1 : c k ≤ 60 := tq_le (b := 60) hk (by omega)
  have h2 : 0 ≤ c k := c_0 (by omega)
  obtain ⟨m, hm, rfl⟩ := of_c (x := n) (n := k + 1) (by grind) (by omega) (by rw [← c_s]; grind)
  rw [c_sub (by omega)] at h
  obtain ⟨u, hu, rfl⟩ := of_c (x := i) (n := k - m + 1) (by grind) (by omega) (by
    have h3 : c (k - m) ≤ 60 := tq_le (b := 60) (by omega) (by omega)
    rw [← c_s]; grind)
  exact ⟨m, u, rfl, rfl, by omega⟩
def cpA (L : FL) (s n : Nat) : FL := fun a b e => if a = 124275 ∧ b = 0 ∧ e < n then L 738659 0 (s + e) else L a b e
def cpO (L : FL) (q n : Nat) : FL := fun a b e => if a = 738659 ∧ b = 0 ∧ q ≤ e ∧ e < q + n then L 124275 0 (e - q) else L a b e
theorem cpA_0 {s : Nat} : cpA L s 0 = L := by
  funext a b e; unfold cpA; rw [if_neg (fun z => absurd z.2.2 (Nat.not_lt_zero _))]
theorem cpO_0 {q : Nat} : cpO L q 0 = L := by
  funext a b e; unfold cpO; rw [if_neg (fun z => by omega)]
theorem cpA_s {s n : Nat} : uL (cpA L s n) 124275 0 n (cpA L s n 738659 0 (s + n)) = cpA L s (n + 1) := by
  funext a b e
  unfold uL cpA
  rw [if_neg (show ¬ ((738659 : Nat) = 124275 ∧ 0 = 0 ∧ s + n < n) from fun z => absurd z.1 (by decide))]
  by_cases h : a = 124275 ∧ b = 0 ∧ e = n
  · rw [if_pos h, if_pos ⟨h.1, h.2.1, by omega⟩, h.2.2]
  · rw [if_neg h]
    by_cases q : a = 124275 ∧ b = 0 ∧ e < n
    · rw [if_pos q, if_pos ⟨q.1, q.2.1, by omega⟩]
    · rw [if_neg q, if_neg (fun z => by
        have : e ≠ n := fun y => h ⟨z.1, z.2.1, y⟩
        exact q ⟨z.1, z.2.1, by omega⟩)]
theorem cpO_s {s n : Nat} : uL (cpO L s n) 738659 0 (s + n) (cpO L s n 124275 0 n) = cpO L s (n + 1) := by
  funext a b e
  unfold uL cpO
  rw [if_neg (show ¬ ((124275 : Nat) = 738659 ∧ 0 = 0 ∧ s ≤ n ∧ n < s + n) from fun z => absurd z.1 (by decide))]
  by_cases h : a = 738659 ∧ b = 0 ∧ e = s + n
  · rw [if_pos h, if_pos ⟨h.1, h.2.1, by omega, by omega⟩, h.2.2, Nat.add_sub_cancel_left]
  · rw [if_neg h]
    by_cases q : a = 738659 ∧ b = 0 ∧ s ≤ e ∧ e < s + n
    · rw [if_pos q, if_pos ⟨q.1, q.2.1, q.2.2.1, by omega⟩]
    · rw [if_neg q, if_neg (fun z => by
        have : e ≠ s + n := fun y => h ⟨z.1, z.2.1, y⟩
        exact q ⟨z.1, z.2.1, z.2.2.1, by omega⟩)]
theorem l205 {t o u q n : Nat} (ht : t < 6) (ho : o < 6) (h1 : u + n ≤ 60) (h2 : q + n ≤ 60) : rn none (dn 59) 205 104 [some (vR 14944 0), some (vI (c t)), some (vI (c u)), some (vI (c o)), some (vI (c q)), some (vI (c n)), some (vI 0)] [] (hp I L w) = some (some (vI (c n)), hp I (cpO (cpA L (60 * t + u) n) (60 * o + q) n) w) := by
  have A : ∀ r i, i + r = n → rn none (dn 59) 205 104 [some (vR 14944 0), some (vI (c t)), some (vI (c u)), some (vI (c o)), some (vI (c q)), some (vI (c n)), some (vI (c i))] [] (hp I (cpA L (60 * t + u) i) w) = rn none (dn 59) 205 141 [some (vR 14944 0), some (vI (c t)), some (vI (c u)), some (vI (c o)), some (vI (c q)), some (vI (c n)), some (vI 0)] [] (hp I (cpA L (60 * t + u) n) w) := by
    intro r
    induction r with
    | zero =>
      intro i hi
      obtain rfl : i = n := by omega
      rw [b205_104, if_neg (tq_ng (Nat.le_refl _) (by omega))]
    | succ r ih =>
      intro i hi
      rw [b205_104, if_pos (tq_gt (by omega) (by omega)), show (60 : Int32) = c 60 from rfl, ← Int32.ofNat_mul, cq rfl, cq rfl, ck_t (vin_c (by omega) (by omega)), ck_t (vin_c (by omega) (by omega)), ix_c (by omega), ix_c (by omega), cpA_s, c_s]
      exact ih (i + 1) (by omega)
  have B : ∀ r i, i + r = n → rn none (dn 59) 205 141 [some (vR 14944 0), some (vI (c t)), some (vI (c u)), some (vI (c o)), some (vI (c q)), some (vI (c n)), some (vI (c i))] [] (hp I (cpO (cpA L (60 * t + u) n) (60 * o + q) i) w) = some (some (vI (c n)), hp I (cpO (cpA L (60 * t + u) n) (60 * o + q) n) w) := by
    intro r
    induction r with
    | zero =>
      intro i hi
      obtain rfl : i = n := by omega
      rw [b205_141, if_neg (tq_ng (Nat.le_refl _) (by omega))]
    | succ r ih =>
      intro i hi
      rw [b205_141, if_pos (tq_gt (by omega) (by omega)), show (60 : Int32) = c 60 from rfl, ← Int32.ofNat_mul, cq rfl, cq rfl, ck_t (vin_c (by omega) (by omega)), ck_t (vin_c (by omega) (by omega)), ix_c (by omega), ix_c (by omega), cpO_s, c_s]
      exact ih (i + 1) (by omega)
  have a := A n 0 (by omega)
  rw [cpA_0] at a
  have b := B n 0 (by omega)
  rw [cpO_0] at b
  exact a.trans b
theorem RT_s {t o u q n : Nat} (hT : RT I L) (ht : t < 6) (ho : o < 6) (h1 : u + n ≤ 60) (h2 : q + n ≤ 60) : RT I (cpO (cpA (cL L 123475 t 123475 o u q n) (60 * t + u) n) (60 * o + q) n) := by
  intro t' ht'
  obtain ⟨k', s', q0, q1, q2, q3, q4, q5, q6, q7, q8⟩ := hT t' ht'
  refine ⟨k', s', q0, q1, q2, q3, q4, q5, q6, q7, fun i hi => ?_⟩
  unfold cpO cpA cL
  rw [if_neg (show ¬ ((123475 : Nat) = 738659 ∧ t' = 0 ∧ 60 * o + q ≤ i ∧ i < 60 * o + q + n) from fun z => absurd z.1 (by decide)), if_neg (show ¬ ((123475 : Nat) = 124275 ∧ t' = 0 ∧ i < n) from fun z => absurd z.1 (by decide))]
  by_cases g : t' = o ∧ q ≤ i ∧ i < q + n
  · obtain ⟨g1, g2, g3⟩ := g
    subst g1
    rw [if_pos ⟨rfl, rfl, by omega, by omega⟩, if_pos ⟨rfl, rfl, by omega⟩, if_neg (show ¬ ((738659 : Nat) = 123475 ∧ 0 = t' ∧ _) from fun z => absurd z.1 (by decide)), if_pos ⟨rfl, rfl, g2, g3⟩]
    obtain ⟨_, _, _, _, _, _, _, _, _, _, p8⟩ := hT t ht
    rw [show 60 * t + u + (60 * t' + i - (60 * t' + q)) = 60 * t + (u + (i - q)) by omega]
    exact p8 _ (by omega)
  · rw [if_neg (show ¬ ((738659 : Nat) = 738659 ∧ 0 = 0 ∧ 60 * o + q ≤ 60 * t' + i ∧ 60 * t' + i < 60 * o + q + n) from fun z => g (by omega)), if_neg (show ¬ ((738659 : Nat) = 124275 ∧ 0 = 0 ∧ 60 * t' + i < n) from fun z => absurd z.1 (by decide)), if_neg (show ¬ ((738659 : Nat) = 123475 ∧ 0 = o ∧ _) from fun z => absurd z.1 (by decide)), if_neg (show ¬ ((123475 : Nat) = 123475 ∧ t' = o ∧ q ≤ i ∧ i < q + n) from fun z => g z.2)]
    exact q8 i hi
theorem tap100 (hT : RT I L) : Tap I L w 100 205 [vI x, vI y, vI z, vI x4, vI x5] := by
  by_cases a : 0 ≤ x ∧ x ≤ 5
  · by_cases a' : 0 ≤ z ∧ z ≤ 5
    · obtain ⟨t, ht, rfl⟩ := of_T a
      obtain ⟨o, ho, rfl⟩ := of_T a'
      obtain ⟨k, s, hk, s1, s2, e1, e2, e3, e4, e5, e6⟩ := hT t ht
      obtain ⟨l, r, hl, r1, r2, f1, f2, f3, f4, f5, f6⟩ := hT o ho
      have C : ∀ q, (if s = -1 then some (some (vI (-11)), hp I L w) else if r = -1 then some (some (vI (-11)), hp I L w) else if s = r then (if x5 < 0 then some (some (vI (-13)), hp I L w) else if y < 0 then some (some (vI (-13)), hp I L w) else if x4 < 0 then some (some (vI (-13)), hp I L w) else if c k - x5 < y then some (some (vI (-13)), hp I L w) else if c l - x5 < x4 then some (some (vI (-13)), hp I L w) else ck ((decide (0 ≤ y) && decide (0 ≤ x4) && decide (0 ≤ x5)) && (Nat.ble (ix y + ix x5) 60 && Nat.ble (ix x4 + ix x5) 60) && true) (some (some (vI x5), hp I (cL L 123475 t 123475 o (ix y) (ix x4) (ix x5)) w))) else some (some (vI (-12)), hp I L w)) = q → dn 60 100 [vR 12288 0, vI (c t), vI y, vI (c o), vI x4, vI x5] (hp I L w) = q := by
        intro q hq
        rw [e100]; simp only [b100_0, s101, bn_s, psh, b100_4, ib, if_pos a, b100_11, if_pos a', ck_t (vin_c ht (show 6 < 2147483648 by omega)), ck_t (vin_c ho (show 6 < 2147483648 by omega)), ix_c (show t < 2147483648 by omega), ix_c (show o < 2147483648 by omega), e1, f1, e3, f3]
        exact hq
      have ns : ∀ s : Int32, -1 ≤ s → (s < 0) = (s = -1) := fun s h => propext ⟨fun z => by grind, fun z => by rw [z]; decide⟩
      have M : ∀ K q, (if s = -1 then some (some (vI (-11)), hp I K w) else if r = -1 then some (some (vI (-11)), hp I K w) else if s = r then (if x5 < 0 then some (some (vI (-13)), hp I K w) else if y < 0 then some (some (vI (-13)), hp I K w) else if x4 < 0 then some (some (vI (-13)), hp I K w) else if c k - x5 < y then some (some (vI (-13)), hp I K w) else if c l - x5 < x4 then some (some (vI (-13)), hp I K w) else rn none (dn 59) 205 104 [some (vR 14944 0), some (vI (c t)), some (vI y), some (vI (c o)), some (vI x4), some (vI x5), some (vI 0)] [] (hp I K w)) else some (some (vI (-12)), hp I K w)) = q → dn 60 205 [vR 14944 0, vI (c t), vI y, vI (c o), vI x4, vI x5] (hp I K w) = q := by
        intro K q hq
        rw [e205]; simp only [b205_0, s200, bn_s, psh, b205_5, ib, if_pos a, b205_13, if_pos a', ck_t (vin_c ht (show 6 < 2147483648 by omega)), ck_t (vin_c ho (show 6 < 2147483648 by omega)), ix_c (show t < 2147483648 by omega), ix_c (show o < 2147483648 by omega), e2, f2, e4, f4, ns s s1, ns r r1]
        exact hq
      by_cases b1 : s = -1
      · exact tap_r hT (C _ (by rw [if_pos b1])) (M _ _ (by rw [if_pos b1]))
      · by_cases b2 : r = -1
        · exact tap_r hT (C _ (by rw [if_neg b1, if_pos b2])) (M _ _ (by rw [if_neg b1, if_pos b2]))
        · by_cases b3 : s = r
          · by_cases b4 : x5 < 0
            · exact tap_r hT (C _ (by rw [if_neg b1, if_neg b2, if_pos b3, if_pos b4])) (M _ _ (by rw [if_neg b1, if_neg b2, if_pos b3, if_pos b4]))
            · by_cases b5 : y < 0
              · exact tap_r hT (C _ (by rw [if_neg b1, if_neg b2, if_pos b3, if_neg b4, if_pos b5])) (M _ _ (by rw [if_neg b1, if_neg b2, if_pos b3, if_neg b4, if_pos b5]))
              · by_cases b6 : x4 < 0
                · exact tap_r hT (C _ (by rw [if_neg b1, if_neg b2, if_pos b3, if_neg b4, if_neg b5, if_pos b6])) (M _ _ (by rw [if_neg b1, if_neg b2, if_pos b3, if_neg b4, if_neg b5, if_pos b6]))
                · by_cases b7 : c k - x5 < y
                  · exact tap_r hT (C _ (by rw [if_neg b1, if_neg b2, if_pos b3, if_neg b4, if_neg b5, if_neg b6, if_pos b7])) (M _ _ (by rw [if_neg b1, if_neg b2, if_pos b3, if_neg b4, if_neg b5, if_neg b6, if_pos b7]))
                  · by_cases b8 : c l - x5 < x4
                    · exact tap_r hT (C _ (by rw [if_neg b1, if_neg b2, if_pos b3, if_neg b4, if_neg b5, if_neg b6, if_neg b7, if_pos b8])) (M _ _ (by rw [if_neg b1, if_neg b2, if_pos b3, if_neg b4, if_neg b5, if_neg b6, if_neg b7, if_pos b8]))
                    · obtain ⟨n, u, rfl, rfl, h1⟩ := sh_ok hk b4 b5 b7
                      obtain ⟨n', q, hn', rfl, h2⟩ := sh_ok hl b4 b6 b8
                      obtain rfl : n = n' := c_inj (by omega) (by omega) hn'
                      refine ⟨vI (c n), I, cL L 123475 t 123475 o u q n, I, cpO (cpA (cL L 123475 t 123475 o u q n) (60 * t + u) n) (60 * o + q) n, C _ ?_, M _ _ ?_, RT_s hT ht ho (by omega) (by omega), fun _ _ _ _ => rfl⟩
                      · rw [if_neg b1, if_neg b2, if_pos b3, if_neg b4, if_neg b5, if_neg b6, if_neg b7, if_neg b8, ix_c (a := u) (by omega), ix_c (a := q) (by omega), ix_c (a := n) (by omega), ck_t]
                        rw [decide_eq_true (c_0 (a := u) (by omega)), decide_eq_true (c_0 (a := q) (by omega)), decide_eq_true (c_0 (a := n) (by omega)), Nat.ble_eq_true_of_le (show u + n ≤ 60 by omega), Nat.ble_eq_true_of_le (show q + n ≤ 60 by omega)]
                        rfl
                      · rw [if_neg b1, if_neg b2, if_pos b3, if_neg b4, if_neg b5, if_neg b6, if_neg b7, if_neg b8]
                        exact l205 ht ho (by omega) (by omega)
          · exact tap_r hT (C _ (by rw [if_neg b1, if_neg b2, if_neg b3])) (M _ _ (by rw [if_neg b1, if_neg b2, if_neg b3]))
    · refine tap_r hT (v := vI (-1)) ?_ ?_
      · rw [e100]; simp only [b100_0, s101, bn_s, psh, b100_4, ib, if_pos a, b100_11, if_neg a']
      · rw [e205]; simp only [b205_0, s200, bn_s, psh, b205_5, ib, if_pos a, b205_13, if_neg a']
  · refine tap_r hT (v := vI (-1)) ?_ ?_
    · rw [e100]; simp only [b100_0, s101, bn_s, psh, b100_4, ib, if_neg a]
    · rw [e205]; simp only [b205_0, s200, bn_s, psh, b205_5, ib, if_neg a]
end P81
