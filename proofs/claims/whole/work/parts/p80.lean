set_option maxHeartbeats 400000
section P80
variable {I : FI} {L : FL} {w : Nat → Nat} {nW nT dy m : Nat} {x y z : Int32} {v : Int64}
theorem uL_at {t k j t' k' j' : Nat} : uL L t k j v t' k' j' = if t' = t ∧ k' = k ∧ j' = j then v else L t' k' j' := rfl
theorem tap98 (hT : RT I L) : Tap I L w 98 203 [vI x, vI y, vL v] := by
  by_cases a : 0 ≤ x ∧ x ≤ 5
  · obtain ⟨t, ht, rfl⟩ := of_T a
    obtain ⟨k, s, hk, s1, s2, e1, e2, e3, e4, e5, e6⟩ := hT t ht
    have A := s98 (d := 57) (w := w) (L := L) (y := y) (v := v) ht hk e3
    by_cases b : s = -1
    · refine tap_r hT (v := vI (-11)) ?_ ?_
      · rw [show dn 60 98 = dn (57 + 3) 98 from rfl, A, if_pos (by rw [e1]; exact b)]
      · have B := s203 (d := 57) (w := w) (L := L) (y := y) (v := v) ht hk e4 (by rw [e2]; exact s1) (by rw [e2]; exact s2)
        rw [show dn 60 203 = dn (57 + 3) 203 from rfl, B, if_pos (by rw [e2]; exact b)]
    · by_cases q : 0 ≤ y ∧ y < c k
      · obtain ⟨u, hu, rfl⟩ := of_c q.1 (by omega) q.2
        have B := s203 (d := 57) (w := w) (L := uL L 123475 t u (nrw s v)) (y := c u) (v := v) ht hk e4 (by rw [e2]; exact s1) (by rw [e2]; exact s2)
        refine ⟨vI 1, I, uL L 123475 t u (nrw s v), I, uL (uL L 123475 t u (nrw s v)) 738659 0 (60 * t + u) (nrw s v), ?_, ?_, ?_, fun _ _ _ _ => rfl⟩
        · rw [show dn 60 98 = dn (57 + 3) 98 from rfl, A, if_neg (by rw [e1]; exact b), if_pos q, ix_c (by omega), e1]
        · rw [show dn 60 203 = dn (57 + 3) 203 from rfl, B, if_neg (by rw [e2]; exact b), if_pos q, ix_c (by omega), e2]
        · intro t' ht'
          obtain ⟨k', s', q0, q1, q2, q3, q4, q5, q6, q7, q8⟩ := hT t' ht'
          refine ⟨k', s', q0, q1, q2, q3, q4, q5, q6, q7, fun i hi => ?_⟩
          rw [uL_at, uL_at, uL_at, uL_at, q8 i hi]
          by_cases g : t' = t ∧ i = u
          · rw [if_pos ⟨rfl, rfl, by rw [g.1, g.2]⟩, if_neg (show ¬ ((123475 : Nat) = 738659 ∧ t' = 0 ∧ i = 60 * t + u) from fun z => absurd z.1 (by decide)), if_pos ⟨rfl, g⟩]
          · rw [if_neg (show ¬ ((738659 : Nat) = 738659 ∧ 0 = 0 ∧ 60 * t' + i = 60 * t + u) from fun z => by omega), if_neg (show ¬ ((738659 : Nat) = 123475 ∧ 0 = t ∧ 60 * t' + i = u) from fun z => absurd z.1 (by decide)), if_neg (show ¬ ((123475 : Nat) = 738659 ∧ t' = 0 ∧ i = 60 * t + u) from fun z => absurd z.1 (by decide)), if_neg (show ¬ ((123475 : Nat) = 123475 ∧ t' = t ∧ i = u) from fun z => g z.2)]
      · have B := s203 (d := 57) (w := w) (L := L) (y := y) (v := v) ht hk e4 (by rw [e2]; exact s1) (by rw [e2]; exact s2)
        refine tap_r hT (v := vI (-13)) ?_ ?_
        · rw [show dn 60 98 = dn (57 + 3) 98 from rfl, A, if_neg (by rw [e1]; exact b), if_neg q]
        · rw [show dn 60 203 = dn (57 + 3) 203 from rfl, B, if_neg (by rw [e2]; exact b), if_neg q]
  · refine tap_r hT (v := vI (-1)) ?_ ?_
    · rw [e98]; simp only [b98_0, s101, bn_s, psh, b98_4, ib, if_neg a]
    · rw [e203]; simp only [b203_0, s200, bn_s, psh, b203_5, ib, if_neg a]
/-- a stretch of longs is filled -/
def fiL (L : FL) (t k a b : Nat) (v : Int64) : FL := fun t' k' j => if t' = t ∧ k' = k ∧ a ≤ j ∧ j < b then v else L t' k' j
theorem fiL_0 {t k a : Nat} : fiL L t k a a v = L := by
  funext t' k' j
  unfold fiL
  rw [if_neg (fun z => by omega)]
theorem fiL_s {t k a i : Nat} (h : a ≤ i) : uL (fiL L t k a i v) t k i v = fiL L t k a (i + 1) v := by
  funext t' k' j
  unfold uL fiL
  by_cases e : t' = t ∧ k' = k ∧ j = i
  · rw [if_pos e, if_pos ⟨e.1, e.2.1, by omega, by omega⟩]
  · rw [if_neg e]
    by_cases q : t' = t ∧ k' = k ∧ a ≤ j ∧ j < i
    · rw [if_pos q, if_pos ⟨q.1, q.2.1, q.2.2.1, by omega⟩]
    · rw [if_neg q, if_neg (fun z => by
        have : j ≠ i := fun y => e ⟨z.1, z.2.1, y⟩
        exact q ⟨z.1, z.2.1, z.2.2.1, by omega⟩)]
theorem s16 {d t : Nat} {a b : Int32} : dn (d + 2) 16 [vR 4672 t, vI a, vI b] (hp I L w) = some (none, hp (uI (uI I 4672 t 0 a) 4672 t 1 b) (fiL L 123475 t 0 60 0) w) := by
  have A : ∀ J : FI, ∀ o r i, i + r = 60 → rn none (dn d) 220 6 [some (vR 123475 t), some (vL 0), o, some (vI (c i)), some (vI 60)] [] (hp J (fiL L 123475 t 0 i 0) w) = some (none, hp J (fiL L 123475 t 0 60 0) w) := by
    intro J o r
    induction r with
    | zero =>
      intro i hi
      obtain rfl : i = 60 := by omega
      rw [b220_6, if_neg (by decide)]
    | succ r ih =>
      intro i hi
      rw [b220_6, if_pos (show c i < 60 from tq_gt (b := 60) (by omega) (by omega)), ck_t (vin_c (by omega) (by omega)), ix_c (by omega), fiL_s (by omega), c_s]
      exact ih (i + 1) (by omega)
  have A0 := fun J o => A J o 60 0 rfl
  rw [fiL_0] at A0
  rw [e16, b16_0, e220, b220_0]
  rw [show (0 : Int32) = c 0 from rfl, A0, bn_s]
  show rn none _ 16 18 _ [] _ = _
  rw [b16_18]
theorem l201 {t : Nat} (ht : t < 6) {J : FI} {a b : Int32} : ∀ r i, i + r = 60 → rn none (dn 59) 201 69 [some (vR 14944 0), some (vI (c t)), some (vI a), some (vI b), some (vI (c i))] [] (hp J (fiL L 738659 0 (60 * t) (60 * t + i) 0) w) = some (some (vI 1), hp J (fiL L 738659 0 (60 * t) (60 * t + 60) 0) w) := by
  intro r
  induction r with
  | zero =>
    intro i hi
    obtain rfl : i = 60 := by omega
    rw [b201_69, if_neg (by decide)]
  | succ r ih =>
    intro i hi
    rw [b201_69, if_pos (show c i < 60 from tq_gt (b := 60) (by omega) (by omega)), show (60 : Int32) = c 60 from rfl, ← Int32.ofNat_mul, cq rfl, ck_t (vin_c (by omega) (by omega)), ix_c (by omega), fiL_s (by omega), c_s]
    exact ih (i + 1) (by omega)
/-- a tape becomes another -/
theorem RT_b {t n : Nat} {s : Int32} (hT : RT I L) (hn : n ≤ 60) (s1 : -1 ≤ s) (s2 : s ≤ 4) (h0 : s = -1 → n = 0) : RT (uI (uI (uI (uI I 4672 t 0 s) 4672 t 1 (c n)) 13633 0 t s) 13649 0 t (c n)) (fiL (fiL L 123475 t 0 60 0) 738659 0 (60 * t) (60 * t + 60) 0) := by
  intro t' ht'
  by_cases q : t' = t
  · subst q
    refine ⟨n, s, hn, s1, s2, ?_, ?_, ?_, ?_, h0, fun i hi => ?_⟩
    · rw [uI_t (by omega), uI_t (by omega), uI_j (by omega), uI_e]
    · rw [uI_t (by omega), uI_e]
    · rw [uI_t (by omega), uI_t (by omega), uI_e]
    · rw [uI_e]
    · unfold fiL
      rw [if_pos ⟨rfl, rfl, by omega, by omega⟩, if_neg (show ¬ ((123475 : Nat) = 738659 ∧ t' = 0 ∧ 60 * t' ≤ i ∧ i < 60 * t' + 60) from fun z => absurd z.1 (by decide)), if_pos ⟨rfl, rfl, by omega, hi⟩]
  · obtain ⟨k', s', q0, q1, q2, q3, q4, q5, q6, q7, q8⟩ := hT t' ht'
    refine ⟨k', s', q0, q1, q2, ?_, ?_, ?_, ?_, q7, fun i hi => ?_⟩
    · rw [uI_t (by omega), uI_t (by omega), uI_k q, uI_k q]; exact q3
    · rw [uI_t (by omega), uI_j q, uI_t (by omega), uI_t (by omega)]; exact q4
    · rw [uI_t (by omega), uI_t (by omega), uI_k q, uI_k q]; exact q5
    · rw [uI_j q, uI_t (by omega), uI_t (by omega), uI_t (by omega)]; exact q6
    · unfold fiL
      rw [if_neg (show ¬ ((738659 : Nat) = 738659 ∧ 0 = 0 ∧ 60 * t ≤ 60 * t' + i ∧ 60 * t' + i < 60 * t + 60) from fun z => by omega), if_neg (show ¬ ((738659 : Nat) = 123475 ∧ 0 = t ∧ 0 ≤ 60 * t' + i ∧ 60 * t' + i < 60) from fun z => absurd z.1 (by decide)), if_neg (show ¬ ((123475 : Nat) = 738659 ∧ t' = 0 ∧ 60 * t ≤ i ∧ i < 60 * t + 60) from fun z => absurd z.1 (by decide)), if_neg (show ¬ ((123475 : Nat) = 123475 ∧ t' = t ∧ 0 ≤ i ∧ i < 60) from fun z => q z.2.1)]
      exact q8 i hi
theorem tap97 (hT : RT I L) : Tap I L w 97 201 [vI x, vI y, vI z] := by
  by_cases a : 0 ≤ x ∧ x ≤ 5
  · obtain ⟨t, ht, rfl⟩ := of_T a
    have B0 := fun J a b => l201 (L := fiL L 123475 t 0 60 0) (w := w) (J := J) (a := a) (b := b) ht 60 0 rfl
    rw [show 60 * t + 0 = 60 * t from rfl, fiL_0] at B0
    have P : ∀ s n, n ≤ 60 → -1 ≤ s → s ≤ 4 → (s = -1 → n = 0) → dn 60 97 [vR 12288 0, vI (c t), vI y, vI z] (hp I L w) = some (some (vI 1), hp (uI (uI I 4672 t 0 s) 4672 t 1 (c n)) (fiL L 123475 t 0 60 0) w) → (∀ J K, dn 60 201 [vR 14944 0, vI (c t), vI y, vI z] (hp J K w) = rn none (dn 59) 201 69 [some (vR 14944 0), some (vI (c t)), some (vI y), some (vI z), some (vI 0)] [] (hp (uI (uI J 13633 0 t s) 13649 0 t (c n)) K w)) → Tap I L w 97 201 [vI (c t), vI y, vI z] := by
      intro s n hn s1 s2 h0 A B
      refine ⟨vI 1, _, _, uI (uI (uI (uI I 4672 t 0 s) 4672 t 1 (c n)) 13633 0 t s) 13649 0 t (c n), fiL (fiL L 123475 t 0 60 0) 738659 0 (60 * t) (60 * t + 60) 0, A, ?_, RT_b hT hn s1 s2 h0, fun t' k j hh => ?_⟩
      · rw [B]
        exact B0 _ _ _
      · rw [uI_t (by omega), uI_t (by omega), uI_t (by omega), uI_t (by omega)]
    by_cases b : y = -1
    · refine P (-1) 0 (by omega) (by decide) (by decide) (fun _ => rfl) ?_ (fun J K => ?_)
      · rw [e97]; simp only [b97_0, s101, bn_s, psh, b97_4, ib, if_pos a, if_pos b, ck_t (vin_c ht (show 6 < 2147483648 by omega)), ix_c (show t < 2147483648 by omega), s16, b97_25]
        rfl
      · subst b
        rw [e201]; simp only [b201_0, s200, bn_s, psh, b201_5, ib, if_pos a, s106, b201_17]
        rw [if_pos (by decide), if_pos (by decide), if_pos (by decide), ck_t (vin_c ht (by omega)), if_pos (by decide), ck_t (vin_c ht (by omega)), ix_c (by omega)]
        rfl
    · by_cases e : 0 ≤ y ∧ y ≤ 4
      · have n0 : ¬ y < 0 := by grind
        have e' : -1 ≤ y ∧ y ≤ 4 := by grind
        by_cases f : 60 < z
        · refine tap_r hT (v := vI (-2)) ?_ ?_
          · rw [e97]; simp only [b97_0, s101, bn_s, psh, b97_4, ib, if_pos a, if_neg b, s103, b97_32, if_pos e, if_pos f]
          · rw [e201]; simp only [b201_0, s200, bn_s, psh, b201_5, ib, if_pos a, s106, b201_17, if_pos e', if_neg n0, if_pos f]
        · by_cases g : z < 0
          · refine tap_r hT (v := vI (-14)) ?_ ?_
            · rw [e97]; simp only [b97_0, s101, bn_s, psh, b97_4, ib, if_pos a, if_neg b, s103, b97_32, if_pos e, if_neg f, if_pos g]
            · rw [e201]; simp only [b201_0, s200, bn_s, psh, b201_5, ib, if_pos a, s106, b201_17, if_pos e', if_neg n0, if_neg f, if_pos g]
          · obtain ⟨n, hn, rfl⟩ := of_c (x := z) (n := 61) (by grind) (by omega) (by show z < 61; grind)
            refine P y n (by omega) e'.1 e'.2 (fun z => absurd z b) ?_ (fun J K => ?_)
            · rw [e97]; simp only [b97_0, s101, bn_s, psh, b97_4, ib, if_pos a, if_neg b, s103, b97_32, if_pos e, if_neg f, if_neg g, ck_t (vin_c ht (show 6 < 2147483648 by omega)), ix_c (show t < 2147483648 by omega), s16, b97_62]
            · rw [e201]; simp only [b201_0, s200, bn_s, psh, b201_5, ib, if_pos a, s106, b201_17, if_pos e', if_neg n0, if_neg f, if_neg g, ck_t (vin_c ht (show 6 < 2147483648 by omega)), ix_c (show t < 2147483648 by omega)]
      · have e' : ¬ (-1 ≤ y ∧ y ≤ 4) := by grind
        refine tap_r hT (v := vI (-2)) ?_ ?_
        · rw [e97]; simp only [b97_0, s101, bn_s, psh, b97_4, ib, if_pos a, if_neg b, s103, b97_32, if_neg e]
        · rw [e201]; simp only [b201_0, s200, bn_s, psh, b201_5, ib, if_pos a, s106, b201_17, if_neg e']
  · refine tap_r hT (v := vI (-1)) ?_ ?_
    · rw [e97]; simp only [b97_0, s101, bn_s, psh, b97_4, ib, if_neg a]
    · rw [e201]; simp only [b201_0, s200, bn_s, psh, b201_5, ib, if_neg a]
end P80
