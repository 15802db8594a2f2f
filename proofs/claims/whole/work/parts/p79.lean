set_option maxHeartbeats 400000
section P79
variable {I : FI} {L : FL} {w : Nat → Nat} {nW nT dy m : Nat} {x y z : Int32}
/-! tapes -/
def RT (I : FI) (L : FL) : Prop := ∀ t, t < 6 → ∃ (n : Nat) (s : Int32), n ≤ 60 ∧ -1 ≤ s ∧ s ≤ 4 ∧ I 4672 t 0 = s ∧ I 13633 0 t = s ∧ I 4672 t 1 = c n ∧ I 13649 0 t = c n ∧ (s = -1 → n = 0) ∧ ∀ i, i < 60 → L 738659 0 (60 * t + i) = L 123475 t i
def Tap (I : FI) (L : FL) (w : Nat → Nat) (m m' : Nat) (a : List Vl) : Prop := ∃ v I1 L1 I2 L2, dn 60 m (vR 12288 0 :: a) (hp I L w) = some (some v, hp I1 L1 w) ∧ dn 60 m' (vR 14944 0 :: a) (hp I1 L1 w) = some (some v, hp I2 L2 w) ∧ RT I2 L2 ∧ ∀ t k j, (t ≠ 4672 ∧ t ≠ 13633 ∧ t ≠ 13649) → I2 t k j = I t k j
theorem tap_r {m m' : Nat} {a : List Vl} {v : Vl} (h : RT I L) (e1 : dn 60 m (vR 12288 0 :: a) (hp I L w) = some (some v, hp I L w)) (e2 : dn 60 m' (vR 14944 0 :: a) (hp I L w) = some (some v, hp I L w)) : Tap I L w m m' a := ⟨v, I, L, I, L, e1, e2, h, fun _ _ _ _ => rfl⟩
/-- a tape's number -/
theorem of_T (a : 0 ≤ x ∧ x ≤ 5) : ∃ t, t < 6 ∧ x = c t := by
  obtain ⟨t, ht, e⟩ := of_c (x := x) (n := 6) a.1 (by omega) (by have := a.2; show x < 6; grind)
  exact ⟨t, ht, e⟩
/-- judge -/
def jdF (lw : Nat → Int32) (it : Nat → Int64) (ok : Nat → Bool) : Nat → Nat → Int32
  | 0, _ => -5
  | r + 1, k => if ok k = true then (if lg_cmp (it k) (Int32.toInt64 (lw k)) = 0 then jdF lw it ok r (k + 1) else c k) else 100 + c k
theorem jd_i {n k : Nat} (hn : n ≤ 60) (hk : k < 6) : (x < c n - c k) = ¬ (c n - c k - 1 < x) := by
  have h1 : c n ≤ 60 := tq_le (b := 60) hn (by omega)
  have h2 : 0 ≤ c n := c_0 (by omega)
  have h3 : c k ≤ 6 := tq_le (b := 6) (by omega) (by omega)
  have h4 : 0 ≤ c k := c_0 (by omega)
  apply propext
  constructor <;> intro h <;> grind
theorem jd_j {n k : Nat} (hn : n ≤ 60) (hk : k < 6) (h0 : ¬ x < 0) (h : x < c n - c k) : ∃ u, u + k < n ∧ x = c u := by
  have h1 : c n ≤ 60 := tq_le (b := 60) hn (by omega)
  have h2 : 0 ≤ c n := c_0 (by omega)
  have h3 : c k ≤ 6 := tq_le (b := 6) (by omega) (by omega)
  have h4 : 0 ≤ c k := c_0 (by omega)
  obtain ⟨u, hu, rfl⟩ := of_c (x := x) (n := n) (by grind) (by omega) (by grind)
  refine ⟨u, ?_, rfl⟩
  have h5 : c u + c k < c n := by
    have := c_0 (a := u) (by omega)
    have : c u ≤ 60 := tq_le (b := 60) (by omega) (by omega)
    grind
  rw [cq rfl, c_lt (by omega) (by omega)] at h5
  exact h5
theorem l86 {t n : Nat} (h5 : I 10464 0 6 = c nT) (h2 : nT ≤ 6) (ht : t < 6) (hn : n ≤ 60) (hl : I 4672 t 1 = c n) {y' : Int32} : ∀ r k, k + r = nT → rn none (dn 59) 86 38 [some (vR 12288 0), some (vI y'), some (vI x), some (vR 4672 t), some (vI (c k))] [] (hp I L w) = some (some (vI (jdF (fun t => if I 12625 0 t = -5 then -5 else I 12641 0 t) (fun k => L 123475 t (ix (x + c k))) (fun k => !decide (x < 0) && decide (x < c n - c k)) r k)), hp I L w) := by
  intro r
  induction r with
  | zero =>
    intro k hk
    obtain rfl : k = nT := by omega
    rw [b86_38, h5, if_neg (tq_ng (Nat.le_refl _) (by omega))]
    rfl
  | succ r ih =>
    intro k hk
    rw [b86_38, h5, if_pos (tq_gt (by omega) (by omega)), hl]
    show _ = some (some (vI (if (!decide (x < 0) && decide (x < c n - c k)) = true then (if lg_cmp (L 123475 t (ix (x + c k))) (Int32.toInt64 (if I 12625 0 k = -5 then -5 else I 12641 0 k)) = 0 then _ else c k) else 100 + c k)), hp I L w)
    by_cases a : x < 0
    · rw [if_pos a, decide_eq_true a, if_neg (by simp)]
    · rw [if_neg a, decide_eq_false a]
      by_cases b : x < c n - c k
      · obtain ⟨u, hu, rfl⟩ := jd_j hn (by omega) a b
        rw [if_pos b, decide_eq_true b, if_pos (by decide), cq rfl, ck_t (vin_c (by omega) (by omega)), s44 (by omega), bn_s]
        show rn none _ 86 89 _ [vI _, vL _] _ = _
        rw [b86_89, c_s]
        by_cases q : lg_cmp (L 123475 t (ix (c (u + k)))) (Int32.toInt64 (if I 12625 0 k = -5 then -5 else I 12641 0 k)) = 0
        · rw [if_pos q, if_pos q]
          have g := ih (k + 1) (by omega)
          rw [decide_eq_false a] at g
          exact g
        · rw [if_neg q, if_neg q]
      · rw [if_neg b, decide_eq_false b, if_neg (by simp)]
theorem l185 {t n : Nat} (h5 : I 14944 0 2 = c nT) (h2 : nT ≤ 6) (ht : t < 6) (hn : n ≤ 60) (hl : I 13649 0 t = c n) (h0 : I 13633 0 t < 0 → n = 0) : ∀ r k, k + r = nT → rn none (dn 59) 185 34 [some (vR 14944 0), some (vI (c t)), some (vI x), some (vI (c k))] [] (hp I L w) = some (some (vI (jdF (fun t => if I 12993 0 t = -5 then -5 else I 13009 0 t) (fun k => L 738659 0 (60 * t + ix (x + c k))) (fun k => !decide (x < 0) && decide (x < c n - c k)) r k)), hp I L w) := by
  intro r
  induction r with
  | zero =>
    intro k hk
    obtain rfl : k = nT := by omega
    rw [b185_34, h5, if_neg (tq_ng (Nat.le_refl _) (by omega))]
    rfl
  | succ r ih =>
    intro k hk
    rw [b185_34, h5, if_pos (tq_gt (by omega) (by omega)), ck_t (vin_c (by omega) (by omega)), ck_t (vin_c (by omega) (by omega)), ix_c (by omega), hl]
    show _ = some (some (vI (if (!decide (x < 0) && decide (x < c n - c k)) = true then (if lg_cmp (L 738659 0 (60 * t + ix (x + c k))) (Int32.toInt64 (if I 12993 0 k = -5 then -5 else I 13009 0 k)) = 0 then _ else c k) else 100 + c k)), hp I L w)
    by_cases e : I 13633 0 t < 0
    · rw [if_pos e]
      obtain rfl := h0 e
      by_cases a : x < 0
      · rw [decide_eq_true a, if_neg (by simp)]
      · have : ¬ x < c 0 - c k := by
          have h4 : 0 ≤ c k := c_0 (by omega)
          have h3 : c k ≤ 6 := tq_le (b := 6) (by omega) (by omega)
          have : c 0 = 0 := rfl
          grind
        rw [decide_eq_false this, if_neg (by simp)]
    · rw [if_neg e]
      by_cases a : x < 0
      · rw [if_pos a, decide_eq_true a, if_neg (by simp)]
      · rw [if_neg a, decide_eq_false a]
        by_cases b : x < c n - c k
        · obtain ⟨u, hu, rfl⟩ := jd_j hn (by omega) a b
          have b' := b
          rw [jd_i hn (by omega)] at b'
          rw [if_neg b', decide_eq_true b, if_pos (show (!false && true) = true from rfl), show (60 : Int32) = c 60 from rfl, ← Int32.ofNat_mul, cq rfl, cq rfl, cq rfl, ck_t (vin_c (by omega) (by omega)), s152 (by omega), bn_s, ix_c (by omega), ix_c (by omega), show 60 * t + (u + k) = 60 * t + u + k by omega]
          show rn none _ 185 92 _ [vI _, vL _] _ = _
          rw [b185_92, c_s]
          by_cases q : lg_cmp (L 738659 0 (60 * t + u + k)) (Int32.toInt64 (if I 12993 0 k = -5 then -5 else I 13009 0 k)) = 0
          · rw [if_pos q, if_pos q]
            have g := ih (k + 1) (by omega)
            rw [decide_eq_false a] at g
            exact g
          · rw [if_neg q, if_neg q]
        · have b' := b
          rw [jd_i hn (by omega), Classical.not_not] at b'
          rw [if_pos b', decide_eq_false b, if_neg (by simp)]
theorem jdF_c {lw lw' : Nat → Int32} {it it' : Nat → Int64} {ok : Nat → Bool} {N : Nat} (h1 : ∀ k, k < N → lw k = lw' k) (h2 : ∀ k, k < N → ok k = true → it k = it' k) : ∀ r k, k + r = N → jdF lw it ok r k = jdF lw' it' ok r k := by
  intro r
  induction r with
  | zero => intro k _; rfl
  | succ r ih =>
    intro k hk
    show (if ok k = true then (if lg_cmp (it k) (Int32.toInt64 (lw k)) = 0 then jdF lw it ok r (k + 1) else c k) else 100 + c k) = (if ok k = true then (if lg_cmp (it' k) (Int32.toInt64 (lw' k)) = 0 then jdF lw' it' ok r (k + 1) else c k) else 100 + c k)
    by_cases q : ok k = true
    · rw [h1 k (by omega), h2 k (by omega) q, ih (k + 1) (by omega)]
    · rw [if_neg q, if_neg q]
theorem ask86 (h : RA I w nW nT dy) (hT : RT I L) : Ask I L w 86 185 [vI x, vI y] := by
  obtain ⟨hW, hM, hws, hd, hB, hTA⟩ := id h
  obtain ⟨h1, h2, h3, h4, h5, h6, h7, n, hn, h8⟩ := id hW
  obtain ⟨m1, m2, m3, m4, m5, m6, m7, mT, mF⟩ := id hM
  by_cases a : 0 ≤ x ∧ x ≤ 5
  · obtain ⟨t, ht, rfl⟩ := of_T a
    obtain ⟨k, s, hk, s1, s2, e1, e2, e3, e4, e5, e6⟩ := hT t ht
    by_cases b : s = -1 ∨ s = 1
    · have hg := l86 (L := L) (w := w) (x := y) (y' := c t) h5 h2 ht hk e3 nT 0 (by omega)
      have hm := l185 (L := L) (w := w) (x := y) m5 m2 ht hk e4 (fun z => e5 (by rw [e2] at z; grind)) nT 0 (by omega)
      refine ask_of (I1 := I) (I2 := I) scM.rf (v := vI (jdF (fun t => if I 12625 0 t = -5 then -5 else I 12641 0 t) (fun k => L 123475 t (ix (y + c k))) (fun q => !decide (y < 0) && decide (y < c k - c q)) nT 0)) ?_ scM.rf (v' := vI (jdF (fun t => if I 12993 0 t = -5 then -5 else I 13009 0 t) (fun k => L 738659 0 (60 * t + ix (y + c k))) (fun q => !decide (y < 0) && decide (y < c k - c q)) nT 0)) ?_ (congrArg vI ?_)
      · rw [e86]; simp only [b86_0, s101, bn_s, psh, b86_4, ib, if_pos a, ck_t (vin_c ht (show 6 < 2147483648 by omega)), ix_c (show t < 2147483648 by omega), e1]
        rcases b with b | b
        · rw [if_pos b]; exact hg
        · rw [if_neg (by rw [b]; decide), if_pos b]; exact hg
      · rw [e185]; simp only [b185_0, s200, bn_s, psh, b185_5, ib, if_pos a, ck_t (vin_c ht (show 6 < 2147483648 by omega)), ix_c (show t < 2147483648 by omega), e2]
        rcases b with b | b
        · rw [if_pos (by rw [b]; decide)]; exact hm
        · rw [if_neg (by rw [b]; decide), if_pos b]; exact hm
      · refine jdF_c (N := nT) (fun q hq => ?_) (fun q hq ho => ?_) nT 0 (by omega)
        · have r1 : I 12993 0 q = I 12625 0 q := hws.2.2.2.2.2.2.1 q (by omega)
          have r2 : I 13009 0 q = I 12641 0 q := hws.2.2.2.2.2.2.2.1 q (by omega)
          rw [r1, r2]
        · simp only [Bool.and_eq_true, Bool.not_eq_true', decide_eq_false_iff_not, decide_eq_true_eq] at ho
          obtain ⟨u, hu, rfl⟩ := jd_j hk (by omega) ho.1 ho.2
          rw [cq rfl, ix_c (by omega), e6 _ (by omega)]
    · have n1 : ¬ s = -1 := fun z => b (Or.inl z)
      have n2 : ¬ s = 1 := fun z => b (Or.inr z)
      refine ask_of (I1 := I) (I2 := I) (v := vI (-12)) (v' := vI (-12)) scM.rf ?_ scM.rf ?_ rfl
      · rw [e86]; simp only [b86_0, s101, bn_s, psh, b86_4, ib, if_pos a, ck_t (vin_c ht (show 6 < 2147483648 by omega)), ix_c (show t < 2147483648 by omega), e1, if_neg n1, if_neg n2]
      · rw [e185]; simp only [b185_0, s200, bn_s, psh, b185_5, ib, if_pos a, ck_t (vin_c ht (show 6 < 2147483648 by omega)), ix_c (show t < 2147483648 by omega), e2, if_neg n2]
        rw [if_neg (by grind)]
  · refine ask_of (I1 := I) (I2 := I) (v := vI (-1)) (v' := vI (-1)) scM.rf ?_ scM.rf ?_ rfl
    · rw [e86]; simp only [b86_0, s101, bn_s, psh, b86_4, ib, if_neg a]
    · rw [e185]; simp only [b185_0, s200, bn_s, psh, b185_5, ib, if_neg a]
theorem ask99 (hT : RT I L) : Ask I L w 99 204 [vI x, vI y] := by
  by_cases a : 0 ≤ x ∧ x ≤ 5
  · obtain ⟨t, ht, rfl⟩ := of_T a
    obtain ⟨k, s, hk, s1, s2, e1, e2, e3, e4, e5, e6⟩ := hT t ht
    refine ask_of (I1 := I) (I2 := I) scM.rf (s99 (d := 57) ht hk e3) scM.rf (s204 (d := 57) ht hk e4 (fun z => e5 (by rw [e2] at z; grind))) (congrArg vL ?_)
    by_cases b : 0 ≤ y ∧ y < c k
    · obtain ⟨u, hu, rfl⟩ := of_c b.1 (by omega) b.2
      rw [if_pos b, if_pos b, ix_c (by omega), e6 u (by omega)]
    · rw [if_neg b, if_neg b]
  · refine ask_of (I1 := I) (I2 := I) (v := vL (-9223372036854775808)) (v' := vL (-9223372036854775808)) scM.rf ?_ scM.rf ?_ rfl
    · rw [e99]; simp only [b99_0, s101, bn_s, psh, b99_4, ib, if_neg a]
    · rw [e204]; simp only [b204_0, s200, bn_s, psh, b204_5, ib, if_neg a]
end P79
