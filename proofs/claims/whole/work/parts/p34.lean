def mx0 (x : Int32) : Int32 := if x < 0 then 0 else x
/-- what a thing sinks: kind, the row's number, the pull -/
def sk (kd r pl : Int32) : Int32 := if kd = 1 then pl / 2 else if kd = 3 then mx0 (pl - 2) else if kd = 4 then pl / 2 else if kd = 6 then mx0 (pl - 2) + r else pl
theorem c_row {p dy : Nat} (hp5 : p < 5) (hd : dy < 2147483648) : c p * 4 + c dy % 4 = c (p * 4 + dy % 4) := by
  rw [show (4 : Int32) = c 4 from rfl, ← Int32.ofNat_mul, ← Int32.ofNat_mod hd (by omega), ← Int32.ofNat_add]
theorem c_row' {p dy : Nat} (hp5 : p < 5) (hd : dy < 2147483648) : 4 * c p + c dy % 4 = c (p * 4 + dy % 4) := by
  rw [show (4 : Int32) = c 4 from rfl, ← Int32.ofNat_mul, ← Int32.ofNat_mod hd (by omega), ← Int32.ofNat_add, Nat.mul_comm]
theorem cq {a b n : Nat} (h : a + b = n) : c a + c b = c n := by rw [← h]; exact (Int32.ofNat_add a b).symm
theorem pullD_fct {I : FI} {k : Nat} {g : Nat → Int32} {T : Nat} {f : Nat → Int32} : pullD (fct I k g) T f = pullD I T f := by
  unfold pullD
  rw [fct_p (by omega), fct_p (by omega), fct_p (by omega), fct_p (by omega), fct_p (by omega)]
def nil0 : Nat → Int32 := fun _ => 0
/-- what thing t, at depth l, sinks for wearer p of world k on day dy -/
def skD (I : FI) (w : Nat → Nat) (k p t : Nat) (l : Int32) (dy : Nat) : Int32 := sk (I 10481 k p) (I 41265 k (p * 4 + dy % 4)) (pullD I (w k) (fx (c p) (c t) (I 10481 k p) (I 10497 k p) (I 12609 k t) (l / 10) nil0))
theorem skD_fct {I : FI} {w : Nat → Nat} {k p t : Nat} {l : Int32} {dy : Nat} {g : Nat → Int32} : skD (fct I k g) w k p t l dy = skD I w k p t l dy := by
  unfold skD
  rw [pullD_fct, fct_p (by omega), fct_p (by omega), fct_p (by omega), fct_p (by omega)]
theorem s42 {d : Nat} {I : FI} {L : FL} {w : Nat → Nat} {k p t dy n : Nat} {l : Int32} (hp5 : p < 5) (ht : t < 6) (hd : dy < 2147483648) (hn : n ≤ 100) (hS : I 6288 (w k) 3 = c n) : ∃ g, dn (d + 3) 42 [vR 10464 k, vI (c p), vI (c t), vI l, vI (c dy)] (hp I L w) = some (some (vI (skD I w k p t l dy)), hp (fct I k g) L w) := by
  refine ⟨fx (c p) (c t) (I 10481 k p) (I 10497 k p) (I 12609 k t) (l / 10) (I 12849 k), ?_⟩
  rw [e42, b42_0, s41 hp5 ht, bn_s]
  show rn none _ 42 11 _ [vR _ _, vR _ _] _ = _
  rw [b42_11, s20 hn (by rw [fct_p (by omega)]; exact hS), bn_s]
  show rn none _ 42 14 _ [vI _] _ = _
  rw [b42_14, ck_t (vin_c hp5 (by omega)), ix_c (by omega), fct_s, pullD_fct, fct_p (by omega), c_row hp5 hd, ck_t (vin_c (by omega) (by omega)), ix_c (by omega), fct_p (by omega)]
  rw [pullD_congr (g := fx (c p) (c t) (I 10481 k p) (I 10497 k p) (I 12609 k t) (l / 10) nil0) (fun j hj => by unfold fx; grind)]
  unfold skD sk mx0
  grind
/-- a day of a thing: what its floor is, the town's tide and lift, where it would lie, the day behind -/
def one (f td lf x : Int32) (dy1 : Nat) : Int32 :=
  let y := if 0 < td ∧ c dy1 % td = 0 then x - lf else x
  let z := if f < y then f else y
  if 0 < z then z else 0
def fD (I : FI) (k p : Nat) : Int32 := fl (I 10481 k p) (I 10497 k p) (I 10513 k p)
def dayD (I : FI) (w : Nat → Nat) (k p t : Nat) (l : Int32) (dy : Nat) : Int32 := one (fD I k p) (I 6288 (w k) 1) (I 6288 (w k) 2) (l + skD I w k p t l dy) (dy + 1)
def itD (F : Int32 → Nat → Int32) : Nat → Nat → Int32 → Int32
  | 0, _, l => l
  | n + 1, dy, l => itD F n (dy + 1) (F l dy)
theorem fD_fct {I : FI} {k p : Nat} {g : Nat → Int32} : fD (fct I k g) k p = fD I k p := by
  unfold fD
  rw [fct_p (by omega), fct_p (by omega), fct_p (by omega)]
theorem l43 {d : Nat} {I : FI} {L : FL} {w : Nat → Nat} {k p t n d0 dn' : Nat} {x3 : Int32} (hp5 : p < 5) (ht : t < 6) (hd : d0 + dn' < 2147483647) (hn : n ≤ 100) (hS : I 6288 (w k) 3 = c n) : ∀ r dy l g, dy + r = d0 + dn' → ∃ g', rn none (dn (d + 3)) 43 14 [some (vR 10464 k), some (vI (c p)), some (vI (c t)), some (vI x3), some (vI (c d0)), some (vI (c dn')), some (vI l), some (vI (fD I k p)), some (vI (c dy))] [] (hp (fct I k g) L w) = some (some (vI (itD (dayD I w k p t) r dy l)), hp (fct I k g') L w) := by
  intro r
  induction r with
  | zero =>
    intro dy l g hr
    refine ⟨g, ?_⟩
    rw [b43_14, cq rfl, if_neg (by rw [c_lt (by omega) (by omega)]; omega)]
    rfl
  | succ r ih =>
    intro dy l g hr
    obtain ⟨g1, h1⟩ := s42 (d := d) (I := fct I k g) (L := L) (w := w) (k := k) (p := p) (t := t) (dy := dy) (n := n) (l := l) hp5 ht (by omega) hn (by rw [fct_p (by omega)]; exact hS)
    obtain ⟨g2, h2⟩ := ih (dy + 1) (dayD I w k p t l dy) g1 (by omega)
    refine ⟨g2, ?_⟩
    rw [b43_14, cq rfl, if_pos (by rw [c_lt (by omega) (by omega)]; omega), h1, bn_s, fct_f, skD_fct]
    show rn none _ 43 36 _ [vI _, vI _] _ = _
    rw [b43_36, fct_p (by omega), c_s]
    have e : itD (dayD I w k p t) (r + 1) dy l = itD (dayD I w k p t) r (dy + 1) (dayD I w k p t l dy) := rfl
    rw [e, ← h2]
    unfold dayD one
    by_cases a : 0 < I 6288 (w k) 1
    · have a0 : (!(I 6288 (w k) 1 == 0)) = true := by grind
      rw [if_pos a, ck_t a0]
      by_cases b : c (dy + 1) % I 6288 (w k) 1 = 0
      · rw [if_pos b]; simp only [a, b, true_and, if_true]
      · rw [if_neg b]; simp only [a, b, true_and, if_false]
    · rw [if_neg a]; simp only [a, false_and, if_false]
theorem s43 {d : Nat} {I : FI} {L : FL} {w : Nat → Nat} {k p t n dy r : Nat} {l : Int32} (hp5 : p < 5) (ht : t < 6) (hd : dy + r < 2147483647) (hn : n ≤ 100) (hS : I 6288 (w k) 3 = c n) : ∃ g, dn (d + 4) 43 [vR 10464 k, vI (c p), vI (c t), vI l, vI (c dy), vI (c r)] (hp I L w) = some (some (vI (itD (dayD I w k p t) r dy l)), hp (fct I k g) L w) := by
  rw [e43, b43_0, s37 hp5, bn_s]
  show ∃ g, rn none _ 43 8 _ [vI _] _ = _
  obtain ⟨g', h⟩ := l43 (d := d) (L := L) (x3 := l) hp5 ht hd hn hS r dy l (I 12849 k) rfl
  refine ⟨g', ?_⟩
  rw [b43_8, ← h, fct_i]
  rfl
