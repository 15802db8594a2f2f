theorem uI_p {I : FI} {t k j t' k' : Nat} {x : Int32} (h : t' ≠ t) : uI I t k j x t' k' = I t' k' := by funext j'; exact uI_t h
/-- is k in the set -/
def hs (x : Int32) (i : Nat) : Bool := decide (((x >>> (c i &&& 31)) &&& 1) = 1)
theorem hs_m1 : ∀ i, i < 5 → hs (-1) i = true := by decide
theorem hs_31 : ∀ i, i < 5 → hs 31 i = true := by decide
/-- the arm of wearer i of world k -/
def arD (I : FI) (w : Nat → Nat) (k i : Nat) : Int32 := ar (I 10530 k i) (I 10481 k i) (I 10497 k i) (I 6288 (w k) 0)
theorem l39 {d : Nat} {I : FI} {L : FL} {w : Nat → Nat} {k n : Nat} {x : Int32} (hn : n ≤ 5) (hW : I 10464 k 0 = c n) : ∀ r i, i + r = n → rn none (dn (d + 1)) 39 4 [some (vR 10464 k), some (vI x), some (vI (sumA (arD I w k) (hs x) i)), some (vI (c i))] [] (hp I L w) = some (some (vI (sumA (arD I w k) (hs x) n)), hp I L w) := by
  intro r
  induction r with
  | zero =>
    intro i hi
    obtain rfl : i = n := by omega
    rw [b39_4, hW, if_neg (by rw [c_lt (by omega) (by omega)]; omega)]
  | succ r ih =>
    intro i hi
    have e : sumA (arD I w k) (hs x) (i + 1) = sumA (arD I w k) (hs x) i + (if hs x i = true then arD I w k i else 0) := rfl
    rw [b39_4, hW, if_pos (by rw [c_lt (by omega) (by omega)]; omega)]
    by_cases hb : ((x >>> (c i &&& 31)) &&& 1) = 1
    · rw [if_pos (show hs x i = true from decide_eq_true hb)] at e
      rw [if_pos hb, s38 (by omega), bn_s]
      show rn none (dn (d + 1)) 39 27 _ [vI _, vI _] _ = _
      rw [b39_27, c_s]
      have := ih (i + 1) (by omega)
      rw [e] at this
      exact this
    · rw [if_neg (show ¬ hs x i = true from fun z => hb (of_decide_eq_true z)), Int32.add_zero] at e
      rw [if_neg hb, c_s]
      have := ih (i + 1) (by omega)
      rw [e] at this
      exact this
theorem s39 {d : Nat} {I : FI} {L : FL} {w : Nat → Nat} {k n : Nat} {x : Int32} (hn : n ≤ 5) (hW : I 10464 k 0 = c n) : dn (d + 2) 39 [vR 10464 k, vI x] (hp I L w) = some (some (vI (sumA (arD I w k) (hs x) n)), hp I L w) := by
  rw [e39, b39_0]
  exact l39 hn hW n 0 (by omega)
def allA (f : Nat → Int32) : Nat → Int32
  | 0 => 0
  | n + 1 => allA f n + f n
theorem sumA_all {f : Nat → Int32} {b : Nat → Bool} : ∀ n, (∀ i, i < n → b i = true) → sumA f b n = allA f n := by
  intro n
  induction n with
  | zero => intro _; rfl
  | succ n ih =>
    intro h
    show sumA f b n + (if b n = true then f n else 0) = allA f n + f n
    rw [ih (fun i hi => h i (by omega)), if_pos (h n (by omega))]
theorem s40 {d : Nat} {I : FI} {L : FL} {w : Nat → Nat} {k n : Nat} (hn : n ≤ 5) (hW : I 10464 k 0 = c n) : dn (d + 3) 40 [vR 10464 k] (hp I L w) = some (some (vI (allA (arD I w k) n)), hp I L w) := by
  rw [e40, b40_0, s39 hn hW, bn_s]
  show rn none _ 40 5 _ [vI _] _ = _
  rw [b40_5, sumA_all n (fun i hi => hs_m1 i (by omega))]
/-! what a town's clauses add -/
/-- does the test hold -/
def tst (l s n : Int32) (f : Nat → Int32) : Bool := if l < 0 then false else if l < 6 then (if s = 60 then decide (f (ix l) < n) else if s = 61 then decide (f (ix l) = n) else decide (n < f (ix l))) else false
/-- a step of a town: (what is added, the stack) -/
def stepD (dd l s n : Int32) (f : Nat → Int32) (a b : Int32) : Int32 × Int32 :=
  if dd = 0 then (a, b <<< (1 &&& 31) ||| (if tst l s n f = true then 1 else 0))
  else if dd = 1 then (a, b ^^^ 1)
  else if dd = 2 then (a, (b >>> (1 &&& 31)) &&& (b ||| (-2)))
  else if dd = 3 then (a, (b >>> (1 &&& 31)) ||| (b &&& 1))
  else (a + (b &&& 1) * n, b >>> (1 &&& 31))
def runD (dd ll ss nn f : Nat → Int32) : Nat → Int32 × Int32 → Int32 × Int32
  | 0, p => p
  | n + 1, p => stepD (dd n) (ll n) (ss n) (nn n) f (runD dd ll ss nn f n p).1 (runD dd ll ss nn f n p).2
def pullD (I : FI) (T : Nat) (f : Nat → Int32) : Int32 := (runD (I 204961 T) (I 204977 T) (I 204993 T) (I 205009 T) f (ix (I 6288 T 3)) (f 4, 0)).1
theorem s21 {d : Nat} {I : FI} {L : FL} {w : Nat → Nat} {T k i : Nat} (hi : i < 100) : dn (d + 1) 21 [vR 6288 T, vI (c i), vR 12849 k] (hp I L w) = some (some (vI (if tst (I 204977 T i) (I 204993 T i) (I 205009 T i) (I 12849 k) = true then 1 else 0)), hp I L w) := by
  rw [e21, b21_0]
  simp only [vin_c hi (by omega : 100 < 2147483648), ck_tt, ix_c (show i < 2147483648 by omega)]
  unfold tst
  by_cases h1 : I 204977 T i < 0
  · simp only [if_pos h1]; rfl
  · by_cases h2 : I 204977 T i < 6
    · have hv : vin (I 204977 T i) 6 = true := by
        obtain ⟨a, ha, e⟩ := of_c (x := I 204977 T i) (n := 6) (by grind) (by omega) h2
        rw [e]; exact vin_c ha (by omega)
      simp only [if_neg h1, if_pos h2, hv, ck_tt]
      grind
    · simp only [if_neg h1, if_neg h2]; rfl
