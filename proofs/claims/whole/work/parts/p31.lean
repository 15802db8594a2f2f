/-! what the walks below stand on -/
abbrev c (n : Nat) : Int32 := Int32.ofNat n
def bi (p : Prop) [Decidable p] : Int32 := if p then 1 else 0
theorem c_s {n : Nat} : c n + 1 = c (n + 1) := by simp
theorem c_lt {a b : Nat} (ha : a < 2147483648) (hb : b < 2147483648) : (c a < c b) = (a < b) := propext (Int32.ofNat_lt_iff_lt ha hb)
theorem c_le {a b : Nat} (ha : a < 2147483648) (hb : b < 2147483648) : (c a ≤ c b) = (a ≤ b) := propext (Int32.ofNat_le_iff_le ha hb)
theorem ix_c {a : Nat} (ha : a < 2147483648) : ix (c a) = a := Int32.toNatClampNeg_ofNat_of_lt ha
theorem c_0 {a : Nat} (ha : a < 2147483648) : 0 ≤ c a := by
  have := c_le (a := 0) (b := a) (by omega) ha
  exact (this.symm ▸ Nat.zero_le a : c 0 ≤ c a)
theorem c_n0 {a : Nat} (ha : a < 2147483648) : (c a < 0) = False := by
  have := c_lt (a := a) (b := 0) ha (by omega)
  exact (show (c a < c 0) = False from by rw [this]; simp)
theorem vin_c {a n : Nat} (h : a < n) (hn : n < 2147483648) : vin (c a) n = true := by
  unfold vin
  rw [show (c a).toNatClampNeg = a from ix_c (by omega)]
  simp [c_0 (a := a) (by omega), h]
theorem of_c {x : Int32} (h0 : 0 ≤ x) {n : Nat} (hn : n < 2147483648) (h : x < c n) : ∃ a, a < n ∧ x = c a := by
  refine ⟨x.toNatClampNeg, ?_, (Int32.ofNat_toNatClampNeg x h0).symm⟩
  have h1 := h
  rw [← Int32.ofNat_toNatClampNeg x h0] at h1
  exact (c_lt (x.toNatClampNeg_lt) hn).mp h1
theorem c_inj {a b : Nat} (ha : a < 2147483648) (hb : b < 2147483648) (h : c a = c b) : a = b := by
  have := congrArg ix h
  rwa [ix_c ha, ix_c hb] at this
theorem c_eq {a b : Nat} (ha : a < 2147483648) (hb : b < 2147483648) : (c a = c b) = (a = b) := propext ⟨c_inj ha hb, fun h => by rw [h]⟩
theorem bi0 {p : Prop} [Decidable p] : (bi p = 0) = ¬p := by
  unfold bi
  split <;> simp [*]
theorem bi1 {p : Prop} [Decidable p] : (bi p = 1) = p := by
  unfold bi
  split <;> simp [*]
theorem uI_e {I : FI} {t k j : Nat} {x : Int32} : uI I t k j x t k j = x := by unfold uI; rw [if_pos ⟨rfl, rfl, rfl⟩]
theorem uI_t {I : FI} {t k j t' k' j' : Nat} {x : Int32} (h : t' ≠ t) : uI I t k j x t' k' j' = I t' k' j' := by unfold uI; rw [if_neg (fun z => h z.1)]
theorem uI_k {I : FI} {t k j t' k' j' : Nat} {x : Int32} (h : k' ≠ k) : uI I t k j x t' k' j' = I t' k' j' := by unfold uI; rw [if_neg (fun z => h z.2.1)]
theorem uI_j {I : FI} {t k j t' k' j' : Nat} {x : Int32} (h : j' ≠ j) : uI I t k j x t' k' j' = I t' k' j' := by unfold uI; rw [if_neg (fun z => h z.2.2)]
theorem ifs {α : Type} {p : Prop} [Decidable p] {f : Int32 → α} {a b : Int32} : (if p then f a else f b) = f (if p then a else b) := by split <;> rfl
/-! the wearers -/
def inn (x a b : Int32) : Int32 := bi (a ≤ x ∧ x ≤ b)
def fl (kd v th : Int32) : Int32 := if kd = 1 then th / 5 else if kd = 2 then 3 * th else if kd = 4 then th / 5 + v else if kd = 5 then 3 * th + 10 * v else th
def ar (gone kd v reach : Int32) : Int32 := if gone = 0 then (if kd = 1 then reach + v + 5 else if kd = 4 then reach + v + 5 else if kd = 5 then 2 * (reach + v) else reach + v) else 0
theorem s103 {d : Nat} {I : FI} {L : FL} {w : Nat → Nat} {x y : Int32} : dn (d + 1) 103 [vI x, vI y] (hp I L w) = some (some (vI (bi (0 ≤ x ∧ x ≤ y))), hp I L w) := by
  rw [e103, b103_0]; unfold bi; grind
theorem s106 {d : Nat} {I : FI} {L : FL} {w : Nat → Nat} {x y z : Int32} : dn (d + 1) 106 [vR 14944 0, vI x, vI y, vI z] (hp I L w) = some (some (vI (bi (y ≤ x ∧ x ≤ z))), hp I L w) := by
  rw [e106, b106_0]; unfold bi; grind
theorem s104 {d : Nat} {I : FI} {L : FL} {w : Nat → Nat} {x y z : Int32} : dn (d + 1) 104 [vI x, vI y, vI z] (hp I L w) = some (some (vI (fl x y z)), hp I L w) := by
  rw [e104, b104_0]; unfold fl; grind
theorem s31 {d : Nat} {I : FI} {L : FL} {w : Nat → Nat} {k : Nat} {x : Int32} : dn (d + 1) 31 [vR 10464 k, vI x] (hp I L w) = some (some (vI (bi (0 ≤ x ∧ x < I 10464 k 0))), hp I L w) := by
  rw [e31, b31_0]; unfold bi; grind
theorem s32 {d : Nat} {I : FI} {L : FL} {w : Nat → Nat} {k : Nat} {x : Int32} : dn (d + 1) 32 [vR 10464 k, vI x] (hp I L w) = some (some (vI (bi (0 ≤ x ∧ x < I 10464 k 6))), hp I L w) := by
  rw [e32, b32_0]; unfold bi; grind
theorem s33 {d : Nat} {I : FI} {L : FL} {w : Nat → Nat} {k i : Nat} (hi : i < 6) : dn (d + 1) 33 [vR 10464 k, vI (c i)] (hp I L w) = some (some (vI (bi (I 12625 k i = -5))), hp I L w) := by
  rw [e33, b33_0, ck_t (vin_c hi (by omega)), ix_c (by omega)]; unfold bi; grind
theorem s37 {d : Nat} {I : FI} {L : FL} {w : Nat → Nat} {k i : Nat} (hi : i < 5) : dn (d + 2) 37 [vR 10464 k, vI (c i)] (hp I L w) = some (some (vI (fl (I 10481 k i) (I 10497 k i) (I 10513 k i))), hp I L w) := by
  rw [e37, b37_0]
  simp only [vin_c hi (by omega : 5 < 2147483648), ck_tt, ix_c (show i < 2147483648 by omega), s104, bn_s, psh, b37_21]
theorem s38 {d : Nat} {I : FI} {L : FL} {w : Nat → Nat} {k i : Nat} (hi : i < 5) : dn (d + 1) 38 [vR 10464 k, vI (c i)] (hp I L w) = some (some (vI (ar (I 10530 k i) (I 10481 k i) (I 10497 k i) (I 6288 (w k) 0))), hp I L w) := by
  rw [e38, b38_0]
  simp only [vin_c hi (by omega : 5 < 2147483648), ck_tt, ix_c (show i < 2147483648 by omega)]
  unfold ar; grind
/-- the sum of the arms of the first n of a set -/
def sumA (f : Nat → Int32) (b : Nat → Bool) : Nat → Int32
  | 0 => 0
  | n + 1 => sumA f b n + (if b n = true then f n else 0)
