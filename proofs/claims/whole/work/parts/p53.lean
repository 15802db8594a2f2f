set_option maxHeartbeats 400000
section P53
variable {d : Nat} {I : FI} {L : FL} {w : Nat → Nat} {nW nT n : Nat} {x y : Int32}
/-- week -/
def wkF {α : Type} (x y a b : Int32) (clr non bad ful add : α) (q : Prop) [Decidable q] : α := if x = -1 then clr else if x < 0 then non else if 3 < x then non else if x = 1 ∧ ¬ (0 ≤ y ∧ y < a) then non else if x = 2 ∧ ¬ (0 ≤ y ∧ y < b) then non else if x = 3 ∧ ¬ (0 ≤ y ∧ y ≤ 99) then bad else if q then add else ful
theorem s82 (h4 : I 10464 0 0 = c nW) (h5 : I 10464 0 6 = c nT) (hn : n ≤ 10) (h : I 2480 0 0 = c n) : dn (d + 2) 82 [vR 12288 0, vI x, vI y] (hp I L w) = wkF x y (c nW) (c nT) (some (some (vI 0), hp (uI I 2480 0 0 0) L w)) (some (some (vI (-1)), hp I L w)) (some (some (vI (-2)), hp I L w)) (some (some (vI (-4)), hp I L w)) (some (some (vI (c (n + 1))), hp (nrb I 0 n x y 0) L w)) (n < 10) := by
  have A : ∀ o, rn none (dn (d + 1)) 82 98 [some (vR 12288 0), some (vI x), some (vI y), o] [] (hp I L w) = rn none (dn (d + 1)) 82 98 [some (vR 12288 0), some (vI x), some (vI y), o] [] (hp I L w) := fun _ => rfl
  rw [e82]
  unfold wkF
  by_cases f : n < 10
  · simp only [b82_0, s12b, s31, s32, s103, bn_s, psh, b82_15, b82_29, b82_45, b82_59, b82_79, b82_98, s13b hn h, ib, h4, h5, if_pos f]
    grind
  · simp only [b82_0, s12b, s31, s32, s103, bn_s, psh, b82_15, b82_29, b82_45, b82_59, b82_79, b82_98, s13b hn h, ib, h4, h5, if_neg f]
    grind
end P53
