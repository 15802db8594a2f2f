set_option maxHeartbeats 200000
section P59
variable {d : Nat} {I : FI} {L : FL} {w : Nat → Nat} {x y : Int32} {n p : Nat}
/-- gropes: the answer and the bodies, by the kind -/
def gvF (k : Nat) (v x : Int32) (p : Nat) : Int32 := if k = 2 ∨ k = 5 then x * 3 + c p else if k = 4 then -(x + c p) else if k = 6 then (x + c p) ^^^ v else x + c p
def gbF (k : Nat) : List Int32 := if k = 2 ∨ k = 5 then [30, 10] else if k = 4 then [50, 10] else if k = 6 then [71, 10] else [10]
theorem s92z (hn : n < 20) (h : I 12288 0 9 = c n) {k : Int32} (hk : k = 0 ∨ k = 1 ∨ k = 3) : dn (d + 2) 92 [vR 12288 0, vI (c p), vI k, vI x] (hp I L w) = some (some (vI (x + c p)), hp (lgI I 41073 12288 9 n [10]) L w) := by
  rw [e92, b92_0]
  rcases hk with rfl | rfl | rfl
  · rw [if_neg (by decide), if_neg (by decide), if_neg (by decide), if_neg (by decide), if_neg (by decide), s91 hn h, bn_s]
    show rn none _ 92 110 _ [] _ = _
    rw [b92_110]
  · rw [if_neg (by decide), if_neg (by decide), if_neg (by decide), if_neg (by decide), if_neg (by decide), s91 hn h, bn_s]
    show rn none _ 92 110 _ [] _ = _
    rw [b92_110]
  · rw [if_neg (by decide), if_pos (by decide), s91 hn h, bn_s]
    show rn none _ 92 110 _ [] _ = _
    rw [b92_110]
end P59
