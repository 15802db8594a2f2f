set_option maxHeartbeats 200000
section P60
variable {d : Nat} {I : FI} {L : FL} {w : Nat → Nat} {x y : Int32} {n p : Nat}
theorem s92 {k : Nat} (hk : k < 7) (hp5 : p < 5) (hn : n < 18) (h : I 12288 0 9 = c n) : dn (d + 3) 92 [vR 12288 0, vI (c p), vI (c k), vI x] (hp I L w) = some (some (vI (gvF k (I 10497 0 p) x p)), hp (lgI I 41073 12288 9 n (gbF k)) L w) := by
  have B : ∀ a : Int32, lgI I 41073 12288 9 n [a] 12288 0 9 = c (n + 1) := fun a => lgI_c (by omega) h [a]
  have A : ∀ a : Int32, lgI (lgI I 41073 12288 9 n [a]) 41073 12288 9 (n + 1) [10] = lgI I 41073 12288 9 n [a, 10] := fun a => lgI_a [a] [10]
  have Z : ∀ (a : Int32) (z q : Int32), (q = 0 ∨ q = 1 ∨ q = 3) → dn (d + 2) 92 [vR 12288 0, vI (c p), vI q, vI z] (hp (lgI I 41073 12288 9 n [a]) L w) = some (some (vI (z + c p)), hp (lgI I 41073 12288 9 n [a, 10]) L w) := fun a z q hq => by rw [s92z (n := n + 1) (by omega) (B a) hq, A]
  have S : ∀ a : Int32, dn (d + 2) 91 [vR 12288 0, vI a] (hp I L w) = some (none, hp (lgI I 41073 12288 9 n [a]) L w) := fun a => s91 (by omega) h
  have V : ∀ a b : Int32, lgI I 41073 12288 9 n [a, b] 10497 0 = I 10497 0 := fun a b => lgI_p (by omega) (by omega) _
  rw [e92, b92_0]
  match k, hk with
  | 0, _ => simp only [S, bn_s, psh, b92_110]; rfl
  | 1, _ => simp only [S, bn_s, psh, b92_110]; rfl
  | 3, _ => simp only [S, bn_s, psh, b92_110]; rfl
  | 2, _ =>
    simp only [S, bn_s, psh, b92_42, ck_t (show (vin 2 7 && true && true) = true from by decide), Z _ _ (kAb (ix 2)) (by decide), b92_55]; rfl
  | 5, _ =>
    simp only [S, bn_s, psh, b92_42, ck_t (show (vin 2 7 && true && true) = true from by decide), Z _ _ (kAb (ix 2)) (by decide), b92_55]; rfl
  | 4, _ =>
    simp only [S, bn_s, psh, b92_62, ck_t (show (vin 4 7 && true && true) = true from by decide), Z _ _ (kAb (ix 4)) (by decide), b92_73]; rfl
  | 6, _ =>
    simp only [S, bn_s, psh, b92_81, ck_t (show (vin 6 7 && true && true) = true from by decide), Z _ _ (kAb (ix 6)) (by decide), b92_93, V, ck_t (vin_c hp5 (show 5 < 2147483648 by omega)), ix_c (show p < 2147483648 by omega)]; rfl
end P60
