theorem l20 {d : Nat} {I : FI} {L : FL} {w : Nat → Nat} {T k n : Nat} {o2 : Option Vl} (hn : n ≤ 100) (hS : I 6288 T 3 = c n) : ∀ r i, i + r = n → rn none (dn (d + 1)) 20 9 [some (vR 6288 T), some (vR 12849 k), some (vI (runD (I 204961 T) (I 204977 T) (I 204993 T) (I 205009 T) (I 12849 k) i (I 12849 k 4, 0)).1), some (vI (runD (I 204961 T) (I 204977 T) (I 204993 T) (I 205009 T) (I 12849 k) i (I 12849 k 4, 0)).2), some (vI (c i))] [] (hp I L w) = some (some (vI (runD (I 204961 T) (I 204977 T) (I 204993 T) (I 205009 T) (I 12849 k) n (I 12849 k 4, 0)).1), hp I L w) := by
  intro r
  induction r with
  | zero =>
    intro i hi
    obtain rfl : i = n := by omega
    rw [b20_9, hS, if_neg (by rw [c_lt (by omega) (by omega)]; omega)]
  | succ r ih =>
    intro i hi
    have H := ih (i + 1) (by omega)
    have e : runD (I 204961 T) (I 204977 T) (I 204993 T) (I 205009 T) (I 12849 k) (i + 1) (I 12849 k 4, 0) = stepD (I 204961 T i) (I 204977 T i) (I 204993 T i) (I 205009 T i) (I 12849 k) (runD (I 204961 T) (I 204977 T) (I 204993 T) (I 205009 T) (I 12849 k) i (I 12849 k 4, 0)).1 (runD (I 204961 T) (I 204977 T) (I 204993 T) (I 205009 T) (I 12849 k) i (I 12849 k 4, 0)).2 := rfl
    rw [e] at H
    generalize runD (I 204961 T) (I 204977 T) (I 204993 T) (I 205009 T) (I 12849 k) i (I 12849 k 4, 0) = q at H ⊢
    rw [b20_9, hS, if_pos (by rw [c_lt (by omega) (by omega)]; omega), ck_t (vin_c (by omega) (by omega)), ix_c (by omega), c_s]
    unfold stepD at H
    by_cases h0 : I 204961 T i = 0
    · rw [if_pos h0] at H ⊢
      rw [s21 (by omega), bn_s]
      show rn none (dn (d + 1)) 20 66 _ [vI _, vI _] _ = _
      rw [b20_66, c_s]
      by_cases ht : tst (I 204977 T i) (I 204993 T i) (I 205009 T i) (I 12849 k) = true
      · rw [if_pos ht] at H ⊢
        rw [if_neg (by decide)]
        exact H
      · rw [if_neg ht] at H ⊢
        rw [if_pos rfl]
        exact H
    · rw [if_neg h0] at H ⊢
      by_cases h1 : I 204961 T i = 1
      · rw [if_pos h1] at H ⊢; exact H
      · rw [if_neg h1] at H ⊢
        by_cases h2 : I 204961 T i = 2
        · rw [if_pos h2] at H ⊢; exact H
        · rw [if_neg h2] at H ⊢
          by_cases h3 : I 204961 T i = 3
          · rw [if_pos h3] at H ⊢; exact H
          · rw [if_neg h3] at H ⊢
            rw [ck_t (vin_c (by omega) (by omega))]
            exact H
theorem s20 {d : Nat} {I : FI} {L : FL} {w : Nat → Nat} {T k n : Nat} (hn : n ≤ 100) (hS : I 6288 T 3 = c n) : dn (d + 2) 20 [vR 6288 T, vR 12849 k] (hp I L w) = some (some (vI (pullD I T (I 12849 k))), hp I L w) := by
  rw [e20, b20_0, ck_t (by decide)]
  unfold pullD
  rw [hS, ix_c (by omega)]
  exact l20 (o2 := none) hn hS n 0 (by omega)
theorem tst_congr {l s n : Int32} {f g : Nat → Int32} (h : ∀ j, j < 6 → f j = g j) : tst l s n f = tst l s n g := by
  unfold tst
  by_cases h1 : l < 0
  · rw [if_pos h1, if_pos h1]
  · by_cases h2 : l < 6
    · obtain ⟨a, ha, e⟩ := of_c (x := l) (n := 6) (by grind) (by omega) h2
      have : f (ix l) = g (ix l) := h _ (by rw [e, ix_c (by omega)]; exact ha)
      rw [this]
    · rw [if_neg h1, if_neg h1, if_neg h2, if_neg h2]
theorem runD_congr {dd ll ss nn f g : Nat → Int32} (h : ∀ j, j < 6 → f j = g j) : ∀ n p, runD dd ll ss nn f n p = runD dd ll ss nn g n p := by
  intro n
  induction n with
  | zero => intro p; rfl
  | succ n ih =>
    intro p
    show stepD _ _ _ _ f (runD dd ll ss nn f n p).1 (runD dd ll ss nn f n p).2 = stepD _ _ _ _ g (runD dd ll ss nn g n p).1 (runD dd ll ss nn g n p).2
    rw [ih p]
    unfold stepD
    rw [tst_congr h]
theorem pullD_congr {I : FI} {T : Nat} {f g : Nat → Int32} (h : ∀ j, j < 6 → f j = g j) : pullD I T f = pullD I T g := by
  unfold pullD
  rw [h 4 (by omega), runD_congr h]
/-- the facts of world k are overwritten -/
def fct (I : FI) (k : Nat) (g : Nat → Int32) : FI := fun t k' j => if t = 12849 ∧ k' = k then g j else I t k' j
theorem fct_p {I : FI} {k : Nat} {g : Nat → Int32} {t k' : Nat} (h : t ≠ 12849) : fct I k g t k' = I t k' := by
  funext j; unfold fct; rw [if_neg (fun z => h z.1)]
theorem fct_s {I : FI} {k : Nat} {g : Nat → Int32} : fct I k g 12849 k = g := by
  funext j; unfold fct; rw [if_pos ⟨rfl, rfl⟩]
theorem fct_f {I : FI} {k : Nat} {g g' : Nat → Int32} : fct (fct I k g) k g' = fct I k g' := by
  funext t k' j
  unfold fct
  split <;> rfl
theorem fct_i {I : FI} {k : Nat} : fct I k (I 12849 k) = I := by
  funext t k' j
  unfold fct
  split
  · rename_i h; rw [h.1, h.2]
  · rfl
def fx (p t kd v wt l : Int32) (o : Nat → Int32) : Nat → Int32 := fun j => if j = 5 then l else if j = 4 then wt else if j = 3 then v else if j = 2 then kd else if j = 1 then t else if j = 0 then p else o j
theorem s41 {d : Nat} {I : FI} {L : FL} {w : Nat → Nat} {k p t : Nat} {l : Int32} (hp5 : p < 5) (ht : t < 6) : dn (d + 1) 41 [vR 10464 k, vI (c p), vI (c t), vI l] (hp I L w) = some (some (vR 12849 k), hp (fct I k (fx (c p) (c t) (I 10481 k p) (I 10497 k p) (I 12609 k t) (l / 10) (I 12849 k))) L w) := by
  rw [e41, b41_0]
  simp only [vin_c hp5 (by omega : 5 < 2147483648), vin_c ht (by omega : 6 < 2147483648), ix_c (show p < 2147483648 by omega), ix_c (show t < 2147483648 by omega), ck_tt, show vin 0 6 = true from by decide, show vin 1 6 = true from by decide, show vin 2 6 = true from by decide, show vin 3 6 = true from by decide, show vin 4 6 = true from by decide, show vin 5 6 = true from by decide, show ix 0 = 0 from by decide, show ix 1 = 1 from by decide, show ix 2 = 2 from by decide, show ix 3 = 3 from by decide, show ix 4 = 4 from by decide, show ix 5 = 5 from by decide]
  congr 3
  funext a b j
  unfold fct fx uI
  grind
