set_option maxHeartbeats 200000
section P55
variable {d : Nat} {I : FI} {L : FL} {w : Nat → Nat} {nT m : Nat}
/-- looked: the row that is not so -/
def lkF (bt bl pk lw : Nat → Int32) (i : Nat) : Bool := !decide ((if pk (ix (bt i)) = -5 then -5 else lw (ix (bt i))) = bl i)
theorem l85 (h2 : nT ≤ 6) (hm : m ≤ 8) (hb : I 2544 0 0 = c m) (hr : ∀ i, i < m → ∃ t, t < nT ∧ I 16897 0 i = c t) : ∀ r i, i + r = m → rn none (dn (d + 2)) 85 2 [some (vR 12288 0), some (vI (c i))] [] (hp I L w) = some (some (vI (srch (lkF (I 16897 0) (I 16913 0) (I 12625 0) (I 12641 0)) r i)), hp I L w) := by
  intro r
  induction r with
  | zero =>
    intro i hi
    rw [b85_2, hb, if_neg (by rw [c_lt (by omega) (by omega)]; omega)]
    rfl
  | succ r ih =>
    intro i hi
    obtain ⟨t, ht, et⟩ := hr i (by omega)
    rw [b85_2, hb, if_pos (by rw [c_lt (by omega) (by omega)]; omega), ck_t (vin_c (by omega) (by omega)), ix_c (by omega), et, s44 (by omega), bn_s]
    show rn none _ 85 35 _ [vI _] _ = _
    rw [b85_35, ck_t (vin_c (by omega) (by omega)), ix_c (by omega), c_s]
    have e : lkF (I 16897 0) (I 16913 0) (I 12625 0) (I 12641 0) i = !decide ((if I 12625 0 t = -5 then -5 else I 12641 0 t) = I 16913 0 i) := by
      unfold lkF
      rw [et, ix_c (by omega)]
    have e2 : srch (lkF (I 16897 0) (I 16913 0) (I 12625 0) (I 12641 0)) (r + 1) i = if lkF (I 16897 0) (I 16913 0) (I 12625 0) (I 12641 0) i = true then c i else srch (lkF (I 16897 0) (I 16913 0) (I 12625 0) (I 12641 0)) r (i + 1) := rfl
    rw [e2, e]
    by_cases a : (if I 12625 0 t = -5 then -5 else I 12641 0 t) = I 16913 0 i
    · rw [if_pos a, decide_eq_true a, if_neg (by simp)]
      exact ih (i + 1) (by omega)
    · rw [if_neg a, decide_eq_false a, if_pos (by simp)]
theorem s85 (h2 : nT ≤ 6) (hm : m ≤ 8) (hb : I 2544 0 0 = c m) (hr : ∀ i, i < m → ∃ t, t < nT ∧ I 16897 0 i = c t) : dn (d + 3) 85 [vR 12288 0] (hp I L w) = some (some (vI (srch (lkF (I 16897 0) (I 16913 0) (I 12625 0) (I 12641 0)) m 0)), hp I L w) := by
  rw [e85, b85_0]
  exact l85 h2 hm hb hr m 0 (by omega)
theorem l184 (h2 : nT ≤ 6) (hm : m ≤ 8) (hb : I 14944 0 43 = c m) (hr : ∀ i, i < m → ∃ t, t < nT ∧ I 17457 0 i = c t) : ∀ r i, i + r = m → rn none (dn (d + 2)) 184 2 [some (vR 14944 0), some (vI (c i))] [] (hp I L w) = some (some (vI (srch (lkF (I 17457 0) (I 17473 0) (I 12993 0) (I 13009 0)) r i)), hp I L w) := by
  intro r
  induction r with
  | zero =>
    intro i hi
    rw [b184_2, hb, if_neg (by rw [c_lt (by omega) (by omega)]; omega)]
    rfl
  | succ r ih =>
    intro i hi
    obtain ⟨t, ht, et⟩ := hr i (by omega)
    rw [b184_2, hb, if_pos (by rw [c_lt (by omega) (by omega)]; omega), ck_t (vin_c (by omega) (by omega)), ix_c (by omega), et, s152 (by omega), bn_s]
    show rn none _ 184 20 _ [vI _] _ = _
    rw [b184_20, ck_t (vin_c (by omega) (by omega)), ix_c (by omega), c_s]
    have e : lkF (I 17457 0) (I 17473 0) (I 12993 0) (I 13009 0) i = !decide ((if I 12993 0 t = -5 then -5 else I 13009 0 t) = I 17473 0 i) := by
      unfold lkF
      rw [et, ix_c (by omega)]
    have e2 : srch (lkF (I 17457 0) (I 17473 0) (I 12993 0) (I 13009 0)) (r + 1) i = if lkF (I 17457 0) (I 17473 0) (I 12993 0) (I 13009 0) i = true then c i else srch (lkF (I 17457 0) (I 17473 0) (I 12993 0) (I 13009 0)) r (i + 1) := rfl
    rw [e2, e]
    by_cases a : (if I 12993 0 t = -5 then -5 else I 13009 0 t) = I 17473 0 i
    · rw [if_pos a, decide_eq_true a, if_neg (by simp)]
      exact ih (i + 1) (by omega)
    · rw [if_neg a, decide_eq_false a, if_pos (by simp)]
theorem s184 (h2 : nT ≤ 6) (hm : m ≤ 8) (hb : I 14944 0 43 = c m) (hr : ∀ i, i < m → ∃ t, t < nT ∧ I 17457 0 i = c t) : dn (d + 3) 184 [vR 14944 0] (hp I L w) = some (some (vI (srch (lkF (I 17457 0) (I 17473 0) (I 12993 0) (I 13009 0)) m 0)), hp I L w) := by
  rw [e184, b184_0]
  exact l184 h2 hm hb hr m 0 (by omega)
end P55
