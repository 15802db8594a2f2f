set_option maxHeartbeats 400000
theorem lies_gd {I : FI} {w : Nat → Nat} {n dy nT t : Nat} {b : Nat → Int32} (ht : t < nT) : (if gd I w n dy nT b 12993 0 t = -5 then -5 else gd I w n dy nT b 13009 0 t) = lowB (mv I) w 0 t n dy := by
  rw [gd_p (by omega) (by omega) (by omega), gd_l]
  by_cases a : I 12993 0 t = -5
  · rw [if_pos a]; unfold lowB; rw [mv_pk, if_pos a]
  · rw [if_neg a, if_pos ⟨ht, a⟩]
theorem sc_low {I I' : FI} {w : Nat → Nat} {nW nT dy t n d' : Nat} (h : MV I w nW nT dy) (hs : scM I I') (ht : t < nT) : lowB (mv I') w 0 t n d' = lowB (mv I) w 0 t n d' := by
  refine ws_low (ws_sc hs) (by have := h.2.1; omega) ?_
  rcases h.2.2.2.2.2.2.1 t ht with ho | ⟨p, hp5, hpk⟩
  · exact Or.inl ho
  · exact Or.inr ⟨p, by have := h.1; omega, hpk⟩
/-- the rows of what was seen, the reference's -/
def SM (I : FI) (nT m : Nat) : Prop := m ≤ 5 ∧ I 14944 0 38 = c m ∧ ∀ i, i < m → (∃ t, t < nT ∧ I 11233 0 i = c t) ∧ (∃ n, n ≤ 20 ∧ I 11265 0 i = c n)
theorem sc_SM {I I' : FI} {nT m : Nat} (hs : scM I I') (h : SM I nT m) : SM I' nT m := by
  obtain ⟨h1, h2, h3⟩ := h
  refine ⟨h1, (hs _ _ _ (by unfold scb; omega)).trans h2, fun i hi => ?_⟩
  rw [hs 11233 0 i (by unfold scb; omega), hs 11265 0 i (by unfold scb; omega)]
  exact h3 i hi
theorem l171 {d : Nat} {I : FI} {L : FL} {w : Nat → Nat} {nW nT dy m : Nat} (h : MV I w nW nT dy) (hd : dy ≤ 10000) (hm : SM I nT m) : ∀ r i J, i + r = m → scM I J → ∃ J', scM I J' ∧ rn none (dn (d + 7)) 171 4 [some (vR 14944 0), some (vI 1), some (vI (c i))] [] (hp J L w) = some (some (vI (if allT (sSo (mv I) w 0 dy) r i = true then 1 else 0)), hp J' L w) := by
  have h22 := h.2.1
  intro r
  induction r with
  | zero =>
    intro i J hr hJ
    obtain ⟨s1, s2, s3⟩ := sc_SM hJ hm
    refine ⟨J, hJ, ?_⟩
    rw [b171_4, s2, if_neg (by rw [c_lt (by omega) (by omega)]; omega), ck_t (by decide)]
    rfl
  | succ r ih =>
    intro i J hr hJ
    obtain ⟨s1, s2, s3⟩ := sc_SM hJ hm
    obtain ⟨⟨t, ht, et⟩, ⟨n, hn, en⟩⟩ := hm.2.2 i (by omega)
    have hV : MV (sav J) w nW nT dy := sav_MV (sc_MV hJ h)
    obtain ⟨b, hb⟩ := s158 (d := d) (L := L) (n := n) hV (by omega)
    have hK : scM I (sav J) := hJ.tr sav_o
    have hJ' : scM I (pbk (gd (sav J) w n dy nT b)) := hJ.tr (sav_gd h.2.1)
    have e2 : sSo (mv I) w 0 dy i = decide (lowB (mv I) w 0 t n dy = I 11249 0 i) := by
      show decide (lowB (mv I) w 0 (ix (I 11233 0 i)) (ix (I 11265 0 i)) dy = I 11249 0 i) = _
      rw [et, en, ix_c (a := t) (by omega), ix_c (a := n) (by omega)]
    have e : allT (sSo (mv I) w 0 dy) (r + 1) i = (sSo (mv I) w 0 dy i && allT (sSo (mv I) w 0 dy) r (i + 1)) := rfl
    have fin : ∀ v, (v = 1 → decide (lowB (mv I) w 0 t n dy = I 11249 0 i) = true) → (v ≠ 1 → v = 0 ∧ decide (lowB (mv I) w 0 t n dy = I 11249 0 i) = false) → ∃ J', scM I J' ∧ rn none (dn (d + 7)) 171 59 [some (vR 14944 0), some (vI v), some (vI (c i))] [] (hp (pbk (gd (sav J) w n dy nT b)) L w) = some (some (vI (if allT (sSo (mv I) w 0 dy) (r + 1) i = true then 1 else 0)), hp J' L w) := by
      intro v h1 h0
      rw [e, e2, b171_59, c_s]
      by_cases a : v = 1
      · rw [h1 a, Bool.true_and, a]
        exact ih (i + 1) _ (by omega) hJ'
      · obtain ⟨h2, h3⟩ := h0 a
        refine ⟨_, hJ', ?_⟩
        rw [h3, Bool.false_and, h2, b171_4]
        have s2' : (pbk (gd (sav J) w n dy nT b)) 14944 0 38 = c m := (hJ' _ _ _ (by unfold scb; omega)).trans hm.2.1
        rw [s2', if_pos rfl, ck_t (by decide)]
        split <;> rfl
    rw [b171_4, s2, if_pos (by rw [c_lt (by omega) (by omega)]; omega), if_neg (by decide), s160, bn_s]
    show ∃ J', scM I J' ∧ rn none _ 171 20 _ [] _ = _
    rw [b171_20, ck_t (vin_c (by omega) (by omega)), ix_c (by omega), hK 11265 0 i (by unfold scb; omega), en, hb, bn_s]
    show ∃ J', scM I J' ∧ rn none _ 171 30 _ [] _ = _
    rw [b171_30, ck_t (vin_c (by omega) (by omega)), ix_c (by omega), gd_p (by omega) (by omega) (by omega), hK 11233 0 i (by unfold scb; omega), et, s152 (by have := h.2.1; omega), bn_s, lies_gd ht, sc_low h hK ht]
    show ∃ J', scM I J' ∧ rn none _ 171 40 _ [vI _] _ = _
    rw [b171_40, ck_t (vin_c (by omega) (by omega)), ix_c (by omega), gd_p (by omega) (by omega) (by omega), hK 11249 0 i (by unfold scb; omega), s161, bn_s, bn_s]
    by_cases a : lowB (mv I) w 0 t n dy = I 11249 0 i
    · rw [if_pos a]
      exact fin 1 (fun _ => decide_eq_true a) (fun z => absurd rfl z)
    · rw [if_neg a]
      exact fin 0 (fun z => absurd z (by decide)) (fun _ => ⟨rfl, decide_eq_false a⟩)
theorem s171 {d : Nat} {I : FI} {L : FL} {w : Nat → Nat} {nW nT dy m : Nat} (h : MV I w nW nT dy) (hd : dy ≤ 10000) (hm : SM I nT m) : ∃ J', scM I J' ∧ dn (d + 8) 171 [vR 14944 0] (hp I L w) = some (some (vI (if allT (sSo (mv I) w 0 dy) m 0 = true then 1 else 0)), hp J' L w) := by
  rw [e171, b171_0]
  exact l171 (d := d) (L := L) h hd hm m 0 I (by omega) scM.rf
