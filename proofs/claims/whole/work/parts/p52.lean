set_option maxHeartbeats 400000
section P52
variable {d : Nat} {I : FI} {L : FL} {w : Nat → Nat} {nW nT dy : Nat} {x y : Int32}
/-- a thing is asked for by its number and ten -/
theorem of_10 (h2 : nT ≤ 6) : (¬ y < 10 ∧ 0 ≤ y - 10 ∧ y - 10 < c nT) ↔ ∃ t, t < nT ∧ y - 10 = c t ∧ y = c (t + 10) := by
  constructor
  · rintro ⟨a, b, e⟩
    obtain ⟨t, ht, e2⟩ := of_c b (by omega) e
    refine ⟨t, ht, e2, ?_⟩
    have : y = c t + 10 := by rw [← e2]; grind
    rw [this, show (10 : Int32) = c 10 from rfl]
    exact cq rfl
  · rintro ⟨t, ht, e1, e2⟩
    refine ⟨?_, ?_, ?_⟩
    · rw [e2, show (10 : Int32) = c 10 from rfl, c_lt (by omega) (by omega)]; omega
    · rw [e1]; exact c_0 (by omega)
    · rw [e1, c_lt (by omega) (by omega)]; exact ht
/-- on, where a thing is asked for -/
theorem s69t {t n : Nat} (h : WV I w 0 nW nT dy) (ht : t < nT) (hn : n ≤ 60) : ∃ g, dn (d + 7) 69 [vR 12288 0, vI (c n), vI (c (t + 10))] (hp I L w) = some (some (vI (lowB I w 0 t n dy)), hp (fct I 0 g) L w) := by
  have h2 := h.2.1
  obtain ⟨g, hg⟩ := s45 (d := d + 1) (L := L) (r := n) h ht (by omega)
  refine ⟨g, ?_⟩
  have e10 : c (t + 10) - 10 = c t := by rw [show (10 : Int32) = c 10 from rfl, c_sub (by omega), Nat.add_sub_cancel]
  have a1 : ¬ c (t + 10) < 10 := by rw [show (10 : Int32) = c 10 from rfl, c_lt (by omega) (by omega)]; omega
  have a0 : ¬ c (t + 10) = 0 := fun q => by
    have := c_inj (a := t + 10) (b := 0) (by omega) (by omega) q
    omega
  rw [e69, b69_0, if_neg a1, e10, s32, bn_s, h.2.2.2.2.1]
  show rn none _ 69 17 _ [vI _] _ = _
  rw [b69_17, ib, if_pos (show 0 ≤ c t ∧ c t < c nT from ⟨c_0 (by omega), by rw [c_lt (by omega) (by omega)]; exact ht⟩), if_neg a0, if_neg (show ¬ (1 : Nat) = 0 from by decide), s103, bn_s]
  show rn none _ 69 42 _ [vI _] _ = _
  rw [b69_42, ib, if_pos (show 0 ≤ c n ∧ c n ≤ 60 from ⟨c_0 (by omega), by rw [show (60 : Int32) = c 60 from rfl, c_le (by omega) (by omega)]; exact hn⟩), if_neg (show ¬ (1 : Int32) = 0 from by decide), e10, hg, bn_s]
  show rn none _ 69 64 _ [vI _] _ = _
  rw [b69_64, b69_75]
/-- on, where the touched are -/
theorem s69z {n : Nat} (h : WV I w 0 nW nT dy) (hn : n ≤ 60) : ∃ g, dn (d + 7) 69 [vR 12288 0, vI (c n), vI 0] (hp I L w) = some (some (vI (cnt (tchD I w 0 n dy) nT)), hp (fct I 0 g) L w) := by
  obtain ⟨g, hg⟩ := s48 (d := d) (L := L) (n := n) h (by omega)
  refine ⟨g, ?_⟩
  rw [e69, b69_0, if_pos (by decide), if_pos rfl, s103, bn_s]
  show rn none _ 69 42 _ [vI _] _ = _
  rw [b69_42, ib, if_pos (show 0 ≤ c n ∧ c n ≤ 60 from ⟨c_0 (by omega), by rw [show (60 : Int32) = c 60 from rfl, c_le (by omega) (by omega)]; exact hn⟩), if_pos rfl, hg, bn_s]
  show rn none _ 69 75 _ [vI _] _ = _
  rw [b69_75]
theorem tch_gd {n nT' t : Nat} {b : Nat → Int32} (ht : t < nT') (hp5 : I 12993 0 t = -5 ∨ ∃ p, p < 5 ∧ I 12993 0 t = c p) : tchD (mv (gd I w n dy nT' b)) w 0 0 (dy + n) t = tchD (mv I) w 0 n dy t := by
  unfold tchD
  rw [mv_pk, mv_pk, gd_p (by omega) (by omega) (by omega)]
  rcases hp5 with ho | ⟨p, hp5, hpk⟩
  · rw [decide_eq_true ho]; simp
  · have hne : ¬ I 12993 0 t = -5 := by rw [hpk]; exact c_m5 hp5
    rw [lowB_gd ht hne, hpk, ix_c (by omega)]
    have e1 : arD (mv (gd I w n dy nT' b)) w 0 p = arD (mv I) w 0 p := by
      unfold arD
      rw [mv_gone, mv_gone, mv_kind, mv_kind, mv_v, mv_v, mv_T, mv_T, gd_j (by omega), gd_p (by omega) (by omega) (by omega), gd_p (by omega) (by omega) (by omega), gd_p (by omega) (by omega) (by omega)]
    rw [e1]
    rfl
/-- the reference's on -/
theorem s162 (h : MV I w nW nT dy) (hd : dy ≤ 9999) {n : Nat} (hn : n ≤ 60) (hy : y = 0 ∨ ∃ t, t < nT ∧ y = c (t + 10)) : ∃ J, scM I J ∧ dn (d + 9) 162 [vR 14944 0, vI (c n), vI y] (hp I L w) = some (some (vI (if y = 0 then cnt (tchD (mv I) w 0 n dy) nT else lowB (mv I) w 0 (ix (y - 10)) n dy)), hp J L w) := by
  have h2 := h.2.1
  have hV := sav_MV h
  obtain ⟨b, hb⟩ := s158 (d := d + 1) (L := L) (n := n) hV (by omega)
  have hJ : scM I (pbk (gd (sav I) w n dy nT b)) := sav_gd h2
  refine ⟨_, hJ, ?_⟩
  have hn60 : 0 ≤ c n ∧ c n ≤ 60 := ⟨c_0 (by omega), by rw [show (60 : Int32) = c 60 from rfl, c_le (by omega) (by omega)]; exact hn⟩
  have fin : ∀ v : Int32, ∀ o, rn none (dn (d + 8)) 162 62 [some (vR 14944 0), some (vI (c n)), some (vI y), o] [vI v] (hp (gd (sav I) w n dy nT b) L w) = some (some (vI v), hp (pbk (gd (sav I) w n dy nT b)) L w) := by
    intro v o
    rw [b162_62, s161, bn_s]
    show rn none _ 162 67 _ [] _ = _
    rw [b162_67]
  rw [e162, b162_0]
  rcases hy with hy | ⟨t, ht, hy⟩
  · subst hy
    rw [if_pos rfl, s114, bn_s]
    show rn none _ 162 28 _ [vI _] _ = _
    rw [b162_28, ib, if_pos hn60, s160, bn_s]
    show rn none _ 162 38 _ [] _ = _
    rw [b162_38, hb, bn_s]
    show rn none _ 162 43 _ [] _ = _
    rw [b162_43, if_pos rfl, s153 (MV_gd hV (by omega)), bn_s]
    show rn none _ 162 51 _ [vI _] _ = _
    rw [b162_51, fin, if_pos rfl]
    have e : cnt (tchD (mv (gd (sav I) w n dy nT b)) w 0 0 (dy + n)) nT = cnt (tchD (mv I) w 0 n dy) nT := by
      refine cnt_congr nT fun t ht => ?_
      have hp' : sav I 12993 0 t = -5 ∨ ∃ p, p < 5 ∧ sav I 12993 0 t = c p := by
        rcases hV.2.2.2.2.2.2.1 t ht with ho | ⟨p, hp5, hpk⟩
        · exact Or.inl ho
        · exact Or.inr ⟨p, by have := h.1; omega, hpk⟩
      rw [tch_gd ht hp']
      refine ws_tch (ws_sc sav_o) (by omega) ?_
      rcases h.2.2.2.2.2.2.1 t ht with ho | ⟨p, hp5, hpk⟩
      · exact Or.inl ho
      · exact Or.inr ⟨p, by have := h.1; omega, hpk⟩
    rw [e]
  · have e10 : c (t + 10) - 10 = c t := by rw [show (10 : Int32) = c 10 from rfl, c_sub (by omega), Nat.add_sub_cancel]
    have a0 : ¬ c (t + 10) = 0 := fun q => by
      have := c_inj (a := t + 10) (b := 0) (by omega) (by omega) q
      omega
    subst hy
    have a1 : (10 : Int32) ≤ c (t + 10) ∧ c (t + 10) ≤ 9 + c nT := by
      rw [show (10 : Int32) = c 10 from rfl, show (9 : Int32) = c 9 from rfl, cq rfl, c_le (by omega) (by omega), c_le (by omega) (by omega)]
      omega
    rw [if_neg a0, s106, bn_s, h.2.2.2.2.1]
    show rn none _ 162 18 _ [vI _] _ = _
    rw [b162_18, ib, if_pos a1, s114, bn_s]
    show rn none _ 162 28 _ [vI _] _ = _
    rw [b162_28, ib, if_pos hn60, s160, bn_s]
    show rn none _ 162 38 _ [] _ = _
    rw [b162_38, hb, bn_s]
    show rn none _ 162 43 _ [] _ = _
    rw [b162_43, if_neg a0, e10, s152 (by omega), bn_s, lies_gd ht, sc_low h sav_o ht]
    show rn none _ 162 62 _ [vI _] _ = _
    rw [fin, if_neg a0, ix_c (by omega)]
end P52
