set_option maxHeartbeats 400000
section P50
variable {d : Nat} {I : FI} {L : FL} {w : Nat → Nat} {nW nT dy : Nat} {x y z : Int32}
/-- trace -/
def trF (n : Int32) (b : Nat → Int32) (x : Int32) : Int32 := if 0 ≤ x ∧ x < 20 ∧ x < n then b (ix x) else -1
theorem s90 : dn (d + 1) 90 [vR 12288 0, vI x] (hp I L w) = some (some (vI (trF (I 12288 0 9) (I 41073 0) x)), hp I L w) := by
  rw [e90, b90_0]
  unfold trF
  by_cases a : x < 0
  · rw [if_pos a, if_neg (by grind)]
  · rw [if_neg a]
    by_cases b : x < I 12288 0 9
    · rw [if_pos b]
      by_cases e : x < 20
      · have a' : 0 ≤ x := by grind
        obtain ⟨t, ht, rfl⟩ := of_c (x := x) (n := 20) a' (by omega) e
        rw [if_pos e, if_pos (show _ ∧ _ ∧ _ from ⟨a', e, b⟩), ck_t (vin_c ht (by omega))]
      · rw [if_neg e, if_neg (by grind)]
    · rw [if_neg b, if_neg (by grind)]
theorem s197 : dn (d + 2) 197 [vR 14944 0, vI x] (hp I L w) = some (some (vI (trF (I 14944 0 71) (I 42289 0) x)), hp I L w) := by
  rw [e197, b197_0, s106, bn_s]
  show rn none _ 197 8 _ [vI _] _ = _
  rw [b197_8, ib]
  unfold trF
  by_cases a : 0 ≤ x ∧ x ≤ 19
  · rw [if_pos a]
    have e : x < 20 := by grind
    by_cases b : x < I 14944 0 71
    · obtain ⟨t, ht, rfl⟩ := of_c (x := x) (n := 20) a.1 (by omega) e
      rw [if_pos b, if_pos (show _ ∧ _ ∧ _ from ⟨a.1, e, b⟩), ck_t (vin_c ht (by omega))]
    · rw [if_neg b, if_neg (by grind)]
  · rw [if_neg a, if_neg (by grind)]
/-- told -/
def toF (a b e f g h x : Int32) : Int32 := if x = 0 then a else if x = 1 then b else if x = 2 then e else if x = 3 then f else if x = 4 then g else if x = 5 then h else -1
theorem s67 (h : WV I w 0 nW nT dy) : ∃ g, dn (d + 7) 67 [vR 12288 0, vI x] (hp I L w) = some (some (vI (toF (I 10464 0 10) (I 6288 (w 0) 0) (I 6288 (w 0) 1) (I 6288 (w 0) 2) (allA (arD I w 0) nW) (cnt (tchD I w 0 0 dy) nT) x)), hp (fct I 0 g) L w) := by
  obtain ⟨g, hg⟩ := s48 (d := d) (L := L) (n := 0) h (by omega)
  rw [e67, b67_0, s40 h.1 h.2.2.2.1, bn_s, show (0 : Int32) = c 0 from rfl, hg, bn_s]
  simp only [psh, b67_88, b67_97]
  unfold toF
  have F : ∀ v : Int32, ∃ g, (some (some (vI v), hp I L w) : Option Rs) = some (some (vI v), hp (fct I 0 g) L w) := fun v => ⟨I 12849 0, by rw [fct_i]⟩
  by_cases a0 : x = c 0
  · rw [if_pos a0, if_pos (show x = 0 from a0)]; exact F _
  · rw [if_neg a0, if_neg (show ¬ x = 0 from a0)]
    by_cases a1 : x = 1
    · rw [if_pos a1, if_pos a1]; exact F _
    · rw [if_neg a1, if_neg a1]
      by_cases a2 : x = 2
      · rw [if_pos a2, if_pos a2]; exact F _
      · rw [if_neg a2, if_neg a2]
        by_cases a3 : x = 3
        · rw [if_pos a3, if_pos a3]; exact F _
        · rw [if_neg a3, if_neg a3]
          by_cases a4 : x = 4
          · rw [if_pos a4, if_pos a4]; exact F _
          · rw [if_neg a4, if_neg a4]
            by_cases a5 : x = 5
            · rw [if_pos a5, if_pos a5]; exact ⟨g, rfl⟩
            · rw [if_neg a5, if_neg a5]; exact F _
theorem s156 (h : MV I w nW nT dy) : dn (d + 5) 156 [vR 14944 0, vI x] (hp I L w) = some (some (vI (toF (I 14944 0 3) (I 6288 (w 0) 0) (I 6288 (w 0) 1) (I 6288 (w 0) 2) (allA (arD (mv I) w 0) nW) (cnt (tchD (mv I) w 0 0 dy) nT) x)), hp I L w) := by
  have hT := h.2.2.2.2.2.2.2.1 I tsm.rf
  rw [e156, b156_0, hT.1, hT.2.1, hT.2.2.1, s150 h.2.2.2.2.2.2.2.1 h.1 h.2.2.2.1, s153 h, bn_s, bn_s, bn_s, bn_s, bn_s, sumA_all nW (fun i hi => hs_31 i (by have := h.1; omega))]
  show (if _ then _ else if _ then rn none _ 156 52 _ [vI _] _ else if _ then rn none _ 156 59 _ [vI _] _ else if _ then rn none _ 156 66 _ [vI _] _ else if _ then rn none _ 156 73 _ [vI _] _ else if _ then rn none _ 156 78 _ [vI _] _ else _) = _
  rw [b156_52, b156_59, b156_66, b156_73, b156_78]
  unfold toF
  repeat' (split <;> try rfl)
/-- pass -/
theorem s68 (h : WV I w 0 nW nT dy) (hd : dy ≤ 9999) : ∃ g, dn (d + 6) 68 [vR 12288 0, vI x] (hp I L w) = (if 0 ≤ x ∧ x ≤ 60 then (if 9999 < dy + ix x then some (some (vI (-3)), hp I L w) else some (some (vI (c (dy + ix x))), hp (uI (lgo I w 0 (ix x) dy nT g) 10464 0 10 (c (dy + ix x))) L w)) else some (some (vI (-2)), hp I L w)) := by
  rw [e68, b68_0, s103, bn_s]
  show ∃ g, rn none _ 68 6 _ [vI _] _ = _
  rw [b68_6, ib, h.2.2.2.2.2.1]
  by_cases a : 0 ≤ x ∧ x ≤ 60
  · obtain ⟨n, hn, rfl⟩ := of_c (x := x) (n := 61) a.1 (by omega) (by have := a.2; show x < 61; grind)
    obtain ⟨g, hg⟩ := s47 (d := d) (L := L) (n := n) h (by omega)
    refine ⟨g, ?_⟩
    rw [if_pos a, if_pos a, cq rfl, ix_c (by omega), show (9999 : Int32) = c 9999 from rfl]
    by_cases b : 9999 < dy + n
    · rw [if_pos (by rw [c_lt (by omega) (by omega)]; exact b), if_pos b]
    · rw [if_neg (by rw [c_lt (by omega) (by omega)]; exact b), if_neg b, hg, bn_s]
      show rn none _ 68 38 _ [] _ = _
      rw [b68_38, uI_e]
  · exact ⟨nil0, by rw [if_neg a, if_neg a]⟩
theorem s159 (h : MV I w nW nT dy) (hd : dy ≤ 9999) : ∃ b, dn (d + 8) 159 [vR 14944 0, vI x] (hp I L w) = (if 0 ≤ x ∧ x ≤ 60 then (if 9999 < dy + ix x then some (some (vI (-3)), hp I L w) else some (some (vI (c (dy + ix x))), hp (gd I w (ix x) dy nT b) L w)) else some (some (vI (-2)), hp I L w)) := by
  rw [e159, b159_0, s114, bn_s]
  show ∃ b, rn none _ 159 5 _ [vI _] _ = _
  rw [b159_5, ib, h.2.2.2.2.2.1]
  by_cases a : 0 ≤ x ∧ x ≤ 60
  · obtain ⟨n, hn, rfl⟩ := of_c (x := x) (n := 61) a.1 (by omega) (by have := a.2; show x < 61; grind)
    obtain ⟨b, hb⟩ := s158 (d := d) (L := L) (n := n) h (by omega)
    refine ⟨b, ?_⟩
    rw [if_pos a, if_pos a, cq rfl, ix_c (by omega), show (9999 : Int32) = c 9999 from rfl]
    by_cases e : 9999 < dy + n
    · rw [if_pos (by rw [c_lt (by omega) (by omega)]; exact e), if_pos e]
    · rw [if_neg (by rw [c_lt (by omega) (by omega)]; exact e), if_neg e, hb, bn_s]
      show rn none _ 159 31 _ [] _ = _
      rw [b159_31, gd_d]
  · exact ⟨nil0, by rw [if_neg a, if_neg a]⟩
end P50
