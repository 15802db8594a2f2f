set_option maxHeartbeats 400000
section P78
variable {I : FI} {L : FL} {w : Nat → Nat} {nW nT dy m : Nat} {x y z : Int32}
theorem wsm_wsn {A B : FI} {wa wb : Nat → Nat} {ka kb N : Nat} (hN : N ≤ 5) (h : wsm A wa ka B wb kb) : wsn N A wa ka B wb kb := by
  obtain ⟨a1, a2, a3, a4, a5⟩ := h
  exact ⟨fun j hj => a1 j (by omega), fun j hj => a2 j (by omega), fun j hj => a3 j (by omega), fun j hj => a4 j (by omega), a5⟩
theorem l182 {K : FI} (hM : MV K w nW nT dy) : ∀ r i, i + r = nT → rn none (dn 59) 182 52 [some (vR 14944 0), some (vI x), some (vI (cnt (wthD (mv K) w 0 nW) i)), some (vI (c i))] [] (hp K L w) = rn none (dn 59) 182 52 [some (vR 14944 0), some (vI x), some (vI (cnt (wthD (mv K) w 0 nW) nT)), some (vI (c nT))] [] (hp K L w) := by
  intro r
  induction r with
  | zero =>
    intro i hi
    obtain rfl : i = nT := by omega
    rfl
  | succ r ih =>
    intro i hi
    have h6 := hM.2.1
    have e : cnt (wthD (mv K) w 0 nW) (i + 1) = cnt (wthD (mv K) w 0 nW) i + (if wthD (mv K) w 0 nW i = true then 1 else 0) := rfl
    have g := ih (i + 1) (by omega)
    rw [e] at g
    rw [b182_52, hM.2.2.2.2.1, if_pos (tq_gt (by omega) (by omega)), s151 hM.2.2.2.2.2.2.2.1 hM.1 hM.2.2.2.1 (by omega), bn_s]
    show rn none _ 182 66 _ [vI _, vI _] _ = _
    rw [b182_66, if10, c_s]
    by_cases q : wthD (mv K) w 0 nW i = true
    · rw [if_pos q] at g ⊢; exact g
    · rw [if_neg q] at g ⊢; exact g
theorem ask83 (h : RA I w nW nT dy) (hK : RK I nW nT m) : Ask I L w 83 182 [vI x] := by
  obtain ⟨hW, hM, hws, hd, hB, hTA⟩ := id h
  by_cases b : 0 ≤ x ∧ x ≤ 1
  · obtain ⟨H, w', hT, e30⟩ := s30T (L := L) h (d := 57)
    have hH := tri_sc hT
    have hHW := tri_WV hT hW
    obtain ⟨H', d2, hd2, hW2, hs2, e2, f2⟩ := en_l (L := L) (w := w') hK (x1 := x) m 0 H dy (by omega) (by omega) hHW hH
    have P : dn 60 83 [vR 12288 0, vI x] (hp I L w) = rn none (dn 59) 83 23 [some (vR 12288 0), some (vI x), some (vI (c m))] [] (hp H' L w') := by
      rw [e83]; simp only [b83_0, s103, bn_s, psh, b83_5, ib, if_pos b]
      rw [show dn 59 30 = dn (57 + 2) 30 from rfl, e30, bn_s]
      show rn none _ 83 21 _ [] _ = _
      rw [b83_21]
      exact e2
    have kk : H' 2480 0 0 = c m := (hs2 _ _ _ (by unfold scb; omega)).trans hK.2.1
    have hm10 := hK.1
    have C : ∃ g, dn 60 83 [vR 12288 0, vI x] (hp I L w) = some (some (vI (if x = 0 then allA (lwz H' w' 2 0 d2) nT else cnt (wthD H' w' 2 nW) nT)), hp (fct H' 2 g) L w') := by
      obtain ⟨g, hg⟩ := s50 (d := 53) (L := L) (n := 0) hW2 (by omega)
      by_cases q : x = 0
      · refine ⟨g, ?_⟩
        rw [P, b83_23, kk, if_neg (tq_ng (Nat.le_refl _) (by omega)), if_pos q, if_pos q, show dn 59 50 = dn (53 + 6) 50 from rfl, show (0 : Int32) = c 0 from rfl, hg, bn_s]
        show rn none _ 83 86 _ [vI _] _ = _
        rw [b83_86, b83_96]
      · refine ⟨H' 12849 2, ?_⟩
        rw [P, b83_23, kk, if_neg (tq_ng (Nat.le_refl _) (by omega)), if_neg q, if_neg q, s51 hW2.1 hW2.2.1 hW2.2.2.2.1 hW2.2.2.2.2.1, bn_s, fct_i]
        show rn none _ 83 96 _ [vI _] _ = _
        rw [b83_96]
    obtain ⟨g, hC⟩ := C
    have hs1 : scM I (fct H' 2 g) := hs2.tr sc_fct
    have hJ := w_RA hT.1 (sc_RA hs1 h)
    have hE : EN H (sav (fct H' 2 g)) w' nW nT dy := by
      refine ⟨sav_MV hJ.2.1, wsm_wsn hW.1 (tri_ws hT hws (hs1.tr sav_o)), fun p hp' => ?_⟩
      obtain ⟨-, ⟨v, hv, ev⟩, -⟩ := hB.1 p hp'
      refine ⟨v, hv, ?_⟩
      rw [(hs1.tr sav_o) 10881 0 p (by unfold scb; omega), show I 10881 0 p = I 10497 0 p from hws.2.1 p (by have := hW.1; omega), ev]
    obtain ⟨K', hE', hf, eK⟩ := f2 _ hE (fun j => ⟨(hs1.tr sav_o) _ _ _ (by unfold scb; omega), (hs1.tr sav_o) _ _ _ (by unfold scb; omega)⟩) (((hs1.tr sav_o) _ _ _ (by unfold scb; omega)).trans hK.2.2.1)
    have hM' := hE'.1
    have kK : K' 14944 0 42 = c m := by
      rw [hf _ _ _ (by unfold mtb; omega), (hs1.tr sav_o) _ _ _ (by unfold scb; omega)]
      exact hK.2.2.1
    refine ask_w ⟨hT.1, hT.2.1⟩ hs1 hC (I2 := pbk K') (pbk_ok hf) (v' := vI (if x = 0 then allA (lwz (mv K') w' 0 0 d2) nT else cnt (wthD (mv K') w' 0 nW) nT)) ?_ (congrArg vI ?_)
    · rw [e182]; simp only [b182_0, s106, bn_s, psh, b182_7, ib, if_pos b]
      rw [s160, bn_s]
      show rn none _ 182 16 _ [] _ = _
      rw [b182_16]
      refine Eq.trans eK ?_
      rw [b182_18, kK, if_neg (tq_ng (Nat.le_refl _) (by omega))]
      refine Eq.trans (l182 hM' nT 0 (by omega)) ?_
      rw [b182_52, hM'.2.2.2.2.1, if_neg (tq_ng (Nat.le_refl _) (by have := hM'.2.1; omega)), s178 (dy := d2) hM'.2.1 hM'.2.2.2.2.1, bn_s]
      simp only [psh, b182_90, s161, bn_s, b182_99]
      split <;> rfl
    · have q1 : allA (lwz (mv K') w' 0 0 d2) nT = allA (lwz H' w' 2 0 d2) nT := allA_congr nT fun t ht => wn_lwz hE'.2.1 hW.1 (by have := hW.2.1; omega) (hW2.2.2.2.2.2.2.1 t ht)
      have q2 : cnt (wthD (mv K') w' 0 nW) nT = cnt (wthD H' w' 2 nW) nT := cnt_congr nT fun t ht => wn_wth hE'.2.1 (by have := hW.2.1; omega)
      rw [q1, q2]
  · refine ask_of (I1 := I) (I2 := I) (v := vI (-1)) (v' := vI (-1)) scM.rf ?_ scM.rf ?_ rfl
    · rw [e83]; simp only [b83_0, s103, bn_s, psh, b83_5, ib, if_neg b]
    · rw [e182]; simp only [b182_0, s106, bn_s, psh, b182_7, ib, if_neg b]
end P78
