set_option maxHeartbeats 400000
section P70
variable {I : FI} {L : FL} {w : Nat → Nat} {nW nT dy : Nat} {x y z : Int32}
theorem dsm_g {z : Int32} : dsm I (uI I 14944 0 1 z) := by
  refine ⟨fun j => ?_, fun j => ?_, fun j => ?_, fun j => ?_, fun j => ?_, tsm_uI (by omega)⟩
  all_goals rw [uI_t (by omega)]
theorem MV_g {z : Int32} (h : MV I w nW nT dy) : MV (uI I 14944 0 1 z) w nW nT dy := by
  obtain ⟨h1, h2, h3, h4, h5, h6, h7, hT, hF⟩ := h
  exact ⟨h1, h2, h3, by rw [uI_j (by omega)]; exact h4, by rw [uI_j (by omega)]; exact h5, by rw [uI_j (by omega)]; exact h6, fun t ht => by rw [uI_t (by omega)]; exact h7 t ht, hT.of (tsm_uI (by omega)), fun p hp => by rw [dsm_fD dsm_g]; exact hF p hp⟩
theorem low_g {z : Int32} {t n : Nat} : lowB (mv (uI I 14944 0 1 z)) w 0 t n dy = lowB (mv I) w 0 t n dy := by
  unfold lowB
  rw [dsm_day dsm_g, mv_pk, mv_pk, mv_low, mv_low, uI_t (by omega), uI_t (by omega)]
theorem ar_g {p i : Nat} (hp5 : p < 5) (hi : i < 5) : arD (mv (uI I 14944 0 1 (gl (I 14944 0 1) (c p) 1))) w 0 i = if i = p then 0 else arD (mv I) w 0 i := by
  unfold arD
  rw [mv_gone, mv_gone, mv_kind, mv_kind, mv_v, mv_v, mv_T, mv_T, uI_e, uI_t (by omega), uI_t (by omega), uI_t (by omega), hs_gl hp5 hi]
  by_cases q : i = p
  · rw [if_pos q, if_pos q]; unfold ar; simp
  · rw [if_neg q, if_neg q]
/-- within reach of all, where p is gone too -/
theorem wth_g {p t n : Nat} {b : Nat → Int32} (h : MV I w nW nT dy) (hp' : p < nW) (ht : t < nT) : wthD (mv (gd (uI (sav I) 14944 0 1 (gl (I 14944 0 1) (c p) 1)) w n dy nT b)) w 0 nW t = (!outD (mv I) 0 t && decide (lowB (mv I) w 0 t n dy ≤ allA (arD (mv I) w 0) nW - arD (mv I) w 0 p)) := by
  have h5 := h.1
  have h6 := h.2.1
  have eg : I 14944 0 1 = sav I 14944 0 1 := (sav_o _ _ _ (by unfold scb; omega)).symm
  have eo : outD (mv (gd (uI (sav I) 14944 0 1 (gl (I 14944 0 1) (c p) 1)) w n dy nT b)) 0 t = outD (mv I) 0 t := by
    unfold outD
    rw [mv_pk, mv_pk, gd_p (by omega) (by omega) (by omega), uI_t (by omega), sav_o 12993 0 t (by unfold scb; omega)]
  unfold wthD
  rw [eo]
  by_cases o : outD (mv I) 0 t = true
  · rw [o, Bool.not_true, Bool.false_and, Bool.false_and]
  · have ho : I 12993 0 t ≠ -5 := fun q => o (by unfold outD; rw [mv_pk]; exact decide_eq_true q)
    have el : mv (gd (uI (sav I) 14944 0 1 (gl (I 14944 0 1) (c p) 1)) w n dy nT b) 12641 0 t = lowB (mv I) w 0 t n dy := by
      rw [mv_low, gd_l, if_pos ⟨ht, by rw [uI_t (by omega), sav_o 12993 0 t (by unfold scb; omega)]; exact ho⟩, low_g, sc_low h sav_o ht]
    have ea : allA (arD (mv (gd (uI (sav I) 14944 0 1 (gl (I 14944 0 1) (c p) 1)) w n dy nT b)) w 0) nW = allA (arD (mv I) w 0) nW - arD (mv I) w 0 p := by
      rw [allA_congr (g := fun i => if i = p then 0 else arD (mv I) w 0 i) nW fun i hi => by
        rw [ar_gd, eg, ar_g (by omega) (by omega), ws_ar (ws_sc sav_o) (by omega)]]
      rw [allA_wo (f := arD (mv I) w 0) (p := p) (if_pos rfl) (fun i hi => if_neg hi), if_pos hp']
    rw [el, ea]
def odF (I : FI) (w : Nat → Nat) (t n dy nW i : Nat) : Bool := !outD I 0 t && decide (lowB I w 0 t n dy ≤ allA (arD I w 0) nW - arD I w 0 i)
theorem l176 {t n : Nat} (h : MV I w nW nT dy) (hd : dy ≤ 9999) (ht : t < nT) (hn : n ≤ 60) (h0 : nW ≠ 0) : ∀ r i J, scM I J → i + r = nW → ∃ J', scM I J' ∧ rn none (dn 59) 176 43 [some (vR 14944 0), some (vI (c n)), some (vI (c t)), some (vI y), some (vI (cnt (odF (mv I) w t n dy nW) i)), some (vI (c i))] [] (hp J L w) = some (some (vL (frF (cnt (odF (mv I) w t n dy nW) nW) (c nW) y)), hp J' L w) := by
  have h5 := h.1
  have h6 := h.2.1
  intro r
  induction r with
  | zero =>
    intro i J hJ hr
    obtain rfl : i = nW := by omega
    refine ⟨J, hJ, ?_⟩
    have hV := sc_MV hJ h
    rw [b176_43, hV.2.2.2.1, if_neg (tq_ng (Nat.le_refl _) (by omega)), s175 (by omega) h0, bn_s]
    show rn none _ 176 107 _ [vL _] _ = _
    rw [b176_107]
  | succ r ih =>
    intro i J hJ hr
    have hV := sc_MV hJ h
    have hS : MV (uI (sav J) 14944 0 1 (gl (J 14944 0 1) (c i) 1)) w nW nT dy := MV_g (sav_MV hV)
    obtain ⟨b, hb⟩ := s158 (d := 52) (L := L) (n := n) hS (by omega)
    have hG := MV_gd (b := b) hS (show dy + n ≤ 10100 by omega)
    have hs2 : scM J (pbk (gd (uI (sav J) 14944 0 1 (gl (J 14944 0 1) (c i) 1)) w n dy nT b)) := pbk_ok (fun t k j hm => by
      rw [gd_mut h6 t k j hm]
      unfold uI
      rw [if_neg (fun z => hm (by unfold mtb; omega))])
    obtain ⟨J', hJ', e⟩ := ih (i + 1) _ (hJ.tr hs2) (by omega)
    refine ⟨J', hJ', ?_⟩
    have eq : odF (mv I) w t n dy nW i = odF (mv J) w t n dy nW i := by
      unfold odF
      rw [ws_out (ws_sc (w := w) hJ) (by omega), sc_low h hJ ht, ws_all (ws_sc hJ) nW h5, ws_ar (ws_sc hJ) (by omega)]
    have ec : cnt (odF (mv I) w t n dy nW) (i + 1) = cnt (odF (mv I) w t n dy nW) i + (if odF (mv I) w t n dy nW i = true then 1 else 0) := rfl
    rw [b176_43, hV.2.2.2.1, if_pos (tq_gt (by omega) (by omega)), s160, bn_s]
    show rn none _ 176 56 _ [] _ = _
    rw [b176_56, s118, bn_s, show sav J 14944 0 1 = J 14944 0 1 from sav_o _ _ _ (by unfold scb; omega)]
    show rn none _ 176 63 _ [] _ = _
    rw [b176_63, show dn 59 158 = dn (52 + 7) 158 from rfl, hb, bn_s]
    show rn none _ 176 68 _ [] _ = _
    rw [b176_68, s151 hG.2.2.2.2.2.2.2.1 h5 hG.2.2.2.1 (by omega), bn_s, wth_g hV (show i < nW by omega) ht]
    show rn none _ 176 75 _ [vI _, vI _] _ = _
    rw [b176_75, s161, bn_s, bn_s]
    show (if (if odF (mv J) w t n dy nW i = true then (1 : Int32) else 0) = 0 then rn none _ 176 90 _ [] _ else rn none _ 176 90 _ [] _) = _
    rw [b176_90, b176_90, c_s, ← eq]
    rw [ec] at e
    by_cases q : odF (mv I) w t n dy nW i = true
    · rw [if_pos q] at e ⊢
      rw [if_neg (by decide)]
      exact e
    · rw [if_neg q] at e ⊢
      rw [if_pos rfl]
      exact e
theorem l78 {t : Nat} {lies n' : Int32} (h : WV I w 0 nW nT dy) (ht : t < nT) (ho : I 12625 0 t ≠ -5) (h0 : nW ≠ 0) : ∀ r i, i + r = nW → rn none (dn 59) 78 59 [some (vR 12288 0), some (vI n'), some (vI (c t)), some (vI y), some (vI lies), some (vI (cnt (fun i => decide (lies ≤ allA (arD I w 0) nW - arD I w 0 i)) i)), some (vI (c i))] [] (hp I L w) = some (some (vL (frF (cnt (fun i => decide (lies ≤ allA (arD I w 0) nW - arD I w 0 i)) nW) (c nW) y)), hp I L w) := by
  obtain ⟨h1, h2, h3, h4, h5, h6, h7, s, hs, h8⟩ := h
  intro r
  induction r with
  | zero =>
    intro i hi
    obtain rfl : i = nW := by omega
    rw [b78_59, h4, if_neg (tq_ng (Nat.le_refl _) (by omega)), s80 (by omega) h0, bn_s]
    show rn none _ 78 126 _ [vL _] _ = _
    rw [b78_126]
  | succ r ih =>
    intro i hi
    have e := ih (i + 1) (by omega)
    have ec : cnt (fun i => decide (lies ≤ allA (arD I w 0) nW - arD I w 0 i)) (i + 1) = cnt (fun i => decide (lies ≤ allA (arD I w 0) nW - arD I w 0 i)) i + (if decide (lies ≤ allA (arD I w 0) nW - arD I w 0 i) = true then 1 else 0) := rfl
    rw [ec] at e
    rw [b78_59, h4, if_pos (tq_gt (by omega) (by omega)), s33 (by omega), bn_s]
    show rn none _ 78 79 _ [vI _] _ = _
    rw [b78_79, ib, if_neg ho, s40 h1 h4, bn_s]
    show rn none _ 78 89 _ [vI _] _ = _
    rw [b78_89, s38 (by omega), bn_s]
    show rn none _ 78 98 _ [vI (arD I w 0 i), vI _] _ = _
    rw [b78_98, c_s]
    by_cases q : lies ≤ allA (arD I w 0) nW - arD I w 0 i
    · rw [if_pos (decide_eq_true q)] at e
      rw [if_neg (by grind)]
      exact e
    · rw [if_neg (by simp only [decide_eq_true_eq]; exact q), Int32.add_zero] at e
      rw [if_pos (by grind)]
      exact e
theorem ask78 (h : RA I w nW nT dy) : Ask I L w 78 176 [vI x, vI y, vI z] := by
  obtain ⟨hW, hM, hws, hd, hB, hTA⟩ := id h
  obtain ⟨h1, h2, h3, h4, h5, h6, h7, n, hn, h8⟩ := id hW
  obtain ⟨m1, m2, m3, m4, m5, m6, m7, mT, mF⟩ := id hM
  have e111 : ∀ d, dn (d + 2) 111 [vR 14944 0, vI y] (hp I L w) = some (some (vI (bi (0 ≤ y ∧ y < c nT))), hp I L w) := fun d => s111 (by omega) m5
  by_cases a : 0 ≤ x ∧ x ≤ 60
  · by_cases b : 0 ≤ y ∧ y < c nT
    · by_cases e : 0 ≤ z ∧ z ≤ 1
      · by_cases k0 : nW = 0
        · subst k0
          refine ask_of (I1 := I) (I2 := I) (v := vL (-9223372036854775808)) (v' := vL (-9223372036854775808)) scM.rf ?_ scM.rf ?_ rfl
          · rw [e78]; simp only [b78_0, s103, bn_s, psh, b78_6, ib, if_pos a, s32, h5, b78_17, if_pos b, b78_25, if_pos e, h4]
            rw [if_pos (by decide)]
          · rw [e176]; simp only [b176_0, s114, bn_s, psh, b176_5, ib, if_pos a, e111, b176_13, if_pos b, s106, b176_23, if_pos e, m4]
            rw [if_pos (by decide)]
        · obtain ⟨m, hm, rfl⟩ := of_c (x := x) (n := 61) a.1 (by omega) (by have := a.2; show x < 61; grind)
          obtain ⟨t, ht, ht6, rfl⟩ := of_6 h2 b
          obtain ⟨g, hg⟩ := s45 (d := 54) (L := L) (r := m) hW ht (by omega)
          have hJ : RA (fct I 0 g) w nW nT dy := sc_RA sc_fct h
          have hw := sc_ws hws (sc_fct (I := I) (k := 0) (g := g)) (sc_fct (I := I) (k := 0) (g := g))
          obtain ⟨J', hs, eJ⟩ := l176 (L := L) (y := z) (n := m) hJ.2.1 hd ht (by omega) k0 nW 0 (fct I 0 g) scM.rf (by omega)
          have hc : ¬ c nW = 0 := tq_ne (b := 0) k0 (by omega) (by omega)
          have f111 : ∀ d, dn (d + 2) 111 [vR 14944 0, vI (c t)] (hp (fct I 0 g) L w) = some (some (vI (bi (0 ≤ c t ∧ c t < c nT))), hp (fct I 0 g) L w) := fun d => s111 (by omega) hJ.2.1.2.2.2.2.1
          refine ask_of sc_fct (v := vL (frF (cnt (odF (fct I 0 g) w t m dy nW) nW) (c nW) z)) (v' := vL (frF (cnt (odF (mv (fct I 0 g)) w t m dy nW) nW) (c nW) z)) ?_ hs ?_ ?_
          · rw [e78]; simp only [b78_0, s103, bn_s, psh, b78_6, ib, if_pos a, s32, h5, b78_17, if_pos b, b78_25, if_pos e, h4]
            rw [if_neg hc, show dn 59 45 = dn (54 + 5) 45 from rfl, hg, bn_s]
            show rn none _ 78 51 _ [vI _] _ = _
            rw [b78_51]
            have hJ4 := hJ.1.2.2.2.1
            by_cases o : I 12625 0 t = -5
            · have ez : cnt (odF (fct I 0 g) w t m dy nW) nW = 0 := by
                have : ∀ k, cnt (odF (fct I 0 g) w t m dy nW) k = 0 := by
                  intro k
                  induction k with
                  | zero => rfl
                  | succ k ih =>
                    show cnt _ k + _ = 0
                    rw [ih, if_neg]
                    · rfl
                    · unfold odF outD
                      rw [fct_p (by omega), decide_eq_true o]
                      simp
                exact this nW
              rw [ez, b78_59, hJ4, if_pos (show (0 : Int32) < c nW from tq_gt (a := 0) (by omega) (by omega)), s33 ht6, bn_s, fct_p (by omega)]
              show rn none _ 78 79 _ [vI _] _ = _
              rw [b78_79, ib, if_pos o, hJ4, s80 (by omega) k0, bn_s]
              show rn none _ 78 126 _ [vL _] _ = _
              rw [b78_126]
            · have ho : (fct I 0 g) 12625 0 t ≠ -5 := by rw [fct_p (by omega)]; exact o
              have := l78 (L := L) (y := z) (lies := lowB I w 0 t m dy) (n' := c m) hJ.1 ht ho k0 nW 0 (by omega)
              refine Eq.trans this ?_
              rw [cnt_congr (g := odF (fct I 0 g) w t m dy nW) nW fun i hi => by
                unfold odF outD
                rw [decide_eq_false ho, lowB_fct]
                simp]
          · rw [e176]; simp only [b176_0, s114, bn_s, psh, b176_5, ib, if_pos a, f111, b176_13, if_pos b, s106, b176_23, if_pos e, hJ.2.1.2.2.2.1]
            rw [if_neg hc]
            exact eJ
          · rw [cnt_congr (f := odF (mv (fct I 0 g)) w t m dy nW) (g := odF (fct I 0 g) w t m dy nW) nW fun i hi => by
              unfold odF
              rw [ws_out hw (by omega), ws_low hw ht6 (pk_w hJ.1 ht), ws_all hw nW h1, ws_ar hw (by omega)]]
      · refine ask_of (I1 := I) (I2 := I) (v := vL (-9223372036854775808)) (v' := vL (-9223372036854775808)) scM.rf ?_ scM.rf ?_ rfl
        · rw [e78]; simp only [b78_0, s103, bn_s, psh, b78_6, ib, if_pos a, s32, h5, b78_17, if_pos b, b78_25, if_neg e]
        · rw [e176]; simp only [b176_0, s114, bn_s, psh, b176_5, ib, if_pos a, e111, b176_13, if_pos b, s106, b176_23, if_neg e]
    · refine ask_of (I1 := I) (I2 := I) (v := vL (-9223372036854775808)) (v' := vL (-9223372036854775808)) scM.rf ?_ scM.rf ?_ rfl
      · rw [e78]; simp only [b78_0, s103, bn_s, psh, b78_6, ib, if_pos a, s32, h5, b78_17, if_neg b]
      · rw [e176]; simp only [b176_0, s114, bn_s, psh, b176_5, ib, if_pos a, e111, b176_13, if_neg b]
  · refine ask_of (I1 := I) (I2 := I) (v := vL (-9223372036854775808)) (v' := vL (-9223372036854775808)) scM.rf ?_ scM.rf ?_ rfl
    · rw [e78]; simp only [b78_0, s103, bn_s, psh, b78_6, ib, if_neg a]
    · rw [e176]; simp only [b176_0, s114, bn_s, psh, b176_5, ib, if_neg a]
end P70
