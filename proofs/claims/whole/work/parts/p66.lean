set_option maxHeartbeats 400000
section P66
variable {I : FI} {L : FL} {w : Nat → Nat} {nW nT dy : Nat} {x y z : Int32}
theorem ar_gd {J : FI} {n nT' dy' : Nat} {b : Nat → Int32} {p : Nat} : arD (mv (gd J w n dy' nT' b)) w 0 p = arD (mv J) w 0 p := by
  unfold arD
  rw [mv_gone, mv_gone, mv_kind, mv_kind, mv_v, mv_v, mv_T, mv_T, gd_j (by omega), gd_p (by omega) (by omega) (by omega), gd_p (by omega) (by omega) (by omega), gd_p (by omega) (by omega) (by omega)]
theorem low_gs {n t : Nat} {b : Nat → Int32} (h : MV I w nW nT dy) (ht : t < nT) (ho : I 12993 0 t ≠ -5) : gd (sav I) w n dy nT b 13009 0 t = lowB (mv I) w 0 t n dy := by
  have e : sav I 12993 0 t = I 12993 0 t := sav_o _ _ _ (by unfold scb; omega)
  rw [gd_l, if_pos ⟨ht, by rw [e]; exact ho⟩, sc_low h sav_o ht]
def whP (y a f l : Int32) : Bool := if y = 0 then decide (a < l) else decide (f ≤ l)
theorem whP0 {a f l : Int32} : whP 0 a f l = decide (a < l) := if_pos rfl
theorem whP1 {a f l : Int32} : whP 1 a f l = decide (f ≤ l) := if_neg (by decide)
/-- the ref's when: the loop -/
theorem l163 {p t : Nat} (h : MV I w nW nT dy) (hd : dy ≤ 9999) (ht : t < nT) (hp' : p < nW) (hpk : I 12993 0 t = c p) (hy : y = 0 ∨ y = 1) : ∀ r i b o5, i + r = 61 → ∃ J', scM I J' ∧ rn none (dn 59) 163 41 [some (vR 14944 0), some (vI (c t)), some (vI y), some (vI (-5)), some (vI (c i)), o5] [] (hp (gd (sav I) w i dy nT b) L w) = some (some (vI (srch (fun i => whP y (arD (mv I) w 0 p) (fD (mv I) 0 p) (lowB (mv I) w 0 t i dy)) r i)), hp J' L w) := by
  have hW5 := h.1
  have h6 := h.2.1
  have hV : MV (sav I) w nW nT dy := sav_MV h
  have hne : I 12993 0 t ≠ -5 := by rw [hpk]; exact c_m5 (by omega)
  intro r
  induction r with
  | zero =>
    intro i b o5 hr
    obtain rfl : i = 61 := by omega
    refine ⟨pbk (gd (sav I) w 61 dy nT b), sav_gd h6, ?_⟩
    rw [b163_41, if_neg (by decide), s161, bn_s]
    show rn none _ 163 136 _ [] _ = _
    rw [b163_136]
    rfl
  | succ r ih =>
    intro i b o5 hr
    have hG : MV (gd (sav I) w i dy nT b) w nW nT (dy + i) := MV_gd hV (by omega)
    obtain ⟨b1, hb1⟩ := s157 (d := 53) (L := L) hG
    rw [gd_s] at hb1
    have epk : gd (sav I) w i dy nT b 12993 0 t = c p := by
      rw [gd_p (by omega) (by omega) (by omega), sav_o 12993 0 t (by unfold scb; omega), hpk]
    have elw : gd (sav I) w i dy nT b 13009 0 t = lowB (mv I) w 0 t i dy := low_gs h ht hne
    have ear : arD (mv (gd (sav I) w i dy nT b)) w 0 p = arD (mv I) w 0 p := by rw [ar_gd, ws_ar (ws_sc sav_o) (by omega)]
    have efl : fD (mv (gd (sav I) w i dy nT b)) 0 p = fD (mv I) 0 p := by rw [dsm_fD dsm_gd, dsm_fD (sc_dsm sav_o)]
    have N : ∀ o5, ∃ J', scM I J' ∧ rn none (dn 59) 163 126 [some (vR 14944 0), some (vI (c t)), some (vI y), some (vI (-5)), some (vI (c i)), some (vI o5)] [] (hp (gd (sav I) w (i + 1) dy nT b1) L w) = some (some (vI (srch (fun i => whP y (arD (mv I) w 0 p) (fD (mv I) 0 p) (lowB (mv I) w 0 t i dy)) r (i + 1))), hp J' L w) := by
      intro o5
      obtain ⟨J', hJ, e⟩ := ih (i + 1) b1 (some (vI o5)) (by omega)
      exact ⟨J', hJ, by rw [b163_126, c_s]; exact e⟩
    have Y : ∀ o5, rn none (dn 59) 163 126 [some (vR 14944 0), some (vI (c t)), some (vI y), some (vI (c i)), some (vI (c i)), some (vI o5)] [] (hp (gd (sav I) w (i + 1) dy nT b1) L w) = some (some (vI (c i)), hp (pbk (gd (sav I) w (i + 1) dy nT b1)) L w) := by
      intro o5
      rw [b163_126, b163_41, c_s, if_neg (show ¬ c i < 0 from by rw [c_n0 (by omega)]; exact id), s161, bn_s]
      show (if _ then rn none _ 163 136 _ [] _ else rn none _ 163 136 _ [] _) = _
      rw [b163_136, ite_self]
    have hs' : srch (fun i => whP y (arD (mv I) w 0 p) (fD (mv I) 0 p) (lowB (mv I) w 0 t i dy)) (r + 1) i = if whP y (arD (mv I) w 0 p) (fD (mv I) 0 p) (lowB (mv I) w 0 t i dy) = true then c i else srch (fun i => whP y (arD (mv I) w 0 p) (fD (mv I) 0 p) (lowB (mv I) w 0 t i dy)) r (i + 1) := rfl
    rw [hs', b163_41, if_pos (show c i < 61 from tq_gt (b := 61) (by omega) (by omega)), if_pos (by decide), ck_t (vin_c (by omega) (by omega)), ck_t (vin_c (by omega) (by omega)), ck_t (vin_c (by omega) (by omega)), ix_c (by omega), epk]
    rcases hy with rfl | rfl
    · rw [if_pos rfl, s149 hG.2.2.2.2.2.2.2.1 (by omega), bn_s, ear]
      show ∃ J', scM I J' ∧ rn none _ 163 66 _ [vI _] _ = _
      rw [b163_66, ck_t (vin_c (by omega) (by omega)), ix_c (by omega), elw, if_neg (by decide : ¬ (1 : Nat) = 0), if_pos rfl, show dn 59 157 = dn (53 + 6) 157 from rfl, hb1, bn_s, bn_s, whP0]
      by_cases e : arD (mv I) w 0 p < lowB (mv I) w 0 t i dy
      · rw [if_pos e, if_pos (decide_eq_true e)]
        exact ⟨_, sav_gd h6, Y 1⟩
      · rw [if_neg e, if_neg (by simp only [decide_eq_true_eq]; exact e)]
        exact N 0
    · rw [if_neg (by decide), s147 (by omega), bn_s, efl]
      show ∃ J', scM I J' ∧ rn none _ 163 99 _ [vI _, vI _] _ = _
      rw [b163_99, elw, if_neg (by decide : ¬ (1 : Nat) = 0), if_pos rfl, show dn 59 157 = dn (53 + 6) 157 from rfl, hb1, bn_s, bn_s, whP1]
      by_cases e : lowB (mv I) w 0 t i dy < fD (mv I) 0 p
      · rw [if_pos e, if_neg (by simp only [decide_eq_true_eq]; grind)]
        exact N 0
      · rw [if_neg e, if_pos (by simp only [decide_eq_true_eq]; grind)]
        exact ⟨_, sav_gd h6, Y 1⟩
theorem srch_c {f g : Nat → Bool} (h : ∀ i, i < 100 → f i = g i) : ∀ r i, i + r ≤ 100 → srch f r i = srch g r i := by
  intro r
  induction r with
  | zero => intro i _; rfl
  | succ r ih =>
    intro i hi
    show (if f i = true then c i else srch f r (i + 1)) = (if g i = true then c i else srch g r (i + 1))
    rw [h i (by omega), ih (i + 1) (by omega)]
/-- arms are small -/
theorem ar_s {p : Nat} (hB : BD I w nW) (hp' : p < nW) : ∃ n, n ≤ 300 ∧ arD I w 0 p = c n := by
  obtain ⟨hb, r, hr, er⟩ := hB
  obtain ⟨-, ⟨v, hv, ev⟩, -⟩ := hb p hp'
  unfold arD ar
  rw [er, ev, cq rfl, show (2 : Int32) = c 2 from rfl, ← Int32.ofNat_mul, show (5 : Int32) = c 5 from rfl, cq rfl]
  split
  · split
    · exact ⟨_, by omega, rfl⟩
    · split
      · exact ⟨_, by omega, rfl⟩
      · split
        · exact ⟨_, by omega, rfl⟩
        · exact ⟨_, by omega, rfl⟩
  · exact ⟨0, by omega, rfl⟩
theorem ar_lt {n : Nat} (hn : n ≤ 300) {l : Int32} : (c n + 1 ≤ l) = (c n < l) := by
  have h1 : c n ≤ c 300 := tq_le hn (by omega)
  have h2 : c 300 = 300 := rfl
  have h3 : 0 ≤ c n := c_0 (by omega)
  apply propext
  constructor <;> intro h <;> grind
theorem ask70 (h : RA I w nW nT dy) : Ask I L w 70 163 [vI x, vI y] := by
  obtain ⟨hW, hM, hws, hd, hB, hTA⟩ := id h
  obtain ⟨h1, h2, h3, h4, h5, h6, h7, n, hn, h8⟩ := id hW
  obtain ⟨m1, m2, m3, m4, m5, m6, m7, mT, mF⟩ := id hM
  by_cases a : 0 ≤ x ∧ x < c nT
  · obtain ⟨t, ht, ht6, rfl⟩ := of_6 h2 a
    by_cases b : 0 ≤ y ∧ y ≤ 1
    · have epk : I 12993 0 t = I 12625 0 t := hws.2.2.2.2.2.2.1 t ht6
      rcases h7 t ht with ho | ⟨p, hp', hpk⟩
      · refine ask_of (v := vI (-5)) (v' := vI (-5)) scM.rf ?_ scM.rf ?_ rfl
        · rw [e70, b70_0, s32, bn_s, h5]
          show rn none _ 70 8 _ [vI _] _ = _
          rw [b70_8, ib, if_pos a, s103, bn_s]
          show rn none _ 70 16 _ [vI _] _ = _
          rw [b70_16, ib, if_pos b, s33 ht6, bn_s]
          show rn none _ 70 29 _ [vI _] _ = _
          rw [b70_29, ib, if_pos ho]
        · rw [e163, b163_0, s111 (by omega) m5, bn_s]
          show rn none _ 163 5 _ [vI _] _ = _
          rw [b163_5, ib, if_pos a, s106, bn_s]
          show rn none _ 163 15 _ [vI _] _ = _
          rw [b163_15, ib, if_pos b, s121 ht6, bn_s]
          show rn none _ 163 25 _ [vI _] _ = _
          rw [b163_25, ib, if_pos (by rw [epk]; exact ho)]
      · have hne : ¬ I 12625 0 t = -5 := by rw [hpk]; exact c_m5 (by omega)
        obtain ⟨g, hg⟩ := s46 (d := 54) (L := L) (le := if y = 0 then arD I w 0 p + 1 else fD I 0 p) hW ht (show p < 5 by omega) hpk
        have hJ : RA (fct I 0 g) w nW nT dy := sc_RA sc_fct h
        have hw := sc_ws hws scM.rf (sc_fct (I := I) (k := 0) (g := g))
        have epk' : fct I 0 g 12993 0 t = c p := by rw [fct_p (by omega), epk, hpk]
        obtain ⟨J, hJs, eJ⟩ := l163 (L := L) hJ.2.1 hd ht hp' epk' (y01 b) 61 0 (sav (fct I 0 g) 205682 0) none (by omega)
        rw [gd_0 (sav_MV hJ.2.1).2.2.2.2.2.1] at eJ
        refine ask_of sc_fct (v := vI (srch (fun i => decide ((if y = 0 then arD I w 0 p + 1 else fD I 0 p) ≤ lowB I w 0 t i dy)) 61 0)) ?_ hJs (v' := vI (srch (fun i => whP y (arD (mv (fct I 0 g)) w 0 p) (fD (mv (fct I 0 g)) 0 p) (lowB (mv (fct I 0 g)) w 0 t i dy)) 61 0)) ?_ (congrArg vI ?_)
        · rw [e70, b70_0, s32, bn_s, h5]
          show rn none _ 70 8 _ [vI _] _ = _
          rw [b70_8, ib, if_pos a, s103, bn_s]
          show rn none _ 70 16 _ [vI _] _ = _
          rw [b70_16, ib, if_pos b, s33 ht6, bn_s]
          show rn none _ 70 29 _ [vI _] _ = _
          rw [b70_29, ib, if_neg hne, ck_t (vin_c ht6 (by omega)), ix_c (by omega), hpk, s38 (by omega), bn_s, s37 (by omega), bn_s]
          show (if _ then rn none _ 70 57 _ [vI _] _ else rn none _ 70 70 _ [vI _] _) = _
          rw [b70_57]
          have e : (if y = 0 then rn none (dn 59) 70 70 [some (vR 12288 0), some (vI (c t)), some (vI y), some (vI (c p)), none] [vI (arD I w 0 p + 1)] (hp I L w) else rn none (dn 59) 70 70 [some (vR 12288 0), some (vI (c t)), some (vI y), some (vI (c p)), none] [vI (fD I 0 p)] (hp I L w)) = rn none (dn 59) 70 70 [some (vR 12288 0), some (vI (c t)), some (vI y), some (vI (c p)), none] [vI (if y = 0 then arD I w 0 p + 1 else fD I 0 p)] (hp I L w) := by split <;> rfl
          refine e.trans ?_
          rw [b70_70, show dn 59 46 = dn (54 + 5) 46 from rfl, hg, bn_s]
          show rn none _ 70 82 _ [vI _] _ = _
          rw [b70_82]
        · rw [e163, b163_0, s111 (by omega) hJ.2.1.2.2.2.2.1, bn_s]
          show rn none _ 163 5 _ [vI _] _ = _
          rw [b163_5, ib, if_pos a, s106, bn_s]
          show rn none _ 163 15 _ [vI _] _ = _
          rw [b163_15, ib, if_pos b, s121 ht6, bn_s]
          show rn none _ 163 25 _ [vI _] _ = _
          rw [b163_25, ib, if_neg (by rw [epk']; exact c_m5 (by omega)), s160, bn_s]
          show rn none _ 163 35 _ [] _ = _
          rw [b163_35]
          exact eJ
        · refine srch_c (fun i hi => ?_) 61 0 (by omega)
          obtain ⟨q, hq, eq⟩ := ar_s hB hp'
          rw [ws_ar hw (by omega), ws_fD hw (by omega), ws_low hw ht6 (Or.inr ⟨p, by omega, hpk⟩)]
          unfold whP
          by_cases y0 : y = 0
          · rw [if_pos y0, if_pos y0, eq]
            simp only [ar_lt hq]
          · rw [if_neg y0, if_neg y0]
    · refine ask_of (v := vI (-1)) (v' := vI (-1)) scM.rf ?_ scM.rf ?_ rfl
      · rw [e70, b70_0, s32, bn_s, h5]
        show rn none _ 70 8 _ [vI _] _ = _
        rw [b70_8, ib, if_pos a, s103, bn_s]
        show rn none _ 70 16 _ [vI _] _ = _
        rw [b70_16, ib, if_neg b]
      · rw [e163, b163_0, s111 (by omega) m5, bn_s]
        show rn none _ 163 5 _ [vI _] _ = _
        rw [b163_5, ib, if_pos a, s106, bn_s]
        show rn none _ 163 15 _ [vI _] _ = _
        rw [b163_15, ib, if_neg b]
  · refine ask_of (v := vI (-1)) (v' := vI (-1)) scM.rf ?_ scM.rf ?_ rfl
    · rw [e70, b70_0, s32, bn_s, h5]
      show rn none _ 70 8 _ [vI _] _ = _
      rw [b70_8, ib, if_neg a]
    · rw [e163, b163_0, s111 (by omega) m5, bn_s]
      show rn none _ 163 5 _ [vI _] _ = _
      rw [b163_5, ib, if_neg a]
end P66
