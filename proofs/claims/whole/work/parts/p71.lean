set_option maxHeartbeats 400000
section P71
variable {I : FI} {L : FL} {w : Nat → Nat} {nW nT dy : Nat} {x y z : Int32}
/-- the first at whom it lies highest -/
def bsF (gn : Nat → Bool) (lies : Nat → Int32) : Nat → Nat → Int32 → Int32 → Int32
  | 0, _, f, _ => f
  | r + 1, i, f, h => if gn i = true then bsF gn lies r (i + 1) f h else if lies i < h then bsF gn lies r (i + 1) (c i) (lies i) else bsF gn lies r (i + 1) f h
def mnI (a b : Int32) : Int32 := if a < b then a else b
/-- how thing t lies behind 20 days, were it p's -/
def bsL (I : FI) (w : Nat → Nat) (t dy p : Nat) : Int32 := itD (dayD I w 0 p t) 20 dy (mnI (fD I 0 p) (I 12641 0 t))
theorem l72 {t : Nat} (h : WV I w 0 nW nT dy) (ht : t < nT) : ∀ r i f hh g o5 o6, i + r = nW → ∃ g', rn none (dn 59) 72 37 [some (vR 12288 0), some (vI (c t)), some (vI f), some (vI hh), some (vI (c i)), o5, o6] [] (hp (fct I 0 g) L w) = some (some (vI (bsF (fun i => !decide (I 10530 0 i = 0)) (bsL I w t dy) r i f hh)), hp (fct I 0 g') L w) := by
  obtain ⟨h1, h2, h3, h4, h5, h6, h7, s, hs, h8⟩ := h
  intro r
  induction r with
  | zero =>
    intro i f hh g o5 o6 hi
    obtain rfl : i = nW := by omega
    refine ⟨g, ?_⟩
    rw [b72_37, fct_p (by omega), h4, if_neg (tq_ng (Nat.le_refl _) (by omega))]
    rfl
  | succ r ih =>
    intro i f hh g o5 o6 hi
    obtain ⟨g1, hg1⟩ := s43 (d := 55) (I := fct I 0 g) (L := L) (w := w) (k := 0) (p := i) (t := t) (n := s) (dy := dy) (r := 20) (l := mnI (fD I 0 i) (I 12641 0 t)) (by omega) (by omega) (by omega) hs (by rw [fct_p (by omega)]; exact h8)
    rw [fct_f, dayD_fct] at hg1
    have e : bsF (fun i => !decide (I 10530 0 i = 0)) (bsL I w t dy) (r + 1) i f hh = if (!decide (I 10530 0 i = 0)) = true then bsF (fun i => !decide (I 10530 0 i = 0)) (bsL I w t dy) r (i + 1) f hh else if bsL I w t dy i < hh then bsF (fun i => !decide (I 10530 0 i = 0)) (bsL I w t dy) r (i + 1) (c i) (bsL I w t dy i) else bsF (fun i => !decide (I 10530 0 i = 0)) (bsL I w t dy) r (i + 1) f hh := rfl
    rw [e, b72_37, fct_p (by omega), h4, if_pos (tq_gt (by omega) (by omega)), ck_t (vin_c (by omega) (by omega)), ix_c (by omega), s37 (by omega), bn_s]
    show ∃ g', rn none _ 72 67 _ [vI _, vI _] _ = _
    rw [b72_67, fct_p (t := 10464) (by omega), h6]
    show ∃ g', bn (dn 59 43 [vR 10464 0, vI (c i), vI (c t), vI (mnI (fD (fct I 0 g) 0 i) (fct I 0 g 12641 0 t)), vI (c dy), vI (c 20)] _) _ = _
    rw [fD_fct, fct_p (t := 12641) (by omega), show dn 59 43 = dn (55 + 4) 43 from rfl, hg1, bn_s]
    show ∃ g', rn none _ 72 93 _ [vI (bsL I w t dy i)] _ = _
    rw [b72_93, ck_t (vin_c (by omega) (by omega)), ix_c (by omega), fct_p (by omega), c_s]
    by_cases a : I 10530 0 i = 0
    · rw [if_pos a, if_neg (show ¬ (!decide (I 10530 0 i = 0)) = true from by rw [decide_eq_true a]; simp)]
      by_cases b : bsL I w t dy i < hh
      · rw [if_pos b, if_pos b]
        exact ih (i + 1) _ _ g1 _ _ (by omega)
      · rw [if_neg b, if_neg b]
        exact ih (i + 1) _ _ g1 _ _ (by omega)
    · rw [if_neg a, if_pos (show (!decide (I 10530 0 i = 0)) = true from by rw [decide_eq_false a]; rfl)]
      exact ih (i + 1) _ _ g1 _ _ (by omega)
/-- the reference's heap, where t lies so in p's pocket -/
theorem dsm_pw {p t : Nat} {l : Int32} : dsm I (uI (uI I 12993 0 t (c p)) 13009 0 t l) := by
  refine ⟨fun j => ?_, fun j => ?_, fun j => ?_, fun j => ?_, fun j => ?_, (tsm_uI (by omega)).tr (tsm_uI (by omega))⟩
  all_goals rw [uI_t (by omega), uI_t (by omega)]
theorem MV_pw {p t : Nat} {l : Int32} (h : MV I w nW nT dy) (hp' : p < nW) : MV (uI (uI I 12993 0 t (c p)) 13009 0 t l) w nW nT dy := by
  obtain ⟨h1, h2, h3, h4, h5, h6, h7, hT, hF⟩ := h
  refine ⟨h1, h2, h3, by rw [uI_t (by omega), uI_t (by omega)]; exact h4, by rw [uI_t (by omega), uI_t (by omega)]; exact h5, by rw [uI_t (by omega), uI_t (by omega)]; exact h6, fun u hu => ?_, hT.of dsm_pw.2.2.2.2.2, fun p hp => by rw [dsm_fD dsm_pw]; exact hF p hp⟩
  rw [uI_t (by omega)]
  by_cases q : u = t
  · subst q; exact Or.inr ⟨p, hp', uI_e⟩
  · rw [uI_j q]; exact h7 u hu
theorem l165 {t : Nat} (h : MV I w nW nT dy) (hd : dy ≤ 9999) (ht : t < nT) (hL : ∀ i, i < nW → bsL (mv I) w t dy i < 1000) : ∀ r i J f l hh o5, scM I J → i + r = nW → ((f < 0 ∧ hh = 1000) ∨ (¬ f < 0 ∧ hh = l)) → ∃ J', scM I J' ∧ rn none (dn 59) 165 29 [some (vR 14944 0), some (vI (c t)), some (vI f), some (vI l), some (vI (c i)), o5] [] (hp J L w) = some (some (vI (bsF (fun i => hs (I 14944 0 1) i) (bsL (mv I) w t dy) r i f hh)), hp J' L w) := by
  have h5 := h.1
  have h6 := h.2.1
  intro r
  induction r with
  | zero =>
    intro i J f l hh o5 hJ hi hf
    obtain rfl : i = nW := by omega
    refine ⟨J, hJ, ?_⟩
    rw [b165_29, (sc_MV hJ h).2.2.2.1, if_neg (tq_ng (Nat.le_refl _) (by omega))]
    rfl
  | succ r ih =>
    intro i J f l hh o5 hJ hi hf
    have hV := sc_MV hJ h
    have eg : J 14944 0 1 = I 14944 0 1 := hJ _ _ _ (by unfold scb; omega)
    have e : bsF (fun i => hs (I 14944 0 1) i) (bsL (mv I) w t dy) (r + 1) i f hh = if hs (I 14944 0 1) i = true then bsF (fun i => hs (I 14944 0 1) i) (bsL (mv I) w t dy) r (i + 1) f hh else if bsL (mv I) w t dy i < hh then bsF (fun i => hs (I 14944 0 1) i) (bsL (mv I) w t dy) r (i + 1) (c i) (bsL (mv I) w t dy i) else bsF (fun i => hs (I 14944 0 1) i) (bsL (mv I) w t dy) r (i + 1) f hh := rfl
    rw [e, b165_29, hV.2.2.2.1, if_pos (tq_gt (by omega) (by omega)), s107, bn_s, eg]
    show ∃ J', scM I J' ∧ rn none _ 165 48 _ [vI _] _ = _
    rw [b165_48, ib]
    by_cases a : hs (I 14944 0 1) i = true
    · rw [if_pos a, if_pos a, c_s]
      exact ih (i + 1) J f l hh o5 hJ (by omega) hf
    · rw [if_neg a, if_neg a, s160, bn_s]
      show ∃ J', scM I J' ∧ rn none _ 165 58 _ [] _ = _
      have hS0 := sav_MV hV
      have eK : ∀ l', ∃ b, dn 59 158 [vR 14944 0, vI 20] (hp (uI (uI (sav J) 12993 0 t (c i)) 13009 0 t l') L w) = some (none, hp (gd (uI (uI (sav J) 12993 0 t (c i)) 13009 0 t l') w 20 dy nT b) L w) := fun l' => s158 (d := 52) (L := L) (n := 20) (MV_pw (t := t) (l := l') hS0 (show i < nW by omega)) (by omega)
      have efl : fD (mv (uI (sav J) 12993 0 t (c i))) 0 i = fD (mv I) 0 i := by
        have : dsm (sav J) (uI (sav J) 12993 0 t (c i)) := by
          refine ⟨fun j => ?_, fun j => ?_, fun j => ?_, fun j => ?_, fun j => ?_, tsm_uI (by omega)⟩
          all_goals rw [uI_t (by omega)]
        rw [dsm_fD this, dsm_fD (sc_dsm (hJ.tr sav_o))]
      have elw : uI (sav J) 12993 0 t (c i) 13009 0 t = I 13009 0 t := by rw [uI_t (by omega)]; exact (hJ.tr sav_o) _ _ _ (by unfold scb; omega)
      have fin : ∀ l', l' = mnI (fD (mv I) 0 i) (I 13009 0 t) → ∃ J', scM I J' ∧ bn (dn 59 158 [vR 14944 0, vI 20] (hp (uI (uI (sav J) 12993 0 t (c i)) 13009 0 t l') L w)) (fun v h' => rn none (dn 59) 165 108 [some (vR 14944 0), some (vI (c t)), some (vI f), some (vI l), some (vI (c i)), o5] (psh v []) h') = some (some (vI (if bsL (mv I) w t dy i < hh then bsF (fun i => hs (I 14944 0 1) i) (bsL (mv I) w t dy) r (i + 1) (c i) (bsL (mv I) w t dy i) else bsF (fun i => hs (I 14944 0 1) i) (bsL (mv I) w t dy) r (i + 1) f hh)), hp J' L w) := by
        intro l' hl'
        obtain ⟨b, hb⟩ := eK l'
        have hs2 : scM J (pbk (gd (uI (uI (sav J) 12993 0 t (c i)) 13009 0 t l') w 20 dy nT b)) := pbk_ok (fun t' k j hm => by
          rw [gd_mut h6 t' k j hm]
          unfold uI
          rw [if_neg (fun z => hm (by unfold mtb; omega)), if_neg (fun z => hm (by unfold mtb; omega))])
        have el : gd (uI (uI (sav J) 12993 0 t (c i)) 13009 0 t l') w 20 dy nT b 13009 0 t = bsL (mv I) w t dy i := by
          have epk : uI (uI (sav J) 12993 0 t (c i)) 13009 0 t l' 12993 0 t = c i := by rw [uI_t (by omega), uI_e]
          rw [gd_l, if_pos ⟨ht, by rw [epk]; exact c_m5 (by omega)⟩]
          unfold lowB bsL
          rw [mv_pk, mv_low, epk, if_neg (c_m5 (by omega)), ix_c (by omega), uI_e, dsm_day dsm_pw, dsm_day (sc_dsm (hJ.tr sav_o)), hl']
          rfl
        rw [hb, bn_s]
        show ∃ J', scM I J' ∧ rn none _ 165 108 _ [] _ = _
        rw [b165_108, ck_t (vin_c (by omega) (by omega)), ix_c (by omega), s161, bn_s, el]
        show ∃ J', scM I J' ∧ rn none _ 165 120 _ [] _ = _
        rw [b165_120, c_s]
        have hLi := hL i (by omega)
        have n0 : ¬ c i < 0 := by rw [c_n0 (by omega)]; exact id
        rcases hf with ⟨f0, rfl⟩ | ⟨f0, rfl⟩
        · rw [if_pos f0, if_pos hLi]
          exact ih (i + 1) _ _ _ _ _ (hJ.tr hs2) (by omega) (Or.inr ⟨n0, rfl⟩)
        · rw [if_neg f0]
          by_cases q : bsL (mv I) w t dy i < hh
          · rw [if_pos q, if_pos q]
            exact ih (i + 1) _ _ _ _ _ (hJ.tr hs2) (by omega) (Or.inr ⟨n0, rfl⟩)
          · rw [if_neg q, if_neg q]
            exact ih (i + 1) _ _ _ _ _ (hJ.tr hs2) (by omega) (Or.inr ⟨f0, rfl⟩)
      rw [b165_58, ck_t (vin_c (by omega) (by omega)), ck_t (vin_c (by omega) (by omega)), ix_c (by omega), s147 (by omega), bn_s, efl]
      show ∃ J', scM I J' ∧ rn none _ 165 83 _ [vI _, vI _, vI _, vR _ _] _ = _
      rw [show sav J 13009 0 t = I 13009 0 t from (hJ.tr sav_o) _ _ _ (by unfold scb; omega), b165_83, s147 (by omega), bn_s, efl]
      simp only [psh, b165_92]
      rw [ck_t (vin_c (by omega) (by omega)), ck_t (vin_c (by omega) (by omega)), ix_c (by omega), elw]
      by_cases q : fD (mv I) 0 i < I 13009 0 t
      · rw [if_pos q]
        exact fin _ (by unfold mnI; rw [if_pos q])
      · rw [if_neg q, ck_t (vin_c (by omega) (by omega))]
        exact fin _ (by unfold mnI; rw [if_neg q])
theorem bsF_c {gn gn' : Nat → Bool} {li li' : Nat → Int32} {n : Nat} (hg : ∀ i, i < n → gn i = gn' i) (hl : ∀ i, i < n → li i = li' i) : ∀ r i f h, i + r = n → bsF gn li r i f h = bsF gn' li' r i f h := by
  intro r
  induction r with
  | zero => intro i f h _; rfl
  | succ r ih =>
    intro i f h hi
    show (if gn i = true then _ else if li i < h then _ else _) = (if gn' i = true then _ else if li' i < h then _ else _)
    rw [hg i (by omega), hl i (by omega), ih (i + 1) f h (by omega), ih (i + 1) (c i) (li' i) (by omega)]
/-- floors are low -/
theorem fl_s {p : Nat} (hB : BD I w nW) (hp' : p < nW) : ∃ n, n ≤ 400 ∧ fD I 0 p = c n := by
  obtain ⟨⟨k, hk, ek⟩, ⟨v, hv, ev⟩, ⟨h, hh, eh⟩⟩ := hB.1 p hp'
  unfold fD fl
  rw [ev, eh, show (3 : Int32) = c 3 from rfl, show (10 : Int32) = c 10 from rfl, ← Int32.ofNat_mul, ← Int32.ofNat_mul, show (5 : Int32) = c 5 from rfl, ← Int32.ofNat_div (by omega) (by omega), cq rfl, cq rfl]
  split
  · exact ⟨_, by omega, rfl⟩
  · split
    · exact ⟨_, by omega, rfl⟩
    · split
      · exact ⟨_, by omega, rfl⟩
      · split
        · exact ⟨_, by omega, rfl⟩
        · exact ⟨_, by omega, rfl⟩
theorem one_s {f td lf x : Int32} {d1 : Nat} (hf : 0 ≤ f) : 0 ≤ one f td lf x d1 ∧ one f td lf x d1 ≤ f := by
  unfold one
  generalize (if 0 < td ∧ c d1 % td = 0 then x - lf else x) = y
  grind
theorem bsL_s {t p : Nat} (hB : BD I w nW) (hp' : p < nW) : bsL I w t dy p < 1000 := by
  obtain ⟨n, hn, e⟩ := fl_s hB hp'
  have h0 : 0 ≤ fD I 0 p := by rw [e]; exact c_0 (by omega)
  have h1 : fD I 0 p ≤ c 400 := by rw [e]; exact tq_le hn (by omega)
  unfold bsL
  rw [itD_snoc 19]
  unfold dayD
  have := (one_s (td := I 6288 (w 0) 1) (lf := I 6288 (w 0) 2) (x := itD (fun l dy => one (fD I 0 p) (I 6288 (w 0) 1) (I 6288 (w 0) 2) (l + skD I w 0 p t l dy) (dy + 1)) 19 dy (mnI (fD I 0 p) (I 12641 0 t)) + skD I w 0 p t (itD (fun l dy => one (fD I 0 p) (I 6288 (w 0) 1) (I 6288 (w 0) 2) (l + skD I w 0 p t l dy) (dy + 1)) 19 dy (mnI (fD I 0 p) (I 12641 0 t))) (dy + 19)) (d1 := dy + 19 + 1) h0).2
  have h2 : c 400 = 400 := rfl
  exact Int32.lt_of_le_of_lt this (by grind)
theorem ask72 (h : RA I w nW nT dy) : Ask I L w 72 165 [vI x] := by
  obtain ⟨hW, hM, hws, hd, hB, hTA⟩ := id h
  obtain ⟨h1, h2, h3, h4, h5, h6, h7, n, hn, h8⟩ := id hW
  obtain ⟨m1, m2, m3, m4, m5, m6, m7, mT, mF⟩ := id hM
  have e111 : ∀ d, dn (d + 2) 111 [vR 14944 0, vI x] (hp I L w) = some (some (vI (bi (0 ≤ x ∧ x < c nT))), hp I L w) := fun d => s111 (by omega) m5
  by_cases a : 0 ≤ x ∧ x < c nT
  · obtain ⟨t, ht, ht6, rfl⟩ := of_6 h2 a
    have epk : I 12993 0 t = I 12625 0 t := hws.2.2.2.2.2.2.1 t ht6
    by_cases o : I 12625 0 t = -5
    · refine ask_of (I1 := I) (I2 := I) (v := vI (-5)) (v' := vI (-5)) scM.rf ?_ scM.rf ?_ rfl
      · rw [e72]; simp only [b72_0, s32, bn_s, psh, h5, b72_8, ib, if_pos a, s33 ht6, b72_21, if_pos o]
      · rw [e165]; simp only [b165_0, e111, bn_s, psh, b165_5, ib, if_pos a, s121 ht6, b165_15, epk, if_pos o]
    · obtain ⟨g, hg⟩ := l72 (L := L) hW ht nW 0 (-5) 1000 (I 12849 0) none none (by omega)
      rw [fct_i] at hg
      have hJ : RA (fct I 0 g) w nW nT dy := sc_RA sc_fct h
      have hw := sc_ws hws scM.rf (sc_fct (I := I) (k := 0) (g := g))
      have ebs : ∀ i, i < nW → bsL (mv (fct I 0 g)) w t dy i = bsL I w t dy i := fun i hi => by
        unfold bsL
        rw [ws_day hw (by omega) ht6, ws_fD hw (by omega), hw.2.2.2.2.2.2.2.1 t ht6]
      have f111 : ∀ d, dn (d + 2) 111 [vR 14944 0, vI (c t)] (hp (fct I 0 g) L w) = some (some (vI (bi (0 ≤ c t ∧ c t < c nT))), hp (fct I 0 g) L w) := fun d => s111 (by omega) hJ.2.1.2.2.2.2.1
      obtain ⟨J', hsc, eJ⟩ := l165 (L := L) hJ.2.1 hd ht (fun i hi => by rw [ebs i hi]; exact bsL_s hB hi) nW 0 (fct I 0 g) (-5) 0 1000 none scM.rf (by omega) (Or.inl ⟨by decide, rfl⟩)
      refine ask_of sc_fct (v := vI (bsF (fun i => !decide (I 10530 0 i = 0)) (bsL I w t dy) nW 0 (-5) 1000)) (v' := vI (bsF (fun i => hs (fct I 0 g 14944 0 1) i) (bsL (mv (fct I 0 g)) w t dy) nW 0 (-5) 1000)) ?_ hsc ?_ ?_
      · rw [e72]; simp only [b72_0, s32, bn_s, psh, h5, b72_8, ib, if_pos a, s33 ht6, b72_21, if_neg o]
        exact hg
      · rw [e165]; simp only [b165_0, f111, bn_s, psh, b165_5, ib, if_pos a, s121 ht6, b165_15, fct_p (I := I) (k := 0) (g := g) (show (12993 : Nat) ≠ 12849 by omega), epk, if_neg o]
        exact eJ
      · rw [bsF_c (n := nW) (fun i hi => ?_) (fun i hi => (ebs i hi).symm) nW 0 (-5) 1000 (by omega)]
        have e := hws.2.2.2.1 i (by omega)
        rw [mv_gone] at e
        show (!decide (I 10530 0 i = 0)) = hs (fct I 0 g 14944 0 1) i
        rw [← e, fct_p (t := 14944) (by omega)]
        by_cases q : hs (I 14944 0 1) i = true
        · rw [if_pos q, q]; rfl
        · rw [if_neg q]
          cases hq : hs (I 14944 0 1) i with
          | true => exact absurd hq q
          | false => rfl
  · refine ask_of (I1 := I) (I2 := I) (v := vI (-1)) (v' := vI (-1)) scM.rf ?_ scM.rf ?_ rfl
    · rw [e72]; simp only [b72_0, s32, bn_s, psh, h5, b72_8, ib, if_neg a]
    · rw [e165]; simp only [b165_0, e111, bn_s, psh, b165_5, ib, if_neg a]
end P71
