set_option maxHeartbeats 400000
section P86
variable {I : FI} {L : FL} {w : Nat → Nat} {nW nT dy m : Nat} {x y z : Int32} {P : Nat → Bool} {W W' : Nat → Nat → Bool}
theorem MS_c (h : ∀ t, P t = true → ∀ k, W k t = W' k t) : ∀ f s, MS P W f s = MS P W' f s := by
  intro f
  induction f with
  | zero => intro s; rfl
  | succ f ih =>
    intro s
    show fld (lf P s) (fun t => MS P W f (s ||| 2 ^ t) + (W (pcn s) t).toNat) 6 = fld (lf P s) (fun t => MS P W' f (s ||| 2 ^ t) + (W' (pcn s) t).toNat) 6
    refine fld_c 6 fun t ht hl => ?_
    rw [ih, h t (lf_f P hl).1]
theorem TS_c (h : ∀ t, P t = true → ∀ k, W k t = W' k t) (s : Nat) : TS P W s = TS P W' s := MS_c h _ _
theorem gz_c (h : ∀ t, P t = true → ∀ k, W k t = W' k t) {s : Nat} : ∀ r t, gz P W s r t = gz P W' s r t := by
  intro r
  induction r with
  | zero => intro t; rfl
  | succ r ih =>
    intro t
    show (if lf P s t = true ∧ TS P W (s ||| 2 ^ t) + (W (pcn s) t).toNat = TS P W s then t else gz P W s r (t + 1)) = (if lf P s t = true ∧ TS P W' (s ||| 2 ^ t) + (W' (pcn s) t).toNat = TS P W' s then t else gz P W' s r (t + 1))
    rw [TS_c h, TS_c h, ih]
    by_cases q : lf P s t = true
    · rw [h t (lf_f P q).1]
    · rw [if_neg (fun z => q z.1), if_neg (fun z => q z.1)]
theorem gs_c (h : ∀ t, P t = true → ∀ k, W k t = W' k t) : ∀ j, gs P W j = gs P W' j := by
  intro j
  induction j with
  | zero => rfl
  | succ j ih =>
    show gs P W j ||| 2 ^ (gz P W (gs P W j) 6 0) = gs P W' j ||| 2 ^ (gz P W' (gs P W' j) 6 0)
    rw [ih, gz_c h]
theorem gkF_c (h : ∀ t, P t = true → ∀ k, W k t = W' k t) (k : Nat) : gkF P W k = gkF P W' k := by
  unfold gkF gr
  rw [gs_c h, gz_c h]
theorem PnT_c {P P' : Nat → Bool} (h : ∀ t, t < nT → P t = P' t) : PnT P nT = PnT P' nT := by
  funext t
  show (decide (t < nT) && P t) = (decide (t < nT) && P' t)
  by_cases q : t < nT
  · rw [h t q]
  · rw [decide_eq_false q, Bool.false_and, Bool.false_and]
theorem cnN_PnT {P : Nat → Bool} (h2 : nT ≤ 6) : cnN (PnT P nT) 6 = cnN P nT := by
  have A : ∀ r, nT + r = 6 → cnN (PnT P nT) (nT + r) = cnN P nT := by
    have B : ∀ r, cnN (PnT P nT) (nT + r) = cnN (PnT P nT) nT := by
      intro r
      induction r with
      | zero => rfl
      | succ r ih =>
        show cnN (PnT P nT) (nT + r) + (PnT P nT (nT + r)).toNat = _
        rw [ih, show PnT P nT (nT + r) = false from by
          show (decide (nT + r < nT) && P (nT + r)) = false
          rw [decide_eq_false (by omega), Bool.false_and]]
        rfl
    intro r _
    rw [B r]
    refine cnN_c nT fun t ht => ?_
    show (decide (t < nT) && P t) = P t
    rw [decide_eq_true ht, Bool.true_and]
  have := A (6 - nT) (by omega)
  rw [show nT + (6 - nT) = 6 by omega] at this
  exact this
theorem cnt_cnN {b : Nat → Bool} : ∀ n, cnt b n = c (cnN b n) := by
  intro n
  induction n with
  | zero => rfl
  | succ n ih =>
    show cnt b n + (if b n = true then 1 else 0) = c (cnN b n + (b n).toNat)
    rw [ih]
    cases h : b n with
    | true => rw [if_pos rfl]; exact c_s
    | false => rw [if_neg (by decide)]; simp
/-- the reference's then-row, overwritten -/
def thn (I : FI) (f : Nat → Int32) : FI := fun t k j => if t = 74674 ∧ k = 0 then f j else I t k j
theorem thn_p {f : Nat → Int32} {t k : Nat} (h : t ≠ 74674) : thn I f t k = I t k := by
  funext j; unfold thn; rw [if_neg (fun z => h z.1)]
theorem thn_i : thn I (I 74674 0) = I := by
  funext t k j
  unfold thn
  by_cases h : t = 74674 ∧ k = 0
  · rw [if_pos h, h.1, h.2]
  · rw [if_neg h]
theorem thn_sc {f : Nat → Int32} : scM I (thn I f) := fun t k j hs' => by
  unfold scb at hs'
  rw [thn_p (by omega)]
theorem dsm_thn {J J' : FI} (h : ∀ t, t ≠ 74674 → ∀ k, J' t k = J t k) : dsm J J' := by
  refine ⟨fun j => ?_, fun j => ?_, fun j => ?_, fun j => ?_, fun j => ?_, ?_, fun t ht k => h t (by omega) k⟩
  all_goals rw [h _ (by omega)]
theorem gd_off {J J' : FI} {n : Nat} {b : Nat → Int32} (h : ∀ t, t ≠ 74674 → ∀ k, J' t k = J t k) {t k j : Nat} (ht : t ≠ 74674) : gd J' w n dy nT b t k j = gd J w n dy nT b t k j := by
  have e : lowB (mv J') w 0 j n dy = lowB (mv J) w 0 j n dy := by
    unfold lowB
    rw [dsm_day (dsm_thn h), mv_pk, mv_pk, mv_low, mv_low, h 12993 (by omega), h 13009 (by omega)]
  unfold gd uI mgo
  rw [e, h 12993 (by omega), h t ht]
theorem sav_off {J J' : FI} (h : ∀ t, t ≠ 74674 → ∀ k, J' t k = J t k) : ∀ t, t ≠ 74674 → ∀ k, sav J' t k = sav J t k := by
  intro t ht k
  funext j
  unfold sav cp sv0 uI
  rw [h 13009 (by omega), h 12993 (by omega), h 10897 (by omega), h 14944 (by omega), h t ht]
theorem sav_n {k : Nat} : sav I 74674 k = I 74674 k := by
  unfold sav
  rw [cp_p (by omega), cp_p (by omega), cp_p (by omega)]
  unfold sv0
  rw [uI_p (by omega), uI_p (by omega)]
def upF (f : Nat → Int32) (j : Nat) (v : Int32) : Nat → Int32 := fun i => if i = j then v else f i
theorem gd_thn {B : FI} {f : Nat → Int32} {n j : Nat} {b : Nat → Int32} {v : Int32} : uI (gd (sav (thn B f)) w n dy nT b) 74674 0 j v = gd (sav (thn B (upF f j v))) w n dy nT b := by
  funext t k i
  by_cases h : t = 74674
  · subst h
    rw [gd_p (by omega) (by omega) (by omega), sav_n]
    unfold uI
    rw [gd_p (by omega) (by omega) (by omega), sav_n]
    unfold thn upF
    by_cases q : k = 0
    · subst q
      by_cases e : i = j <;> simp [e]
    · rw [if_neg (fun z => q z.2.1), if_neg (fun z => q z.2), if_neg (fun z => q z.2)]
  · rw [uI_t h]
    exact (gd_off (sav_off (fun t ht k => by rw [thn_p ht, thn_p ht])) h).symm
theorem wth_gd {J : FI} {k t : Nat} {b : Nat → Int32} (h : MV J w nW nT dy) (ht : t < nT) : wthD (mv (gd J w k dy nT b)) w 0 nW t = Wd (mv J) w nW dy k t := by
  have eo : outD (mv (gd J w k dy nT b)) 0 t = outD (mv J) 0 t := by
    unfold outD
    rw [mv_pk, mv_pk, gd_p (by omega) (by omega) (by omega)]
  unfold wthD Wd
  rw [eo]
  by_cases o : outD (mv J) 0 t = true
  · rw [o, Bool.not_true, Bool.false_and, Bool.false_and]
  · have ho : J 12993 0 t ≠ -5 := fun q => o (by unfold outD; rw [mv_pk]; exact decide_eq_true q)
    rw [mv_low, gd_l, if_pos ⟨ht, ho⟩, allA_congr nW fun i hi => ar_gd]
theorem Wd_sc {J : FI} {k t : Nat} (h : MV I w nW nT dy) (hJ : scM I J) (ht : t < nT) : Wd (mv J) w nW dy k t = Wd (mv I) w nW dy k t := by
  have := h.1
  have := h.2.1
  unfold Wd
  rw [ws_out (ws_sc (w := w) hJ) (by omega), sc_low h hJ ht, ws_all (ws_sc hJ) nW (by omega)]
theorem l166a (h2 : nT ≤ 6) (h5 : I 14944 0 2 = c nT) : ∀ r i o, i + r = nT → rn none (dn 58) 166 7 [some (vR 14944 0), some (vI (c i)), o] [] (hp (uI I 14944 0 37 (c (cnN (Pd (mv I)) i))) L w) = rn none (dn 58) 166 7 [some (vR 14944 0), some (vI (c nT)), o] [] (hp (uI I 14944 0 37 (c (cnN (Pd (mv I)) nT))) L w) := by
  intro r
  induction r with
  | zero =>
    intro i o hi
    obtain rfl : i = nT := by omega
    rfl
  | succ r ih =>
    intro i o hi
    have g := ih (i + 1) o (by omega)
    have e : cnN (Pd (mv I)) (i + 1) = cnN (Pd (mv I)) i + (Pd (mv I) i).toNat := rfl
    rw [b166_7, uI_j (by omega), h5, if_pos (tq_gt (by omega) (by omega)), s121 (by omega), bn_s, uI_t (by omega), uI_e]
    show rn none _ 166 25 _ [vI _, vI _, vR _ _] _ = _
    rw [b166_25, ib, c_s, uI_u, uI_u, c_s]
    rw [e] at g
    by_cases q : I 12993 0 i = -5
    · have : Pd (mv I) i = false := by unfold Pd outD; rw [mv_pk, decide_eq_true q]; rfl
      rw [this] at g
      rw [if_pos q]
      simp only [Int32.add_zero]
      exact g
    · have : Pd (mv I) i = true := by unfold Pd outD; rw [mv_pk, decide_eq_false q]; rfl
      rw [this] at g
      rw [if_neg q]
      exact g
/-- then: by days and things -/
theorem l166b {B : FI} {N : Nat} (h : MV B w nW nT dy) (hd : dy ≤ 9999) (hN : B 14944 0 37 = c N) (hN6 : N ≤ 6) : ∀ r k f b o, k + r = N → ∃ f' b' o', (∀ i, i < 6 * k → f' i = f i) ∧ (∀ k' t, k ≤ k' → k' < N → t < nT → f' (6 * k' + t) = if Wd (mv B) w nW dy k' t = true then 1 else 0) ∧ rn none (dn 58) 166 49 [some (vR 14944 0), some (vI (c k)), o] [] (hp (gd (sav (thn B f)) w k dy nT b) L w) = rn none (dn 58) 166 49 [some (vR 14944 0), some (vI (c N)), o'] [] (hp (gd (sav (thn B f')) w N dy nT b') L w) := by
  have h6 := h.2.1
  intro r
  induction r with
  | zero =>
    intro k f b o hk
    obtain rfl : k = N := by omega
    exact ⟨f, b, o, fun _ _ => rfl, fun k' t h1 h2 => by omega, rfl⟩
  | succ r ih =>
    intro k f b o hk
    have hM : ∀ f, MV (sav (thn B f)) w nW nT dy := fun f => sav_MV (sc_MV thn_sc h)
    have eN : ∀ f b, gd (sav (thn B f)) w k dy nT b 14944 0 37 = c N := fun f b => by
      rw [gd_j (by omega)]
      unfold sav
      rw [cp_p (by omega), cp_p (by omega), cp_p (by omega)]
      unfold sv0
      rw [uI_j (by omega), uI_j (by omega), thn_p (by omega), hN]
    have inner : ∀ r t f, t + r = nT → ∃ f', (∀ i, i < 6 * k + t → f' i = f i) ∧ (∀ t', t ≤ t' → t' < nT → f' (6 * k + t') = if Wd (mv B) w nW dy k t' = true then 1 else 0) ∧ rn none (dn 58) 166 59 [some (vR 14944 0), some (vI (c k)), some (vI (c t))] [] (hp (gd (sav (thn B f)) w k dy nT b) L w) = rn none (dn 58) 166 59 [some (vR 14944 0), some (vI (c k)), some (vI (c nT))] [] (hp (gd (sav (thn B f')) w k dy nT b) L w) := by
      intro r
      induction r with
      | zero =>
        intro t f ht
        obtain rfl : t = nT := by omega
        exact ⟨f, fun _ _ => rfl, fun t' h1 h2 => by omega, rfl⟩
      | succ r ih2 =>
        intro t f ht
        have hG := MV_gd (b := b) (hM f) (show dy + k ≤ 10100 by omega)
        have eW : wthD (mv (gd (sav (thn B f)) w k dy nT b)) w 0 nW t = Wd (mv B) w nW dy k t := by
          rw [wth_gd (hM f) (by omega), Wd_sc h (thn_sc.tr sav_o) (by omega)]
        obtain ⟨f', a1, a2, a3⟩ := ih2 (t + 1) (upF f (6 * k + t) (if Wd (mv B) w nW dy k t = true then 1 else 0)) (by omega)
        refine ⟨f', fun i hi => ?_, fun t' h1 h2 => ?_, ?_⟩
        · rw [a1 i (by omega)]
          unfold upF
          rw [if_neg (by omega)]
        · by_cases e : t' = t
          · subst e
            rw [a1 _ (by omega)]
            unfold upF
            rw [if_pos rfl]
          · exact a2 t' (by omega) h2
        · rw [b166_59, hG.2.2.2.2.1, if_pos (tq_gt (by omega) (by omega)), s151 hG.2.2.2.2.2.2.2.1 hG.1 hG.2.2.2.1 (by omega), bn_s, eW]
          show rn none _ 166 82 _ [vI _, vI _, vR _ _] _ = _
          rw [b166_82, show (6 : Int32) = c 6 from rfl, ← Int32.ofNat_mul, cq rfl, ck_t (vin_c (by omega) (by omega)), ix_c (by omega), c_s, gd_thn, show ((if Wd (mv B) w nW dy k t = true then (1 : Int32) else 0) &&& 1) = (if Wd (mv B) w nW dy k t = true then 1 else 0) from by split <;> rfl]
          exact a3
    obtain ⟨f1, a1, a2, a3⟩ := inner nT 0 f (by omega)
    have hG1 := MV_gd (b := b) (hM f1) (show dy + k ≤ 10100 by omega)
    obtain ⟨b1, hb1⟩ := s157 (d := 52) (L := L) hG1
    rw [gd_s] at hb1
    obtain ⟨f2, b2, o2, c1, c2, c3⟩ := ih (k + 1) f1 b1 (some (vI (c nT))) (by omega)
    refine ⟨f2, b2, o2, fun i hi => by rw [c1 i (by omega), a1 i (by omega)], fun k' t h1 h2 h3 => ?_, ?_⟩
    · by_cases e : k' = k
      · subst e
        rw [c1 _ (by omega), a2 t (by omega) h3]
      · exact c2 k' t (by omega) h2 h3
    · rw [b166_49, eN, if_pos (tq_gt (by omega) (by omega))]
      refine Eq.trans a3 ?_
      rw [b166_59, hG1.2.2.2.2.1, if_neg (tq_ng (Nat.le_refl _) (by omega)), show dn 58 157 = dn (52 + 6) 157 from rfl, hb1, bn_s]
      show rn none _ 166 93 _ [] _ = _
      rw [b166_93, c_s]
      exact c3
/-- layThen -/
theorem s166 (h : MV I w nW nT dy) (hd : dy ≤ 9999) : ∃ J, scM I J ∧ J 14944 0 37 = c (cnN (Pd (mv I)) nT) ∧ (∀ k t, k < cnN (Pd (mv I)) nT → t < nT → J 74674 0 (6 * k + t) = if Wd (mv I) w nW dy k t = true then 1 else 0) ∧ dn 59 166 [vR 14944 0] (hp I L w) = some (none, hp J L w) := by
  have h6 := h.2.1
  have hN6 : cnN (Pd (mv I)) nT ≤ 6 := by have := cnN_6 (P := Pd (mv I)) nT; omega
  have hB : scM I (uI I 14944 0 37 (c (cnN (Pd (mv I)) nT))) := fun t k j hn => by
    unfold scb at hn
    unfold uI
    rw [if_neg (by omega)]
  have hMB := sc_MV hB h
  obtain ⟨f', b', o', a1, a2, a3⟩ := l166b (L := L) hMB hd uI_e hN6 (cnN (Pd (mv I)) nT) 0 (uI I 14944 0 37 (c (cnN (Pd (mv I)) nT)) 74674 0) (sav (uI I 14944 0 37 (c (cnN (Pd (mv I)) nT))) 205682 0) none (by omega)
  rw [thn_i, gd_0 (sav_MV hMB).2.2.2.2.2.1] at a3
  generalize hBe : uI I 14944 0 37 (c (cnN (Pd (mv I)) nT)) = B at hB hMB a1 a2 a3
  refine ⟨pbk (gd (sav (thn B f')) w (cnN (Pd (mv I)) nT) dy nT b'), (hB.tr thn_sc).tr (sav_gd h6), ?_, fun k t hk ht => ?_, ?_⟩
  · unfold pbk
    rw [cp_p (by omega), cp_p (by omega), cp_p (by omega)]
    unfold pb0
    rw [uI_j (by omega), uI_j (by omega), gd_j (by omega)]
    unfold sav
    rw [cp_p (by omega), cp_p (by omega), cp_p (by omega)]
    unfold sv0
    rw [uI_j (by omega), uI_j (by omega), thn_p (by omega), ← hBe, uI_e]
  · unfold pbk
    rw [cp_p (by omega), cp_p (by omega), cp_p (by omega)]
    unfold pb0
    rw [uI_t (by omega), uI_t (by omega), gd_p (by omega) (by omega) (by omega), sav_n]
    have := a2 k t (by omega) hk ht
    unfold thn
    rw [if_pos ⟨rfl, rfl⟩, this, Wd_sc h hB ht]
  · have A := l166a (I := I) (L := L) (w := w) h6 h.2.2.2.2.1 nT 0 none (by omega)
    rw [e166, b166_0]
    refine Eq.trans A ?_
    rw [hBe, b166_7, hMB.2.2.2.2.1, if_neg (tq_ng (Nat.le_refl _) (by omega)), s160, bn_s]
    show rn none _ 166 47 _ [] _ = _
    rw [b166_47]
    refine Eq.trans a3 ?_
    rw [b166_49, gd_j (by omega)]
    have e37 : sav (thn B f') 14944 0 37 = c (cnN (Pd (mv I)) nT) := by
      unfold sav
      rw [cp_p (by omega), cp_p (by omega), cp_p (by omega)]
      unfold sv0
      rw [uI_j (by omega), uI_j (by omega), thn_p (by omega), ← hBe, uI_e]
    rw [e37, if_neg (tq_ng (Nat.le_refl _) (by omega)), s161, bn_s]
    show rn none _ 166 103 _ [] _ = _
    rw [b166_103]
end P86
