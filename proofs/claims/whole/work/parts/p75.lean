set_option maxHeartbeats 400000
section P75
variable {I : FI} {L : FL} {w : Nat → Nat} {nW nT dy m : Nat} {x y z : Int32}
theorem SoQ_eq {A B : FI} {wa wb : Nat → Nat} {ka kb : Nat} (hw : wsm A wa ka B wb kb) (hr : ∀ i, i < m → B 10625 kb i = A 10625 ka i ∧ B 10641 kb i = A 10641 ka i ∧ B 10657 kb i = A 10657 ka i) (hs : ∀ i, i < m → ∃ t, t < nT ∧ A 10625 ka i = c t) (h6 : nT ≤ 6) (hp' : ∀ t, t < nT → A 12625 ka t = -5 ∨ ∃ p, p < 5 ∧ A 12625 ka t = c p) : SoQ B wb kb dy m = SoQ A wa ka dy m := by
  refine allT_c m 0 fun j h0 hj => ?_
  have hj : j < m := by omega
  obtain ⟨t, ht, et⟩ := hs j hj
  obtain ⟨r1, r2, r3⟩ := hr j hj
  unfold sSo
  rw [r1, r2, r3, et, ix_c (by omega), ws_low hw (by omega) (hp' t ht)]
theorem sc_u {A B : FI} {t k j : Nat} {x : Int32} (h : scM A B) : scM (uI A t k j x) (uI B t k j x) := by
  intro t' k' j' hs
  unfold uI
  split
  · rfl
  · exact h t' k' j' hs
/-- the trial world is a copy of what is -/
def TRi (I H : FI) (w w' : Nat → Nat) : Prop := w' 0 = w 0 ∧ w' 1 = w 1 ∧ w' 2 = w 0 ∧ (∀ t j, CW t j → H t 2 j = I t 0 j) ∧ (∀ t k j, ¬ (k = 2 ∧ CW t j) → H t k j = I t k j)
theorem tri_sc {H : FI} {w' : Nat → Nat} (h : TRi I H w w') : scM I H := by
  intro t k j hs
  refine h.2.2.2.2 t k j fun z => hs ?_
  unfold scb
  exact Or.inr (Or.inr (Or.inr (Or.inr (Or.inr (Or.inr (Or.inr (Or.inr (Or.inr (Or.inr (Or.inr (Or.inr (Or.inr (Or.inr ⟨z.1, CW_t z.2⟩)))))))))))))
theorem tri_k {H : FI} {w' : Nat → Nat} (h : TRi I H w w') {t k : Nat} (hk : k ≠ 2) : H t k = I t k := funext fun j => h.2.2.2.2 t k j (fun z => hk z.1)
theorem tri_t {H : FI} {w' : Nat → Nat} (h : TRi I H w w') {t k : Nat} (ht : ∀ j, ¬ CW t j) : H t k = I t k := funext fun j => h.2.2.2.2 t k j (fun z => ht j z.2)
theorem s30T (h : RA I w nW nT dy) {d : Nat} : ∃ H w', TRi I H w w' ∧ dn (d + 2) 30 [vR 10464 2, vR 10464 0] (hp I L w) = some (none, hp H L w') := by
  obtain ⟨cw, hc, e⟩ := s30 (d := d) (I := I) (L := L) (w := w) (a := 2) (b := 0) (by omega) (fun j hj => by
    have := h.2.2.1.2.2.2.1 j hj
    rw [mv_gone] at this
    rw [← this]
    by_cases q : hs (I 14944 0 1) j = true
    · rw [if_pos q]; exact Or.inr rfl
    · rw [if_neg q]; exact Or.inl rfl)
  refine ⟨_, _, ⟨?_, ?_, ?_, fun t j hcw => ?_, fun t k j hn => ?_⟩, e⟩
  · unfold sW; rw [if_neg (by omega)]
  · unfold sW; rw [if_neg (by omega)]
  · unfold sW; rw [if_pos rfl]
  · unfold cpB; rw [if_pos ⟨rfl, (hc t j).mpr hcw⟩]
  · unfold cpB; rw [if_neg (fun z => hn ⟨z.1, (hc t j).mp z.2⟩)]
theorem tri_WV {H : FI} {w' : Nat → Nat} (h : TRi I H w w') (hW : WV I w 0 nW nT dy) : WV H w' 2 nW nT dy := by
  obtain ⟨h1, h2, h3, h4, h5, h6, h7, n, hn, h8⟩ := hW
  obtain ⟨w0, w1, w2, hc, ho⟩ := h
  refine ⟨h1, h2, h3, ?_, ?_, ?_, fun t ht => ?_, n, hn, ?_⟩
  · rw [hc 10464 0 (CW10464_0 rfl)]; exact h4
  · rw [hc 10464 6 (CW10464_6 rfl)]; exact h5
  · rw [hc 10464 10 (CW10464_10 rfl)]; exact h6
  · rw [hc 12625 t (CW12625 (by omega))]; exact h7 t ht
  · rw [w2, ho 6288 (w 0) 3 (fun z => CW_n (by decide) _ z.2)]; exact h8
theorem tri_SV {H : FI} {w' : Nat → Nat} (h : TRi I H w w') (hS : SV I 0 nT m) : SV H 2 nT m := by
  obtain ⟨h1, h2, h3⟩ := hS
  obtain ⟨w0, w1, w2, hc, ho⟩ := h
  refine ⟨h1, ?_, fun i hi => ?_⟩
  · rw [hc 2416 0 (CW2416 rfl)]; exact h2
  · rw [hc 10625 i (CW10625 (by omega)), hc 10657 i (CW10657 (by omega))]; exact h3 i hi
/-- the trial world against the reference's -/
theorem tri_ws {H J : FI} {w' : Nat → Nat} (h : TRi I H w w') (hws : wsm I w 0 (mv I) w 0) (hJ : scM I J) : wsm H w' 2 (mv J) w' 0 := by
  have g := sc_ws hws scM.rf hJ
  obtain ⟨a1, a2, a3, a4, a5, a6, a7, a8, a9, aA, aB, aC, aD, aE⟩ := g
  obtain ⟨w0, w1, w2, hc, ho⟩ := h
  have T : ∀ t, (∀ j, ¬ CW t j) → ∀ k, H t k = I t k := fun t ht k => funext fun j => ho t k j (fun z => ht j z.2)
  refine ⟨fun j hj => ?_, fun j hj => ?_, fun j hj => ?_, fun j hj => ?_, fun j hj => ?_, fun j hj => ?_, fun j hj => ?_, fun j hj => ?_, w0.trans w2.symm, fun j => ?_, ?_, ?_, ?_, ?_⟩
  · rw [a1 j hj, hc _ _ (CW10481 (by omega))]
  · rw [a2 j hj, hc _ _ (CW10497 (by omega))]
  · rw [a3 j hj, hc _ _ (CW10513 (by omega))]
  · rw [a4 j hj, hc _ _ (CW10530 (by omega))]
  · rw [a5 j hj, hc _ _ (CW41265 (by omega))]
  · rw [a6 j hj, hc _ _ (CW12609 (by omega))]
  · rw [a7 j hj, hc _ _ (CW12625 (by omega))]
  · rw [a8 j hj, hc _ _ (CW12641 (by omega))]
  · rw [w2, aA, T 6288 (CW_n (by decide))]
  · rw [w2, aB, T _ (CW_n (by decide))]
  · rw [w2, aC, T _ (CW_n (by decide))]
  · rw [w2, aD, T _ (CW_n (by decide))]
  · rw [w2, aE, T _ (CW_n (by decide))]
theorem ws_l {A B : FI} {wa wb : Nat → Nat} {ka : Nat} {t : Nat} {v : Int32} (h : wsm A wa ka (mv B) wb 0) : wsm (uI A 12641 ka t v) wa ka (mv (uI B 13009 0 t v)) wb 0 := by
  obtain ⟨a1, a2, a3, a4, a5, a6, a7, a8, a9, aA, aB, aC, aD, aE⟩ := h
  refine ⟨fun j hj => ?_, fun j hj => ?_, fun j hj => ?_, fun j hj => ?_, fun j hj => ?_, fun j hj => ?_, fun j hj => ?_, fun j hj => ?_, a9, fun j => ?_, ?_, ?_, ?_, ?_⟩
  · rw [mv_kind, uI_t (by omega), uI_t (by omega)]; exact a1 j hj
  · rw [mv_v, uI_t (by omega), uI_t (by omega)]; exact a2 j hj
  · rw [mv_th, uI_t (by omega), uI_t (by omega)]; exact a3 j hj
  · rw [mv_gone, uI_t (by omega), uI_t (by omega)]; exact a4 j hj
  · rw [mv_rows, uI_t (by omega), uI_t (by omega)]; exact a5 j hj
  · rw [mv_wt, uI_t (by omega), uI_t (by omega)]; exact a6 j hj
  · rw [mv_pk, uI_t (by omega), uI_t (by omega)]; exact a7 j hj
  · rw [mv_low]
    have := a8 j hj
    rw [mv_low] at this
    by_cases q : j = t
    · subst q; rw [uI_e, uI_e]
    · rw [uI_j q, uI_j q]; exact this
  · rw [mv_T, uI_t (by omega), uI_t (by omega)]; have := aA j; rw [mv_T] at this; exact this
  · rw [mv_c (by omega), uI_p (by omega), uI_p (by omega)]; rw [mv_c (by omega)] at aB; exact aB
  · rw [mv_c (by omega), uI_p (by omega), uI_p (by omega)]; rw [mv_c (by omega)] at aC; exact aC
  · rw [mv_c (by omega), uI_p (by omega), uI_p (by omega)]; rw [mv_c (by omega)] at aD; exact aD
  · rw [mv_c (by omega), uI_p (by omega), uI_p (by omega)]; rw [mv_c (by omega)] at aE; exact aE
theorem ws_v {A B : FI} {wa wb : Nat → Nat} {ka : Nat} {t : Nat} {v : Int32} (h : wsm A wa ka (mv B) wb 0) : wsm (uI A 10497 ka t v) wa ka (mv (uI B 10881 0 t v)) wb 0 := by
  obtain ⟨a1, a2, a3, a4, a5, a6, a7, a8, a9, aA, aB, aC, aD, aE⟩ := h
  refine ⟨fun j hj => ?_, fun j hj => ?_, fun j hj => ?_, fun j hj => ?_, fun j hj => ?_, fun j hj => ?_, fun j hj => ?_, fun j hj => ?_, a9, fun j => ?_, ?_, ?_, ?_, ?_⟩
  · rw [mv_kind, uI_t (by omega), uI_t (by omega)]; exact a1 j hj
  · rw [mv_v]
    have := a2 j hj
    rw [mv_v] at this
    by_cases q : j = t
    · subst q; rw [uI_e, uI_e]
    · rw [uI_j q, uI_j q]; exact this
  · rw [mv_th, uI_t (by omega), uI_t (by omega)]; exact a3 j hj
  · rw [mv_gone, uI_t (by omega), uI_t (by omega)]; exact a4 j hj
  · rw [mv_rows, uI_t (by omega), uI_t (by omega)]; exact a5 j hj
  · rw [mv_wt, uI_t (by omega), uI_t (by omega)]; exact a6 j hj
  · rw [mv_pk, uI_t (by omega), uI_t (by omega)]; exact a7 j hj
  · rw [mv_low, uI_t (by omega), uI_t (by omega)]; exact a8 j hj
  · rw [mv_T, uI_t (by omega), uI_t (by omega)]; have := aA j; rw [mv_T] at this; exact this
  · rw [mv_c (by omega), uI_p (by omega), uI_p (by omega)]; rw [mv_c (by omega)] at aB; exact aB
  · rw [mv_c (by omega), uI_p (by omega), uI_p (by omega)]; rw [mv_c (by omega)] at aC; exact aC
  · rw [mv_c (by omega), uI_p (by omega), uI_p (by omega)]; rw [mv_c (by omega)] at aD; exact aD
  · rw [mv_c (by omega), uI_p (by omega), uI_p (by omega)]; rw [mv_c (by omega)] at aE; exact aE
theorem MV_l {t : Nat} {v : Int32} (h : MV I w nW nT dy) : MV (uI I 13009 0 t v) w nW nT dy := by
  obtain ⟨h1, h2, h3, h4, h5, h6, h7, hT, hF⟩ := h
  have hd : dsm I (uI I 13009 0 t v) := by
    refine ⟨fun j => ?_, fun j => ?_, fun j => ?_, fun j => ?_, fun j => ?_, tsm_uI (by omega)⟩
    all_goals rw [uI_t (by omega)]
  exact ⟨h1, h2, h3, by rw [uI_t (by omega)]; exact h4, by rw [uI_t (by omega)]; exact h5, by rw [uI_t (by omega)]; exact h6, fun t ht => by rw [uI_t (by omega)]; exact h7 t ht, hT.of hd.2.2.2.2.2, fun p hp => by rw [dsm_fD hd]; exact hF p hp⟩
theorem SM_l {t t' : Nat} {v : Int32} (h : SM I nT m) (ht : t' = 13009 ∨ t' = 10881) : SM (uI I t' 0 t v) nT m := by
  obtain ⟨h1, h2, h3⟩ := h
  exact ⟨h1, by rw [uI_t (by omega)]; exact h2, fun i hi => by rw [uI_t (by omega), uI_t (by omega)]; exact h3 i hi⟩
theorem SoQ_sc {A B : FI} (h : scM A B) (hM : MV A w nW nT dy) (hS : SM A nT m) : SoQ (mv B) w 0 dy m = SoQ (mv A) w 0 dy m := by
  refine SoQ_eq (nT := nT) (ws_sc h) (fun i hi => ?_) (fun i hi => (hS.2.2 i hi).1) hM.2.1 (fun t ht => pk_v hM ht)
  have := hS.1
  exact ⟨h 11233 0 i (by unfold scb; omega), h 11249 0 i (by unfold scb; omega), h 11265 0 i (by unfold scb; omega)⟩
/-- lay: the reference's loop -/
theorem l172 {t : Nat} (hM : MV I w nW nT dy) (hd : dy ≤ 9999) (hS : SM I nT m) (ht : t < 6) (ho : I 12993 0 t ≠ -5) : ∀ r, r ≤ 41 → ∀ mm l x J, scM (uI I 13009 0 t x) J → ∃ J', scM I J' ∧ rn none (dn 59) 172 38 [some (vR 14944 0), some (vI (c t)), some (vI y), some (vI (I 13009 0 t)), some (vI mm), some (vI l), some (vI (c r + (-1)))] [] (hp J L w) = some (some (vI (if y = 0 then (lyF (fun n => SoQ (mv (uI I 13009 0 t (c n))) w 0 dy m) r mm l).1 else (lyF (fun n => SoQ (mv (uI I 13009 0 t (c n))) w 0 dy m) r mm l).2)), hp J' L w) := by
  intro r
  induction r with
  | zero =>
    intro hr mm l x J hJ
    refine ⟨uI J 13009 0 t (I 13009 0 t), ?_, ?_⟩
    · have := sc_u (t := 13009) (k := 0) (j := t) (x := I 13009 0 t) hJ
      rw [uI_u, uI_id rfl] at this
      exact this
    · rw [b172_38, if_pos (by decide), ck_t (vin_c ht (by omega)), ix_c (by omega)]
      show (if y = 0 then _ else _) = some (some (vI (if y = 0 then mm else l)), _)
      split <;> rfl
  | succ r ih =>
    intro hr mm l x J hJ
    obtain ⟨c1, c2⟩ := c_m1 (n := r) (by omega)
    have hK : scM (uI I 13009 0 t (c r)) (uI J 13009 0 t (c r)) := by
      have := sc_u (t := 13009) (k := 0) (j := t) (x := c r) hJ
      rw [uI_u] at this
      exact this
    have hMK : MV (uI J 13009 0 t (c r)) w nW nT dy := sc_MV hK (MV_l hM)
    have hSK : SM (uI J 13009 0 t (c r)) nT m := sc_SM hK (SM_l hS (Or.inl rfl))
    obtain ⟨J1, hJ1, e1⟩ := s171 (d := 51) (L := L) hMK (by omega) hSK
    have eQ : (allT (sSo (mv (uI J 13009 0 t (c r))) w 0 dy) m 0) = SoQ (mv (uI I 13009 0 t (c r))) w 0 dy m := SoQ_sc hK (MV_l hM) (SM_l hS (Or.inl rfl))
    have eo : J 12993 0 t = I 12993 0 t := by
      rw [hJ 12993 0 t (by unfold scb; omega), uI_t (by omega)]
    rw [b172_38, c1, if_neg c2, s121 ht, bn_s]
    show ∃ J', scM I J' ∧ rn none _ 172 48 _ [vI _] _ = _
    rw [b172_48, ib, if_neg (by rw [eo]; exact ho), ck_t (vin_c ht (by omega)), ix_c (by omega), show dn 59 171 = dn (51 + 8) 171 from rfl, e1, bn_s, eQ]
    show ∃ J', scM I J' ∧ rn none _ 172 63 _ [vI _] _ = _
    rw [b172_63, if10]
    by_cases q : SoQ (mv (uI I 13009 0 t (c r))) w 0 dy m = true
    · have e : lyF (fun n => SoQ (mv (uI I 13009 0 t (c n))) w 0 dy m) (r + 1) mm l = lyF (fun n => SoQ (mv (uI I 13009 0 t (c n))) w 0 dy m) r (mm + 1) (c r) := if_pos q
      rw [if_pos q, e]
      exact ih (by omega) _ _ (c r) J1 (hK.tr hJ1)
    · have e : lyF (fun n => SoQ (mv (uI I 13009 0 t (c n))) w 0 dy m) (r + 1) mm l = lyF (fun n => SoQ (mv (uI I 13009 0 t (c n))) w 0 dy m) r mm l := if_neg q
      rw [if_neg q, e]
      exact ih (by omega) _ _ (c r) J1 (hK.tr hJ1)
end P75
