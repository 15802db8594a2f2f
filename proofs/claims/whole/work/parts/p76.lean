set_option maxHeartbeats 400000
section P76
variable {I : FI} {L : FL} {w : Nat → Nat} {nW nT dy m : Nat} {x y z : Int32}
theorem tri_WVl {H : FI} {w' : Nat → Nat} {t : Nat} {v : Int32} (h : WV H w' 2 nW nT dy) (t' : Nat) (ht' : t' = 12641 ∨ t' = 10497) : WV (uI H t' 2 t v) w' 2 nW nT dy := by
  obtain ⟨h1, h2, h3, h4, h5, h6, h7, n, hn, h8⟩ := h
  exact ⟨h1, h2, h3, by rw [uI_t (by omega)]; exact h4, by rw [uI_t (by omega)]; exact h5, by rw [uI_t (by omega)]; exact h6, fun t ht => by rw [uI_t (by omega)]; exact h7 t ht, n, hn, by rw [uI_t (by omega)]; exact h8⟩
theorem lay_eq {H : FI} {w' : Nat → Nat} (h : TRi I H w w') (hR : RA I w nW nT dy) (hS : RS I nT m) {J : FI} (hJ : scM I J) {A B : FI} (hw : wsm A w' 2 (mv B) w' 0) (hA : ∀ t, (t = 10625 ∨ t = 10641 ∨ t = 10657 ∨ t = 12625) → A t 2 = H t 2) (hB : ∀ t, (t = 11233 ∨ t = 11249 ∨ t = 11265) → B t 0 = J t 0) : SoQ (mv B) w' 0 dy m = SoQ A w' 2 dy m := by
  obtain ⟨s1, s2, s3⟩ := hS
  have m5 := s1.1
  obtain ⟨w0, w1, w2, hc, ho⟩ := h
  have h6 := hR.1.2.1
  refine SoQ_eq (nT := nT) hw (fun i hi => ?_) (fun i hi => ?_) h6 (fun t ht => ?_)
  · obtain ⟨q1, q2, q3⟩ := s3 i hi
    rw [hA 10625 (by omega), hA 10641 (by omega), hA 10657 (by omega), hc 10625 i (CW10625 (by omega)), hc 10641 i (CW10641 (by omega)), hc 10657 i (CW10657 (by omega)), ← q1, ← q2, ← q3]
    have b1 := congrFun (hB 11233 (by omega)) i
    have b2 := congrFun (hB 11249 (by omega)) i
    have b3 := congrFun (hB 11265 (by omega)) i
    rw [hJ 11233 0 i (by unfold scb; omega)] at b1
    rw [hJ 11249 0 i (by unfold scb; omega)] at b2
    rw [hJ 11265 0 i (by unfold scb; omega)] at b3
    exact ⟨b1, b2, b3⟩
  · rw [hA 10625 (by omega), hc 10625 i (CW10625 (by omega))]
    exact (s1.2.2 i hi).1
  · rw [hA 12625 (by omega), hc 12625 t (CW12625 (by omega))]
    exact pk_w hR.1 ht
theorem ask76 (h : RA I w nW nT dy) (hS : RS I nT m) : Ask I L w 76 172 [vI x, vI y] := by
  obtain ⟨hW, hM, hws, hd, hB, hTA⟩ := id h
  obtain ⟨h1, h2, h3, h4, h5, h6, h7, n, hn, h8⟩ := id hW
  obtain ⟨m1, m2, m3, m4, m5, m6, m7, mT, mF⟩ := id hM
  have e111 : ∀ d, dn (d + 2) 111 [vR 14944 0, vI x] (hp I L w) = some (some (vI (bi (0 ≤ x ∧ x < c nT))), hp I L w) := fun d => s111 (by omega) m5
  by_cases a : 0 ≤ x ∧ x < c nT
  · by_cases b : 0 ≤ y ∧ y ≤ 1
    · obtain ⟨t, ht, ht6, rfl⟩ := of_6 h2 a
      obtain ⟨H, w', hT, e30⟩ := s30T (L := L) h (d := 57)
      have hH := tri_sc hT
      have epk : I 12993 0 t = I 12625 0 t := hws.2.2.2.2.2.2.1 t ht6
      have elw : I 13009 0 t = I 12641 0 t := hws.2.2.2.2.2.2.2.1 t ht6
      have P : dn 60 76 [vR 12288 0, vI (c t), vI y] (hp I L w) = rn none (dn 59) 76 42 [some (vR 12288 0), some (vI (c t)), some (vI y), some (vI 0), some (vI (-5)), some (vI (c 41 + (-1)))] [] (hp H L w') := by
        rw [e76]; simp only [b76_0, s32, bn_s, psh, h5, b76_8, ib, if_pos a, s103, b76_16, if_pos b]
        rw [show dn 59 30 = dn (57 + 2) 30 from rfl, e30, bn_s]
        show rn none _ 76 38 _ [] _ = _
        rw [b76_38]
        rfl
      by_cases o : I 12625 0 t = -5
      · have hJ := w_RA hT.1 (sc_RA hH h)
        have f111 : ∀ d, dn (d + 2) 111 [vR 14944 0, vI (c t)] (hp H L w') = some (some (vI (bi (0 ≤ c t ∧ c t < c nT))), hp H L w') := fun d => s111 (by omega) hJ.2.1.2.2.2.2.1
        refine ask_w ⟨hT.1, hT.2.1⟩ hH (I2 := H) (v := vI (if y = 0 then 0 else -5)) (v' := vI (if y = 0 then 0 else -5)) ?_ scM.rf ?_ rfl
        · rw [P, b76_42, if_neg (by decide), s33 ht6, bn_s, tri_k hT (by omega)]
          show rn none _ 76 55 _ [vI _] _ = _
          rw [b76_55, ib, if_pos o]
          split <;> rfl
        · rw [e172]; simp only [b172_0, f111, bn_s, psh, b172_5, ib, if_pos a, s106, b172_15, if_pos b, ck_t (vin_c ht6 (show 6 < 2147483648 by omega)), b172_38]
          rw [if_neg (by decide), s121 ht6, bn_s, tri_k hT (t := 12993) (by omega), epk]
          show rn none _ 172 48 _ [vI _] _ = _
          rw [b172_48, ib, if_pos o, ck_t (vin_c ht6 (by omega)), ix_c (by omega), uI_id rfl]
          split <;> rfl
      · have hHW := tri_WV hT hW
        have hHS := tri_SV hT hS.1
        obtain ⟨g', x', el⟩ := l76 (L := L) (y := y) (t := t) (fun v => tri_WVl hHW 12641 (Or.inl rfl)) hHS ht6 (by rw [tri_k hT (by omega)]; exact o) 41 0 (-5) (H 12641 2 t) (H 12849 2)
        rw [uI_id rfl, fct_i] at el
        have el := el (by omega)
        have hs1 : scM I (fct (uI H 12641 2 t x') 2 g') := by
          refine hH.tr fun t' k j hn => ?_
          unfold scb at hn
          rw [fct_p (by omega)]
          unfold uI
          rw [if_neg (by omega)]
        have hJ := w_RA hT.1 (sc_RA hs1 h)
        have hSJ := sc_SM hs1 hS.2.1
        generalize hIe : fct (uI H 12641 2 t x') 2 g' = I1 at el hs1 hJ hSJ
        have f111 : ∀ d, dn (d + 2) 111 [vR 14944 0, vI (c t)] (hp I1 L w') = some (some (vI (bi (0 ≤ c t ∧ c t < c nT))), hp I1 L w') := fun d => s111 (by omega) hJ.2.1.2.2.2.2.1
        have eo1 : I1 12993 0 t ≠ -5 := by rw [hs1 12993 0 t (by unfold scb; omega), epk]; exact o
        obtain ⟨I2, hs2, e2⟩ := l172 (L := L) (y := y) hJ.2.1 hd hSJ ht6 eo1 41 (by omega) 0 (-5) (I1 13009 0 t) I1 (by rw [uI_id rfl]; exact scM.rf)
        refine ask_w ⟨hT.1, hT.2.1⟩ hs1 (P.trans el) (I2 := I2) hs2 (v' := vI (if y = 0 then (lyF (fun n => SoQ (mv (uI I1 13009 0 t (c n))) w' 0 dy m) 41 0 (-5)).1 else (lyF (fun n => SoQ (mv (uI I1 13009 0 t (c n))) w' 0 dy m) 41 0 (-5)).2)) ?_ (congrArg vI ?_)
        · rw [e172]; simp only [b172_0, f111, bn_s, psh, b172_5, ib, if_pos a, s106, b172_15, if_pos b, ck_t (vin_c ht6 (show 6 < 2147483648 by omega)), ix_c (show t < 2147483648 by omega)]
          exact e2
        · have eq : lyF (fun n => SoQ (mv (uI I1 13009 0 t (c n))) w' 0 dy m) 41 0 (-5) = lyF (fun n => SoQ (uI H 12641 2 t (c n)) w' 2 dy m) 41 0 (-5) := by
            refine lyF_c 41 0 (-5) fun n hn => ?_
            refine lay_eq hT h hS hs1 (ws_l (tri_ws hT hws hs1)) (fun t' ht' => uI_p (by omega)) (fun t' ht' => uI_p (by omega))
          rw [eq]
    · refine ask_of (I1 := I) (I2 := I) (v := vI (-1)) (v' := vI (-1)) scM.rf ?_ scM.rf ?_ rfl
      · rw [e76]; simp only [b76_0, s32, bn_s, psh, h5, b76_8, ib, if_pos a, s103, b76_16, if_neg b]
      · rw [e172]; simp only [b172_0, e111, bn_s, psh, b172_5, ib, if_pos a, s106, b172_15, if_neg b]
  · refine ask_of (I1 := I) (I2 := I) (v := vI (-1)) (v' := vI (-1)) scM.rf ?_ scM.rf ?_ rfl
    · rw [e76]; simp only [b76_0, s32, bn_s, psh, h5, b76_8, ib, if_neg a]
    · rw [e172]; simp only [b172_0, e111, bn_s, psh, b172_5, ib, if_neg a]
/-- can: the class's loop -/
theorem l77 {p : Nat} {H : FI} (hW : ∀ x, WV (uI H 10497 2 p x) w 2 nW nT dy) (hS : SV H 2 nT m) (ht : p < 5) : ∀ r, r ≤ 41 → ∀ mm l x g, ∃ g' x', rn none (dn 59) 77 42 [some (vR 12288 0), some (vI (c p)), some (vI y), some (vI mm), some (vI l), some (vI (c r + (-1)))] [] (hp (fct (uI H 10497 2 p x) 2 g) L w) = some (some (vI (if y = 0 then (lyF (fun n => SoQ (uI H 10497 2 p (c n)) w 2 dy m) r mm l).1 else (lyF (fun n => SoQ (uI H 10497 2 p (c n)) w 2 dy m) r mm l).2)), hp (fct (uI H 10497 2 p x') 2 g') L w) := by
  intro r
  induction r with
  | zero =>
    intro hr mm l x g
    refine ⟨g, x, ?_⟩
    rw [b77_42, if_pos (by decide)]
    show (if y = 0 then _ else _) = some (some (vI (if y = 0 then mm else l)), _)
    split <;> rfl
  | succ r ih =>
    intro hr mm l x g
    obtain ⟨c1, c2⟩ := c_m1 (n := r) (by omega)
    obtain ⟨g1, hg1⟩ := s52 (d := 53) (L := L) (m := m) (WV_fct (g := g) (hW (c r))) (SV_fct (g := g) (nT := nT) (show SV (uI H 10497 2 p (c r)) 2 nT m from by
      obtain ⟨q1, q2, q3⟩ := hS
      exact ⟨q1, by rw [uI_t (by omega)]; exact q2, fun i hi => by rw [uI_t (by omega), uI_t (by omega)]; exact q3 i hi⟩))
    have eQ := SoQ_fct (I := uI H 10497 2 p (c r)) (w := w) (dy := dy) (m := m) (k := 2) (g := g)
    unfold SoQ at eQ
    rw [fct_f, eQ] at hg1
    rw [b77_42, c1, if_neg c2, ck_t (vin_c ht (by omega)), ix_c (by omega), fct_u (by omega), uI_u, show dn 59 52 = dn (53 + 6) 52 from rfl, hg1, bn_s]
    show ∃ g' x', rn none _ 77 65 _ [vI _] _ = _
    rw [b77_65, if10]
    by_cases q : SoQ (uI H 10497 2 p (c r)) w 2 dy m = true
    · have e : lyF (fun n => SoQ (uI H 10497 2 p (c n)) w 2 dy m) (r + 1) mm l = lyF (fun n => SoQ (uI H 10497 2 p (c n)) w 2 dy m) r (mm + 1) (c r) := if_pos q
      unfold SoQ at q
      rw [if_pos q, e]
      exact ih (by omega) _ _ _ _
    · have e : lyF (fun n => SoQ (uI H 10497 2 p (c n)) w 2 dy m) (r + 1) mm l = lyF (fun n => SoQ (uI H 10497 2 p (c n)) w 2 dy m) r mm l := if_neg q
      unfold SoQ at q
      rw [if_neg q, e]
      exact ih (by omega) _ _ _ _
theorem fl_n {kd v th : Nat} (hv : v < 42) (hth : th < 100) : ∀ k : Int32, 0 ≤ fl k (c v) (c th) := by
  intro k
  unfold fl
  rw [show (3 : Int32) = c 3 from rfl, show (10 : Int32) = c 10 from rfl, ← Int32.ofNat_mul, ← Int32.ofNat_mul, show (5 : Int32) = c 5 from rfl, ← Int32.ofNat_div (by omega) (by omega), cq rfl, cq rfl]
  split
  · exact c_0 (by omega)
  · split
    · exact c_0 (by omega)
    · split
      · exact c_0 (by omega)
      · split
        · exact c_0 (by omega)
        · exact c_0 (by omega)
theorem MV_v {p n : Nat} (h : MV I w nW nT dy) (hb : ∀ p, p < nW → ∃ h, h < 100 ∧ I 10897 0 p = c h) (hn : n < 42) (hv : ∀ p, p < nW → ∃ v, v < 10 ∧ I 10881 0 p = c v) : MV (uI I 10881 0 p (c n)) w nW nT dy := by
  obtain ⟨h1, h2, h3, h4, h5, h6, h7, hT, hF⟩ := h
  refine ⟨h1, h2, h3, by rw [uI_t (by omega)]; exact h4, by rw [uI_t (by omega)]; exact h5, by rw [uI_t (by omega)]; exact h6, fun t ht => by rw [uI_t (by omega)]; exact h7 t ht, hT.of (tsm_uI (by omega)), fun q hq => ?_⟩
  obtain ⟨hh, hh1, hh2⟩ := hb q hq
  obtain ⟨v, hv1, hv2⟩ := hv q hq
  unfold fD
  rw [mv_kind, mv_v, mv_th, uI_t (t' := 10897) (by omega), uI_t (t' := 10865) (by omega), hh2]
  by_cases e : q = p
  · subst e; rw [uI_e]; exact fl_n (kd := 0) hn hh1 _
  · rw [uI_j e, hv2]; exact fl_n (kd := 0) (by omega) hh1 _
theorem l173 {p : Nat} (hM : MV I w nW nT dy) (hb : ∀ p, p < nW → ∃ h, h < 100 ∧ I 10897 0 p = c h) (hv : ∀ p, p < nW → ∃ v, v < 10 ∧ I 10881 0 p = c v) (hd : dy ≤ 9999) (hS : SM I nT m) (ht : p < 5) : ∀ r, r ≤ 10 → ∀ mm l x J, scM (uI I 10881 0 p x) J → ∃ J', scM I J' ∧ rn none (dn 59) 173 38 [some (vR 14944 0), some (vI (c p)), some (vI y), some (vI (I 10881 0 p)), some (vI mm), some (vI l), some (vI (c r + (-1)))] [] (hp J L w) = some (some (vI (if y = 0 then (lyF (fun n => SoQ (mv (uI I 10881 0 p (c n))) w 0 dy m) r mm l).1 else (lyF (fun n => SoQ (mv (uI I 10881 0 p (c n))) w 0 dy m) r mm l).2)), hp J' L w) := by
  intro r
  induction r with
  | zero =>
    intro hr mm l x J hJ
    refine ⟨uI J 10881 0 p (I 10881 0 p), ?_, ?_⟩
    · have := sc_u (t := 10881) (k := 0) (j := p) (x := I 10881 0 p) hJ
      rw [uI_u, uI_id rfl] at this
      exact this
    · rw [b173_38, if_pos (by decide), ck_t (vin_c ht (by omega)), ix_c (by omega)]
      show (if y = 0 then _ else _) = some (some (vI (if y = 0 then mm else l)), _)
      split <;> rfl
  | succ r ih =>
    intro hr mm l x J hJ
    obtain ⟨c1, c2⟩ := c_m1 (n := r) (by omega)
    have hK : scM (uI I 10881 0 p (c r)) (uI J 10881 0 p (c r)) := by
      have := sc_u (t := 10881) (k := 0) (j := p) (x := c r) hJ
      rw [uI_u] at this
      exact this
    have hM0 := MV_v (p := p) (n := r) hM hb (by omega) hv
    have hMK : MV (uI J 10881 0 p (c r)) w nW nT dy := sc_MV hK hM0
    have hS0 : SM (uI I 10881 0 p (c r)) nT m := SM_l hS (Or.inr rfl)
    have hSK : SM (uI J 10881 0 p (c r)) nT m := sc_SM hK hS0
    obtain ⟨J1, hJ1, e1⟩ := s171 (d := 51) (L := L) hMK (by omega) hSK
    have eQ : (allT (sSo (mv (uI J 10881 0 p (c r))) w 0 dy) m 0) = SoQ (mv (uI I 10881 0 p (c r))) w 0 dy m := SoQ_sc hK hM0 hS0
    rw [b173_38, c1, if_neg c2, ck_t (vin_c ht (by omega)), ix_c (by omega), show dn 59 171 = dn (51 + 8) 171 from rfl, e1, bn_s, eQ]
    show ∃ J', scM I J' ∧ rn none _ 173 55 _ [vI _] _ = _
    rw [b173_55, if10]
    by_cases q : SoQ (mv (uI I 10881 0 p (c r))) w 0 dy m = true
    · have e : lyF (fun n => SoQ (mv (uI I 10881 0 p (c n))) w 0 dy m) (r + 1) mm l = lyF (fun n => SoQ (mv (uI I 10881 0 p (c n))) w 0 dy m) r (mm + 1) (c r) := if_pos q
      rw [if_pos q, e]
      exact ih (by omega) _ _ (c r) J1 (hK.tr hJ1)
    · have e : lyF (fun n => SoQ (mv (uI I 10881 0 p (c n))) w 0 dy m) (r + 1) mm l = lyF (fun n => SoQ (mv (uI I 10881 0 p (c n))) w 0 dy m) r mm l := if_neg q
      rw [if_neg q, e]
      exact ih (by omega) _ _ (c r) J1 (hK.tr hJ1)
theorem ask77 (h : RA I w nW nT dy) (hS : RS I nT m) : Ask I L w 77 173 [vI x, vI y] := by
  obtain ⟨hW, hM, hws, hd, hB, hTA⟩ := id h
  obtain ⟨h1, h2, h3, h4, h5, h6, h7, n, hn, h8⟩ := id hW
  obtain ⟨m1, m2, m3, m4, m5, m6, m7, mT, mF⟩ := id hM
  have e110 : ∀ d, dn (d + 2) 110 [vR 14944 0, vI x] (hp I L w) = some (some (vI (bi (0 ≤ x ∧ x < c nW))), hp I L w) := fun d => s110 (by omega) m4
  by_cases a : 0 ≤ x ∧ x < c nW
  · by_cases b : 0 ≤ y ∧ y ≤ 1
    · obtain ⟨p, hp', hp5, rfl⟩ := of_5 h1 a
      obtain ⟨H, w', hT, e30⟩ := s30T (L := L) h (d := 57)
      have hH := tri_sc hT
      have hHW := tri_WV hT hW
      have hHS := tri_SV hT hS.1
      obtain ⟨g', x', el⟩ := l77 (L := L) (y := y) (p := p) (fun v => tri_WVl hHW 10497 (Or.inr rfl)) hHS hp5 10 (by omega) 0 (-5) (H 10497 2 p) (H 12849 2)
      rw [uI_id rfl, fct_i] at el
      have P : dn 60 77 [vR 12288 0, vI (c p), vI y] (hp I L w) = rn none (dn 59) 77 42 [some (vR 12288 0), some (vI (c p)), some (vI y), some (vI 0), some (vI (-5)), some (vI (c 10 + (-1)))] [] (hp H L w') := by
        rw [e77]; simp only [b77_0, s31, bn_s, psh, h4, b77_8, ib, if_pos a, s103, b77_16, if_pos b]
        rw [show dn 59 30 = dn (57 + 2) 30 from rfl, e30, bn_s]
        show rn none _ 77 38 _ [] _ = _
        rw [b77_38]
        rfl
      have hs1 : scM I (fct (uI H 10497 2 p x') 2 g') := by
        refine hH.tr fun t' k j hn => ?_
        unfold scb at hn
        rw [fct_p (by omega)]
        unfold uI
        rw [if_neg (by omega)]
      have hJ := w_RA hT.1 (sc_RA hs1 h)
      have hSJ := sc_SM hs1 hS.2.1
      generalize hIe : fct (uI H 10497 2 p x') 2 g' = I1 at el hs1 hJ hSJ
      have f110 : ∀ d, dn (d + 2) 110 [vR 14944 0, vI (c p)] (hp I1 L w') = some (some (vI (bi (0 ≤ c p ∧ c p < c nW))), hp I1 L w') := fun d => s110 (by omega) hJ.2.1.2.2.2.1
      have hth : ∀ p, p < nW → ∃ h, h < 100 ∧ I1 10897 0 p = c h := fun q hq => by
        obtain ⟨-, -, h', hh, eh⟩ := hB.1 q hq
        exact ⟨h', hh, by rw [hs1 10897 0 q (by unfold scb; omega), show I 10897 0 q = I 10513 0 q from hws.2.2.1 q (by omega), eh]⟩
      have hvv : ∀ p, p < nW → ∃ v, v < 10 ∧ I1 10881 0 p = c v := fun q hq => by
        obtain ⟨-, ⟨v, hv, ev⟩, -⟩ := hB.1 q hq
        exact ⟨v, hv, by rw [hs1 10881 0 q (by unfold scb; omega), show I 10881 0 q = I 10497 0 q from hws.2.1 q (by omega), ev]⟩
      obtain ⟨I2, hs2, e2⟩ := l173 (L := L) (y := y) hJ.2.1 hth hvv hd hSJ hp5 10 (by omega) 0 (-5) (I1 10881 0 p) I1 (by rw [uI_id rfl]; exact scM.rf)
      refine ask_w ⟨hT.1, hT.2.1⟩ hs1 (P.trans el) (I2 := I2) hs2 (v' := vI (if y = 0 then (lyF (fun n => SoQ (mv (uI I1 10881 0 p (c n))) w' 0 dy m) 10 0 (-5)).1 else (lyF (fun n => SoQ (mv (uI I1 10881 0 p (c n))) w' 0 dy m) 10 0 (-5)).2)) ?_ (congrArg vI ?_)
      · rw [e173]; simp only [b173_0, f110, bn_s, psh, b173_5, ib, if_pos a, s106, b173_15, if_pos b, ck_t (vin_c hp5 (show 5 < 2147483648 by omega)), ix_c (show p < 2147483648 by omega)]
        exact e2
      · have eq : lyF (fun n => SoQ (mv (uI I1 10881 0 p (c n))) w' 0 dy m) 10 0 (-5) = lyF (fun n => SoQ (uI H 10497 2 p (c n)) w' 2 dy m) 10 0 (-5) := by
          refine lyF_c 10 0 (-5) fun n hn => ?_
          refine lay_eq hT h hS hs1 (ws_v (tri_ws hT hws hs1)) (fun t' ht' => uI_p (by omega)) (fun t' ht' => uI_p (by omega))
        rw [eq]
    · refine ask_of (I1 := I) (I2 := I) (v := vI (-1)) (v' := vI (-1)) scM.rf ?_ scM.rf ?_ rfl
      · rw [e77]; simp only [b77_0, s31, bn_s, psh, h4, b77_8, ib, if_pos a, s103, b77_16, if_neg b]
      · rw [e173]; simp only [b173_0, e110, bn_s, psh, b173_5, ib, if_pos a, s106, b173_15, if_neg b]
  · refine ask_of (I1 := I) (I2 := I) (v := vI (-1)) (v' := vI (-1)) scM.rf ?_ scM.rf ?_ rfl
    · rw [e77]; simp only [b77_0, s31, bn_s, psh, h4, b77_8, ib, if_neg a]
    · rw [e173]; simp only [b173_0, e110, bn_s, psh, b173_5, ib, if_neg a]
end P76
