set_option maxHeartbeats 400000
section P94
variable {L : FL} {w : Nat → Nat} {tx : Nat → Int32} {n T : Nat}
/-- all but what reading a town writes -/
def frT (T : Nat) (H H' : FI) : Prop := ∀ t k j, ¬ (t = 32 ∧ (j = 2 ∨ j = 3)) → ¬ (k = T ∧ (t = 204961 ∨ t = 204977 ∨ t = 204993 ∨ t = 205009 ∨ t = 6288)) → H' t k j = H t k j
theorem frT.rf {H : FI} : frT T H H := fun _ _ _ _ _ => rfl
theorem frT.tr {H H' H'' : FI} (h : frT T H H') (h' : frT T H' H'') : frT T H H'' := fun t k j a b => (h' t k j a b).trans (h t k j a b)
theorem frC_T {H H' : FI} (h : frC T H H') : frT T H H' := fun t k j a b => h t k j a (fun z => b ⟨z.1, by omega⟩)
theorem CT_frT {H H' : FI} (h : CT tx n H) (hf : frT T H H') : CT tx n H' := ⟨(hf _ _ _ (by omega) (by omega)).trans h.1, fun i hi => (hf _ _ _ (by omega) (by omega)).trans (h.2 i hi)⟩
theorem frT_u {H : FI} {x : Int32} {j : Nat} : frT T H (uI H 6288 T j x) := fun t k i a b => by
  unfold uI
  rw [if_neg (fun z => b ⟨z.2.1, by omega⟩)]
theorem encT_p {H H' : FI} {cs : List Cl} (h : encT H T cs) (hh : ∀ t k j, t ≠ 32 → H' t k j = H t k j) : encT H' T cs := ⟨enc_p h.1 hh, (hh _ _ _ (by omega)).trans h.2.1, (hh _ _ _ (by omega)).trans h.2.2.1, (hh _ _ _ (by omega)).trans h.2.2.2⟩
theorem wkx_w {x : Int32} : (wkx x = 1 ∧ x = 102) ∨ (wkx x = 4 ∧ x = 108) ∨ (wkx x = 2 ∧ x = 114) ∨ (wkx x = 3 ∧ x = 116) ∨ (wkx x = 5 ∧ x ≠ 102 ∧ x ≠ 108 ∧ x ≠ 114 ∧ x ≠ 116) := by
  unfold wkx
  by_cases a1 : x = 102
  · rw [if_pos a1]; exact Or.inl ⟨rfl, a1⟩
  · rw [if_neg a1]
    by_cases a2 : x = 108
    · rw [if_pos a2]; exact Or.inr (Or.inl ⟨rfl, a2⟩)
    · rw [if_neg a2]
      by_cases a3 : x = 114
      · rw [if_pos a3]; exact Or.inr (Or.inr (Or.inl ⟨rfl, a3⟩))
      · rw [if_neg a3]
        by_cases a4 : x = 116
        · rw [if_pos a4]; exact Or.inr (Or.inr (Or.inr (Or.inl ⟨rfl, a4⟩)))
        · rw [if_neg a4]; exact Or.inr (Or.inr (Or.inr (Or.inr ⟨rfl, a1, a2, a3, a4⟩)))
theorem s5c {d : Nat} {I : FI} {x : Int32} : dn (d + 1) 5 [vI x] (hp I L w) = some (some (vR 1926 (wkx x)), hp I L w) := by
  rw [e5, b5_0]
  unfold wkx
  by_cases a1 : x = 102
  · rw [if_pos a1, if_pos a1]
  · rw [if_neg a1, if_neg a1]
    by_cases a2 : x = 108
    · rw [if_pos a2, if_pos a2]
    · rw [if_neg a2, if_neg a2]
      by_cases a3 : x = 114
      · rw [if_pos a3, if_pos a3]
      · rw [if_neg a3, if_neg a3]
        by_cases a4 : x = 116
        · rw [if_pos a4, if_pos a4]
        · rw [if_neg a4, if_neg a4]
/-- a word that is taken begins so -/
theorem rdW_s {nx : Nat → Int32} {p : Nat} (h : (rdW nx (SBk (wkx (nx p))) p).1 = true) (h5 : wkx (nx p) = 5) : nx p = 115 := by
  rw [h5] at h
  have e : rdW nx (SBk 5) p = if nx p = 115 then rdW nx [105, 110, 107, 32] (p + 1) else (false, p) := rfl
  rw [e] at h
  by_cases q : nx p = 115
  · exact q
  · rw [if_neg q] at h; cases h
theorem c6 (hn : n ≤ 100) (hb : TB7 tx n) {d p : Nat} {H : FI} {cs : List Cl} (hC : CT tx n H) (hp' : H 32 0 2 = c p) (hpn : p ≤ n) (hE : encT H T cs) (hl : (flat cs).length ≤ p) : ∃ H', frT T H H' ∧ H' 32 0 2 = c (rdC (nxF tx n) p).2.1 ∧ p ≤ (rdC (nxF tx n) p).2.1 ∧ (rdC (nxF tx n) p).2.1 ≤ n ∧ ((rdC (nxF tx n) p).1 = true → encT H' T (cs ++ [(rdC (nxF tx n) p).2.2]) ∧ (flat (cs ++ [(rdC (nxF tx n) p).2.2])).length ≤ (rdC (nxF tx n) p).2.1) ∧ dn (d + 30) 6 [vR 32 0, vR 6288 T] (hp H L w) = some (some (vI (if (rdC (nxF tx n) p).1 = true then 1 else 0)), hp H' L w) := by
  have hk7 := wkx_7 (x := nxF tx n p)
  have hSB := SB_ok _ hk7
  obtain ⟨w1, w2, w3⟩ := rdW_b (nx := nxF tx n) nxF_n (SBk (wkx (nxF tx n p))) p hSB.1 hpn
  obtain ⟨H1, f1, f2, f3, f4⟩ := s4c (d := d + 24) (L := L) (w := w) (T := T) hn hk7 hC hp' hpn
  have hC1 := CT_fr hC f1
  have hE1 := encT_p hE f2
  obtain ⟨H2, g1, g2, g3, g4, g5⟩ := s7c (d := d + 27) (L := L) (w := w) (T := T) hn hC1 f3 w2
  obtain ⟨r1, r2, r3⟩ := rdN_b (nx := nxF tx n) nxF_n w2
  have hC2 := CT_fr hC1 g1
  have hE2 := encT_p hE1 g2
  have hws := rdW_s (nx := nxF tx n) (p := p)
  have eC : rdC (nxF tx n) p = if (rdW (nxF tx n) (SBk (wkx (nxF tx n p))) p).1 = true then
    (if (rdN (nxF tx n) (rdW (nxF tx n) (SBk (wkx (nxF tx n p))) p).2).1 = true then
      (if wkx (nxF tx n p) = 1 ∨ wkx (nxF tx n p) = 5 then
        (if nxF tx n (rdN (nxF tx n) (rdW (nxF tx n) (SBk (wkx (nxF tx n p))) p).2).2.1 = 32 then
          (if (rdE (nxF tx n) 4 ((rdN (nxF tx n) (rdW (nxF tx n) (SBk (wkx (nxF tx n p))) p).2).2.1 + 1) []).1 = true then
            (true, (rdE (nxF tx n) 4 ((rdN (nxF tx n) (rdW (nxF tx n) (SBk (wkx (nxF tx n p))) p).2).2.1 + 1) []).2.1, (wdx (wkx (nxF tx n p)), (rdN (nxF tx n) (rdW (nxF tx n) (SBk (wkx (nxF tx n p))) p).2).2.2, (rdE (nxF tx n) 4 ((rdN (nxF tx n) (rdW (nxF tx n) (SBk (wkx (nxF tx n p))) p).2).2.1 + 1) []).2.2))
          else (false, (rdE (nxF tx n) 4 ((rdN (nxF tx n) (rdW (nxF tx n) (SBk (wkx (nxF tx n p))) p).2).2.1 + 1) []).2.1, (0, 0, [])))
        else (false, (rdN (nxF tx n) (rdW (nxF tx n) (SBk (wkx (nxF tx n p))) p).2).2.1, (0, 0, [])))
      else (true, (rdN (nxF tx n) (rdW (nxF tx n) (SBk (wkx (nxF tx n p))) p).2).2.1, (wdx (wkx (nxF tx n p)), (rdN (nxF tx n) (rdW (nxF tx n) (SBk (wkx (nxF tx n p))) p).2).2.2, [])))
    else (false, (rdN (nxF tx n) (rdW (nxF tx n) (SBk (wkx (nxF tx n p))) p).2).2.1, (0, 0, [])))
  else (false, (rdW (nxF tx n) (SBk (wkx (nxF tx n p))) p).2, (0, 0, [])) := rfl
  generalize hW : rdW (nxF tx n) (SBk (wkx (nxF tx n p))) p = W at *
  generalize hN : rdN (nxF tx n) W.2 = N at *
  have P : ∀ o, (if W.1 = true then bn (dn (d + 29) 7 [vR 32 0] (hp H1 L w)) (fun v h' => rn none (dn (d + 29)) 6 20 [some (vR 32 0), some (vR 6288 T), some (vI (nxF tx n p)), none] (psh v []) h') else some (some (vI 0), hp H1 L w)) = o → dn (d + 30) 6 [vR 32 0, vR 6288 T] (hp H L w) = o := by
    intro o ho
    rw [e6, b6_0, s2c hn hC hp' (by omega), bn_s]
    show rn none _ 6 4 _ [vI _] _ = _
    rw [b6_4, s5c, bn_s]
    show rn none _ 6 10 _ [vR _ _, vR _ _] _ = _
    rw [b6_10, show dn (d + 29) 4 = dn (d + 24 + 5) 4 from rfl, f4, bn_s]
    show rn none _ 6 13 _ [vI _] _ = _
    rw [b6_13, if10]
    exact ho
  rw [eC]
  by_cases a : W.1 = true
  · by_cases b : N.1 = true
    · obtain ⟨r4, r5⟩ := r3 b
      have g4' := g4 b
      have hw5 := hSB.2.2.2
      have w3' := w3 a
      by_cases e : wkx (nxF tx n p) = 1 ∨ wkx (nxF tx n p) = 5
      · -- sink and float
        have hx : nxF tx n p = 102 ∨ nxF tx n p = 115 := by
          rcases wkx_w (x := nxF tx n p) with q | q | q | q | q
          · exact Or.inl q.2
          · omega
          · omega
          · omega
          · exact Or.inr (hws a q.1)
        have P2 : ∀ o, (if nxF tx n N.2.1 = 32 then bn (dn (d + 29) 8 [vR 32 0, vR 6288 T, vI 0, vI 0] (hp (uI H2 32 0 2 (c (N.2.1 + 1))) L w)) (fun v h' => rn none (dn (d + 29)) 6 125 [some (vR 32 0), some (vR 6288 T), some (vI (nxF tx n p)), some (vI (if nxF tx n p = 115 then c N.2.2 else -(c N.2.2)))] (psh v []) h') else some (some (vI 0), hp H2 L w)) = o → dn (d + 30) 6 [vR 32 0, vR 6288 T] (hp H L w) = o := by
          intro o ho
          refine P o ?_
          rw [if_pos a, show dn (d + 29) 7 = dn (d + 27 + 2) 7 from rfl, g5, bn_s]
          show rn none _ 6 20 _ [vI _] _ = _
          rw [b6_20, if10, if_pos b, g4', show dn (d + 29) 3 = dn (d + 27 + 2) 3 from rfl, s3c hn hC2 g3 (by omega)]
          have n1 : ¬ nxF tx n p = 108 := by rcases hx with q | q <;> rw [q] <;> decide
          have n2 : ¬ nxF tx n p = 114 := by rcases hx with q | q <;> rw [q] <;> decide
          have n3 : ¬ nxF tx n p = 116 := by rcases hx with q | q <;> rw [q] <;> decide
          rw [if_neg n1, if_neg n2, if_neg n3, ← ho]
          by_cases q : nxF tx n N.2.1 = 32
          · rw [if_pos q, if_pos q, bn_s, bn_s]
            by_cases s : nxF tx n p = 115
            · rw [if_pos s, if_pos s]
              show rn none _ 6 115 _ [vI _] _ = _
              rw [b6_115, if_neg (show ¬ (1 : Int32) = 0 from by decide)]
            · rw [if_neg s, if_neg s]
              show rn none _ 6 115 _ [vI _] _ = _
              rw [b6_115, if_neg (show ¬ (1 : Int32) = 0 from by decide)]
          · rw [if_neg q, if_neg q, bn_s, bn_s]
            by_cases s : nxF tx n p = 115
            · rw [if_pos s]
              show rn none _ 6 115 _ [vI _] _ = _
              rw [b6_115, if_pos rfl]
            · rw [if_neg s]
              show rn none _ 6 115 _ [vI _] _ = _
              rw [b6_115, if_pos rfl]
        rw [if_pos a, if_pos b, if_pos e]
        by_cases q : nxF tx n N.2.1 = 32
        · have hpn1 := nx_lt (nx := nxF tx n) nxF_n q (by decide)
          have hC3 : CT tx n (uI H2 32 0 2 (c (N.2.1 + 1))) := CT_fr (T := T) hC2 (fr_pl (by omega))
          have hE3 : encT (uI H2 32 0 2 (c (N.2.1 + 1))) T cs := encT_p hE2 (fun t k j ht => uI_t ht)
          obtain ⟨H4, k1, k2, k3, k4⟩ := c8E (A := flat cs) hn hb (d + 1) L w (uI H2 32 0 2 (c (N.2.1 + 1))) (N.2.1 + 1) [] hC3 uI_e (by omega) (by rw [show (flat cs) ++ ([] : List Tk).map tk = flat cs from List.append_nil _]; exact hE3.1) (by show (flat cs).length + 0 ≤ _; omega)
          have hgE : Gd n (rdE (nxF tx n) 4) := lvP_g nxF_n (by decide) (lvP_g nxF_n (by decide) (rdF_g nxF_n 4))
          obtain ⟨h1, h2, h3⟩ := hgE (N.2.1 + 1) [] (by omega)
          have k4' : dn (d + 29) 8 [vR 32 0, vR 6288 T, vI 0, vI 0] (hp (uI H2 32 0 2 (c (N.2.1 + 1))) L w) = some (some (vI (if (rdE (nxF tx n) 4 (N.2.1 + 1) []).1 = true then 1 else 0)), hp H4 L w) := k4
          generalize hEE : rdE (nxF tx n) 4 (N.2.1 + 1) [] = EE at *
          have hfr4 : frT T H H4 := frC_T (((f1.tr g1).tr (fr_pl (by omega))).tr k1)
          rw [if_pos q]
          by_cases z : EE.1 = true
          · obtain ⟨h4, h5⟩ := h3 z
            have h6 := h5 ((flat cs).length + 2) (by show 0 + _ ≤ _; omega)
            have hE4 := k3 z
            have S := s19c (d := d + 28) (L := L) (w := w) hE4 (by rw [len_m]; omega) (a := ((4, 0, 0, if nxF tx n p = 115 then c N.2.2 else -(c N.2.2)) : TkI))
            have S' : dn (d + 29) 19 [vR 6288 T, vI 4, vI 0, vI 0, vI (if nxF tx n p = 115 then c N.2.2 else -(c N.2.2))] (hp H4 L w) = some (none, hp (stpF H4 T (flat cs ++ EE.2.2.map tk).length (4, 0, 0, if nxF tx n p = 115 then c N.2.2 else -(c N.2.2))) L w) := S
            have hE5 := enc_s hE4 (a := ((4, 0, 0, if nxF tx n p = 115 then c N.2.2 else -(c N.2.2)) : TkI))
            have efl : flat (cs ++ [(wdx (wkx (nxF tx n p)), N.2.2, EE.2.2)]) = (flat cs ++ EE.2.2.map tk) ++ [(4, 0, 0, if nxF tx n p = 115 then c N.2.2 else -(c N.2.2))] := by
              rw [flat_s, List.append_assoc]
              congr 1
              unfold flC
              rcases hx with hx | hx
              · rw [show wdx (wkx (nxF tx n p)) = 1 from by rw [hx]; rfl, if_neg (show ¬ nxF tx n p = 115 from by rw [hx]; decide)]
                rfl
              · rw [show wdx (wkx (nxF tx n p)) = 0 from by rw [hx]; rfl, if_pos hx]
                rfl
            have hwd : ¬ wdx (wkx (nxF tx n p)) = 2 ∧ ¬ wdx (wkx (nxF tx n p)) = 3 ∧ ¬ wdx (wkx (nxF tx n p)) = 4 := by
              rcases hx with hx | hx <;> rw [hx] <;> decide
            have hst : ∀ j, j < 3 → stpF H4 T (flat cs ++ EE.2.2.map tk).length (4, 0, 0, if nxF tx n p = 115 then c N.2.2 else -(c N.2.2)) 6288 T j = H4 6288 T j := fun j hj => by
              unfold stpF
              rw [uI_j (by omega), uI_t (by omega), uI_t (by omega), uI_t (by omega), uI_t (by omega)]
            have hk6 : ∀ j, j < 3 → H4 6288 T j = H2 6288 T j := fun j hj => by
              rw [k1 6288 T j (by omega) (by omega), uI_t (by omega)]
            refine ⟨stpF H4 T (flat cs ++ EE.2.2.map tk).length (4, 0, 0, if nxF tx n p = 115 then c N.2.2 else -(c N.2.2)), hfr4.tr (frC_T stpF_fr), ?_, ?_, ?_, fun _ => ⟨⟨?_, ?_, ?_, ?_⟩, ?_⟩, P2 _ ?_⟩
            · rw [if_pos z, stpF_p]; exact k2
            · rw [if_pos z]; show p ≤ EE.2.1; omega
            · rw [if_pos z]; exact h2
            · rw [if_pos z, efl]; exact hE5
            · rw [if_pos z, lcw_s, if_neg hwd.1, hst 0 (by omega), hk6 0 (by omega)]; exact hE2.2.1
            · rw [if_pos z, lcw_s, if_neg hwd.2.1, hst 1 (by omega), hk6 1 (by omega)]; exact hE2.2.2.1
            · rw [if_pos z, lcw_s, if_neg hwd.2.2, hst 2 (by omega), hk6 2 (by omega)]; exact hE2.2.2.2
            · rw [if_pos z, efl, List.length_append, len_m]
              show (flat cs).length + EE.2.2.length + 1 ≤ EE.2.1
              omega
            · rw [if_pos q, k4', bn_s]
              show rn none _ 6 125 _ [vI _] _ = _
              rw [b6_125, if10, if_pos z, if_pos z, S', bn_s]
              show rn none _ 6 138 _ [] _ = _
              rw [b6_138]
              rfl
          · refine ⟨H4, hfr4, ?_, ?_, ?_, ?_, P2 _ ?_⟩
            · rw [if_neg z]; exact k2
            · rw [if_neg z]; show p ≤ EE.2.1; omega
            · rw [if_neg z]; exact h2
            · rw [if_neg z]; intro y; cases y
            · rw [if_pos q, k4', bn_s]
              show rn none _ 6 125 _ [vI _] _ = _
              rw [b6_125, if10, if_neg z, if_neg z]
              rfl
        · refine ⟨H2, frC_T (f1.tr g1), ?_, ?_, ?_, ?_, P2 _ ?_⟩
          · rw [if_neg q]; exact g3
          · rw [if_neg q]; show p ≤ N.2.1; omega
          · rw [if_neg q]; exact r2
          · rw [if_neg q]; intro y; cases y
          · rw [if_neg q, if_neg q]; rfl
      · -- reach, tide, lift
        have hcase : (nxF tx n p = 108 ∧ wdx (wkx (nxF tx n p)) = 4) ∨ (nxF tx n p = 114 ∧ wdx (wkx (nxF tx n p)) = 2) ∨ (nxF tx n p = 116 ∧ wdx (wkx (nxF tx n p)) = 3) := by
          rcases wkx_w (x := nxF tx n p) with q | q | q | q | q
          · omega
          · exact Or.inl ⟨q.2, by rw [q.1]; rfl⟩
          · exact Or.inr (Or.inl ⟨q.2, by rw [q.1]; rfl⟩)
          · exact Or.inr (Or.inr ⟨q.2, by rw [q.1]; rfl⟩)
          · omega
        have hJ : ∃ j, j < 3 ∧ ((j = 2 ∧ nxF tx n p = 108 ∧ wdx (wkx (nxF tx n p)) = 4) ∨ (j = 0 ∧ nxF tx n p = 114 ∧ wdx (wkx (nxF tx n p)) = 2) ∨ (j = 1 ∧ nxF tx n p = 116 ∧ wdx (wkx (nxF tx n p)) = 3)) := by
          rcases hcase with q | q | q
          · exact ⟨2, by omega, Or.inl ⟨rfl, q⟩⟩
          · exact ⟨0, by omega, Or.inr (Or.inl ⟨rfl, q⟩)⟩
          · exact ⟨1, by omega, Or.inr (Or.inr ⟨rfl, q⟩)⟩
        obtain ⟨j, hj3, hj⟩ := hJ
        have efl : flat (cs ++ [(wdx (wkx (nxF tx n p)), N.2.2, [])]) = flat cs := by
          rw [flat_s]
          have : flC (wdx (wkx (nxF tx n p)), N.2.2, []) = [] := by
            unfold flC
            rcases hcase with q | q | q <;> rw [q.2] <;> rfl
          rw [this, List.append_nil]
        rw [if_pos a, if_pos b, if_neg e]
        refine ⟨uI H2 6288 T j (c N.2.2), (frC_T (f1.tr g1)).tr frT_u, ?_, ?_, ?_, fun _ => ⟨⟨?_, ?_, ?_, ?_⟩, ?_⟩, P _ ?_⟩
        · rw [uI_t (by omega)]; exact g3
        · show p ≤ N.2.1; omega
        · exact r2
        · rw [efl]
          refine ⟨by rw [uI_j (by omega)]; exact hE2.1.1, fun i x hx => ?_⟩
          rw [uI_t (by omega), uI_t (by omega), uI_t (by omega), uI_t (by omega)]
          exact hE2.1.2 i x hx
        · rw [lcw_s]
          rcases hj with ⟨rfl, _, q⟩ | ⟨rfl, _, q⟩ | ⟨rfl, _, q⟩
          · rw [q, if_neg (show ¬ ((4 : Nat) = 2) from by decide), uI_j (by omega)]; exact hE2.2.1
          · rw [q, if_pos rfl, uI_e]
          · rw [q, if_neg (show ¬ ((3 : Nat) = 2) from by decide), uI_j (by omega)]; exact hE2.2.1
        · rw [lcw_s]
          rcases hj with ⟨rfl, _, q⟩ | ⟨rfl, _, q⟩ | ⟨rfl, _, q⟩
          · rw [q, if_neg (show ¬ ((4 : Nat) = 3) from by decide), uI_j (by omega)]; exact hE2.2.2.1
          · rw [q, if_neg (show ¬ ((2 : Nat) = 3) from by decide), uI_j (by omega)]; exact hE2.2.2.1
          · rw [q, if_pos rfl, uI_e]
        · rw [lcw_s]
          rcases hj with ⟨rfl, _, q⟩ | ⟨rfl, _, q⟩ | ⟨rfl, _, q⟩
          · rw [q, if_pos rfl, uI_e]
          · rw [q, if_neg (show ¬ ((2 : Nat) = 4) from by decide), uI_j (by omega)]; exact hE2.2.2.2
          · rw [q, if_neg (show ¬ ((3 : Nat) = 4) from by decide), uI_j (by omega)]; exact hE2.2.2.2
        · rw [efl]; show (flat cs).length ≤ N.2.1; omega
        · rw [if_pos a, show dn (d + 29) 7 = dn (d + 27 + 2) 7 from rfl, g5, bn_s]
          show rn none _ 6 20 _ [vI _] _ = _
          rw [b6_20, if10, if_pos b, g4']
          rcases hj with ⟨rfl, q, _⟩ | ⟨rfl, q, _⟩ | ⟨rfl, q, _⟩
          · rw [if_pos q]; rfl
          · rw [if_neg (show ¬ nxF tx n p = 108 from by rw [q]; decide), if_pos q]; rfl
          · rw [if_neg (show ¬ nxF tx n p = 108 from by rw [q]; decide), if_neg (show ¬ nxF tx n p = 114 from by rw [q]; decide), if_pos q]; rfl
    · rw [if_pos a, if_neg b]
      refine ⟨H2, frC_T (f1.tr g1), g3, by show p ≤ N.2.1; omega, r2, (fun y => by cases y), P _ ?_⟩
      rw [if_pos a, show dn (d + 29) 7 = dn (d + 27 + 2) 7 from rfl, g5, bn_s]
      show rn none _ 6 20 _ [vI _] _ = _
      rw [b6_20, if10, if_neg b]
      rfl
  · rw [if_neg a]
    refine ⟨H1, frC_T f1, f3, w1, w2, (fun y => by cases y), P _ ?_⟩
    rw [if_neg a]
    rfl
end P94
