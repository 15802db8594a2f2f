set_option maxHeartbeats 400000
section P98d
variable {L : FL} {w : Nat → Nat} {tx : Nat → Int32} {n f ci : Nat}
def frQ (f ci : Nat) (H H' : FI) : Prop := ∀ t k j, ¬ (t = 14944 ∧ (j = 14 ∨ j = 15 ∨ j = 24 ∨ j = 25 ∨ j = 26)) → t ≠ 207697 → ¬ (t = 1229633 ∧ 100 * f ≤ j ∧ j < 100 * f + 100) → ¬ ((t = 123649 ∨ t = 123665 ∨ t = 123681 ∨ t = 123697) ∧ j = ci) → H' t k j = H t k j
theorem frQ.tr {H H' H'' : FI} (h : frQ f ci H H') (h' : frQ f ci H' H'') : frQ f ci H H'' := fun t k j a b d e => (h' t k j a b d e).trans (h t k j a b d e)
theorem frQ_K {H H' : FI} (h : frQ f ci H H') (h1 : 10 * f ≤ ci) (h2 : ci < 10 * f + 10) : frK f H H' := fun t k j a b d e => h t k j a b d (fun z => e ⟨z.1, by omega, by omega⟩)
theorem frN_Q {H H' : FI} (h : frN H H') : frQ f ci H H' := fun t k j a _ _ _ => h t k j (fun z => a ⟨z.1, by omega⟩)
theorem frM_Q {H H' : FI} (h : frM f ci H H') : frQ f ci H H' := fun t k j a b d e => h t k j a b d (fun z => e ⟨by omega, z.2⟩)
theorem frQ_u {H : FI} {t : Nat} {x : Int32} (ht : t = 123649 ∨ t = 123665 ∨ t = 123681 ∨ t = 123697) : frQ f ci H (uI H t 0 ci x) := fun t' k i _ _ _ e => by
  unfold uI
  rw [if_neg (fun z => e ⟨by omega, by omega⟩)]
theorem get_snocC {l : List Cl} {x a : Cl} {i : Nat} (h : (l ++ [x])[i]? = some a) : (i < l.length ∧ l[i]? = some a) ∨ (i = l.length ∧ a = x) := by
  by_cases q : i < l.length
  · rw [List.getElem?_append_left q] at h
    exact Or.inl ⟨q, h⟩
  · rw [List.getElem?_append_right (by omega)] at h
    by_cases e : i = l.length
    · rw [e, Nat.sub_self] at h
      exact Or.inr ⟨e, by simpa using h.symm⟩
    · have : i - l.length = (i - l.length - 1) + 1 := by omega
      rw [this] at h
      simp at h
theorem encK_s {H H' : FI} {cs : List Cl} {a : Cl} (h : encK H f cs) (hq : frQ f (10 * f + cs.length) H H') (h1 : H' 123649 0 (10 * f + cs.length) = c a.1) (h2 : H' 123665 0 (10 * f + cs.length) = c a.2.1) (h3 : a.1 < 2 → H' 123681 0 (10 * f + cs.length) = c (100 * f + (tlF cs).length) ∧ H' 123697 0 (10 * f + cs.length) = c (100 * f + (tlF cs).length + a.2.2.length)) : encK H' f (cs ++ [a]) := by
  intro i b hb
  rcases get_snocC hb with ⟨i1, i2⟩ | ⟨i1, i2⟩
  · obtain ⟨q1, q2, q3⟩ := h i b i2
    have K : ∀ t, (t = 123649 ∨ t = 123665 ∨ t = 123681 ∨ t = 123697) → H' t 0 (10 * f + i) = H t 0 (10 * f + i) := fun t ht => hq _ _ _ (by omega) (by omega) (by omega) (by omega)
    rw [K _ (by omega), K _ (by omega), K _ (by omega), K _ (by omega), List.take_append_of_le_length (by omega)]
    exact ⟨q1, q2, q3⟩
  · rw [i1, i2, List.take_append_of_le_length (Nat.le_refl _), List.take_length]
    exact ⟨h1, h2, h3⟩
/-- how the reference stands before a clause -/
def KS (tx : Nat → Int32) (n f : Nat) (H : FI) (p : Nat) (cs : List Cl) : Prop := MTx tx n H ∧ HLt H ∧ H 14944 0 14 = c p ∧ p ≤ n ∧ encS H f (tlF cs) ∧ encK H f cs ∧ (tlF cs).length ≤ p
theorem s138 {d p : Nat} {H : FI} {cs : List Cl} (hn : n ≤ 100) (hf6 : f < 6) (h : KS tx n f H p cs) (hc : cs.length < 10) : ((rdC (nxF tx n) p).1 = true → ∃ H', frK f H H' ∧ KS tx n f H' (rdC (nxF tx n) p).2.1 (cs ++ [(rdC (nxF tx n) p).2.2]) ∧ dn (d + 10) 138 [vR 14944 0, vI (c (10 * f + cs.length))] (hp H L w) = some (some (vI 1), hp H' L w)) ∧ ((rdC (nxF tx n) p).1 = false → ∃ H', frK f H H' ∧ H' 14944 0 14 = c (rdC (nxF tx n) p).2.1 ∧ dn (d + 10) 138 [vR 14944 0, vI (c (10 * f + cs.length))] (hp H L w) = some (some (vI 0), hp H' L w)) := by
  obtain ⟨h1, h2, h3, h4, h5, h6, h7⟩ := h
  have hci : 10 * f + cs.length < 60 := by omega
  have hk7 := wkx_7 (x := nxF tx n p)
  have hSB := SB_ok _ hk7
  obtain ⟨w1, w2, w3⟩ := rdW_b (nx := nxF tx n) nxF_n (SBk (wkx (nxF tx n p))) p hSB.1 h4
  obtain ⟨H1, wd, f1, f2, f3, f4⟩ := s137 (d := d + 4) (L := L) (w := w) hn hci h1 h2 h3 h4
  have hq1 : frQ f (10 * f + cs.length) H H1 := (frQ_u (by omega)).tr (frN_Q f1)
  have hT1 := MTx_K h1 (frQ_K hq1 (by omega) (by omega))
  have hL1 := HLt_K h2 (frQ_K hq1 (by omega) (by omega))
  obtain ⟨H2, g1, g2, g3, g4⟩ := s130 (d := d + 6) (L := L) (w := w) hn hT1 f2 w2
  obtain ⟨r1, r2, r3⟩ := rdN_b (nx := nxF tx n) nxF_n w2
  have hws := rdW_s (nx := nxF tx n) (p := p)
  have eC : rdC (nxF tx n) p = if (rdW (nxF tx n) (SBk (wkx (nxF tx n p))) p).1 = true then
    (if (rdN (nxF tx n) (rdW (nxF tx n) (SBk (wkx (nxF tx n p))) p).2).1 = true then
      (if wkx (nxF tx n p) = 1 ∨ wkx (nxF tx n p) = 5 then
        (if nxF tx n (rdN (nxF tx n) (rdW (nxF tx n) (SBk (wkx (nxF tx n p))) p).2).2.1 = 32 then
          (if (rdE (nxF tx n) 4 ((rdN (nxF tx n) (rdW (nxF tx n) (SBk (wkx (nxF tx n p))) p).2).2.1 + 1) []).1 = true then
            (true, (rdE (nxF tx n) 4 ((rdN (nxF tx n) (rdW (nxF tx n) (SBk (wkx (nxF tx n p))) p).2).2.1 + 1) []).2.1, (wdx (wkx (nxF tx n p)), (rdN (nxF tx n) (rdW (nxF tx n) (SBk (wkx (nxF tx n p))) p).2).2.2, (rdE (nxF tx n) 4 ((rdN (nxF tx n) (rdW (nxF tx n) (SBk (wkx (nxF tx n p))) p).2).2.1 + 1) []).2.2))
          else (false, (rdE (nxF tx n) 4 ((rdN (nxF tx n) (rdW (nxF tx n) (SBk (wkx (nxF tx n p))) p).2).2.1 + 1) []).2.1, (0, 0, [])))
        else (false, (rdN (nxF tx n) (rdW (nxF tx n) (SBk (wkx (nxF tx n p))) p).2).2.1, (0, 0, [])))
      else (true, (rdN (nxF tx n) (rdW (nxF tx n) (SBk (wkx (nxF tx n p))) p).2).2.1, (wdx (wkx (nxF tx n p)), (rdN (nxF tx n) (rdW (nxF tx n) (SBk (wkx (nxF tx n p))) p).2).2.2, [])))
    else (false, (rdN (nxF tx n) (rdW (nxF tx n) (SBk (wkx (nxF tx n p))) p).2).2.1, (0, 0, [])))
  else (false, (rdW (nxF tx n) (SBk (wkx (nxF tx n p))) p).2, (0, 0, [])) := rfl
  generalize hW : rdW (nxF tx n) (SBk (wkx (nxF tx n p))) p = W at *
  generalize hN : rdN (nxF tx n) W.2 = N at *
  have hq2 : frQ f (10 * f + cs.length) H H2 := hq1.tr (frN_Q g1)
  have P : ∀ o, (if W.1 = true then bn (dn (d + 9) 130 [vR 14944 0] (hp H1 L w)) (fun v h' => rn none (dn (d + 9)) 138 12 [some (vR 14944 0), some (vI (c (10 * f + cs.length)))] (psh v []) h') else some (some (vI 0), hp H1 L w)) = o → dn (d + 10) 138 [vR 14944 0, vI (c (10 * f + cs.length))] (hp H L w) = o := by
    intro o ho
    rw [e138, b138_0, show dn (d + 9) 137 = dn (d + 4 + 5) 137 from rfl, f4, bn_s]
    show rn none _ 138 5 _ [vI _] _ = _
    rw [b138_5, if10]
    exact ho
  rw [eC]
  by_cases a : W.1 = true
  · have hwd := f3 a
    have hw3 := w3 a
    have hw5 := hSB.2.2.2
    have h649 : H2 123649 0 (10 * f + cs.length) = c wd := by
      rw [g1 _ _ _ (by omega), f1 _ _ _ (by omega), uI_e]
    by_cases b : N.1 = true
    · obtain ⟨r4, r5⟩ := r3 b
      have hS2 : encS H2 f (tlF cs) := by
        refine encS_p h5 ?_ (fun j => ?_)
        · rw [g1 _ _ _ (by omega), f1 _ _ _ (by omega), uI_t (by omega)]
        · rw [g1 _ _ _ (by omega), f1 _ _ _ (by omega), uI_t (by omega)]
      have hT2 := MTx_K h1 (frQ_K hq2 (by omega) (by omega))
      have hL2 := HLt_K h2 (frQ_K hq2 (by omega) (by omega))
      have P2 : ∀ o, (if c wd < 2 then bn (dn (d + 9) 127 [vR 14944 0, vI 32] (hp (uI H2 123665 0 (10 * f + cs.length) (c N.2.2)) L w)) (fun v h' => rn none (dn (d + 9)) 138 43 [some (vR 14944 0), some (vI (c (10 * f + cs.length)))] (psh v []) h') else some (some (vI 1), hp (uI H2 123665 0 (10 * f + cs.length) (c N.2.2)) L w)) = o → dn (d + 10) 138 [vR 14944 0, vI (c (10 * f + cs.length))] (hp H L w) = o := by
        intro o ho
        refine P o ?_
        have v := vin_c hci (show 60 < 2147483648 by omega)
        rw [if_pos a, show dn (d + 9) 130 = dn (d + 6 + 3) 130 from rfl, g4, bn_s]
        show rn none _ 138 12 _ [vI _] _ = _
        rw [b138_12, if10, if_pos b, ck_t v, ck_t v, ix_c (by omega), h649, g3 b]
        exact ho
      have hq3 : frQ f (10 * f + cs.length) H (uI H2 123665 0 (10 * f + cs.length) (c N.2.2)) := hq2.tr (frQ_u (by omega))
      have hT3 := MTx_K h1 (frQ_K hq3 (by omega) (by omega))
      have hL3 := HLt_K h2 (frQ_K hq3 (by omega) (by omega))
      have hS3 : encS (uI H2 123665 0 (10 * f + cs.length) (c N.2.2)) f (tlF cs) := encS_p hS2 (uI_t (by omega)) (fun j => uI_t (by omega))
      have e14 : (uI H2 123665 0 (10 * f + cs.length) (c N.2.2)) 14944 0 14 = c N.2.1 := by rw [uI_t (by omega)]; exact g2
      by_cases e : wkx (nxF tx n p) = 1 ∨ wkx (nxF tx n p) = 5
      · have hw2 : wdx (wkx (nxF tx n p)) < 2 := by rcases e with e | e <;> rw [e] <;> decide
        rw [if_pos a, if_pos b, if_pos e]
        have hlt : c wd < 2 := by rw [hwd]; exact tq_gt (b := 2) hw2 (by omega)
        by_cases q : nxF tx n N.2.1 = 32
        · have hpn1 := nx_lt (nx := nxF tx n) nxF_n q (by decide)
          have hq4 : frQ f (10 * f + cs.length) H (uI (uI H2 123665 0 (10 * f + cs.length) (c N.2.2)) 14944 0 14 (c (N.2.1 + 1))) := hq3.tr (frN_Q (fun t k j hh => by unfold uI; rw [if_neg (fun z => hh ⟨z.1, by omega⟩)]))
          have hT4 := MTx_K h1 (frQ_K hq4 (by omega) (by omega))
          obtain ⟨k1, k2⟩ := s136 (d := d) (L := L) (w := w) hn hf6 hci hT4 uI_e (show N.2.1 + 1 ≤ n by omega) (encS_p hS3 (uI_j (by omega)) (fun j => uI_t (by omega))) (show (tlF cs).length ≤ N.2.1 + 1 by omega)
          have hgE : Gd n (rdE (nxF tx n) 4) := lvP_g nxF_n (by decide) (lvP_g nxF_n (by decide) (rdF_g nxF_n 4))
          obtain ⟨t1, t2, t3⟩ := hgE (N.2.1 + 1) [] (by omega)
          rw [if_pos q]
          have P3 : ∀ o, bn (dn (d + 9) 136 [vR 14944 0, vI (c (10 * f + cs.length))] (hp (uI (uI H2 123665 0 (10 * f + cs.length) (c N.2.2)) 14944 0 14 (c (N.2.1 + 1))) L w)) (fun v h' => rn none (dn (d + 9)) 138 51 [some (vR 14944 0), some (vI (c (10 * f + cs.length)))] (psh v []) h') = o → dn (d + 10) 138 [vR 14944 0, vI (c (10 * f + cs.length))] (hp H L w) = o := by
            intro o ho
            refine P2 o ?_
            rw [if_pos hlt, show dn (d + 9) 127 = dn (d + 7 + 2) 127 from rfl, s127 hn hT3 e14 (by omega), if_pos q, bn_s]
            show rn none _ 138 43 _ [vI _] _ = _
            rw [b138_43, if_neg (show ¬ (1 : Int32) = 0 from by decide)]
            exact ho
          by_cases z : (rdE (nxF tx n) 4 (N.2.1 + 1) []).1 = true
          · obtain ⟨H5, m1, m2, m3, m4, m5⟩ := k1 z
            obtain ⟨t4, t5⟩ := t3 z
            have t6 := t5 (tlF cs).length (by show 0 + _ ≤ _; omega)
            have hq5 : frQ f (10 * f + cs.length) H H5 := (hq4.tr (frQ_u (by omega))).tr (frM_Q m1)
            rw [if_pos z]
            refine ⟨fun _ => ⟨H5, frQ_K hq5 (by omega) (by omega), ⟨MTx_K h1 (frQ_K hq5 (by omega) (by omega)), HLt_K h2 (frQ_K hq5 (by omega) (by omega)), m2, t2, ?_, ?_, ?_⟩, P3 _ ?_⟩, fun y => (by cases y)⟩
            · rw [tlF_s]; exact m3
            · refine encK_s h6 hq5 ?_ ?_ (fun _ => ⟨?_, m4⟩)
              · rw [m1 _ _ _ (by omega) (by omega) (by omega) (by omega), uI_t (by omega), uI_t (by omega), uI_t (by omega), h649, hwd]
              · rw [m1 _ _ _ (by omega) (by omega) (by omega) (by omega), uI_t (by omega), uI_t (by omega), uI_e]
              · rw [m1 _ _ _ (by omega) (by omega) (by omega) (by omega), uI_e]
            · rw [tlF_s, List.length_append]
              show (tlF cs).length + (rdE (nxF tx n) 4 (N.2.1 + 1) []).2.2.length ≤ (rdE (nxF tx n) 4 (N.2.1 + 1) []).2.1
              omega
            · rw [m5, bn_s]
              show rn none _ 138 51 _ [vI _] _ = _
              rw [b138_51, if_neg (show ¬ (1 : Int32) = 0 from by decide)]
          · have zf : (rdE (nxF tx n) 4 (N.2.1 + 1) []).1 = false := by cases hb : (rdE (nxF tx n) 4 (N.2.1 + 1) []).1 with | true => exact absurd hb z | false => rfl
            obtain ⟨H5, m1, m2, m3⟩ := k2 zf
            have hq5 : frQ f (10 * f + cs.length) H H5 := (hq4.tr (frQ_u (by omega))).tr (frM_Q m1)
            rw [if_neg z]
            refine ⟨fun y => (by cases y), fun _ => ⟨H5, frQ_K hq5 (by omega) (by omega), m2, P3 _ ?_⟩⟩
            rw [m3, bn_s]
            show rn none _ 138 51 _ [vI _] _ = _
            rw [b138_51, if_pos rfl]
        · rw [if_neg q]
          refine ⟨fun y => (by cases y), fun _ => ⟨uI H2 123665 0 (10 * f + cs.length) (c N.2.2), frQ_K hq3 (by omega) (by omega), e14, P2 _ ?_⟩⟩
          rw [if_pos hlt, show dn (d + 9) 127 = dn (d + 7 + 2) 127 from rfl, s127 hn hT3 e14 (by omega), if_neg q, bn_s]
          show rn none _ 138 43 _ [vI _] _ = _
          rw [b138_43, if_pos rfl]
      · have hw2 : 2 ≤ wdx (wkx (nxF tx n p)) := by
          rcases wkx_w (x := nxF tx n p) with q | q | q | q | q
          · exact absurd (Or.inl q.1) e
          · rw [q.1]; decide
          · rw [q.1]; decide
          · rw [q.1]; decide
          · exact absurd (Or.inr q.1) e
        have hw7 : wdx (wkx (nxF tx n p)) < 7 := by
          unfold wdx
          repeat' split
          all_goals omega
        rw [if_pos a, if_pos b, if_neg e]
        refine ⟨fun _ => ⟨uI H2 123665 0 (10 * f + cs.length) (c N.2.2), frQ_K hq3 (by omega) (by omega), ⟨hT3, hL3, e14, r2, ?_, ?_, ?_⟩, P2 _ ?_⟩, fun y => (by cases y)⟩
        · rw [tlF_s, show ((wdx (wkx (nxF tx n p)), N.2.2, []) : Cl).2.2 = [] from rfl, List.append_nil]; exact hS3
        · refine encK_s h6 hq3 ?_ uI_e (fun y => ?_)
          · rw [uI_t (by omega), h649, hwd]
          · have y : wdx (wkx (nxF tx n p)) < 2 := y
            omega
        · rw [tlF_s, show ((wdx (wkx (nxF tx n p)), N.2.2, []) : Cl).2.2 = [] from rfl, List.append_nil]
          show (tlF cs).length ≤ N.2.1
          omega
        · rw [hwd, if_neg (show ¬ c (wdx (wkx (nxF tx n p))) < 2 from tq_ng (b := 2) hw2 (by omega))]
    · rw [if_pos a, if_neg b]
      refine ⟨fun y => (by cases y), fun _ => ⟨H2, frQ_K hq2 (by omega) (by omega), g2, P _ ?_⟩⟩
      rw [if_pos a, show dn (d + 9) 130 = dn (d + 6 + 3) 130 from rfl, g4, bn_s]
      show rn none _ 138 12 _ [vI _] _ = _
      rw [b138_12, if10, if_neg b]
  · rw [if_neg a]
    refine ⟨fun y => (by cases y), fun _ => ⟨H1, frQ_K hq1 (by omega) (by omega), f2, P _ ?_⟩⟩
    rw [if_neg a]
end P98d
