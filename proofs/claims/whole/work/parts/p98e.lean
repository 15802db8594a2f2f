set_option maxHeartbeats 400000
section P98e
variable {L : FL} {w : Nat → Nat} {tx : Nat → Int32} {n f ci : Nat}
def frU (f : Nat) (H H' : FI) : Prop := ∀ t k j, ¬ (t = 14944 ∧ (j = 14 ∨ j = 15 ∨ j = 24 ∨ j = 25 ∨ j = 26)) → t ≠ 207697 → ¬ (t = 1229633 ∧ 100 * f ≤ j ∧ j < 100 * f + 100) → ¬ ((t = 123649 ∨ t = 123665 ∨ t = 123681 ∨ t = 123697) ∧ 10 * f ≤ j ∧ j < 10 * f + 10) → ¬ (t = 13041 ∧ j = f) → H' t k j = H t k j
theorem frU.rf {H : FI} : frU f H H := fun _ _ _ _ _ _ _ _ => rfl
theorem frU.tr {H H' H'' : FI} (h : frU f H H') (h' : frU f H' H'') : frU f H H'' := fun t k j a b d e g => (h' t k j a b d e g).trans (h t k j a b d e g)
theorem frK_U {H H' : FI} (h : frK f H H') : frU f H H' := fun t k j a b d e _ => h t k j a b d e
theorem frU_n {H : FI} {x : Int32} : frU f H (uI H 13041 0 f x) := fun t' k i _ _ _ _ e => by
  unfold uI
  rw [if_neg (fun z => e ⟨by omega, by omega⟩)]
theorem encS_U {H H' : FI} {l : List Tk} (h : encS H f l) (h1 : H' 14944 0 24 = H 14944 0 24) (h2 : ∀ j, H' 1229633 0 j = H 1229633 0 j) : encS H' f l := ⟨h1.trans h.1, fun i a ha => (h2 _).trans (h.2 i a ha)⟩
theorem encK_U {H H' : FI} {cs : List Cl} (h : encK H f cs) (h1 : ∀ t j, (t = 123649 ∨ t = 123665 ∨ t = 123681 ∨ t = 123697) → H' t 0 j = H t 0 j) : encK H' f cs := by
  intro i a ha
  obtain ⟨q1, q2, q3⟩ := h i a ha
  rw [h1 123649 _ (by omega), h1 123665 _ (by omega), h1 123681 _ (by omega), h1 123697 _ (by omega)]
  exact ⟨q1, q2, q3⟩
theorem KS_u {H : FI} {p : Nat} {cs : List Cl} {x : Int32} (h : KS tx n f H p cs) : KS tx n f (uI H 13041 0 f x) p cs := by
  obtain ⟨h1, h2, h3, h4, h5, h6, h7⟩ := h
  have K : ∀ t k j, t ≠ 13041 → uI H 13041 0 f x t k j = H t k j := fun t k j ht => uI_t ht
  exact ⟨⟨(K _ _ _ (by omega)).trans h1.1, fun i hi => (K _ _ _ (by omega)).trans (h1.2 i hi)⟩, fun i hi => (K _ _ _ (by omega)).trans (h2 i hi), (K _ _ _ (by omega)).trans h3, h4, encS_U h5 (K _ _ _ (by omega)) (fun j => K _ _ _ (by omega)), encK_U h6 (fun t j ht => K _ _ _ (by omega)), h7⟩
theorem KS_p {H : FI} {p : Nat} {cs : List Cl} (h : KS tx n f H p cs) (hp' : p + 1 ≤ n) : KS tx n f (uI H 14944 0 14 (c (p + 1))) (p + 1) cs := by
  obtain ⟨h1, h2, h3, h4, h5, h6, h7⟩ := h
  have K : ∀ t k j, ¬ (t = 14944 ∧ j = 14) → uI H 14944 0 14 (c (p + 1)) t k j = H t k j := fun t k j ht => by unfold uI; rw [if_neg (fun z => ht ⟨z.1, z.2.2⟩)]
  exact ⟨⟨(K _ _ _ (by omega)).trans h1.1, fun i hi => (K _ _ _ (by omega)).trans (h1.2 i hi)⟩, fun i hi => (K _ _ _ (by omega)).trans (h2 i hi), uI_e, hp', encS_U h5 (K _ _ _ (by omega)) (fun j => K _ _ _ (by omega)), encK_U h6 (fun t j ht => K _ _ _ (by omega)), by omega⟩
/-- the loop over clauses -/
theorem s139l {d : Nat} (hn : n ≤ 100) (hf6 : f < 6) : ∀ r p cs H, cs.length + (r + 1) = 10 → KS tx n f H p cs → ((rdI (nxF tx n) n (r + 1) p cs).1 = true → ∃ H', frU f H H' ∧ encS H' f (tlF (rdI (nxF tx n) n (r + 1) p cs).2.2) ∧ encK H' f (rdI (nxF tx n) n (r + 1) p cs).2.2 ∧ H' 13041 0 f = c (rdI (nxF tx n) n (r + 1) p cs).2.2.length ∧ (rdI (nxF tx n) n (r + 1) p cs).2.2.length ≤ 10 ∧ (tlF (rdI (nxF tx n) n (r + 1) p cs).2.2).length ≤ 100 ∧ rn none (dn (d + 10)) 139 15 [some (vR 14944 0), some (vI (c f)), some (vI (c cs.length))] [] (hp H L w) = some (some (vI 1), hp H' L w)) ∧ ((rdI (nxF tx n) n (r + 1) p cs).1 = false → ∃ H', frU f H H' ∧ H' 14944 0 14 = c (rdI (nxF tx n) n (r + 1) p cs).2.1 ∧ rn none (dn (d + 10)) 139 15 [some (vR 14944 0), some (vI (c f)), some (vI (c cs.length))] [] (hp H L w) = some (some (vI 0), hp H' L w)) := by
  intro r
  induction r with
  | zero =>
    intro p cs H hr hK
    obtain ⟨k1, k2⟩ := s138 (d := d) (L := L) (w := w) hn hf6 hK (by omega)
    have e : rdI (nxF tx n) n 1 p cs = if (rdC (nxF tx n) p).1 = true then (if 0 ≠ 0 ∧ nxF tx n (rdC (nxF tx n) p).2.1 = 59 then rdI (nxF tx n) n 0 ((rdC (nxF tx n) p).2.1 + 1) (cs ++ [(rdC (nxF tx n) p).2.2]) else (decide ((rdC (nxF tx n) p).2.1 = n), (rdC (nxF tx n) p).2.1, cs ++ [(rdC (nxF tx n) p).2.2])) else (false, (rdC (nxF tx n) p).2.1, cs) := rfl
    rw [e]
    have E10 : (10 : Int32) * c f + c cs.length = c (10 * f + cs.length) := by rw [show (10 : Int32) = c 10 from rfl, ← Int32.ofNat_mul, cq rfl]
    cases a : (rdC (nxF tx n) p).1 with
    | false =>
      obtain ⟨H', f1, f2, f3⟩ := k2 a
      rw [if_neg (by decide)]
      refine ⟨fun z => (by cases z), fun _ => ⟨H', frK_U f1, f2, ?_⟩⟩
      rw [b139_15, E10, f3, bn_s]
      show rn none _ 139 25 _ [vI _] _ = _
      rw [b139_25, if_pos rfl]
    | true =>
      obtain ⟨H', f1, f2, f3⟩ := k1 a
      rw [if_pos rfl, if_neg (by omega)]
      obtain ⟨h1, h2, h3, h4, h5, h6, h7⟩ := id f2
      obtain ⟨q1, q2, q3, q4, q5, q6, q7⟩ := KS_u (x := c (cs.length + 1)) f2
      have hfr := (frK_U f1).tr (frU_n (f := f) (x := c (cs.length + 1)))
      by_cases b : (rdC (nxF tx n) p).2.1 = n
      · rw [decide_eq_true b]
        refine ⟨fun _ => ⟨uI H' 13041 0 f (c (cs.length + 1)), hfr, q5, q6, ?_, ?_, Nat.le_trans h7 (by omega), ?_⟩, fun z => (by cases z)⟩
        · rw [uI_e, List.length_append]; rfl
        · rw [List.length_append]; show cs.length + 1 ≤ 10; omega
        · rw [b139_15, E10, f3, bn_s]
          show rn none _ 139 25 _ [vI _] _ = _
          rw [b139_25, if_neg (show ¬ (1 : Int32) = 0 from by decide), ck_t (vin_c (by omega) (by omega)), if_pos (by rw [h3, h1.1, b]), ix_c (by omega), c_s]
      · rw [decide_eq_false b]
        refine ⟨fun z => (by cases z), fun _ => ⟨uI H' 13041 0 f (c (cs.length + 1)), hfr, q3, ?_⟩⟩
        rw [b139_15, E10, f3, bn_s]
        show rn none _ 139 25 _ [vI _] _ = _
        rw [b139_25, if_neg (show ¬ (1 : Int32) = 0 from by decide), ck_t (vin_c (by omega) (by omega)), if_neg (by rw [h3, h1.1]; exact fun z => b (c_inj (by omega) (by omega) z)), ix_c (by omega), c_s, if_pos (by rw [show cs.length + 1 = 10 by omega]; rfl)]
  | succ r ih =>
    intro p cs H hr hK
    obtain ⟨k1, k2⟩ := s138 (d := d) (L := L) (w := w) hn hf6 hK (by omega)
    have e : rdI (nxF tx n) n (r + 1 + 1) p cs = if (rdC (nxF tx n) p).1 = true then (if r + 1 ≠ 0 ∧ nxF tx n (rdC (nxF tx n) p).2.1 = 59 then rdI (nxF tx n) n (r + 1) ((rdC (nxF tx n) p).2.1 + 1) (cs ++ [(rdC (nxF tx n) p).2.2]) else (decide ((rdC (nxF tx n) p).2.1 = n), (rdC (nxF tx n) p).2.1, cs ++ [(rdC (nxF tx n) p).2.2])) else (false, (rdC (nxF tx n) p).2.1, cs) := rfl
    rw [e]
    have E10 : (10 : Int32) * c f + c cs.length = c (10 * f + cs.length) := by rw [show (10 : Int32) = c 10 from rfl, ← Int32.ofNat_mul, cq rfl]
    cases a : (rdC (nxF tx n) p).1 with
    | false =>
      obtain ⟨H', f1, f2, f3⟩ := k2 a
      rw [if_neg (by decide)]
      refine ⟨fun z => (by cases z), fun _ => ⟨H', frK_U f1, f2, ?_⟩⟩
      rw [b139_15, E10, f3, bn_s]
      show rn none _ 139 25 _ [vI _] _ = _
      rw [b139_25, if_pos rfl]
    | true =>
      obtain ⟨H', f1, f2, f3⟩ := k1 a
      rw [if_pos rfl]
      obtain ⟨h1, h2, h3, h4, h5, h6, h7⟩ := id f2
      have hKu := KS_u (x := c (cs.length + 1)) f2
      obtain ⟨q1, q2, q3, q4, q5, q6, q7⟩ := id hKu
      have hfr := (frK_U f1).tr (frU_n (f := f) (x := c (cs.length + 1)))
      by_cases b : (rdC (nxF tx n) p).2.1 = n
      · rw [if_neg (fun z => by have := z.2; rw [b, nxF_n n (Nat.le_refl _)] at this; exact absurd this (by decide)), decide_eq_true b]
        refine ⟨fun _ => ⟨uI H' 13041 0 f (c (cs.length + 1)), hfr, q5, q6, ?_, ?_, Nat.le_trans h7 (by omega), ?_⟩, fun z => (by cases z)⟩
        · rw [uI_e, List.length_append]; rfl
        · rw [List.length_append]; show cs.length + 1 ≤ 10; omega
        · rw [b139_15, E10, f3, bn_s]
          show rn none _ 139 25 _ [vI _] _ = _
          rw [b139_25, if_neg (show ¬ (1 : Int32) = 0 from by decide), ck_t (vin_c (by omega) (by omega)), if_pos (by rw [h3, h1.1, b]), ix_c (by omega), c_s]
      · rw [decide_eq_false b]
        have hne : ¬ (H' 14944 0 14 = H' 14944 0 13) := by rw [h3, h1.1]; exact fun z => b (c_inj (by omega) (by omega) z)
        have P : ∀ o, bn (dn (d + 10) 127 [vR 14944 0, vI 59] (hp (uI H' 13041 0 f (c (cs.length + 1))) L w)) (fun v h' => rn none (dn (d + 10)) 139 65 [some (vR 14944 0), some (vI (c f)), some (vI (c (cs.length + 1)))] (psh v []) h') = o → rn none (dn (d + 10)) 139 15 [some (vR 14944 0), some (vI (c f)), some (vI (c cs.length))] [] (hp H L w) = o := by
          intro o ho
          rw [b139_15, E10, f3, bn_s]
          show rn none _ 139 25 _ [vI _] _ = _
          rw [b139_25, if_neg (show ¬ (1 : Int32) = 0 from by decide), ck_t (vin_c (by omega) (by omega)), if_neg hne, ix_c (by omega), c_s, if_neg (by rw [show (10 : Int32) = c 10 from rfl]; exact fun z => absurd (c_inj (by omega) (by omega) z) (by omega))]
          exact ho
        have S := s127 (d := d + 8) (L := L) (w := w) (x := 59) hn hKu.1 q3 (by omega)
        by_cases g : nxF tx n (rdC (nxF tx n) p).2.1 = 59
        · rw [if_pos ⟨by omega, g⟩]
          have hpn := nx_lt (nx := nxF tx n) nxF_n g (by decide)
          obtain ⟨i1, i2⟩ := ih ((rdC (nxF tx n) p).2.1 + 1) (cs ++ [(rdC (nxF tx n) p).2.2]) _ (by rw [List.length_append]; show cs.length + 1 + _ = _; omega) (KS_p hKu (by omega))
          have hfr2 : frU f H (uI (uI H' 13041 0 f (c (cs.length + 1))) 14944 0 14 (c ((rdC (nxF tx n) p).2.1 + 1))) := hfr.tr (frK_U (frN_K (fun t k j z => by unfold uI; rw [if_neg (fun y => z ⟨y.1, by omega⟩)])))
          have P2 : ∀ o, rn none (dn (d + 10)) 139 15 [some (vR 14944 0), some (vI (c f)), some (vI (c (cs ++ [(rdC (nxF tx n) p).2.2]).length))] [] (hp (uI (uI H' 13041 0 f (c (cs.length + 1))) 14944 0 14 (c ((rdC (nxF tx n) p).2.1 + 1))) L w) = o → rn none (dn (d + 10)) 139 15 [some (vR 14944 0), some (vI (c f)), some (vI (c cs.length))] [] (hp H L w) = o := by
            intro o ho
            refine P o ?_
            rw [show dn (d + 10) 127 = dn (d + 8 + 2) 127 from rfl, S, if_pos g, bn_s]
            show rn none _ 139 65 _ [vI _] _ = _
            rw [b139_65, if_neg (show ¬ (1 : Int32) = 0 from by decide)]
            rw [List.length_append] at ho
            exact ho
          refine ⟨fun z => ?_, fun z => ?_⟩
          · obtain ⟨H2, m1, m2, m3, m4, m5, m6, m7⟩ := i1 z
            exact ⟨H2, hfr2.tr m1, m2, m3, m4, m5, m6, P2 _ m7⟩
          · obtain ⟨H2, m1, m2, m3⟩ := i2 z
            exact ⟨H2, hfr2.tr m1, m2, P2 _ m3⟩
        · rw [if_neg (fun z => g z.2)]
          refine ⟨fun z => (by cases z), fun _ => ⟨uI H' 13041 0 f (c (cs.length + 1)), hfr, q3, P _ ?_⟩⟩
          rw [show dn (d + 10) 127 = dn (d + 8 + 2) 127 from rfl, S, if_neg g, bn_s]
          show rn none _ 139 65 _ [vI _] _ = _
          rw [b139_65, if_pos rfl]
theorem KS_0 {H : FI} (h1 : MTx tx n H) (h2 : HLt H) : KS tx n f (uI (uI H 14944 0 14 0) 14944 0 24 (c (100 * f))) 0 [] := by
  have K : ∀ t k j, ¬ (t = 14944 ∧ (j = 14 ∨ j = 24)) → uI (uI H 14944 0 14 0) 14944 0 24 (c (100 * f)) t k j = H t k j := fun t k j ht => by unfold uI; rw [if_neg (fun z => ht ⟨z.1, Or.inr z.2.2⟩), if_neg (fun z => ht ⟨z.1, Or.inl z.2.2⟩)]
  refine ⟨⟨(K _ _ _ (by omega)).trans h1.1, fun i hi => (K _ _ _ (by omega)).trans (h1.2 i hi)⟩, fun i hi => (K _ _ _ (by omega)).trans (h2 i hi), ?_, Nat.zero_le _, ⟨uI_e, fun i a ha => (by simp [tlF] at ha)⟩, fun i a ha => (by simp at ha), Nat.le_refl _⟩
  rw [uI_j (by omega), uI_e]; rfl
/-- a town of the reference -/
theorem s140 (hn : n ≤ 100) {H : FI} (h1 : MTx tx n H) (h2 : HLt H) {t : Nat} (ht : t ≤ 6) (hT : H 14944 0 11 = c t) : (t = 6 ∧ dn 60 140 [vR 14944 0] (hp H L w) = some (some (vI (-4)), hp H L w)) ∨ (t < 6 ∧ ∃ H', frU t H H' ∧ (((rdI (nxF tx n) n 10 0 []).1 = true ∧ encS H' t (tlF (rdI (nxF tx n) n 10 0 []).2.2) ∧ encK H' t (rdI (nxF tx n) n 10 0 []).2.2 ∧ H' 13041 0 t = c (rdI (nxF tx n) n 10 0 []).2.2.length ∧ (rdI (nxF tx n) n 10 0 []).2.2.length ≤ 10 ∧ (tlF (rdI (nxF tx n) n 10 0 []).2.2).length ≤ 100 ∧ dn 60 140 [vR 14944 0] (hp H L w) = some (some (vI (c t)), hp (uI (uI (uI H' 14944 0 13 0) 14944 0 12 (c t)) 14944 0 11 (c (t + 1))) L w)) ∨ ((rdI (nxF tx n) n 10 0 []).1 = false ∧ dn 60 140 [vR 14944 0] (hp H L w) = some (some (vI (-10 - c (rdI (nxF tx n) n 10 0 []).2.1)), hp (uI H' 14944 0 13 0) L w)))) := by
  by_cases q : t = 6
  · refine Or.inl ⟨q, ?_⟩
    rw [e140, b140_0, hT, q, if_pos (by decide)]
  · refine Or.inr ⟨by omega, ?_⟩
    obtain ⟨k1, k2⟩ := s139l (f := t) (d := 48) (L := L) (w := w) hn (by omega) 9 0 [] _ rfl (KS_0 h1 h2)
    have hfr0 : frU t H (uI (uI H 14944 0 14 0) 14944 0 24 (c (100 * t))) := fun t' k j z _ _ _ _ => by unfold uI; rw [if_neg (fun y => z ⟨y.1, by omega⟩), if_neg (fun y => z ⟨y.1, by omega⟩)]
    have P : ∀ o, bn (rn none (dn 58) 139 15 [some (vR 14944 0), some (vI (c t)), some (vI (c ([] : List Cl).length))] [] (hp (uI (uI H 14944 0 14 0) 14944 0 24 (c (100 * t))) L w)) (fun v h' => rn none (dn 59) 140 20 [some (vR 14944 0), none] (psh v []) h') = o → dn 60 140 [vR 14944 0] (hp H L w) = o := by
      intro o ho
      rw [e140, b140_0, hT, if_neg (by rw [show (6 : Int32) = c 6 from rfl]; exact fun z => q (c_inj (by omega) (by omega) z)), show dn 59 139 = dn (58 + 1) 139 from rfl, e139, b139_0, show (100 : Int32) * c t = c (100 * t) from by rw [show (100 : Int32) = c 100 from rfl, ← Int32.ofNat_mul]]
      exact ho
    cases a : (rdI (nxF tx n) n 10 0 []).1 with
    | true =>
      obtain ⟨H', f1, f2, f3, f4, f5, f6, f7⟩ := k1 a
      refine ⟨H', hfr0.tr f1, Or.inl ⟨rfl, f2, f3, f4, f5, f6, P _ ?_⟩⟩
      rw [f7, bn_s]
      show rn none _ 140 20 _ [vI _] _ = _
      have e11 : H' 14944 0 11 = c t := by rw [(hfr0.tr f1) _ _ _ (by omega) (by omega) (by omega) (by omega) (by omega), hT]
      have e11' : (uI (uI H' 14944 0 13 0) 14944 0 12 (c t)) 14944 0 11 = c t := by rw [uI_j (by omega), uI_j (by omega), e11]
      have e11'' : (uI H' 14944 0 13 0) 14944 0 11 = c t := by rw [uI_j (by omega), e11]
      rw [b140_20, if_neg (show ¬ (1 : Int32) = 0 from by decide), e11, c_s]
    | false =>
      obtain ⟨H', f1, f2, f3⟩ := k2 a
      refine ⟨H', hfr0.tr f1, Or.inr ⟨rfl, P _ ?_⟩⟩
      rw [f3, bn_s]
      show rn none _ 140 20 _ [vI _] _ = _
      rw [b140_20, if_pos rfl, f2]
end P98e
