set_option maxHeartbeats 400000
section P95
variable {L : FL} {w : Nat → Nat} {tx : Nat → Int32} {n T : Nat}
theorem l1c (hn : n ≤ 100) (hb : TB7 tx n) {d : Nat} : ∀ r i H p cs, i + r = 10 → 0 < r → CT tx n H → H 32 0 2 = c p → p ≤ n → encT H T cs → (flat cs).length ≤ p → ∃ H', frT T H H' ∧ H' 32 0 2 = c (rdI (nxF tx n) n r p cs).2.1 ∧ (rdI (nxF tx n) n r p cs).2.1 ≤ n ∧ ((rdI (nxF tx n) n r p cs).1 = true → encT H' T (rdI (nxF tx n) n r p cs).2.2 ∧ (flat (rdI (nxF tx n) n r p cs).2.2).length ≤ 100 ∧ (rdI (nxF tx n) n r p cs).2.2.length ≤ cs.length + r) ∧ rn none (dn (d + 30)) 1 11 [some (vR 32 0), some (vR 6288 T), some (vI (c i))] [] (hp H L w) = some (some (vI (if (rdI (nxF tx n) n r p cs).1 = true then 1 else 0)), hp H' L w) := by
  intro r
  induction r with
  | zero => intro i H p cs _ h; omega
  | succ r ih =>
    intro i H p cs hi _ hC hp' hpn hE hl
    obtain ⟨H1, f1, f2, f3, f4, f5, f6⟩ := c6 (d := d) (L := L) (w := w) hn hb hC hp' hpn hE hl
    have hC1 := CT_frT hC f1
    have e : rdI (nxF tx n) n (r + 1) p cs = if (rdC (nxF tx n) p).1 = true then (if r ≠ 0 ∧ nxF tx n (rdC (nxF tx n) p).2.1 = 59 then rdI (nxF tx n) n r ((rdC (nxF tx n) p).2.1 + 1) (cs ++ [(rdC (nxF tx n) p).2.2]) else (decide ((rdC (nxF tx n) p).2.1 = n), (rdC (nxF tx n) p).2.1, cs ++ [(rdC (nxF tx n) p).2.2])) else (false, (rdC (nxF tx n) p).2.1, cs) := rfl
    generalize hCC : rdC (nxF tx n) p = C at *
    rw [e, b1_11, f6, bn_s]
    show ∃ H', _ ∧ _ ∧ _ ∧ _ ∧ rn none _ 1 16 _ [vI _] _ = _
    rw [b1_16, if10, c_s]
    by_cases a : C.1 = true
    · obtain ⟨k1, k2⟩ := f5 a
      have fin : ¬ (r ≠ 0 ∧ nxF tx n C.2.1 = 59) → (if r ≠ 0 ∧ nxF tx n C.2.1 = 59 then rdI (nxF tx n) n r (C.2.1 + 1) (cs ++ [C.2.2]) else (decide (C.2.1 = n), C.2.1, cs ++ [C.2.2])) = (decide (C.2.1 = n), C.2.1, cs ++ [C.2.2]) := fun z => if_neg z
      have eend : (if H1 32 0 2 = H1 32 0 1 then some (some (vI 1), hp H1 L w) else some (some (vI 0), hp H1 L w)) = some (some (vI (if decide (C.2.1 = n) = true then 1 else 0)), hp H1 L w) := by
        rw [f2, hC1.1]
        by_cases q : C.2.1 = n
        · rw [if_pos (by rw [q]), if_pos (decide_eq_true q)]
        · rw [if_neg (tq_ne q (by omega) (by omega)), if_neg (by rw [decide_eq_false q]; decide)]
      rw [if_pos a, if_pos a]
      by_cases hr : r = 0
      · have hno : ¬ (r ≠ 0 ∧ nxF tx n C.2.1 = 59) := fun z => z.1 hr
        refine ⟨H1, f1, ?_, ?_, ?_, ?_⟩
        · rw [fin hno]; exact f2
        · rw [fin hno]; exact f4
        · rw [fin hno]; exact fun _ => ⟨k1, by show (flat (cs ++ [C.2.2])).length ≤ 100; omega, by show (cs ++ [C.2.2]).length ≤ _; rw [List.length_append, List.length_cons, List.length_nil]; omega⟩
        · rw [fin hno, if_neg (show ¬ c (i + 1) < 10 from tq_ng (b := 10) (by omega) (by omega))]
          exact eend
      · rw [if_pos (show c (i + 1) < 10 from tq_gt (b := 10) (by omega) (by omega)), show dn (d + 30) 3 = dn (d + 28 + 2) 3 from rfl, s3c hn hC1 f2 (by omega)]
        by_cases q : nxF tx n C.2.1 = 59
        · have hpn1 := nx_lt (nx := nxF tx n) nxF_n q (by decide)
          obtain ⟨H', i1, i2, i3, i4, i5⟩ := ih (i + 1) (uI H1 32 0 2 (c (C.2.1 + 1))) (C.2.1 + 1) (cs ++ [C.2.2]) (by omega) (by omega) (CT_fr (T := T) hC1 (fr_pl (by omega))) uI_e (by omega) (encT_p k1 (fun t k j ht => uI_t ht)) (by omega)
          refine ⟨H', (f1.tr (frC_T (fr_pl (by omega)))).tr i1, ?_, ?_, ?_, ?_⟩
          · rw [if_pos ⟨hr, q⟩]; exact i2
          · rw [if_pos ⟨hr, q⟩]; exact i3
          · rw [if_pos ⟨hr, q⟩]
            intro z
            obtain ⟨j1, j2, j3⟩ := i4 z
            rw [List.length_append, List.length_cons, List.length_nil] at j3
            exact ⟨j1, j2, by omega⟩
          · rw [if_pos q, if_pos (And.intro hr q), bn_s]
            show rn none _ 1 36 _ [vI _] _ = _
            rw [b1_36, if_neg (show ¬ (1 : Int32) = 0 from by decide)]
            exact i5
        · have hno : ¬ (r ≠ 0 ∧ nxF tx n C.2.1 = 59) := fun z => q z.2
          refine ⟨H1, f1, ?_, ?_, ?_, ?_⟩
          · rw [fin hno]; exact f2
          · rw [fin hno]; exact f4
          · rw [fin hno]; exact fun _ => ⟨k1, by show (flat (cs ++ [C.2.2])).length ≤ 100; omega, by show (cs ++ [C.2.2]).length ≤ _; rw [List.length_append, List.length_cons, List.length_nil]; omega⟩
          · rw [fin hno, if_neg q, bn_s]
            show rn none _ 1 36 _ [vI _] _ = _
            rw [b1_36, if_pos rfl]
            exact eend
    · rw [if_neg a, if_neg a]
      exact ⟨H1, f1, f2, f4, (fun z => by cases z), rfl⟩
/-- a town is read -/
theorem c1 (hn : n ≤ 100) (hb : TB7 tx n) {d : Nat} {H : FI} (hC : CT tx n H) : ∃ H', frT T H H' ∧ H' 32 0 2 = c (rdI (nxF tx n) n 10 0 []).2.1 ∧ (rdI (nxF tx n) n 10 0 []).2.1 ≤ n ∧ ((rdI (nxF tx n) n 10 0 []).1 = true → encT H' T (rdI (nxF tx n) n 10 0 []).2.2 ∧ (flat (rdI (nxF tx n) n 10 0 []).2.2).length ≤ 100 ∧ (rdI (nxF tx n) n 10 0 []).2.2.length ≤ 10) ∧ dn (d + 31) 1 [vR 32 0, vR 6288 T] (hp H L w) = some (some (vI (if (rdI (nxF tx n) n 10 0 []).1 = true then 1 else 0)), hp H' L w) := by
  have hf0 : frT T H (uI (uI (uI (uI (uI H 6288 T 0 10) 6288 T 1 0) 6288 T 2 5) 6288 T 3 0) 32 0 2 0) := (((frT_u.tr frT_u).tr frT_u).tr frT_u).tr (frC_T (fr_pl (by omega)))
  have hE0 : encT (uI (uI (uI (uI (uI H 6288 T 0 10) 6288 T 1 0) 6288 T 2 5) 6288 T 3 0) 32 0 2 0) T [] := by
    refine ⟨⟨?_, fun i a ha => (by simp [flat] at ha)⟩, ?_, ?_, ?_⟩
    · rw [uI_t (by omega), uI_e]; rfl
    · rw [uI_t (by omega), uI_j (by omega), uI_j (by omega), uI_j (by omega), uI_e]; rfl
    · rw [uI_t (by omega), uI_j (by omega), uI_j (by omega), uI_e]; rfl
    · rw [uI_t (by omega), uI_j (by omega), uI_e]; rfl
  obtain ⟨H', g1, g2, g3, g4, g5⟩ := l1c (T := T) (d := d) (L := L) (w := w) hn hb 10 0 _ 0 [] rfl (by omega) (CT_frT hC hf0) (show _ = c 0 from uI_e) (by omega) hE0 (Nat.zero_le _)
  refine ⟨H', hf0.tr g1, g2, g3, g4, ?_⟩
  rw [e1, b1_0, e18, b18_0, bn_s]
  show rn none _ 1 4 _ [] _ = _
  rw [b1_4]
  exact g5
/-- town: the class's -/
theorem c66 (hn : n ≤ 100) (hb : TB7 tx n) {H : FI} (hC : CT tx n H) {t : Nat} (ht : t ≤ 6) (hT : H 12288 0 1 = c t) : (t = 6 ∧ dn 60 66 [vR 12288 0] (hp H L w) = some (some (vI (-4)), hp H L w)) ∨ (t < 6 ∧ ∃ H', frT (t + 1) H H' ∧ (((rdI (nxF tx n) n 10 0 []).1 = true ∧ encT H' (t + 1) (rdI (nxF tx n) n 10 0 []).2.2 ∧ (flat (rdI (nxF tx n) n 10 0 []).2.2).length ≤ 100 ∧ (rdI (nxF tx n) n 10 0 []).2.2.length ≤ 10 ∧ dn 60 66 [vR 12288 0] (hp H L w) = some (some (vI (c t)), hp (uI (uI H' 32 0 1 0) 12288 0 1 (c (t + 1))) L (sW w 0 (t + 1)))) ∨ ((rdI (nxF tx n) n 10 0 []).1 = false ∧ dn 60 66 [vR 12288 0] (hp H L w) = some (some (vI (-10 - c (rdI (nxF tx n) n 10 0 []).2.1)), hp (uI H' 32 0 1 0) L w)))) := by
  by_cases q : t = 6
  · refine Or.inl ⟨q, ?_⟩
    rw [e66, b66_0, hT, q, if_neg (by decide)]
  · refine Or.inr ⟨by omega, ?_⟩
    obtain ⟨H', f1, f2, f3, f4, f5⟩ := c1 (T := t + 1) (d := 28) (L := L) (w := w) hn hb hC
    have P : ∀ o, rn none (dn 59) 66 30 [some (vR 12288 0), some (vR 6288 (t + 1)), none] [vI (if (rdI (nxF tx n) n 10 0 []).1 = true then 1 else 0)] (hp H' L w) = o → dn 60 66 [vR 12288 0] (hp H L w) = o := by
      intro o ho
      rw [e66, b66_0, hT, if_pos (show c t < 6 from tq_gt (b := 6) (by omega) (by omega)), ck_t (vin_c (by omega) (by omega)), ix_c (by omega), show dn 59 1 = dn (28 + 31) 1 from rfl, f5, bn_s]
      exact ho
    refine ⟨H', f1, ?_⟩
    cases a : (rdI (nxF tx n) n 10 0 []).1 with
    | true =>
      obtain ⟨g1, g2, g3⟩ := f4 a
      refine Or.inl ⟨rfl, g1, g2, g3, P _ ?_⟩
      rw [a, b66_30, if10, if_pos rfl, b66_62, uI_t (by omega), f1 12288 0 1 (by omega) (by omega), hT, c_s, show c (t + 1) - 1 = c t from by rw [show (1 : Int32) = c 1 from rfl, c_sub (by omega), Nat.add_sub_cancel]]
    | false =>
      refine Or.inr ⟨rfl, P _ ?_⟩
      rw [a, b66_30, if10, if_neg (by decide), f2]
end P95
