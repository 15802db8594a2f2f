set_option maxHeartbeats 400000
section P98
variable {L : FL} {w : Nat → Nat} {tx : Nat → Int32} {n f ci : Nat} {A : List Tk}
theorem s135 {d p : Nat} {H : FI} {q : List Nat} {cd : List Tk} (hn : n ≤ 100) (h : MZ tx n f H p q (A ++ cd)) : ((rdT (nxF tx n) p cd).1 = true → ∃ H', frM f ci H H' ∧ MZ tx n f H' (rdT (nxF tx n) p cd).2.1 (popB q) ((A ++ (rdT (nxF tx n) p cd).2.2) ++ ntB q) ∧ dn (d + 6) 135 [vR 14944 0] (hp H L w) = some (some (vI 1), hp H' L w)) ∧ ((rdT (nxF tx n) p cd).1 = false → ∃ H', frM f ci H H' ∧ H' 14944 0 14 = c (rdT (nxF tx n) p cd).2.1 ∧ dn (d + 6) 135 [vR 14944 0] (hp H L w) = some (some (vI 0), hp H' L w)) := by
  obtain ⟨h1, h2, h3, h4, h5, h6, h7, h8, h9⟩ := id h
  have tE : rdT (nxF tx n) p cd = if ltr (nxF tx n p) < 0 then (false, p, []) else if isS (nxF tx n (p + 1)) = true then (if (rdN (nxF tx n) (p + 2)).1 = true then (true, (rdN (nxF tx n) (p + 2)).2.1, cd ++ [(0, ix (ltr (nxF tx n p)), ix (nxF tx n (p + 1)), (rdN (nxF tx n) (p + 2)).2.2)]) else (false, (rdN (nxF tx n) (p + 2)).2.1, [])) else (false, p + 1, []) := rfl
  have P : ∀ o, (if ltr (nxF tx n p) < 0 then some (some (vI 0), hp H L w) else bn (dn (d + 5) 126 [vR 14944 0] (hp (uI H 14944 0 14 (c (p + 1))) L w)) (fun v h' => rn none (dn (d + 5)) 135 29 [some (vR 14944 0), some (vI (ltr (nxF tx n p))), none] (psh v []) h')) = o → dn (d + 6) 135 [vR 14944 0] (hp H L w) = o := by
    intro o ho
    rw [e135, b135_0, s126 hn h1 h2 (by omega), bn_s]
    show rn none _ 135 5 _ [vI _, vR _ _] _ = _
    rw [b135_5, s134, bn_s]
    show rn none _ 135 8 _ [vI _] _ = _
    rw [b135_8, h2, c_s]
    exact ho
  rw [tE]
  by_cases a : ltr (nxF tx n p) < 0
  · rw [if_pos a]
    exact ⟨fun z => (by cases z), fun _ => ⟨H, frM.rf, h2, P _ (by rw [if_pos a])⟩⟩
  · obtain ⟨l, hl6, el⟩ := ltr_n a
    have hpn1 : p < n := by
      apply Classical.byContradiction
      intro z
      rw [nxF_n p (by omega)] at a
      exact a (by decide)
    obtain ⟨g1, g2⟩ := MZ_at (ci := ci) h (show p ≤ p + 1 by omega) (by omega)
    have eis : bi (60 ≤ nxF tx n (p + 1) ∧ nxF tx n (p + 1) ≤ 62) = if isS (nxF tx n (p + 1)) = true then 1 else 0 := by
      unfold bi isS
      by_cases q : 60 ≤ nxF tx n (p + 1) ∧ nxF tx n (p + 1) ≤ 62
      · rw [if_pos q, decide_eq_true q.1, decide_eq_true q.2]; rfl
      · rw [if_neg q, if_neg (by simp only [Bool.and_eq_true, decide_eq_true_eq]; exact q)]
    have P2 : ∀ o, (if isS (nxF tx n (p + 1)) = true then bn (dn (d + 5) 130 [vR 14944 0] (hp (uI H 14944 0 14 (c (p + 2))) L w)) (fun v h' => rn none (dn (d + 5)) 135 58 [some (vR 14944 0), some (vI (ltr (nxF tx n p))), some (vI (nxF tx n (p + 1)))] (psh v []) h') else some (some (vI 0), hp (uI H 14944 0 14 (c (p + 1))) L w)) = o → dn (d + 6) 135 [vR 14944 0] (hp H L w) = o := by
      intro o ho
      refine P o ?_
      rw [if_neg a, s126 hn g1.1 uI_e (by omega), bn_s]
      show rn none _ 135 29 _ [vI _] _ = _
      rw [b135_29, s106, bn_s, eis]
      show rn none _ 135 39 _ [vI _] _ = _
      rw [b135_39, if10, uI_e, c_s, uI_u]
      exact ho
    rw [if_neg a]
    by_cases b : isS (nxF tx n (p + 1)) = true
    · obtain ⟨s, hs1, hs2, es⟩ := isS_c b
      have hpn2 : p + 1 < n := by
        apply Classical.byContradiction
        intro z
        rw [nxF_n (p + 1) (by omega)] at b
        exact absurd b (by decide)
      obtain ⟨k1, k2⟩ := MZ_at (ci := ci) h (show p ≤ p + 2 by omega) (by omega)
      obtain ⟨H2, m1, m2, m3, m4⟩ := s130 (d := d + 2) (L := L) (w := w) hn k1.1 uI_e (show p + 2 ≤ n by omega)
      obtain ⟨r1, r2, r3⟩ := rdN_b (nx := nxF tx n) nxF_n (show p + 2 ≤ n by omega)
      have m4' : dn (d + 5) 130 [vR 14944 0] (hp (uI H 14944 0 14 (c (p + 2))) L w) = some (some (vI (if (rdN (nxF tx n) (p + 2)).1 = true then 1 else 0)), hp H2 L w) := m4
      rw [if_pos b]
      by_cases e : (rdN (nxF tx n) (p + 2)).1 = true
      · obtain ⟨r4, r5⟩ := r3 e
        have hZ2 := MZ_N k1 m1 m2 r1 r2
        have h2l : (A ++ cd).length + 1 + q.length ≤ (rdN (nxF tx n) (p + 2)).2.1 := by omega
        obtain ⟨u1, u2⟩ := MZ_em (ci := ci) (a := (0, ix (ltr (nxF tx n p)), ix (nxF tx n (p + 1)), (rdN (nxF tx n) (p + 2)).2.2)) hn hZ2 h2l
        obtain ⟨H', v1, v2, v3⟩ := s132 (ci := ci) (d := d + 3) (L := L) (w := w) hn q _ _ _ u1
        rw [if_pos e]
        refine ⟨fun _ => ⟨H', ((k2.tr (frN_M m1)).tr u2).tr v1, ?_, P2 _ ?_⟩, fun z => (by cases z)⟩
        · rw [← List.append_assoc A cd]; exact v2
        · have ex : 1000 * ltr (nxF tx n p) + 100 * (nxF tx n (p + 1) - 60) + H2 14944 0 15 = sg (0, ix (ltr (nxF tx n p)), ix (nxF tx n (p + 1)), (rdN (nxF tx n) (p + 2)).2.2) := by
            rw [m3 e, el, es]
            unfold sg
            rw [if_pos rfl]
            show _ = c (1000 * ix (c l) + 100 * (ix (c s) - 60) + (rdN (nxF tx n) (p + 2)).2.2)
            rw [ix_c (by omega), ix_c (by omega), show (60 : Int32) = c 60 from rfl, c_sub hs1, show (1000 : Int32) = c 1000 from rfl, show (100 : Int32) = c 100 from rfl, ← Int32.ofNat_mul, ← Int32.ofNat_mul, cq rfl, cq rfl]
          rw [if_pos b, m4', bn_s]
          show rn none _ 135 58 _ [vI _] _ = _
          rw [b135_58, if10, if_pos e, s131 hZ2.2.2.2.2.2.2.1 h9 (by omega) ex, bn_s]
          show rn none _ 135 85 _ [] _ = _
          rw [b135_85, e132, show dn (d + 4) = dn (d + 3 + 1) from rfl, v3, bn_s]
          show rn none _ 135 89 _ [] _ = _
          rw [b135_89]
      · rw [if_neg e]
        refine ⟨fun z => (by cases z), fun _ => ⟨H2, k2.tr (frN_M m1), m2, P2 _ ?_⟩⟩
        rw [if_pos b, m4', bn_s]
        show rn none _ 135 58 _ [vI _] _ = _
        rw [b135_58, if10, if_neg e]
    · rw [if_neg b]
      exact ⟨fun z => (by cases z), fun _ => ⟨uI H 14944 0 14 (c (p + 1)), g2, uI_e, P2 _ (by rw [if_neg b])⟩⟩
/-- one more waits, read from the text -/
theorem MZ_pu {H : FI} {p a : Nat} {q : List Nat} {l : List Tk} (hn : n ≤ 100) (h : MZ tx n f H p q l) (hp' : p < n) (ha : a < 200) (h26 : Int32) (ho : h26 = c (opn (a :: q))) : MZ tx n f (uI (uI (uI (uI H 14944 0 26 h26) 207697 0 q.length (c a)) 14944 0 25 (c (q.length + 1))) 14944 0 14 (c (p + 1))) (p + 1) (a :: q) l ∧ frM f ci H (uI (uI (uI (uI H 14944 0 26 h26) 207697 0 q.length (c a)) 14944 0 25 (c (q.length + 1))) 14944 0 14 (c (p + 1))) := by
  obtain ⟨h1, h2, h3, h4, h5, h6, h7, h8, h9⟩ := h
  have hfr : frM f ci H (uI (uI (uI (uI H 14944 0 26 h26) 207697 0 q.length (c a)) 14944 0 25 (c (q.length + 1))) 14944 0 14 (c (p + 1))) := (((frM_at (by omega)).tr frM_w).tr (frM_at (by omega))).tr (frM_at (by omega))
  refine ⟨⟨MTx_fr h1 hfr, uI_e, hp', ?_, ⟨?_, ha, ?_⟩, ?_, ?_, ?_, h9⟩, hfr⟩
  · rw [uI_j (by omega), uI_e]; rfl
  · rw [uI_t (by omega), uI_t (by omega), uI_e]
  · exact stW_p (fun j => by rw [uI_t (by omega), uI_t (by omega)]) q (stW_u q _ (Nat.le_refl _) (stW_p (fun j => by rw [uI_t (by omega)]) q h5))
  · rw [uI_j (by omega), uI_j (by omega), uI_t (by omega), uI_e]; exact ho
  · exact encS_p h7 (by rw [uI_j (by omega), uI_j (by omega), uI_t (by omega), uI_j (by omega)]) (fun j => by rw [uI_t (by omega), uI_t (by omega), uI_t (by omega), uI_t (by omega)])
  · rw [List.length_cons]; omega
end P98
