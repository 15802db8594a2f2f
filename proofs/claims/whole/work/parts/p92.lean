set_option maxHeartbeats 400000
section P92
variable {L : FL} {w : Nat → Nat} {tx : Nat → Int32} {n T : Nat} {A : List TkI}
/-- how deep a part's reader goes -/
def Dp : Nat → Nat
  | 0 => 9
  | k + 1 => Dp k + 4
theorem Dp_2 (k : Nat) : 9 ≤ Dp k := by
  induction k with
  | zero => exact Nat.le_refl _
  | succ k ih => show 9 ≤ Dp k + 4; omega
theorem SpC_up {f : Nat → List Tk → RsP} {m : Nat} {a : List Vl} {D D' : Nat} (h : SpC tx n T A f m a D) (hD : D ≤ D') : SpC tx n T A f m a D' := by
  intro d L w H p cd hC hp' hpn hE hl
  have := h (d + (D' - D)) L w H p cd hC hp' hpn hE hl
  rw [show d + (D' - D) + D = d + D' by omega] at this
  exact this
theorem c9 (hn : n ≤ 100) (hb : TB7 tx n) : ∀ k, k ≤ 4 → SpC tx n T A (rdF (nxF tx n) k) 9 [vI (c (4 - k))] (Dp k) := by
  intro k
  induction k with
  | zero =>
    intro _ d L w H p cd hC hp' hpn hE hl
    obtain ⟨H1, f1, f2, f3, f4⟩ := c10 (A := A) hn hb d L w H p cd hC hp' hpn hE hl
    refine ⟨H1, f1, f2, f3, ?_⟩
    show dn (d + 8 + 1) 9 [vR 32 0, vR 6288 T, vI 4] (hp H L w) = _
    rw [e9, b9_0, if_neg (show ¬ (4 : Int32) < 4 from by decide), if_neg (show ¬ (4 : Int32) < 4 from by decide), f4, bn_s]
    show rn none _ 9 84 _ [vI _] _ = _
    rw [b9_84, ck_t rok01]
    rfl
  | succ k ih =>
    intro hk d L w H p cd hC hp' hpn hE hl
    have IH := ih (by omega)
    have e41 : c (4 - (k + 1)) + 1 = c (4 - k) := by rw [c_s, show 4 - (k + 1) + 1 = 4 - k by omega]
    have hlt : c (4 - (k + 1)) < 4 := tq_gt (b := 4) (by omega) (by omega)
    have hD := Dp_2 k
    obtain ⟨e', he'⟩ : ∃ e', d + (Dp k + 3) = e' + 9 := ⟨d + Dp k - 6, by omega⟩
    have hgF := rdF_g (nx := nxF tx n) nxF_n k
    have hg2 : Gd n (lvP (nxF tx n) (rdF (nxF tx n) k) 38 2) := lvP_g nxF_n (by decide) hgF
    have S2 : SpC tx n T A (rdF (nxF tx n) k) 8 [vI 2, vI (c (4 - k))] (Dp k + 1) := c8p IH
    have S1 : SpC tx n T A (lvP (nxF tx n) (rdF (nxF tx n) k) 38 2) 8 [vI 1, vI (c (4 - k))] (Dp k + 2) := c8s hn (by omega) S2 hgF (Or.inr ⟨rfl, rfl, rfl⟩)
    have S0 : SpC tx n T A (lvP (nxF tx n) (lvP (nxF tx n) (rdF (nxF tx n) k) 38 2) 124 3) 8 [vI 0, vI (c (4 - k))] (Dp k + 3) := c8s hn (by omega) S1 hg2 (Or.inl ⟨rfl, rfl, rfl⟩)
    have S2' : SpC tx n T A (rdF (nxF tx n) k) 8 [vI 2, vI (c (4 - k))] (Dp k + 3) := SpC_up S2 (by omega)
    have hg0 : Gd n (lvP (nxF tx n) (lvP (nxF tx n) (rdF (nxF tx n) k) 38 2) 124 3) := lvP_g nxF_n (by decide) hg2
    have e : rdF (nxF tx n) (k + 1) p cd = if nxF tx n p = 33 then (if (rdF (nxF tx n) k (p + 1) cd).1 = true then (true, (rdF (nxF tx n) k (p + 1) cd).2.1, (rdF (nxF tx n) k (p + 1) cd).2.2 ++ [(1, 0, 0, 0)]) else (false, (rdF (nxF tx n) k (p + 1) cd).2.1, [])) else if nxF tx n p = 40 then (if (lvP (nxF tx n) (lvP (nxF tx n) (rdF (nxF tx n) k) 38 2) 124 3 (p + 1) cd).1 = true then (if nxF tx n (lvP (nxF tx n) (lvP (nxF tx n) (rdF (nxF tx n) k) 38 2) 124 3 (p + 1) cd).2.1 = 41 then (true, (lvP (nxF tx n) (lvP (nxF tx n) (rdF (nxF tx n) k) 38 2) 124 3 (p + 1) cd).2.1 + 1, (lvP (nxF tx n) (lvP (nxF tx n) (rdF (nxF tx n) k) 38 2) 124 3 (p + 1) cd).2.2) else (false, (lvP (nxF tx n) (lvP (nxF tx n) (rdF (nxF tx n) k) 38 2) 124 3 (p + 1) cd).2.1, [])) else (false, (lvP (nxF tx n) (lvP (nxF tx n) (rdF (nxF tx n) k) 38 2) 124 3 (p + 1) cd).2.1, [])) else rdT (nxF tx n) p cd := rfl
    generalize hE0 : lvP (nxF tx n) (lvP (nxF tx n) (rdF (nxF tx n) k) 38 2) 124 3 = fE at S0 hg0 e
    show ∃ H', frC T H H' ∧ _ ∧ _ ∧ dn (d + (Dp k + 3) + 1) 9 [vR 32 0, vR 6288 T, vI (c (4 - (k + 1)))] (hp H L w) = _
    rw [e9, b9_0, if_pos hlt, show dn (d + (Dp k + 3)) 3 = dn (e' + 7 + 2) 3 from by rw [he'], s3c hn hC hp' (by omega), e]
    by_cases a : nxF tx n p = 33
    · have hpn1 := nx_lt (nx := nxF tx n) nxF_n a (by decide)
      have hC1 : CT tx n (uI H 32 0 2 (c (p + 1))) := CT_fr (T := T) hC (fr_pl (by omega))
      obtain ⟨H1, f1, f2, f3, f4⟩ := S2' d L w (uI H 32 0 2 (c (p + 1))) (p + 1) cd hC1 uI_e (by omega) (enc_p hE (fun t k j ht => uI_t ht)) (by omega)
      obtain ⟨g1, g2, g3⟩ := hgF (p + 1) cd (by omega)
      have hfr1 : frC T H H1 := (fr_pl (by omega)).tr f1
      rw [if_pos a, if_pos a, bn_s]
      show ∃ H', frC T H H' ∧ _ ∧ _ ∧ rn none _ 9 11 _ [vI _] _ = _
      rw [b9_11, if_neg (show ¬ (1 : Int32) = 0 from by decide), e41, f4, bn_s]
      show ∃ H', frC T H H' ∧ _ ∧ _ ∧ rn none _ 9 23 _ [vI _] _ = _
      rw [b9_23, if10]
      by_cases b : (rdF (nxF tx n) k (p + 1) cd).1 = true
      · obtain ⟨g4, g5⟩ := g3 b
        have g6 := g5 (A.length + 1) (by omega)
        have hE1 := f3 b
        have S := s19c (d := e' + 8) (L := L) (w := w) hE1 (by rw [len_m]; omega) (a := tk (1, 0, 0, 0))
        have hE2 := enc_s hE1 (a := tk (1, 0, 0, 0))
        rw [← map_snoc] at hE2
        refine ⟨stpF H1 T (A ++ (rdF (nxF tx n) k (p + 1) cd).2.2.map tk).length (tk (1, 0, 0, 0)), hfr1.tr stpF_fr, ?_, ?_, ?_⟩
        · rw [if_pos b, stpF_p]; exact f2
        · rw [if_pos b]; exact fun _ => hE2
        · rw [if_pos b, if_pos b, show dn (d + (Dp k + 3)) 19 [vR 6288 T, vI 1, vI 0, vI 0, vI 0] = dn (e' + 8 + 1) 19 [vR 6288 T, vI (c (tk (1, 0, 0, 0)).1), vI (c (tk (1, 0, 0, 0)).2.1), vI (c (tk (1, 0, 0, 0)).2.2.1), vI (tk (1, 0, 0, 0)).2.2.2] from by rw [he']; rfl, S, bn_s]
          show rn none _ 9 36 _ [] _ = _
          rw [b9_36]
          rfl
      · refine ⟨H1, hfr1, ?_, ?_, ?_⟩
        · rw [if_neg b]; exact f2
        · rw [if_neg b]; intro z; cases z
        · rw [if_neg b, if_neg b]; rfl
    · rw [if_neg a, if_neg a, bn_s]
      show ∃ H', frC T H H' ∧ _ ∧ _ ∧ rn none _ 9 11 _ [vI _] _ = _
      rw [b9_11, if_pos rfl, if_pos hlt, show dn (d + (Dp k + 3)) 3 = dn (e' + 7 + 2) 3 from by rw [he'], s3c hn hC hp' (by omega)]
      by_cases a2 : nxF tx n p = 40
      · have hpn1 := nx_lt (nx := nxF tx n) nxF_n a2 (by decide)
        have hC1 : CT tx n (uI H 32 0 2 (c (p + 1))) := CT_fr (T := T) hC (fr_pl (by omega))
        obtain ⟨H1, f1, f2, f3, f4⟩ := S0 d L w (uI H 32 0 2 (c (p + 1))) (p + 1) cd hC1 uI_e (by omega) (enc_p hE (fun t k j ht => uI_t ht)) (by omega)
        obtain ⟨g1, g2, g3⟩ := hg0 (p + 1) cd (by omega)
        have hfr1 : frC T H H1 := (fr_pl (by omega)).tr f1
        have hC2 := CT_fr hC hfr1
        rw [if_pos a2, if_pos a2, bn_s]
        show ∃ H', frC T H H' ∧ _ ∧ _ ∧ rn none _ 9 49 _ [vI _] _ = _
        rw [b9_49, if_neg (show ¬ (1 : Int32) = 0 from by decide), e41, f4, bn_s]
        show ∃ H', frC T H H' ∧ _ ∧ _ ∧ rn none _ 9 61 _ [vI _] _ = _
        rw [b9_61, if10]
        by_cases b : (fE (p + 1) cd).1 = true
        · rw [if_pos b, if_pos b, show dn (d + (Dp k + 3)) 3 = dn (e' + 7 + 2) 3 from by rw [he'], s3c hn hC2 f2 (by omega)]
          by_cases b2 : nxF tx n (fE (p + 1) cd).2.1 = 41
          · refine ⟨uI H1 32 0 2 (c ((fE (p + 1) cd).2.1 + 1)), hfr1.tr (fr_pl (by omega)), ?_, ?_, ?_⟩
            · rw [if_pos b2]; exact uI_e
            · rw [if_pos b2]; exact fun _ => enc_p (f3 b) (fun t k j ht => uI_t ht)
            · rw [if_pos b2, if_pos b2, bn_s]
              show rn none _ 9 70 _ [vI _] _ = _
              rw [b9_70, if_neg (show ¬ (1 : Int32) = 0 from by decide)]
              rfl
          · refine ⟨H1, hfr1, ?_, ?_, ?_⟩
            · rw [if_neg b2]; exact f2
            · rw [if_neg b2]; intro z; cases z
            · rw [if_neg b2, if_neg b2, bn_s]
              show rn none _ 9 70 _ [vI _] _ = _
              rw [b9_70, if_pos rfl]
              rfl
        · refine ⟨H1, hfr1, ?_, ?_, ?_⟩
          · rw [if_neg b]; exact f2
          · rw [if_neg b]; intro z; cases z
          · rw [if_neg b, if_neg b]; rfl
      · have S10 := SpC_up (c10 (A := A) (T := T) hn hb) (show 8 ≤ Dp k + 3 by omega)
        obtain ⟨H1, f1, f2, f3, f4⟩ := S10 d L w H p cd hC hp' hpn hE hl
        refine ⟨H1, f1, ?_, ?_, ?_⟩
        · rw [if_neg a2]; exact f2
        · rw [if_neg a2]; exact f3
        · rw [if_neg a2, if_neg a2, bn_s]
          show rn none _ 9 49 _ [vI _] _ = _
          rw [b9_49, if_pos rfl, f4, bn_s]
          show rn none _ 9 84 _ [vI _] _ = _
          rw [b9_84, ck_t rok01]
/-- what is tested -/
theorem c8E (hn : n ≤ 100) (hb : TB7 tx n) : SpC tx n T A (rdE (nxF tx n) 4) 8 [vI 0, vI 0] (Dp 4 + 3) := by
  have hgF := rdF_g (nx := nxF tx n) nxF_n 4
  have hg2 : Gd n (lvP (nxF tx n) (rdF (nxF tx n) 4) 38 2) := lvP_g nxF_n (by decide) hgF
  have S2 : SpC tx n T A (rdF (nxF tx n) 4) 8 [vI 2, vI 0] (Dp 4 + 1) := c8p (c9 hn hb 4 (Nat.le_refl _))
  have S1 : SpC tx n T A (lvP (nxF tx n) (rdF (nxF tx n) 4) 38 2) 8 [vI 1, vI 0] (Dp 4 + 2) := c8s hn (by decide) S2 hgF (Or.inr ⟨rfl, rfl, rfl⟩)
  exact c8s hn (by decide) S1 hg2 (Or.inl ⟨rfl, rfl, rfl⟩)
end P92
