set_option maxHeartbeats 400000
section P91
variable {L : FL} {w : Nat → Nat} {tx : Nat → Int32} {n T : Nat} {A : List TkI}
/-- the texts' bytes -/
def TB7 (tx : Nat → Int32) (n : Nat) : Prop := ∀ i, i < n → ∃ b, b < 128 ∧ tx i = c b
/-- a reader of the class -/
def SpC (tx : Nat → Int32) (n T : Nat) (A : List TkI) (f : Nat → List Tk → RsP) (m : Nat) (a : List Vl) (D : Nat) : Prop := ∀ d L w H p cd, CT tx n H → H 32 0 2 = c p → p ≤ n → enc H T (A ++ cd.map tk) → A.length + cd.length ≤ p → ∃ H', frC T H H' ∧ H' 32 0 2 = c (f p cd).2.1 ∧ ((f p cd).1 = true → enc H' T (A ++ (f p cd).2.2.map tk)) ∧ dn (d + D) m (vR 32 0 :: vR 6288 T :: a) (hp H L w) = some (some (vI (if (f p cd).1 = true then 1 else 0)), hp H' L w)
theorem ltr_n {x : Int32} (h : ¬ ltr x < 0) : ∃ l, l < 6 ∧ ltr x = c l := by
  unfold ltr at h ⊢
  by_cases a0 : x = 112
  · rw [if_pos a0]; exact ⟨0, by omega, rfl⟩
  · rw [if_neg a0] at h ⊢
    by_cases a1 : x = 116
    · rw [if_pos a1]; exact ⟨1, by omega, rfl⟩
    · rw [if_neg a1] at h ⊢
      by_cases a2 : x = 107
      · rw [if_pos a2]; exact ⟨2, by omega, rfl⟩
      · rw [if_neg a2] at h ⊢
        by_cases a3 : x = 118
        · rw [if_pos a3]; exact ⟨3, by omega, rfl⟩
        · rw [if_neg a3] at h ⊢
          by_cases a4 : x = 119
          · rw [if_pos a4]; exact ⟨4, by omega, rfl⟩
          · rw [if_neg a4] at h ⊢
            by_cases a5 : x = 108
            · rw [if_pos a5]; exact ⟨5, by omega, rfl⟩
            · rw [if_neg a5] at h; exact absurd (by decide) h
theorem isS_c {x : Int32} (h : isS x = true) : ∃ s, 60 ≤ s ∧ s ≤ 62 ∧ x = c s := by
  unfold isS at h
  simp only [Bool.and_eq_true, decide_eq_true_eq] at h
  obtain ⟨k, hk, rfl⟩ := of_c (x := x) (n := 63) (by grind) (by omega) (by have := h.2; show x < 63; grind)
  have h1 := h.1
  rw [show (60 : Int32) = c 60 from rfl, c_le (by omega) (by omega)] at h1
  exact ⟨k, h1, by omega, rfl⟩
theorem isS_3 {x : Int32} : isS x = true ↔ (x = 60 ∨ x = 61 ∨ x = 62) := by
  constructor
  · intro h
    obtain ⟨s, h1, h2, rfl⟩ := isS_c h
    rcases (show s = 60 ∨ s = 61 ∨ s = 62 by omega) with rfl | rfl | rfl
    · exact Or.inl rfl
    · exact Or.inr (Or.inl rfl)
    · exact Or.inr (Or.inr rfl)
  · rintro (rfl | rfl | rfl) <;> decide
theorem map_snoc {cd : List Tk} {a : Tk} : A ++ (cd ++ [a]).map tk = (A ++ cd.map tk) ++ [tk a] := by
  rw [List.map_append, List.append_assoc]
  rfl
theorem len_m {cd : List Tk} : (A ++ cd.map tk).length = A.length + cd.length := by
  rw [List.length_append, List.length_map]
theorem c10 (hn : n ≤ 100) (hb : TB7 tx n) : SpC tx n T A (rdT (nxF tx n)) 10 [] 8 := by
  intro d L w H p cd hC hp' hpn hE hl
  have e10' : dn (d + 8) 10 [vR 32 0, vR 6288 T] (hp H L w) = (if ltr (nxF tx n p) < 0 then some (some (vI 0), hp H L w) else bn (dn (d + 7) 2 [vR 32 0] (hp (uI H 32 0 2 (c (p + 1))) L w)) (fun v h' => rn none (dn (d + 7)) 10 43 [some (vR 32 0), some (vR 6288 T), some (vI (ltr (nxF tx n p))), none] (psh v []) h')) := by
    have R : rn none (dn (d + 7)) 10 22 [some (vR 32 0), some (vR 6288 T), none, none] [vI (ltr (nxF tx n p))] (hp H L w) = (if ltr (nxF tx n p) < 0 then some (some (vI 0), hp H L w) else bn (dn (d + 7) 2 [vR 32 0] (hp (uI H 32 0 2 (c (p + 1))) L w)) (fun v h' => rn none (dn (d + 7)) 10 43 [some (vR 32 0), some (vR 6288 T), some (vI (ltr (nxF tx n p))), none] (psh v []) h')) := by
      rw [b10_22, hp', c_s]
    rw [e10, b10_0, s2c hn hC hp' (by omega), bn_s]
    show rn none _ 10 4 _ [vI _] _ = _
    rw [b10_4, ← R]
    by_cases q : p < n
    · obtain ⟨b, hb1, hb2⟩ := hb p q
      have enx : nxF tx n p = c b := by unfold nxF; rw [if_pos q, hb2]
      have E : ∀ b, b < 128 → UInt32.toInt32 (Int32.toUInt32 (c b) % 65536) = c b := by decide +kernel
      rw [if_neg (show ¬ nxF tx n p = -1 from by
        rw [enx]
        intro z
        have := c_0 (a := b) (by omega)
        rw [z] at this
        exact absurd this (by decide)), s2c hn hC hp' (by omega), bn_s]
      show rn none _ 10 18 _ [vI _, vR _ _] _ = _
      rw [b10_18, ck_t (by rfl), enx, E b hb1, show dn (d + 7) 209 = dn (d + 1 + 6) 209 from rfl, s209 hb1, bn_s]
      rfl
    · have enx : nxF tx n p = -1 := if_neg q
      rw [enx, if_pos rfl]
      rfl
  have tE : rdT (nxF tx n) p cd = if ltr (nxF tx n p) < 0 then (false, p, []) else if isS (nxF tx n (p + 1)) = true then (if (rdN (nxF tx n) (p + 2)).1 = true then (true, (rdN (nxF tx n) (p + 2)).2.1, cd ++ [(0, ix (ltr (nxF tx n p)), ix (nxF tx n (p + 1)), (rdN (nxF tx n) (p + 2)).2.2)]) else (false, (rdN (nxF tx n) (p + 2)).2.1, [])) else (false, p + 1, []) := rfl
  show ∃ H', frC T H H' ∧ _ ∧ _ ∧ dn (d + 8) 10 [vR 32 0, vR 6288 T] (hp H L w) = _
  rw [e10', tE]
  by_cases a : ltr (nxF tx n p) < 0
  · refine ⟨H, frC.rf, ?_, ?_, ?_⟩
    · rw [if_pos a]; exact hp'
    · rw [if_pos a]; intro z; cases z
    · rw [if_pos a, if_pos a]; rfl
  · obtain ⟨l, hl6, el⟩ := ltr_n a
    have hpn1 : p < n := by
      apply Classical.byContradiction
      intro z
      rw [nxF_n p (by omega)] at a
      exact a (by decide)
    have hC1 : CT tx n (uI H 32 0 2 (c (p + 1))) := CT_fr (T := T) hC (fr_pl (by omega))
    rw [if_neg a, if_neg a, s2c hn hC1 uI_e (by omega), bn_s]
    show ∃ H', frC T H H' ∧ _ ∧ _ ∧ rn none _ 10 43 _ [vI _] _ = _
    rw [b10_43, uI_e, c_s, uI_u]
    by_cases b : isS (nxF tx n (p + 1)) = true
    · have hpn2 : p + 1 < n := by
        apply Classical.byContradiction
        intro z
        rw [nxF_n (p + 1) (by omega)] at b
        exact absurd b (by decide)
      have hC2 : CT tx n (uI H 32 0 2 (c (p + 1 + 1))) := CT_fr (T := T) hC (fr_pl (by omega))
      obtain ⟨H2, f1, f2, f3, f4, f5⟩ := s7c (d := d + 5) (L := L) (w := w) (T := T) hn hC2 uI_e (show p + 1 + 1 ≤ n by omega)
      obtain ⟨g1, g2, g3⟩ := rdN_b (nx := nxF tx n) nxF_n (show p + 2 ≤ n by omega)
      have f5' : dn (d + 7) 7 [vR 32 0] (hp (uI H 32 0 2 (c (p + 1 + 1))) L w) = some (some (vI (if (rdN (nxF tx n) (p + 2)).1 = true then 1 else 0)), hp H2 L w) := f5
      have f3' : H2 32 0 2 = c (rdN (nxF tx n) (p + 2)).2.1 := f3
      have f4' : (rdN (nxF tx n) (p + 2)).1 = true → H2 32 0 3 = c (rdN (nxF tx n) (p + 2)).2.2 := f4
      have hfr2 : frC T H H2 := (fr_pl (by omega)).tr f1
      have hE2 : enc H2 T (A ++ cd.map tk) := enc_p (enc_p hE (fun t k j ht => uI_t ht)) f2
      have hsel : ∀ K : Option Rs, (if nxF tx n (p + 1) = 60 then K else if nxF tx n (p + 1) = 61 then K else if nxF tx n (p + 1) = 62 then K else some (some (vI 0), hp (uI H 32 0 2 (c (p + 1))) L w)) = K := by
        intro K
        rcases isS_3.mp b with q | q | q
        · rw [if_pos q]
        · rw [if_pos q, ite_self]
        · rw [if_pos q, ite_self, ite_self]
      rw [if_pos b, hsel, f5', bn_s]
      show ∃ H', frC T H H' ∧ _ ∧ _ ∧ rn none _ 10 78 _ [vI _] _ = _
      rw [b10_78, if10]
      by_cases e : (rdN (nxF tx n) (p + 2)).1 = true
      · obtain ⟨s, hs1, hs2, es⟩ := isS_c b
        obtain ⟨g4, g5⟩ := g3 e
        refine ⟨stpF H2 T (A ++ cd.map tk).length (tk (0, ix (ltr (nxF tx n p)), ix (nxF tx n (p + 1)), (rdN (nxF tx n) (p + 2)).2.2)), hfr2.tr stpF_fr, ?_, fun _ => ?_, ?_⟩
        · rw [if_pos e, stpF_p]; exact f3'
        · rw [if_pos e, map_snoc]
          exact enc_s hE2
        · have S := s19c (d := d + 6) (L := L) (w := w) hE2 (by rw [len_m]; omega) (a := tk (0, ix (ltr (nxF tx n p)), ix (nxF tx n (p + 1)), (rdN (nxF tx n) (p + 2)).2.2))
          have e1 : c (ix (ltr (nxF tx n p))) = ltr (nxF tx n p) := by rw [el, ix_c (by omega)]
          have e2 : c (ix (nxF tx n (p + 1))) = nxF tx n (p + 1) := by rw [es, ix_c (by omega)]
          have S' : dn (d + 7) 19 [vR 6288 T, vI 0, vI (ltr (nxF tx n p)), vI (nxF tx n (p + 1)), vI (H2 32 0 3)] (hp H2 L w) = some (none, hp (stpF H2 T (A ++ cd.map tk).length (tk (0, ix (ltr (nxF tx n p)), ix (nxF tx n (p + 1)), (rdN (nxF tx n) (p + 2)).2.2))) L w) := by
            rw [← S, f4' e]
            show _ = dn (d + 6 + 1) 19 [vR 6288 T, vI (c 0), vI (c (ix (ltr (nxF tx n p)))), vI (c (ix (nxF tx n (p + 1)))), vI (c (rdN (nxF tx n) (p + 2)).2.2)] (hp H2 L w)
            rw [e1, e2]
            rfl
          rw [if_pos e, if_pos e, S', bn_s]
          show rn none _ 10 94 _ [] _ = _
          rw [b10_94]
          rfl
      · refine ⟨H2, hfr2, ?_, ?_, ?_⟩
        · rw [if_neg e]; exact f3'
        · rw [if_neg e]; intro z; cases z
        · rw [if_neg e, if_neg e]; rfl
    · have hsel : ∀ K : Option Rs, (if nxF tx n (p + 1) = 60 then K else if nxF tx n (p + 1) = 61 then K else if nxF tx n (p + 1) = 62 then K else some (some (vI 0), hp (uI H 32 0 2 (c (p + 1))) L w)) = some (some (vI 0), hp (uI H 32 0 2 (c (p + 1))) L w) := by
        intro K
        rw [if_neg (fun z => b (isS_3.mpr (Or.inl z))), if_neg (fun z => b (isS_3.mpr (Or.inr (Or.inl z)))), if_neg (fun z => b (isS_3.mpr (Or.inr (Or.inr z))))]
      refine ⟨uI H 32 0 2 (c (p + 1)), fr_pl (by omega), ?_, ?_, ?_⟩
      · rw [if_neg b]; exact uI_e
      · rw [if_neg b]; intro z; cases z
      · rw [if_neg b, hsel]; rfl
/-- a level, over the one below -/
theorem c8s {f : Nat → List Tk → RsP} {lv win ch : Int32} {dd D : Nat} (hn : n ≤ 100) (hD : 2 ≤ D) (hf : SpC tx n T A f 8 [vI (lv + 1), vI win] D) (hg : Gd n f) (h : (lv = 0 ∧ ch = 124 ∧ dd = 3) ∨ (lv = 1 ∧ ch = 38 ∧ dd = 2)) : SpC tx n T A (lvP (nxF tx n) f ch dd) 8 [vI lv, vI win] (D + 1) := by
  have hlv : lv < 2 := by rcases h with ⟨rfl, _⟩ | ⟨rfl, _⟩ <;> decide
  have hch : ch ≠ -1 := by rcases h with ⟨_, rfl, _⟩ | ⟨_, rfl, _⟩ <;> decide
  intro d L w H p cd hC hp' hpn hE hl
  obtain ⟨e', he'⟩ : ∃ e', d + D = e' + 2 := ⟨d + D - 2, by omega⟩
  have loop : ∀ r i H p cd, i + r = 100 → CT tx n H → H 32 0 2 = c p → p ≤ n → enc H T (A ++ cd.map tk) → A.length + cd.length ≤ p → ∃ H', frC T H H' ∧ H' 32 0 2 = c (lpP (nxF tx n) f ch dd r p cd).2.1 ∧ ((lpP (nxF tx n) f ch dd r p cd).1 = true → enc H' T (A ++ (lpP (nxF tx n) f ch dd r p cd).2.2.map tk)) ∧ rn none (dn (d + D)) 8 42 [some (vR 32 0), some (vR 6288 T), some (vI lv), some (vI win), some (vI ch), some (vI (c i))] [] (hp H L w) = some (some (vI (if (lpP (nxF tx n) f ch dd r p cd).1 = true then 1 else 0)), hp H' L w) := by
    intro r
    induction r with
    | zero =>
      intro i H p cd hi hC hp' hpn hE hl
      obtain rfl : i = 100 := by omega
      refine ⟨H, frC.rf, hp', fun _ => hE, ?_⟩
      rw [b8_42, if_neg (by decide)]
      rfl
    | succ r ih =>
      intro i H p cd hi hC hp' hpn hE hl
      have e : lpP (nxF tx n) f ch dd (r + 1) p cd = if nxF tx n p = ch then (if (f (p + 1) cd).1 = true then lpP (nxF tx n) f ch dd r (f (p + 1) cd).2.1 ((f (p + 1) cd).2.2 ++ [(dd, 0, 0, 0)]) else (false, (f (p + 1) cd).2.1, [])) else (true, p, cd) := rfl
      rw [e, b8_42, if_pos (show c i < 100 from tq_gt (b := 100) (by omega) (by omega)), show dn (d + D) 3 = dn (e' + 2) 3 from by rw [he'], s3c hn hC hp' (by omega)]
      by_cases a : nxF tx n p = ch
      · have hpn1 := nx_lt (nx := nxF tx n) nxF_n a hch
        rw [if_pos a, if_pos a, bn_s]
        show ∃ H', frC T H H' ∧ _ ∧ _ ∧ rn none _ 8 55 _ [vI _] _ = _
        have hC1 : CT tx n (uI H 32 0 2 (c (p + 1))) := CT_fr (T := T) hC (fr_pl (by omega))
        obtain ⟨H1, f1, f2, f3, f4⟩ := hf d L w (uI H 32 0 2 (c (p + 1))) (p + 1) cd hC1 uI_e (by omega) (enc_p hE (fun t k j ht => uI_t ht)) (by omega)
        obtain ⟨g1, g2, g3⟩ := hg (p + 1) cd (by omega)
        have hfr1 : frC T H H1 := (fr_pl (by omega)).tr f1
        rw [b8_55, if_neg (show ¬ (1 : Int32) = 0 from by decide), f4, bn_s]
        show ∃ H', frC T H H' ∧ _ ∧ _ ∧ rn none _ 8 67 _ [vI _] _ = _
        rw [b8_67, if10]
        by_cases b : (f (p + 1) cd).1 = true
        · obtain ⟨g4, g5⟩ := g3 b
          have g6 := g5 (A.length + 1) (by omega)
          have hE1 := f3 b
          have S := s19c (d := e' + 1) (L := L) (w := w) hE1 (by rw [len_m]; omega) (a := tk (dd, 0, 0, 0))
          have hE2 := enc_s hE1 (a := tk (dd, 0, 0, 0))
          rw [← map_snoc] at hE2
          obtain ⟨H', i1, i2, i3, i4⟩ := ih (i + 1) (stpF H1 T (A ++ (f (p + 1) cd).2.2.map tk).length (tk (dd, 0, 0, 0))) (f (p + 1) cd).2.1 ((f (p + 1) cd).2.2 ++ [(dd, 0, 0, 0)]) (by omega) (CT_fr (CT_fr hC hfr1) stpF_fr) (by rw [stpF_p]; exact f2) g2 hE2 (by rw [List.length_append, List.length_cons, List.length_nil]; omega)
          refine ⟨H', (hfr1.tr stpF_fr).tr i1, ?_, ?_, ?_⟩
          · rw [if_pos b]; exact i2
          · rw [if_pos b]; exact i3
          · rw [if_pos b, if_pos b, ← i4]
            rcases h with ⟨rfl, rfl, rfl⟩ | ⟨rfl, rfl, rfl⟩
            · rw [if_pos rfl, show dn (d + D) 19 [vR 6288 T, vI 3, vI 0, vI 0, vI 0] = dn (e' + 1 + 1) 19 [vR 6288 T, vI (c (tk (3, 0, 0, 0)).1), vI (c (tk (3, 0, 0, 0)).2.1), vI (c (tk (3, 0, 0, 0)).2.2.1), vI (tk (3, 0, 0, 0)).2.2.2] from by rw [he']; rfl, S, bn_s]
              show rn none _ 8 88 _ [] _ = _
              rw [b8_88, c_s]
            · rw [if_neg (by decide), show dn (d + D) 19 [vR 6288 T, vI 2, vI 0, vI 0, vI 0] = dn (e' + 1 + 1) 19 [vR 6288 T, vI (c (tk (2, 0, 0, 0)).1), vI (c (tk (2, 0, 0, 0)).2.1), vI (c (tk (2, 0, 0, 0)).2.2.1), vI (tk (2, 0, 0, 0)).2.2.2] from by rw [he']; rfl, S, bn_s]
              show rn none _ 8 88 _ [] _ = _
              rw [b8_88, c_s]
        · refine ⟨H1, hfr1, ?_, ?_, ?_⟩
          · rw [if_neg b]; exact f2
          · rw [if_neg b]; intro z; cases z
          · rw [if_neg b, if_neg b]; rfl
      · refine ⟨H, frC.rf, ?_, ?_, ?_⟩
        · rw [if_neg a]; exact hp'
        · rw [if_neg a]; exact fun _ => hE
        · rw [if_neg a, if_neg a, bn_s]
          show rn none _ 8 55 _ [vI _] _ = _
          rw [b8_55, if_pos rfl]
          rfl
  obtain ⟨H1, f1, f2, f3, f4⟩ := hf d L w H p cd hC hp' hpn hE hl
  obtain ⟨g1, g2, g3⟩ := hg p cd hpn
  have tE : lvP (nxF tx n) f ch dd p cd = if (f p cd).1 = true then lpP (nxF tx n) f ch dd 100 (f p cd).2.1 (f p cd).2.2 else (false, (f p cd).2.1, []) := rfl
  have P : ∀ o, (if (f p cd).1 = true then rn none (dn (d + D)) 8 42 [some (vR 32 0), some (vR 6288 T), some (vI lv), some (vI win), some (vI ch), some (vI (c 0))] [] (hp H1 L w) else some (some (vI 0), hp H1 L w)) = o → dn (d + (D + 1)) 8 [vR 32 0, vR 6288 T, vI lv, vI win] (hp H L w) = o := by
    intro o ho
    rw [show dn (d + (D + 1)) 8 = dn (d + D + 1) 8 from rfl, e8, b8_0, if_pos hlv, f4, bn_s]
    show rn none _ 8 21 _ [vI _] _ = _
    rw [b8_21, if10, ← ho]
    rcases h with ⟨rfl, rfl, rfl⟩ | ⟨rfl, rfl, rfl⟩
    · rw [if_pos rfl]; rfl
    · rw [if_neg (show ¬ (1 : Int32) = 0 from by decide)]; rfl
  rw [tE]
  by_cases b : (f p cd).1 = true
  · obtain ⟨g4, g5⟩ := g3 b
    have g6 := g5 A.length (by omega)
    obtain ⟨H', i1, i2, i3, i4⟩ := loop 100 0 H1 (f p cd).2.1 (f p cd).2.2 rfl (CT_fr hC f1) f2 g2 (f3 b) (by omega)
    refine ⟨H', f1.tr i1, ?_, ?_, P _ ?_⟩
    · rw [if_pos b]; exact i2
    · rw [if_pos b]; exact i3
    · rw [if_pos b, if_pos b]; exact i4
  · refine ⟨H1, f1, ?_, ?_, P _ ?_⟩
    · rw [if_neg b]; exact f2
    · rw [if_neg b]; intro z; cases z
    · rw [if_neg b, if_neg b]; rfl
theorem rok01 {b : Bool} : rok 1 (if b = true then 1 else 0) = true := by cases b <;> rfl
/-- the lowest level is a part -/
theorem c8p {f : Nat → List Tk → RsP} {win : Int32} {D : Nat} (hf : SpC tx n T A f 9 [vI win] D) : SpC tx n T A f 8 [vI 2, vI win] (D + 1) := by
  intro d L w H p cd hC hp' hpn hE hl
  obtain ⟨H1, f1, f2, f3, f4⟩ := hf d L w H p cd hC hp' hpn hE hl
  refine ⟨H1, f1, f2, f3, ?_⟩
  show dn (d + D + 1) 8 [vR 32 0, vR 6288 T, vI 2, vI win] (hp H L w) = _
  rw [e8, b8_0, if_neg (by decide), f4, bn_s]
  show rn none _ 8 11 _ [vI _] _ = _
  rw [b8_11, ck_t rok01]
end P91
