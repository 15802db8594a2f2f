set_option maxHeartbeats 400000
section P97
variable {L : FL} {w : Nat → Nat} {tx : Nat → Int32} {n f ci : Nat}
theorem opn_38 {r : List Nat} : opn (38 :: r) = opn r := by show opn r + _ = _; rw [if_neg (by decide)]; rfl
theorem opn_124 {r : List Nat} : opn (124 :: r) = opn r := by show opn r + _ = _; rw [if_neg (by decide)]; rfl
/-- popped and emitted -/
theorem MZ_ps {H : FI} {p : Nat} {a : Nat} {q : List Nat} {l : List Tk} {x : Tk} (hn : n ≤ 100) (h : MZ tx n f H p (a :: q) l) (ha : opn (a :: q) = opn q) : MZ tx n f (emF (uI H 14944 0 25 (c q.length)) f l.length x) p q (l ++ [x]) ∧ frM f ci H (emF (uI H 14944 0 25 (c q.length)) f l.length x) := by
  obtain ⟨h1, h2, h3, h4, h5, h6, h7, h8, h9⟩ := id h
  rw [List.length_cons] at h8
  have hS : encS (uI H 14944 0 25 (c q.length)) f l := encS_p h7 (uI_j (by omega)) (fun j => uI_t (by omega))
  have hfr : frM f ci H (emF (uI H 14944 0 25 (c q.length)) f l.length x) := (frM_at (by omega)).tr (emF_fr (by omega))
  refine ⟨⟨MTx_fr h1 hfr, ?_, h3, ?_, ?_, ?_, emF_S hS, ?_, h9⟩, hfr⟩
  · rw [emF_j (by omega), uI_j (by omega)]; exact h2
  · rw [emF_j (by omega), uI_e]
  · exact stW_p (fun j => by rw [emF_w, uI_t (by omega)]) q h5.2.2
  · rw [emF_j (by omega), uI_j (by omega), ← ha]; exact h6
  · rw [List.length_append, List.length_cons, List.length_nil]; omega
theorem s133 {d s : Nat} (hn : n ≤ 100) (hs' : s = 38 ∨ s = 124) : ∀ q H p l, MZ tx n f H p q l → ∃ H', frM f ci H H' ∧ MZ tx n f H' p (stlF s q l).1 (stlF s q l).2 ∧ rn none (dn (d + 1)) 133 0 [some (vR 14944 0), some (vI (c s))] [] (hp H L w) = some (none, hp H' L w) := by
  intro q
  induction q with
  | nil =>
    intro H p l h
    refine ⟨H, frM.rf, h, ?_⟩
    rw [b133_0, h.2.2.2.1, if_neg (by decide)]
  | cons a r ih =>
    intro H p l h
    obtain ⟨h1, h2, h3, h4, h5, h6, h7, h8, h9⟩ := id h
    rw [List.length_cons] at h4 h8
    have e1 : c (r.length + 1) - 1 = c r.length := by rw [show (1 : Int32) = c 1 from rfl, c_sub (by omega), Nat.add_sub_cancel]
    have eS : stlF s (a :: r) l = if a = 38 then stlF s r (l ++ [(2, 0, 0, 0)]) else if a = 124 ∧ s ≠ 38 then stlF s r (l ++ [(3, 0, 0, 0)]) else (a :: r, l) := rfl
    have hS : encS (uI H 14944 0 25 (c r.length)) f l := encS_p h7 (uI_j (by omega)) (fun j => uI_t (by omega))
    have v1 : vin (c r.length) 101 = true := vin_c (by omega) (by omega)
    rw [eS, b133_0, h4, if_pos (show (0 : Int32) < c (r.length + 1) from tq_gt (a := 0) (by omega) (by omega)), e1, ck_t v1, ck_t v1, ck_t v1, ix_c (by omega), h5.1]
    have uw : ∀ x, uI H 14944 0 25 x 207697 0 r.length = c a := fun x => by rw [uI_t (by omega)]; exact h5.1
    by_cases q : a = 38
    · subst q
      obtain ⟨g1, g2⟩ := MZ_ps (ci := ci) (x := (2, 0, 0, 0)) hn h opn_38
      obtain ⟨H', i1, i2, i3⟩ := ih _ p _ g1
      refine ⟨H', g2.tr i1, ?_, ?_⟩
      · rw [if_pos rfl]; exact i2
      · rw [if_pos (show c 38 = 38 from rfl), s131 (a := (2, 0, 0, 0)) (x := -c 38) hS h9 (by omega) (by decide), bn_s]
        show rn none _ 133 69 _ [] _ = _
        rw [b133_69]
        exact i3
    · have hne : ¬ c a = 38 := fun z => q (c_inj (by have := h5.2.1; omega) (by omega) (show c a = c 38 from z))
      by_cases q2 : a = 124
      · subst q2
        by_cases q3 : s = 38
        · refine ⟨H, frM.rf, ?_, ?_⟩
          · rw [if_neg q, if_neg (fun z => z.2 q3)]; exact h
          · rw [if_neg hne, if_pos (show c 124 = 124 from rfl), if_pos (show c s = 38 from by rw [q3]; rfl)]
        · obtain ⟨g1, g2⟩ := MZ_ps (ci := ci) (x := (3, 0, 0, 0)) hn h opn_124
          obtain ⟨H', i1, i2, i3⟩ := ih _ p _ g1
          have hs124 : s = 124 := by omega
          refine ⟨H', g2.tr i1, ?_, ?_⟩
          · rw [if_neg q, if_pos ⟨rfl, q3⟩]; exact i2
          · rw [if_neg hne, if_pos (show c 124 = 124 from rfl), if_neg (show ¬ c s = 38 from by rw [hs124]; decide), s131 (a := (3, 0, 0, 0)) (x := -c 124) hS h9 (by omega) (by decide), bn_s]
            show rn none _ 133 69 _ [] _ = _
            rw [b133_69]
            exact i3
      · have hne2 : ¬ c a = 124 := fun z => q2 (c_inj (by have := h5.2.1; omega) (by omega) (show c a = c 124 from z))
        refine ⟨H, frM.rf, ?_, ?_⟩
        · rw [if_neg q, if_neg (fun z => q2 z.1)]; exact h
        · rw [if_neg hne, if_neg hne2]
/-- MZ where the place moves -/
theorem MZ_at {H : FI} {p p' : Nat} {q : List Nat} {l : List Tk} (h : MZ tx n f H p q l) (h1 : p ≤ p') (h2 : p' ≤ n) : MZ tx n f (uI H 14944 0 14 (c p')) p' q l ∧ frM f ci H (uI H 14944 0 14 (c p')) := by
  obtain ⟨a1, a2, a3, a4, a5, a6, a7, a8, a9⟩ := h
  have hfr : frM f ci H (uI H 14944 0 14 (c p')) := frM_at (by omega)
  exact ⟨⟨MTx_fr a1 hfr, uI_e, h2, by rw [uI_j (by omega)]; exact a4, stW_p (fun j => uI_t (by omega)) q a5, by rw [uI_j (by omega)]; exact a6, encS_p a7 (uI_j (by omega)) (fun j => uI_t (by omega)), by omega, a9⟩, hfr⟩
theorem MZ_15 {H : FI} {p : Nat} {q : List Nat} {l : List Tk} {x : Int32} (h : MZ tx n f H p q l) : MZ tx n f (uI H 14944 0 15 x) p q l ∧ frM f ci H (uI H 14944 0 15 x) := by
  obtain ⟨a1, a2, a3, a4, a5, a6, a7, a8, a9⟩ := h
  have hfr : frM f ci H (uI H 14944 0 15 x) := frM_at (by omega)
  exact ⟨⟨MTx_fr a1 hfr, by rw [uI_j (by omega)]; exact a2, a3, by rw [uI_j (by omega)]; exact a4, stW_p (fun j => uI_t (by omega)) q a5, by rw [uI_j (by omega)]; exact a6, encS_p a7 (uI_j (by omega)) (fun j => uI_t (by omega)), by omega, a9⟩, hfr⟩
/-- a number, where only text and place count -/
theorem s129 {d p : Nat} {H : FI} (hn : n ≤ 100) (h : MTx tx n H) (hp' : H 14944 0 14 = c p) (hpn : p ≤ 200) : dn (d + 2) 129 [vR 14944 0] (hp H L w) = some (some (vI (if isD (nxF tx n p) = true then 1 else 0)), hp H L w) := by
  rw [e129, b129_0, s126 hn h hp' hpn, bn_s]
  show rn none _ 129 5 _ [vI _, vR _ _] _ = _
  rw [b129_5, s106, bn_s]
  show rn none _ 129 12 _ [vI _] _ = _
  rw [b129_12, ck_t rok_bi]
  unfold bi isD
  by_cases q : 48 ≤ nxF tx n p ∧ nxF tx n p ≤ 57
  · rw [if_pos q, decide_eq_true q.1, decide_eq_true q.2]; rfl
  · rw [if_neg q]
    have : (decide (48 ≤ nxF tx n p) && decide (nxF tx n p ≤ 57)) = false := by
      simp only [Bool.and_eq_false_iff, decide_eq_false_iff_not]
      by_cases k : 48 ≤ nxF tx n p
      · exact Or.inr (fun z => q ⟨k, z⟩)
      · exact Or.inl k
    rw [this]
    rfl
/-- only the place and the digits change -/
def frN (H H' : FI) : Prop := ∀ t k j, ¬ (t = 14944 ∧ (j = 14 ∨ j = 15)) → H' t k j = H t k j
theorem s130 {d p : Nat} {H : FI} (hn : n ≤ 100) (h : MTx tx n H) (hp' : H 14944 0 14 = c p) (hpn : p ≤ n) : ∃ H', frN H H' ∧ H' 14944 0 14 = c (rdN (nxF tx n) p).2.1 ∧ ((rdN (nxF tx n) p).1 = true → H' 14944 0 15 = c (rdN (nxF tx n) p).2.2) ∧ dn (d + 3) 130 [vR 14944 0] (hp H L w) = some (some (vI (if (rdN (nxF tx n) p).1 = true then 1 else 0)), hp H' L w) := by
  have T : ∀ (H' : FI), frN H H' → MTx tx n H' := fun H' hf => ⟨(hf _ _ _ (by omega)).trans h.1, fun i hi => (hf _ _ _ (by omega)).trans (h.2 i hi)⟩
  unfold rdN
  cases a : isD (nxF tx n p) with
  | false =>
    refine ⟨H, fun _ _ _ _ => rfl, hp', (fun z => by cases z), ?_⟩
    rw [e130, b130_0, s129 hn h hp' (by omega), bn_s]
    show rn none _ 130 4 _ [vI _] _ = _
    rw [b130_4, a]
    rfl
  | true =>
    obtain ⟨d1, d2⟩ := isD_c a
    have hf1 : frN H (uI H 14944 0 15 0) := fun t k j hh => by unfold uI; rw [if_neg (fun z => hh ⟨z.1, by omega⟩)]
    have hM1 := T _ hf1
    have hf2 : frN H (uI (uI H 14944 0 15 (c (dvl (nxF tx n p)))) 14944 0 14 (c (p + 1))) := fun t k j hh => by
      unfold uI; rw [if_neg (fun z => hh ⟨z.1, by omega⟩), if_neg (fun z => hh ⟨z.1, by omega⟩)]
    have hM2 := T _ hf2
    have hpn1 := isD_lt (nx := nxF tx n) nxF_n a
    have e0 : (10 : Int32) * 0 + nxF tx n p - 48 = c (dvl (nxF tx n p)) := by
      have := d_two' (u := 0) (by omega) d1 d2
      rw [Nat.mul_zero, Nat.zero_add] at this
      exact this
    have B : ∀ o, rn none (dn (d + 2)) 130 16 [some (vR 14944 0), some (vI 1)] [] (hp (uI (uI H 14944 0 15 (c (dvl (nxF tx n p)))) 14944 0 14 (c (p + 1))) L w) = o → dn (d + 3) 130 [vR 14944 0] (hp H L w) = o := by
      intro o ho
      rw [e130, b130_0, s129 hn h hp' (by omega), bn_s]
      show rn none _ 130 4 _ [vI _] _ = _
      rw [b130_4, a, if10, if_pos rfl, b130_16, if_pos (by decide), s129 hn hM1 (by rw [uI_j (by omega)]; exact hp') (by omega), bn_s]
      show rn none _ 130 25 _ [vI _] _ = _
      rw [b130_25, a, if10, if_pos rfl, s126 hn hM1 (by rw [uI_j (by omega)]; exact hp') (by omega), bn_s, uI_e]
      show rn none _ 130 40 _ [vI _, vI _, vR _ _] _ = _
      rw [b130_40, e0, uI_u, uI_j (by omega), hp', c_s]
      exact ho
    have S2 := s129 (d := d) (L := L) (w := w) hn hM2 uI_e (show p + 1 ≤ 200 by omega)
    cases b : isD (nxF tx n (p + 1)) with
    | false =>
      refine ⟨uI (uI H 14944 0 15 (c (dvl (nxF tx n p)))) 14944 0 14 (c (p + 1)), hf2, uI_e, fun _ => ?_, B _ ?_⟩
      · rw [uI_j (by omega), uI_e]; rfl
      · rw [b130_16, if_pos (by decide), S2, bn_s]
        show rn none _ 130 25 _ [vI _] _ = _
        rw [b130_25, b]
        rfl
    | true =>
      obtain ⟨f1, f2⟩ := isD_c b
      refine ⟨uI (uI H 14944 0 15 (c (10 * dvl (nxF tx n p) + dvl (nxF tx n (p + 1))))) 14944 0 14 (c (p + 1 + 1)), fun t k j hh => by
        unfold uI; rw [if_neg (fun z => hh ⟨z.1, by omega⟩), if_neg (fun z => hh ⟨z.1, by omega⟩)], uI_e, fun _ => ?_, B _ ?_⟩
      · rw [uI_j (by omega), uI_e]; rfl
      · rw [b130_16, if_pos (by decide), S2, bn_s]
        show rn none _ 130 25 _ [vI _] _ = _
        rw [b130_25, b, if10, if_pos rfl, s126 hn hM2 uI_e (by omega), bn_s, uI_j (by omega), uI_e]
        show rn none _ 130 40 _ [vI _, vI _, vR _ _] _ = _
        rw [b130_40, d_two' d1 f1 f2, uI_e, c_s]
        have e3 : uI (uI (uI (uI H 14944 0 15 (c (dvl (nxF tx n p)))) 14944 0 14 (c (p + 1))) 14944 0 15 (c (10 * dvl (nxF tx n p) + dvl (nxF tx n (p + 1))))) 14944 0 14 (c (p + 1 + 1)) = uI (uI H 14944 0 15 (c (10 * dvl (nxF tx n p) + dvl (nxF tx n (p + 1))))) 14944 0 14 (c (p + 1 + 1)) := by
          funext t k j
          unfold uI
          by_cases q1 : t = 14944 ∧ k = 0 ∧ j = 14
          · rw [if_pos q1, if_pos q1]
          · rw [if_neg q1, if_neg q1, if_neg q1]
            by_cases q2 : t = 14944 ∧ k = 0 ∧ j = 15
            · rw [if_pos q2, if_pos q2]
            · rw [if_neg q2, if_neg q2, if_neg q2]
        rw [e3, b130_16, if_neg (by decide)]
        rfl
theorem frN_M {H H' : FI} (h : frN H H') : frM f ci H H' := fun t k j a _ _ _ => h t k j (fun z => a ⟨z.1, by omega⟩)
theorem MZ_N {H H' : FI} {p p' : Nat} {q : List Nat} {l : List Tk} (h : MZ tx n f H p q l) (hf : frN H H') (h14 : H' 14944 0 14 = c p') (h1 : p ≤ p') (h2 : p' ≤ n) : MZ tx n f H' p' q l := by
  obtain ⟨a1, a2, a3, a4, a5, a6, a7, a8, a9⟩ := h
  exact ⟨MTx_fr (f := f) (ci := 0) a1 (frN_M hf), h14, h2, (hf _ _ _ (by omega)).trans a4, stW_p (fun j => hf _ _ _ (by omega)) q a5, (hf _ _ _ (by omega)).trans a6, encS_p a7 (hf _ _ _ (by omega)) (fun j => hf _ _ _ (by omega)), by omega, a9⟩
theorem s134 {d : Nat} {I : FI} {x : Int32} : dn (d + 1) 134 [vR 14944 0, vI x] (hp I L w) = some (some (vI (ltr x)), hp I L w) := by
  rw [e134, b134_0]
  unfold ltr
  by_cases a0 : x = 112
  · subst a0; rfl
  · by_cases a1 : x = 116
    · subst a1; rfl
    · by_cases a2 : x = 107
      · subst a2; rfl
      · by_cases a3 : x = 118
        · subst a3; rfl
        · by_cases a4 : x = 119
          · subst a4; rfl
          · by_cases a5 : x = 108
            · subst a5; rfl
            · simp only [if_neg a0, if_neg a1, if_neg a2, if_neg a3, if_neg a4, if_neg a5, ite_self]
end P97
