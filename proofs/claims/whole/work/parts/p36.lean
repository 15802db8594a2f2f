def cnt (b : Nat → Bool) : Nat → Int32
  | 0 => 0
  | n + 1 => cnt b n + (if b n = true then 1 else 0)
theorem arD_fct {I : FI} {w : Nat → Nat} {k : Nat} {g : Nat → Int32} : arD (fct I k g) w k = arD I w k := by
  funext i
  unfold arD
  rw [fct_p (by omega), fct_p (by omega), fct_p (by omega), fct_p (by omega)]
/-- the depths behind n days, of the first i things -/
def lgo (I : FI) (w : Nat → Nat) (k n dy i : Nat) (g : Nat → Int32) : FI := fun t k' j => if t = 12849 ∧ k' = k then g j else if t = 12641 ∧ k' = k ∧ j < i ∧ I 12625 k j ≠ -5 then lowB I w k j n dy else I t k' j
theorem lgo_p {I : FI} {w : Nat → Nat} {k n dy i : Nat} {g : Nat → Int32} {t k' : Nat} (h : t ≠ 12849) (h' : t ≠ 12641) : lgo I w k n dy i g t k' = I t k' := by
  funext j
  unfold lgo
  rw [if_neg (fun z => h z.1), if_neg (fun z => h' z.1)]
theorem lgo_l {I : FI} {w : Nat → Nat} {k n dy i : Nat} {g : Nat → Int32} {j : Nat} (h : i ≤ j) : lgo I w k n dy i g 12641 k j = I 12641 k j := by
  unfold lgo
  rw [if_neg (fun z => absurd z.1 (by decide)), if_neg (fun z => by omega)]
theorem pullD_lgo {I : FI} {w : Nat → Nat} {k n dy i : Nat} {g : Nat → Int32} {T : Nat} {f : Nat → Int32} : pullD (lgo I w k n dy i g) T f = pullD I T f := by
  unfold pullD
  rw [lgo_p (by omega) (by omega), lgo_p (by omega) (by omega), lgo_p (by omega) (by omega), lgo_p (by omega) (by omega), lgo_p (by omega) (by omega)]
theorem dayD_lgo {I : FI} {w : Nat → Nat} {k n dy i : Nat} {g : Nat → Int32} {p t : Nat} : dayD (lgo I w k n dy i g) w k p t = dayD I w k p t := by
  funext l d
  unfold dayD skD fD
  rw [pullD_lgo]
  simp only [lgo_p (I := I) (w := w) (k := k) (n := n) (dy := dy) (i := i) (g := g) (show (10481 : Nat) ≠ 12849 by omega) (by omega), lgo_p (I := I) (w := w) (k := k) (n := n) (dy := dy) (i := i) (g := g) (show (10497 : Nat) ≠ 12849 by omega) (by omega), lgo_p (I := I) (w := w) (k := k) (n := n) (dy := dy) (i := i) (g := g) (show (10513 : Nat) ≠ 12849 by omega) (by omega), lgo_p (I := I) (w := w) (k := k) (n := n) (dy := dy) (i := i) (g := g) (show (6288 : Nat) ≠ 12849 by omega) (by omega), lgo_p (I := I) (w := w) (k := k) (n := n) (dy := dy) (i := i) (g := g) (show (41265 : Nat) ≠ 12849 by omega) (by omega), lgo_p (I := I) (w := w) (k := k) (n := n) (dy := dy) (i := i) (g := g) (show (12609 : Nat) ≠ 12849 by omega) (by omega)]
theorem lgo_s {I : FI} {w : Nat → Nat} {k n dy i : Nat} {g g' : Nat → Int32} (h : I 12625 k i ≠ -5) : uI (fct (lgo I w k n dy i g) k g') 12641 k i (lowB I w k i n dy) = lgo I w k n dy (i + 1) g' := by
  funext t k' j
  unfold uI fct lgo
  by_cases a : t = 12641 ∧ k' = k ∧ j = i
  · obtain ⟨rfl, rfl, rfl⟩ := a
    rw [if_pos ⟨rfl, rfl, rfl⟩, if_neg (fun z => absurd z.1 (by decide)), if_pos ⟨rfl, rfl, by omega, h⟩]
  · rw [if_neg a]
    by_cases b : t = 12849 ∧ k' = k
    · rw [if_pos b, if_pos b]
    · rw [if_neg b, if_neg b, if_neg b]
      have : (t = 12641 ∧ k' = k ∧ j < i + 1 ∧ I 12625 k j ≠ -5) = (t = 12641 ∧ k' = k ∧ j < i ∧ I 12625 k j ≠ -5) := propext ⟨fun z => ⟨z.1, z.2.1, by
        have := z.2.2.1
        have : j ≠ i := fun y => a ⟨z.1, z.2.1, y⟩
        omega, z.2.2.2⟩, fun z => ⟨z.1, z.2.1, by have := z.2.2.1; omega, z.2.2.2⟩⟩
      simp only [this]
theorem lgo_o {I : FI} {w : Nat → Nat} {k n dy i : Nat} {g : Nat → Int32} (h : I 12625 k i = -5) : lgo I w k n dy i g = lgo I w k n dy (i + 1) g := by
  funext t k' j
  unfold lgo
  have : (t = 12641 ∧ k' = k ∧ j < i + 1 ∧ I 12625 k j ≠ -5) = (t = 12641 ∧ k' = k ∧ j < i ∧ I 12625 k j ≠ -5) := propext ⟨fun z => ⟨z.1, z.2.1, by
    have := z.2.2.1
    have : j ≠ i := fun y => z.2.2.2 (by rw [y]; exact h)
    omega, z.2.2.2⟩, fun z => ⟨z.1, z.2.1, by have := z.2.2.1; omega, z.2.2.2⟩⟩
  simp only [this]
theorem lgo_0 {I : FI} {w : Nat → Nat} {k n dy : Nat} : lgo I w k n dy 0 (I 12849 k) = I := by
  funext t k' j
  unfold lgo
  by_cases b : t = 12849 ∧ k' = k
  · rw [if_pos b, b.1, b.2]
  · rw [if_neg b, if_neg (fun z => absurd z.2.2.1 (Nat.not_lt_zero _))]
theorem l47 {d : Nat} {I : FI} {L : FL} {w : Nat → Nat} {k nW nT dy n : Nat} (h : WV I w k nW nT dy) (hn : n ≤ 100) : ∀ r i g, i + r = nT → ∃ g', rn none (dn (d + 4)) 47 2 [some (vR 10464 k), some (vI (c n)), some (vI (c i))] [] (hp (lgo I w k n dy i g) L w) = some (none, hp (uI (lgo I w k n dy nT g') 10464 k 10 (c (dy + n))) L w) := by
  obtain ⟨h1, h2, h3, h4, h5, h6, h7, s, hs, h8⟩ := h
  intro r
  induction r with
  | zero =>
    intro i g hr
    obtain rfl : i = nT := by omega
    refine ⟨g, ?_⟩
    rw [b47_2, lgo_p (by omega) (by omega), h5, if_neg (by rw [c_lt (by omega) (by omega)]; omega), h6, cq rfl]
  | succ r ih =>
    intro i g hr
    rw [b47_2, lgo_p (by omega) (by omega), h5, if_pos (by rw [c_lt (by omega) (by omega)]; omega), s33 (by omega), bn_s]
    show ∃ g', rn none _ 47 15 _ [vI _] _ = _
    rw [b47_15, ib, lgo_p (by omega) (by omega), c_s]
    rcases h7 i (by omega) with ho | ⟨p, hp5, hpk⟩
    · obtain ⟨g', hg⟩ := ih (i + 1) g (by omega)
      refine ⟨g', ?_⟩
      rw [if_pos ho, lgo_o ho, hg]
    · have hne : ¬ I 12625 k i = -5 := by rw [hpk]; exact c_m5 (by omega)
      obtain ⟨g1, hg1⟩ := s43 (d := d) (I := lgo I w k n dy i g) (L := L) (w := w) (k := k) (p := p) (t := i) (n := s) (dy := dy) (r := n) (l := I 12641 k i) (by omega) (by omega) (by omega) hs (by rw [lgo_p (by omega) (by omega)]; exact h8)
      obtain ⟨g2, hg2⟩ := ih (i + 1) g1 (by omega)
      refine ⟨g2, ?_⟩
      rw [if_neg hne, ck_t (vin_c (by omega) (by omega)), ck_t (vin_c (by omega) (by omega)), ix_c (by omega), lgo_p (t := 10464) (by omega) (by omega), h6, lgo_l (Nat.le_refl _), hpk, hg1, bn_s]
      show rn none _ 47 45 _ [vI _, vI _, vR _ _] _ = _
      rw [b47_45, ck_t (vin_c (by omega) (by omega)), ix_c (by omega), c_s, dayD_lgo]
      have e : itD (dayD I w k p i) n dy (I 12641 k i) = lowB I w k i n dy := by
        unfold lowB
        rw [if_neg hne, hpk, ix_c (by omega)]
      rw [e, lgo_s hne, hg2]
theorem s47 {d : Nat} {I : FI} {L : FL} {w : Nat → Nat} {k nW nT dy n : Nat} (h : WV I w k nW nT dy) (hn : n ≤ 100) : ∃ g, dn (d + 5) 47 [vR 10464 k, vI (c n)] (hp I L w) = some (none, hp (uI (lgo I w k n dy nT g) 10464 k 10 (c (dy + n))) L w) := by
  obtain ⟨g, hg⟩ := l47 (d := d) (L := L) h hn nT 0 (I 12849 k) (by omega)
  refine ⟨g, ?_⟩
  rw [e47, b47_0, ← hg, lgo_0]
  rfl
/-- is thing t touched behind n days -/
def tchD (I : FI) (w : Nat → Nat) (k n dy t : Nat) : Bool := !decide (I 12625 k t = -5) && decide (lowB I w k t n dy ≤ arD I w k (ix (I 12625 k t)))
theorem l48 {d : Nat} {I : FI} {L : FL} {w : Nat → Nat} {k nW nT dy n : Nat} (h : WV I w k nW nT dy) (hn : n ≤ 100) : ∀ r i g, i + r = nT → ∃ g', rn none (dn (d + 5)) 48 4 [some (vR 10464 k), some (vI (c n)), some (vI (cnt (tchD I w k n dy) i)), some (vI (c i))] [] (hp (fct I k g) L w) = some (some (vI (cnt (tchD I w k n dy) nT)), hp (fct I k g') L w) := by
  obtain ⟨h1, h2, h3, h4, h5, h6, h7, s, hs, h8⟩ := id h
  intro r
  induction r with
  | zero =>
    intro i g hr
    obtain rfl : i = nT := by omega
    refine ⟨g, ?_⟩
    rw [b48_4, fct_p (by omega), h5, if_neg (by rw [c_lt (by omega) (by omega)]; omega)]
  | succ r ih =>
    intro i g hr
    rw [b48_4, fct_p (by omega), h5, if_pos (by rw [c_lt (by omega) (by omega)]; omega), s33 (by omega), bn_s]
    show ∃ g', rn none _ 48 17 _ [vI _] _ = _
    rw [b48_17, ib, fct_p (by omega), c_s]
    have e : cnt (tchD I w k n dy) (i + 1) = cnt (tchD I w k n dy) i + (if tchD I w k n dy i = true then 1 else 0) := rfl
    rcases h7 i (by omega) with ho | ⟨p, hp5, hpk⟩
    · obtain ⟨g', hg⟩ := ih (i + 1) g (by omega)
      refine ⟨g', ?_⟩
      rw [e, if_neg (by unfold tchD; rw [decide_eq_true ho]; simp), Int32.add_zero] at hg
      rw [if_pos ho, hg]
    · have hne : ¬ I 12625 k i = -5 := by rw [hpk]; exact c_m5 (by omega)
      obtain ⟨g1, hg1⟩ := s45 (d := d) (I := fct I k g) (L := L) (r := n) (WV_fct (g := g) h) (show i < nT by omega) hn
      obtain ⟨g2, hg2⟩ := ih (i + 1) g1 (by omega)
      refine ⟨g2, ?_⟩
      rw [if_neg hne, hg1, bn_s, fct_f, lowB_fct]
      show rn none _ 48 26 _ [vI _] _ = _
      rw [b48_26, ck_t (vin_c (by omega) (by omega)), ix_c (by omega), fct_p (by omega), hpk, s38 (by omega), bn_s]
      show rn none _ 48 36 _ [vI _, vI _] _ = _
      rw [b48_36, c_s]
      show (if arD (fct I k g1) w k p < _ then _ else _) = _
      rw [arD_fct]
      have e2 : tchD I w k n dy i = decide (lowB I w k i n dy ≤ arD I w k p) := by
        unfold tchD
        rw [decide_eq_false hne, hpk, ix_c (by omega)]
        rfl
      rw [e, e2] at hg2
      by_cases a : arD I w k p < lowB I w k i n dy
      · rw [if_neg (by simp only [decide_eq_true_eq]; grind), Int32.add_zero] at hg2
        rw [if_pos a, hg2]
      · rw [if_pos (by simp only [decide_eq_true_eq]; grind)] at hg2
        rw [if_neg a, hg2]
theorem s48 {d : Nat} {I : FI} {L : FL} {w : Nat → Nat} {k nW nT dy n : Nat} (h : WV I w k nW nT dy) (hn : n ≤ 100) : ∃ g, dn (d + 6) 48 [vR 10464 k, vI (c n)] (hp I L w) = some (some (vI (cnt (tchD I w k n dy) nT)), hp (fct I k g) L w) := by
  obtain ⟨g, hg⟩ := l48 (d := d) (L := L) h hn nT 0 (I 12849 k) (by omega)
  refine ⟨g, ?_⟩
  rw [e48, b48_0, ← hg, fct_i]
  rfl
