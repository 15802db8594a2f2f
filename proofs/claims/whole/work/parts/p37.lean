def outD (I : FI) (k t : Nat) : Bool := decide (I 12625 k t = -5)
theorem l49 {d : Nat} {I : FI} {L : FL} {w : Nat → Nat} {k nT : Nat} (h2 : nT ≤ 6) (h5 : I 10464 k 6 = c nT) : ∀ r i, i + r = nT → rn none (dn (d + 1)) 49 4 [some (vR 10464 k), some (vI (cnt (fun t => !outD I k t) i)), some (vI (c i))] [] (hp I L w) = some (some (vI (cnt (fun t => !outD I k t) nT)), hp I L w) := by
  intro r
  induction r with
  | zero =>
    intro i hr
    obtain rfl : i = nT := by omega
    rw [b49_4, h5, if_neg (by rw [c_lt (by omega) (by omega)]; omega)]
  | succ r ih =>
    intro i hr
    have hg := ih (i + 1) (by omega)
    rw [b49_4, h5, if_pos (by rw [c_lt (by omega) (by omega)]; omega), s33 (by omega), bn_s]
    show rn none _ 49 18 _ [vI _, vI _] _ = _
    rw [b49_18, ib, c_s]
    have e : cnt (fun t => !outD I k t) (i + 1) = cnt (fun t => !outD I k t) i + (if (!outD I k i) = true then 1 else 0) := rfl
    rw [e] at hg
    unfold outD at hg ⊢
    by_cases a : I 12625 k i = -5
    · rw [if_neg (by simp [a])] at hg
      rw [if_pos a, hg]
    · rw [if_pos (by simp [a])] at hg
      rw [if_neg a, hg]
theorem s49 {d : Nat} {I : FI} {L : FL} {w : Nat → Nat} {k nT : Nat} (h2 : nT ≤ 6) (h5 : I 10464 k 6 = c nT) : dn (d + 2) 49 [vR 10464 k] (hp I L w) = some (some (vI (cnt (fun t => !outD I k t) nT)), hp I L w) := by
  rw [e49, b49_0]
  exact l49 h2 h5 nT 0 (by omega)
def lwz (I : FI) (w : Nat → Nat) (k n dy t : Nat) : Int32 := if I 12625 k t = -5 then 0 else lowB I w k t n dy
theorem l50 {d : Nat} {I : FI} {L : FL} {w : Nat → Nat} {k nW nT dy n : Nat} (h : WV I w k nW nT dy) (hn : n ≤ 100) : ∀ r i g, i + r = nT → ∃ g', rn none (dn (d + 5)) 50 4 [some (vR 10464 k), some (vI (c n)), some (vI (allA (lwz I w k n dy) i)), some (vI (c i))] [] (hp (fct I k g) L w) = some (some (vI (allA (lwz I w k n dy) nT)), hp (fct I k g') L w) := by
  obtain ⟨h1, h2, h3, h4, h5, h6, h7, s, hs, h8⟩ := id h
  intro r
  induction r with
  | zero =>
    intro i g hr
    obtain rfl : i = nT := by omega
    refine ⟨g, ?_⟩
    rw [b50_4, fct_p (by omega), h5, if_neg (by rw [c_lt (by omega) (by omega)]; omega)]
  | succ r ih =>
    intro i g hr
    rw [b50_4, fct_p (by omega), h5, if_pos (by rw [c_lt (by omega) (by omega)]; omega), s33 (by omega), bn_s]
    show ∃ g', rn none _ 50 18 _ [vI _, vI _] _ = _
    rw [b50_18, ib, fct_p (by omega)]
    have e : allA (lwz I w k n dy) (i + 1) = allA (lwz I w k n dy) i + lwz I w k n dy i := rfl
    by_cases a : I 12625 k i = -5
    · obtain ⟨g', hg⟩ := ih (i + 1) g (by omega)
      refine ⟨g', ?_⟩
      rw [e] at hg
      unfold lwz at hg ⊢
      rw [if_pos a] at hg
      rw [if_pos a, b50_31, c_s, hg]
    · obtain ⟨g1, hg1⟩ := s45 (d := d) (I := fct I k g) (L := L) (r := n) (WV_fct (g := g) h) (show i < nT by omega) hn
      obtain ⟨g2, hg2⟩ := ih (i + 1) g1 (by omega)
      refine ⟨g2, ?_⟩
      rw [if_neg a, hg1, bn_s, fct_f, lowB_fct]
      show rn none _ 50 31 _ [vI _, vI _] _ = _
      have e2 : lwz I w k n dy i = lowB I w k i n dy := by unfold lwz; rw [if_neg a]
      rw [e, e2] at hg2
      rw [b50_31, c_s, hg2]
theorem s50 {d : Nat} {I : FI} {L : FL} {w : Nat → Nat} {k nW nT dy n : Nat} (h : WV I w k nW nT dy) (hn : n ≤ 100) : ∃ g, dn (d + 6) 50 [vR 10464 k, vI (c n)] (hp I L w) = some (some (vI (allA (lwz I w k n dy) nT)), hp (fct I k g) L w) := by
  obtain ⟨g, hg⟩ := l50 (d := d) (L := L) h hn nT 0 (I 12849 k) (by omega)
  refine ⟨g, ?_⟩
  rw [e50, b50_0, ← hg, fct_i]
  rfl
def wthD (I : FI) (w : Nat → Nat) (k nW t : Nat) : Bool := !outD I k t && decide (I 12641 k t ≤ allA (arD I w k) nW)
theorem l51 {d : Nat} {I : FI} {L : FL} {w : Nat → Nat} {k nW nT : Nat} (h2 : nT ≤ 6) (h5 : I 10464 k 6 = c nT) : ∀ r i, i + r = nT → rn none (dn (d + 1)) 51 9 [some (vR 10464 k), some (vI (cnt (wthD I w k nW) i)), some (vI (allA (arD I w k) nW)), some (vI (c i))] [] (hp I L w) = some (some (vI (cnt (wthD I w k nW) nT)), hp I L w) := by
  intro r
  induction r with
  | zero =>
    intro i hr
    obtain rfl : i = nT := by omega
    rw [b51_9, h5, if_neg (by rw [c_lt (by omega) (by omega)]; omega)]
  | succ r ih =>
    intro i hr
    have hg := ih (i + 1) (by omega)
    rw [b51_9, h5, if_pos (by rw [c_lt (by omega) (by omega)]; omega), s33 (by omega), bn_s]
    show rn none _ 51 22 _ [vI _] _ = _
    rw [b51_22, ib, c_s, ck_t (vin_c (by omega) (by omega)), ix_c (by omega)]
    have e : cnt (wthD I w k nW) (i + 1) = cnt (wthD I w k nW) i + (if wthD I w k nW i = true then 1 else 0) := rfl
    rw [e] at hg
    by_cases a : I 12625 k i = -5
    · rw [if_neg (by unfold wthD outD; simp [a]), Int32.add_zero] at hg
      rw [if_pos a, hg]
    · by_cases b : allA (arD I w k) nW < I 12641 k i
      · rw [if_neg (by unfold wthD outD; simp only [Bool.and_eq_true, decide_eq_true_eq]; grind), Int32.add_zero] at hg
        rw [if_neg a, if_pos b, hg]
      · rw [if_pos (by unfold wthD outD; simp only [Bool.and_eq_true, decide_eq_true_eq]; grind)] at hg
        rw [if_neg a, if_neg b, hg]
theorem s51 {d : Nat} {I : FI} {L : FL} {w : Nat → Nat} {k nW nT : Nat} (h1 : nW ≤ 5) (h2 : nT ≤ 6) (h4 : I 10464 k 0 = c nW) (h5 : I 10464 k 6 = c nT) : dn (d + 4) 51 [vR 10464 k] (hp I L w) = some (some (vI (cnt (wthD I w k nW) nT)), hp I L w) := by
  rw [e51, b51_0, s40 h1 h4, bn_s]
  show rn none _ 51 6 _ [vI _] _ = _
  rw [b51_6]
  exact l51 h2 h5 nT 0 (by omega)
def allT (b : Nat → Bool) : Nat → Nat → Bool
  | 0, _ => true
  | r + 1, i => b i && allT b r (i + 1)
/-- the rows of what was seen -/
def SV (I : FI) (k nT m : Nat) : Prop := m ≤ 5 ∧ I 2416 k 0 = c m ∧ ∀ i, i < m → (∃ t, t < nT ∧ I 10625 k i = c t) ∧ (∃ n, n ≤ 20 ∧ I 10657 k i = c n)
theorem SV_fct {I : FI} {k nT m : Nat} {g : Nat → Int32} (h : SV I k nT m) : SV (fct I k g) k nT m := by
  obtain ⟨h1, h2, h3⟩ := h
  exact ⟨h1, by rw [fct_p (by omega)]; exact h2, fun i hi => by rw [fct_p (by omega), fct_p (by omega)]; exact h3 i hi⟩
def sSo (I : FI) (w : Nat → Nat) (k dy i : Nat) : Bool := decide (lowB I w k (ix (I 10625 k i)) (ix (I 10657 k i)) dy = I 10641 k i)
theorem l52 {d : Nat} {I : FI} {L : FL} {w : Nat → Nat} {k nW nT dy m : Nat} (h : WV I w k nW nT dy) (hs : SV I k nT m) : ∀ r i g, i + r = m → ∃ g', rn none (dn (d + 5)) 52 2 [some (vR 10464 k), some (vI (c i))] [] (hp (fct I k g) L w) = some (some (vI (if allT (sSo I w k dy) r i = true then 1 else 0)), hp (fct I k g') L w) := by
  obtain ⟨s1, s2, s3⟩ := id hs
  have h2 := h.2.1
  intro r
  induction r with
  | zero =>
    intro i g hr
    refine ⟨g, ?_⟩
    rw [b52_2, fct_p (by omega), s2, if_neg (by rw [c_lt (by omega) (by omega)]; omega)]
    rfl
  | succ r ih =>
    intro i g hr
    obtain ⟨⟨t, ht, et⟩, ⟨n, hn, en⟩⟩ := s3 i (by omega)
    obtain ⟨g1, hg1⟩ := s45 (d := d) (I := fct I k g) (L := L) (r := n) (WV_fct (g := g) h) ht (show n ≤ 100 by omega)
    obtain ⟨g2, hg2⟩ := ih (i + 1) g1 (by omega)
    have e : allT (sSo I w k dy) (r + 1) i = (sSo I w k dy i && allT (sSo I w k dy) r (i + 1)) := rfl
    have e2 : sSo I w k dy i = decide (lowB I w k t n dy = I 10641 k i) := by unfold sSo; rw [et, en, ix_c (by omega), ix_c (by omega)]
    rw [e, e2]
    rw [b52_2, fct_p (by omega), s2, if_pos (by rw [c_lt (by omega) (by omega)]; omega), ck_t (vin_c (by omega) (by omega)), ck_t (vin_c (by omega) (by omega)), ix_c (by omega), fct_p (by omega), fct_p (by omega), et, en, hg1, bn_s, fct_f, lowB_fct]
    show ∃ g', rn none _ 52 35 _ [vI _] _ = _
    rw [b52_35, ck_t (vin_c (by omega) (by omega)), ix_c (by omega), fct_p (by omega), c_s]
    by_cases a : lowB I w k t n dy = I 10641 k i
    · refine ⟨g2, ?_⟩
      rw [if_pos a, hg2, decide_eq_true a, Bool.true_and]
    · refine ⟨g1, ?_⟩
      rw [if_neg a, decide_eq_false a, Bool.false_and]
      rfl
theorem s52 {d : Nat} {I : FI} {L : FL} {w : Nat → Nat} {k nW nT dy m : Nat} (h : WV I w k nW nT dy) (hs : SV I k nT m) : ∃ g, dn (d + 6) 52 [vR 10464 k] (hp I L w) = some (some (vI (if allT (sSo I w k dy) m 0 = true then 1 else 0)), hp (fct I k g) L w) := by
  obtain ⟨g, hg⟩ := l52 (d := d) (L := L) h hs m 0 (I 12849 k) (by omega)
  refine ⟨g, ?_⟩
  rw [e52, b52_0, ← hg, fct_i]
  rfl
