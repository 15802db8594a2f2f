theorem ib {α : Type} {p : Prop} [Decidable p] {a b : α} : (if bi p = 0 then a else b) = if p then b else a := by
  unfold bi
  by_cases h : p
  · rw [if_pos h, if_pos h, if_neg (by decide)]
  · rw [if_neg h, if_neg h, if_pos rfl]
/-- how world k is: wearers, things, the day; pockets are OUT or a wearer's; the town has its steps -/
def WV (I : FI) (w : Nat → Nat) (k nW nT dy : Nat) : Prop := nW ≤ 5 ∧ nT ≤ 6 ∧ dy ≤ 10100 ∧ I 10464 k 0 = c nW ∧ I 10464 k 6 = c nT ∧ I 10464 k 10 = c dy ∧ (∀ t, t < nT → I 12625 k t = -5 ∨ ∃ p, p < nW ∧ I 12625 k t = c p) ∧ (∃ n, n ≤ 100 ∧ I 6288 (w k) 3 = c n)
theorem WV_fct {I : FI} {w : Nat → Nat} {k nW nT dy : Nat} {g : Nat → Int32} (h : WV I w k nW nT dy) : WV (fct I k g) w k nW nT dy := by
  obtain ⟨h1, h2, h3, h4, h5, h6, h7, h8⟩ := h
  exact ⟨h1, h2, h3, by rw [fct_p (by omega)]; exact h4, by rw [fct_p (by omega)]; exact h5, by rw [fct_p (by omega)]; exact h6, fun t ht => by rw [fct_p (by omega)]; exact h7 t ht, by rw [fct_p (by omega)]; exact h8⟩
theorem dayD_fct {I : FI} {w : Nat → Nat} {k p t : Nat} {g : Nat → Int32} : dayD (fct I k g) w k p t = dayD I w k p t := by
  funext l dy
  unfold dayD
  rw [fD_fct, skD_fct, fct_p (by omega)]
def lowB (I : FI) (w : Nat → Nat) (k t n dy : Nat) : Int32 := if I 12625 k t = -5 then -5 else itD (dayD I w k (ix (I 12625 k t)) t) n dy (I 12641 k t)
theorem lowB_fct {I : FI} {w : Nat → Nat} {k t n dy : Nat} {g : Nat → Int32} : lowB (fct I k g) w k t n dy = lowB I w k t n dy := by
  unfold lowB
  rw [dayD_fct, fct_p (by omega), fct_p (by omega)]
theorem c_m5 {p : Nat} (h : p < 5) : c p ≠ -5 := by
  match p, h with
  | 0, _ => decide
  | 1, _ => decide
  | 2, _ => decide
  | 3, _ => decide
  | 4, _ => decide
theorem s44 {d : Nat} {I : FI} {L : FL} {w : Nat → Nat} {k t : Nat} (ht : t < 6) : dn (d + 2) 44 [vR 10464 k, vI (c t)] (hp I L w) = some (some (vI (if I 12625 k t = -5 then -5 else I 12641 k t)), hp I L w) := by
  rw [e44, b44_0, s33 ht, bn_s]
  show rn none _ 44 5 _ [vI _] _ = _
  rw [b44_5, ib, ck_t (vin_c ht (by omega)), ix_c (by omega)]
  grind
theorem s45 {d : Nat} {I : FI} {L : FL} {w : Nat → Nat} {k t nW nT dy r : Nat} (h : WV I w k nW nT dy) (ht : t < nT) (hr : r ≤ 100) : ∃ g, dn (d + 5) 45 [vR 10464 k, vI (c t), vI (c r)] (hp I L w) = some (some (vI (lowB I w k t r dy)), hp (fct I k g) L w) := by
  obtain ⟨h1, h2, h3, h4, h5, h6, h7, n, hn, h8⟩ := h
  rw [e45, b45_0, s33 (by omega), bn_s]
  show ∃ g, rn none _ 45 5 _ [vI _] _ = _
  rw [b45_5, ib]
  unfold lowB
  rcases h7 t ht with ho | ⟨p, hp5, hpk⟩
  · refine ⟨I 12849 k, ?_⟩
    rw [if_pos ho, b45_35, fct_i, if_pos ho]
  · have hne : ¬ I 12625 k t = -5 := by rw [hpk]; exact c_m5 (by omega)
    obtain ⟨g, hg⟩ := s43 (d := d) (I := I) (L := L) (w := w) (k := k) (p := p) (t := t) (n := n) (dy := dy) (r := r) (l := I 12641 k t) (by omega) (by omega) (by omega) hn h8
    refine ⟨g, ?_⟩
    rw [if_neg hne, ck_t (vin_c (by omega) (by omega)), ck_t (vin_c (by omega) (by omega)), ix_c (by omega), h6, if_neg hne, hpk, hg, bn_s, ix_c (by omega)]
    show rn none _ 45 35 _ [vI _] _ = _
    rw [b45_35]
theorem itD_snoc {F : Int32 → Nat → Int32} : ∀ n dy l, itD F (n + 1) dy l = F (itD F n dy l) (dy + n) := by
  intro n
  induction n with
  | zero => intro dy l; rfl
  | succ n ih =>
    intro dy l
    show itD F (n + 1) (dy + 1) (F l dy) = F (itD F n (dy + 1) (F l dy)) (dy + (n + 1))
    rw [ih, show dy + 1 + n = dy + (n + 1) by omega]
/-- the first number of those that follow at which f holds -/
def srch (f : Nat → Bool) : Nat → Nat → Int32
  | 0, _ => -5
  | r + 1, d => if f d = true then c d else srch f r (d + 1)
theorem l46 {d : Nat} {I : FI} {L : FL} {w : Nat → Nat} {k p t n dy : Nat} {le : Int32} (hp5 : p < 5) (ht : t < 6) (hd : dy ≤ 10100) (hD : I 10464 k 10 = c dy) (hpk : I 12625 k t = c p) (hn : n ≤ 100) (hS : I 6288 (w k) 3 = c n) : ∀ r i g, i + r = 61 → ∃ g', rn none (dn (d + 4)) 46 10 [some (vR 10464 k), some (vI (c t)), some (vI le), some (vI (itD (dayD I w k p t) i dy (I 12641 k t))), some (vI (c i))] [] (hp (fct I k g) L w) = some (some (vI (srch (fun i => decide (le ≤ itD (dayD I w k p t) i dy (I 12641 k t))) r i)), hp (fct I k g') L w) := by
  intro r
  induction r with
  | zero =>
    intro i g hr
    refine ⟨g, ?_⟩
    rw [b46_10, show (60 : Int32) = c 60 from rfl, if_pos (by rw [c_lt (by omega) (by omega)]; omega)]
    rfl
  | succ r ih =>
    intro i g hr
    rw [b46_10, show (60 : Int32) = c 60 from rfl, if_neg (by rw [c_lt (by omega) (by omega)]; omega)]
    unfold srch
    by_cases a : itD (dayD I w k p t) i dy (I 12641 k t) < le
    · obtain ⟨g1, h1⟩ := s43 (d := d) (I := fct I k g) (L := L) (w := w) (k := k) (p := p) (t := t) (n := n) (dy := dy + i) (r := 1) (l := itD (dayD I w k p t) i dy (I 12641 k t)) hp5 ht (by omega) hn (by rw [fct_p (by omega)]; exact hS)
      obtain ⟨g2, h2⟩ := ih (i + 1) g1 (by omega)
      refine ⟨g2, ?_⟩
      rw [if_pos a, ck_t (vin_c ht (by omega)), ix_c (by omega), fct_p (by omega), fct_p (by omega), hpk, hD, cq rfl, show (1 : Int32) = c 1 from rfl, h1, bn_s, fct_f]
      show rn none _ 46 45 _ [vI _] _ = _
      rw [b46_45, c_s, dayD_fct]
      have e : itD (dayD I w k p t) 1 (dy + i) (itD (dayD I w k p t) i dy (I 12641 k t)) = itD (dayD I w k p t) (i + 1) dy (I 12641 k t) := (itD_snoc i dy _).symm
      rw [e, h2, if_neg (by simp only [decide_eq_true_eq]; grind)]
    · refine ⟨g, ?_⟩
      rw [if_neg a, if_pos (by simp only [decide_eq_true_eq]; grind)]
theorem s46 {d : Nat} {I : FI} {L : FL} {w : Nat → Nat} {k p t nW nT dy : Nat} {le : Int32} (h : WV I w k nW nT dy) (ht : t < nT) (hp5 : p < 5) (hpk : I 12625 k t = c p) : ∃ g, dn (d + 5) 46 [vR 10464 k, vI (c t), vI le] (hp I L w) = some (some (vI (srch (fun i => decide (le ≤ lowB I w k t i dy)) 61 0)), hp (fct I k g) L w) := by
  obtain ⟨h1, h2, h3, h4, h5, h6, h7, n, hn, h8⟩ := h
  rw [e46, b46_0, ck_t (vin_c (by omega) (by omega)), ix_c (by omega)]
  obtain ⟨g, hg⟩ := l46 (d := d) (L := L) (le := le) hp5 (show t < 6 by omega) h3 h6 hpk hn h8 61 0 (I 12849 k) rfl
  refine ⟨g, ?_⟩
  have e : (fun i => decide (le ≤ lowB I w k t i dy)) = (fun i => decide (le ≤ itD (dayD I w k p t) i dy (I 12641 k t))) := by
    funext i
    unfold lowB
    rw [if_neg (by rw [hpk]; exact c_m5 hp5), hpk, ix_c (by omega)]
  rw [e, ← hg, fct_i]
  rfl
