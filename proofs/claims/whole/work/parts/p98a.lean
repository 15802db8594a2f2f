set_option maxHeartbeats 400000
section P98a
variable {L : FL} {w : Nat → Nat} {tx : Nat → Int32} {n f ci : Nat} {A : List Tk}
/-- the reading's loop -/
noncomputable abbrev r22 (d ci : Nat) (L : FL) (w : Nat → Nat) (x : Int32) (o : Option Vl) (H : FI) : Option Rs := rn none (dn (d + 8)) 136 22 [some (vR 14944 0), some (vI (c ci)), some (vI x), o] [] (hp H L w)
/-- it ends, refused -/
def FlM (f ci p' : Nat) (L : FL) (w : Nat → Nat) (H : FI) (run : Option Rs) : Prop := ∃ H', frM f ci H H' ∧ H' 14944 0 14 = c p' ∧ run = some (some (vI 0), hp H' L w)
def SyF (tx : Nat → Int32) (n f ci : Nat) (A : List Tk) (d : Nat) (L : FL) (w : Nat → Nat) (k : Nat) : Prop := ∀ H p q cd o, opn q + k = 4 → MZ tx n f H p q (A ++ cd) → ((rdF (nxF tx n) k p cd).1 = true → ∃ H' o', frM f ci H H' ∧ MZ tx n f H' (rdF (nxF tx n) k p cd).2.1 (popB q) ((A ++ (rdF (nxF tx n) k p cd).2.2) ++ ntB q) ∧ r22 d ci L w 1 o H = r22 d ci L w 0 o' H') ∧ ((rdF (nxF tx n) k p cd).1 = false → FlM f ci (rdF (nxF tx n) k p cd).2.1 L w H (r22 d ci L w 1 o H))
/-- what waits behind parts: at most one & -/
def P38 (q1 : List Nat) (l1 : List Tk) (q : List Nat) (l : List Tk) : Prop := (q1 = q ∧ l1 = l) ∨ (q1 = 38 :: q ∧ l = l1 ++ [(2, 0, 0, 0)])
def P24 (q1 : List Nat) (l1 : List Tk) (q : List Nat) (l : List Tk) : Prop := P38 q1 l1 q l ∨ ∃ l2, P38 q1 l1 (124 :: q) l2 ∧ l = l2 ++ [(3, 0, 0, 0)]
def top (q : List Nat) : Prop := q = [] ∨ ∃ r, q = 40 :: r
theorem stl_top {q : List Nat} {l : List Tk} (h : top q) (s : Nat) : stlF s q l = (q, l) := by
  rcases h with rfl | ⟨r, rfl⟩
  · rfl
  · show (if (40 : Nat) = 38 then _ else if (40 : Nat) = 124 ∧ s ≠ 38 then _ else _) = _
    rw [if_neg (by decide), if_neg (fun z => absurd z.1 (by decide))]
/-- a place where parts begin: nothing to be negated, no & -/
def top2 (q : List Nat) : Prop := top q ∨ ∃ r, q = 124 :: r
theorem stl38_t2 {q : List Nat} {l : List Tk} (h : top2 q) : stlF 38 q l = (q, l) := by
  rcases h with h | ⟨r, rfl⟩
  · exact stl_top h 38
  · show (if (124 : Nat) = 38 then _ else if (124 : Nat) = 124 ∧ (38 : Nat) ≠ 38 then _ else _) = _
    rw [if_neg (by decide), if_neg (fun z => z.2 rfl)]
theorem pop_t2 {q : List Nat} (h : top2 q) : popB q = q ∧ ntB q = [] := by
  rcases h with (rfl | ⟨r, rfl⟩) | ⟨r, rfl⟩
  · exact ⟨rfl, rfl⟩
  · exact ⟨if_neg (by decide), if_neg (by decide)⟩
  · exact ⟨if_neg (by decide), if_neg (by decide)⟩
theorem pop_38 {q : List Nat} : popB (38 :: q) = 38 :: q ∧ ntB (38 :: q) = [] := ⟨if_neg (by decide), if_neg (by decide)⟩
theorem stl38_P {q1 q : List Nat} {l1 l : List Tk} (h : P38 q1 l1 q l) (hq : top2 q) : stlF 38 q1 l1 = (q, l) := by
  rcases h with ⟨rfl, rfl⟩ | ⟨rfl, rfl⟩
  · exact stl38_t2 hq
  · show (if (38 : Nat) = 38 then stlF 38 q (l1 ++ [(2, 0, 0, 0)]) else _) = _
    rw [if_pos rfl, stl38_t2 hq]
theorem stl24_P38 {q1 q : List Nat} {l1 l : List Tk} (h : P38 q1 l1 q l) : stlF 124 q1 l1 = stlF 124 q l := by
  rcases h with ⟨rfl, rfl⟩ | ⟨rfl, rfl⟩
  · rfl
  · show (if (38 : Nat) = 38 then stlF 124 q (l1 ++ [(2, 0, 0, 0)]) else _) = _
    rw [if_pos rfl]
theorem stl24_P {q1 q : List Nat} {l1 l : List Tk} (h : P24 q1 l1 q l) (hq : top q) : stlF 124 q1 l1 = (q, l) := by
  rcases h with h | ⟨l2, h, rfl⟩
  · rw [stl24_P38 h, stl_top hq]
  · rw [stl24_P38 h]
    show (if (124 : Nat) = 38 then _ else if (124 : Nat) = 124 ∧ (124 : Nat) ≠ 38 then stlF 124 q (l2 ++ [(3, 0, 0, 0)]) else _) = _
    rw [if_neg (by decide), if_pos ⟨rfl, by decide⟩, stl_top hq]
/-- behind a part, at a sign between: settle and wait -/
theorem sy_b {d : Nat} (hn : n ≤ 100) (hci : ci < 60) {H : FI} {p s : Nat} {q1 q : List Nat} {l1 l : List Tk} {o : Option Vl} (hs' : s = 38 ∨ s = 124) (h : MZ tx n f H p q1 l1) (hst : stlF s q1 l1 = (q, l)) (hx : nxF tx n p = c s) : ∃ H' o', frM f ci H H' ∧ MZ tx n f H' (p + 1) (s :: q) l ∧ r22 d ci L w 0 o H = r22 d ci L w 1 o' H' := by
  have hne : (c s) ≠ -1 := by rcases hs' with rfl | rfl <;> decide
  have hpn := nx_lt (nx := nxF tx n) nxF_n hx hne
  obtain ⟨H1, f1, f2, f3⟩ := s133 (ci := ci) (d := d + 6) (L := L) (w := w) hn hs' q1 H p l1 h
  rw [hst] at f2
  have f2 : MZ tx n f H1 p q l := f2
  have hop : opn (s :: q) = opn q := by rcases hs' with rfl | rfl; exact opn_38; exact opn_124
  obtain ⟨g1, g2⟩ := MZ_pu (ci := ci) hn f2 hpn (show s < 200 by omega) (H1 14944 0 26) (by rw [hop]; exact f2.2.2.2.2.2.1)
  rw [uI_id rfl] at g1 g2
  refine ⟨_, some (vI (c s)), f1.tr g2, g1, ?_⟩
  unfold r22
  rw [b136_22, s126 hn h.1 h.2.1 (by have := h.2.2.1; omega), bn_s]
  show rn none _ 136 26 _ [vI _] _ = _
  rw [b136_26, if_pos rfl, hx, show dn (d + 8) 133 = dn (d + 7 + 1) 133 from rfl, e133, show dn (d + 7) = dn (d + 6 + 1) from rfl, f3, bn_s]
  have K : (if c s = 38 then rn none (dn (d + 8)) 136 127 [some (vR 14944 0), some (vI (c ci)), some (vI 0), some (vI (c s))] [] (hp H1 L w) else rn none (dn (d + 8)) 136 127 [some (vR 14944 0), some (vI (c ci)), some (vI 0), some (vI (c s))] [] (hp H1 L w)) = rn none (dn (d + 8)) 136 22 [some (vR 14944 0), some (vI (c ci)), some (vI 1), some (vI (c s))] [] (hp (uI (uI (uI H1 207697 0 q.length (c s)) 14944 0 25 (c (q.length + 1))) 14944 0 14 (c (p + 1))) L w) := by
    have h4 := f2.2.2.2.1
    have h8 := f2.2.2.2.2.2.2.2.1
    have h3 := f2.2.2.1
    have e14 : H1 14944 0 14 = c p := f2.2.1
    rw [ite_self, b136_127, h4, ck_t (vin_c (by omega) (by omega)), ix_c (by omega), c_s, e14, c_s]
  rcases hs' with rfl | rfl
  · rw [if_pos (show c 38 = 38 from rfl)] at K ⊢
    exact K
  · rw [if_neg (show ¬ c 124 = 38 from by decide)] at K ⊢
    rw [if_pos (show c 124 = 124 from rfl)]
    exact K
/-- parts with & between -/
theorem sy_T {d k : Nat} (hn : n ≤ 100) (hci : ci < 60) (hF : SyF tx n f ci A d L w k) : ∀ H p q cd o, opn q + k = 4 → top2 q → MZ tx n f H p q (A ++ cd) → ((lvP (nxF tx n) (rdF (nxF tx n) k) 38 2 p cd).1 = true → ∃ H' o' q1 l1, frM f ci H H' ∧ MZ tx n f H' (lvP (nxF tx n) (rdF (nxF tx n) k) 38 2 p cd).2.1 q1 l1 ∧ P38 q1 l1 q (A ++ (lvP (nxF tx n) (rdF (nxF tx n) k) 38 2 p cd).2.2) ∧ nxF tx n (lvP (nxF tx n) (rdF (nxF tx n) k) 38 2 p cd).2.1 ≠ 38 ∧ r22 d ci L w 1 o H = r22 d ci L w 0 o' H') ∧ ((lvP (nxF tx n) (rdF (nxF tx n) k) 38 2 p cd).1 = false → FlM f ci (lvP (nxF tx n) (rdF (nxF tx n) k) 38 2 p cd).2.1 L w H (r22 d ci L w 1 o H)) := by
  have hg := rdF_g (nx := nxF tx n) nxF_n k
  have loop : ∀ r H p q cd o q1 l1, n < p + r → opn q + k = 4 → top2 q → MZ tx n f H p q1 l1 → P38 q1 l1 q (A ++ cd) → ((lpP (nxF tx n) (rdF (nxF tx n) k) 38 2 r p cd).1 = true → ∃ H' o' q1' l1', frM f ci H H' ∧ MZ tx n f H' (lpP (nxF tx n) (rdF (nxF tx n) k) 38 2 r p cd).2.1 q1' l1' ∧ P38 q1' l1' q (A ++ (lpP (nxF tx n) (rdF (nxF tx n) k) 38 2 r p cd).2.2) ∧ nxF tx n (lpP (nxF tx n) (rdF (nxF tx n) k) 38 2 r p cd).2.1 ≠ 38 ∧ r22 d ci L w 0 o H = r22 d ci L w 0 o' H') ∧ ((lpP (nxF tx n) (rdF (nxF tx n) k) 38 2 r p cd).1 = false → FlM f ci (lpP (nxF tx n) (rdF (nxF tx n) k) 38 2 r p cd).2.1 L w H (r22 d ci L w 0 o H)) := by
    intro r
    induction r with
    | zero => intro H p q cd o q1 l1 h _ _ hZ; have := hZ.2.2.1; omega
    | succ r ih =>
      intro H p q cd o q1 l1 hpr hop hq hZ hP
      have e : lpP (nxF tx n) (rdF (nxF tx n) k) 38 2 (r + 1) p cd = if nxF tx n p = 38 then (if (rdF (nxF tx n) k (p + 1) cd).1 = true then lpP (nxF tx n) (rdF (nxF tx n) k) 38 2 r (rdF (nxF tx n) k (p + 1) cd).2.1 ((rdF (nxF tx n) k (p + 1) cd).2.2 ++ [(2, 0, 0, 0)]) else (false, (rdF (nxF tx n) k (p + 1) cd).2.1, [])) else (true, p, cd) := rfl
      rw [e]
      by_cases a : nxF tx n p = 38
      · have hpn := nx_lt (nx := nxF tx n) nxF_n a (by decide)
        obtain ⟨H1, o1, f1, f2, f3⟩ := sy_b (d := d) (L := L) (w := w) (o := o) hn hci (Or.inl rfl) hZ (stl38_P hP hq) a
        obtain ⟨g1, g2⟩ := hF H1 (p + 1) (38 :: q) cd o1 (by rw [opn_38]; exact hop) f2
        obtain ⟨b1, b2, b3⟩ := hg (p + 1) cd (by omega)
        rw [if_pos a]
        by_cases b : (rdF (nxF tx n) k (p + 1) cd).1 = true
        · obtain ⟨H2, o2, k1, k2, k3⟩ := g1 b
          rw [pop_38.1, pop_38.2, List.append_nil] at k2
          have b4 := (b3 b).1
          obtain ⟨i1, i2⟩ := ih H2 (rdF (nxF tx n) k (p + 1) cd).2.1 q ((rdF (nxF tx n) k (p + 1) cd).2.2 ++ [(2, 0, 0, 0)]) o2 (38 :: q) (A ++ (rdF (nxF tx n) k (p + 1) cd).2.2) (by omega) hop hq k2 (Or.inr ⟨rfl, by rw [List.append_assoc]⟩)
          rw [if_pos b]
          refine ⟨fun z => ?_, fun z => ?_⟩
          · obtain ⟨H', o', q1', l1', j1, j2, j3, j4, j5⟩ := i1 z
            exact ⟨H', o', q1', l1', (f1.tr k1).tr j1, j2, j3, j4, f3.trans (k3.trans j5)⟩
          · obtain ⟨H', j1, j2, j3⟩ := i2 z
            exact ⟨H', (f1.tr k1).tr j1, j2, f3.trans (k3.trans j3)⟩
        · rw [if_neg b]
          refine ⟨fun z => (by cases z), fun _ => ?_⟩
          obtain ⟨H', j1, j2, j3⟩ := g2 (by cases hb : (rdF (nxF tx n) k (p + 1) cd).1 with | true => exact absurd hb b | false => rfl)
          exact ⟨H', f1.tr j1, j2, f3.trans j3⟩
      · rw [if_neg a]
        exact ⟨fun _ => ⟨H, o, q1, l1, frM.rf, hZ, hP, a, rfl⟩, fun z => (by cases z)⟩
  intro H p q cd o hop hq hZ
  obtain ⟨g1, g2⟩ := hF H p q cd o hop hZ
  obtain ⟨b1, b2, b3⟩ := hg p cd hZ.2.2.1
  have e : lvP (nxF tx n) (rdF (nxF tx n) k) 38 2 p cd = if (rdF (nxF tx n) k p cd).1 = true then lpP (nxF tx n) (rdF (nxF tx n) k) 38 2 100 (rdF (nxF tx n) k p cd).2.1 (rdF (nxF tx n) k p cd).2.2 else (false, (rdF (nxF tx n) k p cd).2.1, []) := rfl
  rw [e]
  by_cases b : (rdF (nxF tx n) k p cd).1 = true
  · obtain ⟨H2, o2, k1, k2, k3⟩ := g1 b
    obtain ⟨t1, t2⟩ := pop_t2 hq
    rw [t1, t2, List.append_nil] at k2
    have b4 := (b3 b).1
    obtain ⟨i1, i2⟩ := loop 100 H2 (rdF (nxF tx n) k p cd).2.1 q (rdF (nxF tx n) k p cd).2.2 o2 q (A ++ (rdF (nxF tx n) k p cd).2.2) (by omega) hop hq k2 (Or.inl ⟨rfl, rfl⟩)
    rw [if_pos b]
    refine ⟨fun z => ?_, fun z => ?_⟩
    · obtain ⟨H', o', q1', l1', j1, j2, j3, j4, j5⟩ := i1 z
      exact ⟨H', o', q1', l1', k1.tr j1, j2, j3, j4, k3.trans j5⟩
    · obtain ⟨H', j1, j2, j3⟩ := i2 z
      exact ⟨H', k1.tr j1, j2, k3.trans j3⟩
  · rw [if_neg b]
    refine ⟨fun z => (by cases z), fun _ => ?_⟩
    exact g2 (by cases hb : (rdF (nxF tx n) k p cd).1 with | true => exact absurd hb b | false => rfl)
/-- and | between -/
theorem sy_E {d k : Nat} (hn : n ≤ 100) (hci : ci < 60) (hF : SyF tx n f ci A d L w k) : ∀ H p q cd o, opn q + k = 4 → top q → MZ tx n f H p q (A ++ cd) → ((lvP (nxF tx n) (lvP (nxF tx n) (rdF (nxF tx n) k) 38 2) 124 3 p cd).1 = true → ∃ H' o' q1 l1, frM f ci H H' ∧ MZ tx n f H' (lvP (nxF tx n) (lvP (nxF tx n) (rdF (nxF tx n) k) 38 2) 124 3 p cd).2.1 q1 l1 ∧ P24 q1 l1 q (A ++ (lvP (nxF tx n) (lvP (nxF tx n) (rdF (nxF tx n) k) 38 2) 124 3 p cd).2.2) ∧ nxF tx n (lvP (nxF tx n) (lvP (nxF tx n) (rdF (nxF tx n) k) 38 2) 124 3 p cd).2.1 ≠ 38 ∧ nxF tx n (lvP (nxF tx n) (lvP (nxF tx n) (rdF (nxF tx n) k) 38 2) 124 3 p cd).2.1 ≠ 124 ∧ r22 d ci L w 1 o H = r22 d ci L w 0 o' H') ∧ ((lvP (nxF tx n) (lvP (nxF tx n) (rdF (nxF tx n) k) 38 2) 124 3 p cd).1 = false → FlM f ci (lvP (nxF tx n) (lvP (nxF tx n) (rdF (nxF tx n) k) 38 2) 124 3 p cd).2.1 L w H (r22 d ci L w 1 o H)) := by
  have hT := sy_T (d := d) hn hci hF
  have hg : Gd n (lvP (nxF tx n) (rdF (nxF tx n) k) 38 2) := lvP_g nxF_n (by decide) (rdF_g (nx := nxF tx n) nxF_n k)
  generalize lvP (nxF tx n) (rdF (nxF tx n) k) 38 2 = fT at hT hg ⊢
  have loop : ∀ r H p q cd o q1 l1, n < p + r → opn q + k = 4 → top q → MZ tx n f H p q1 l1 → P24 q1 l1 q (A ++ cd) → nxF tx n p ≠ 38 → ((lpP (nxF tx n) fT 124 3 r p cd).1 = true → ∃ H' o' q1' l1', frM f ci H H' ∧ MZ tx n f H' (lpP (nxF tx n) fT 124 3 r p cd).2.1 q1' l1' ∧ P24 q1' l1' q (A ++ (lpP (nxF tx n) fT 124 3 r p cd).2.2) ∧ nxF tx n (lpP (nxF tx n) fT 124 3 r p cd).2.1 ≠ 38 ∧ nxF tx n (lpP (nxF tx n) fT 124 3 r p cd).2.1 ≠ 124 ∧ r22 d ci L w 0 o H = r22 d ci L w 0 o' H') ∧ ((lpP (nxF tx n) fT 124 3 r p cd).1 = false → FlM f ci (lpP (nxF tx n) fT 124 3 r p cd).2.1 L w H (r22 d ci L w 0 o H)) := by
    intro r
    induction r with
    | zero => intro H p q cd o q1 l1 h _ _ hZ; have := hZ.2.2.1; omega
    | succ r ih =>
      intro H p q cd o q1 l1 hpr hop hq hZ hP h38
      have e : lpP (nxF tx n) fT 124 3 (r + 1) p cd = if nxF tx n p = 124 then (if (fT (p + 1) cd).1 = true then lpP (nxF tx n) fT 124 3 r (fT (p + 1) cd).2.1 ((fT (p + 1) cd).2.2 ++ [(3, 0, 0, 0)]) else (false, (fT (p + 1) cd).2.1, [])) else (true, p, cd) := rfl
      rw [e]
      by_cases a : nxF tx n p = 124
      · have hpn := nx_lt (nx := nxF tx n) nxF_n a (by decide)
        obtain ⟨H1, o1, f1, f2, f3⟩ := sy_b (d := d) (L := L) (w := w) (o := o) hn hci (Or.inr rfl) hZ (stl24_P hP hq) a
        obtain ⟨g1, g2⟩ := hT H1 (p + 1) (124 :: q) cd o1 (by rw [opn_124]; exact hop) (Or.inr ⟨q, rfl⟩) f2
        obtain ⟨b1, b2, b3⟩ := hg (p + 1) cd (by omega)
        rw [if_pos a]
        by_cases b : (fT (p + 1) cd).1 = true
        · obtain ⟨H2, o2, q2, l2, k1, k2, k3, k4, k5⟩ := g1 b
          have b4 := (b3 b).1
          obtain ⟨i1, i2⟩ := ih H2 (fT (p + 1) cd).2.1 q ((fT (p + 1) cd).2.2 ++ [(3, 0, 0, 0)]) o2 q2 l2 (by omega) hop hq k2 (Or.inr ⟨A ++ (fT (p + 1) cd).2.2, k3, by rw [List.append_assoc]⟩) k4
          rw [if_pos b]
          refine ⟨fun z => ?_, fun z => ?_⟩
          · obtain ⟨H', o', q1', l1', j1, j2, j3, j4, j5, j6⟩ := i1 z
            exact ⟨H', o', q1', l1', (f1.tr k1).tr j1, j2, j3, j4, j5, f3.trans (k5.trans j6)⟩
          · obtain ⟨H', j1, j2, j3⟩ := i2 z
            exact ⟨H', (f1.tr k1).tr j1, j2, f3.trans (k5.trans j3)⟩
        · rw [if_neg b]
          refine ⟨fun z => (by cases z), fun _ => ?_⟩
          obtain ⟨H', j1, j2, j3⟩ := g2 (by cases hb : (fT (p + 1) cd).1 with | true => exact absurd hb b | false => rfl)
          exact ⟨H', f1.tr j1, j2, f3.trans j3⟩
      · rw [if_neg a]
        exact ⟨fun _ => ⟨H, o, q1, l1, frM.rf, hZ, hP, h38, a, rfl⟩, fun z => (by cases z)⟩
  intro H p q cd o hop hq hZ
  obtain ⟨g1, g2⟩ := hT H p q cd o hop (Or.inl hq) hZ
  obtain ⟨b1, b2, b3⟩ := hg p cd hZ.2.2.1
  have e : lvP (nxF tx n) fT 124 3 p cd = if (fT p cd).1 = true then lpP (nxF tx n) fT 124 3 100 (fT p cd).2.1 (fT p cd).2.2 else (false, (fT p cd).2.1, []) := rfl
  rw [e]
  by_cases b : (fT p cd).1 = true
  · obtain ⟨H2, o2, q2, l2, k1, k2, k3, k4, k5⟩ := g1 b
    have b4 := (b3 b).1
    obtain ⟨i1, i2⟩ := loop 100 H2 (fT p cd).2.1 q (fT p cd).2.2 o2 q2 l2 (by omega) hop hq k2 (Or.inl k3) k4
    rw [if_pos b]
    refine ⟨fun z => ?_, fun z => ?_⟩
    · obtain ⟨H', o', q1', l1', j1, j2, j3, j4, j5, j6⟩ := i1 z
      exact ⟨H', o', q1', l1', k1.tr j1, j2, j3, j4, j5, k5.trans j6⟩
    · obtain ⟨H', j1, j2, j3⟩ := i2 z
      exact ⟨H', k1.tr j1, j2, k5.trans j3⟩
  · rw [if_neg b]
    refine ⟨fun z => (by cases z), fun _ => ?_⟩
    exact g2 (by cases hb : (fT p cd).1 with | true => exact absurd hb b | false => rfl)
end P98a
