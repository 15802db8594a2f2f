set_option maxHeartbeats 400000
/-- two worlds in which all goes alike for the first N wearers -/
def wsn (N : Nat) (I : FI) (w : Nat → Nat) (k : Nat) (I' : FI) (w' : Nat → Nat) (k' : Nat) : Prop := (∀ j, j < N → I' 10481 k' j = I 10481 k j) ∧ (∀ j, j < N → I' 10497 k' j = I 10497 k j) ∧ (∀ j, j < N → I' 10513 k' j = I 10513 k j) ∧ (∀ j, j < N → I' 10530 k' j = I 10530 k j) ∧ (∀ j, j < 20 → I' 41265 k' j = I 41265 k j) ∧ (∀ j, j < 6 → I' 12609 k' j = I 12609 k j) ∧ (∀ j, j < 6 → I' 12625 k' j = I 12625 k j) ∧ (∀ j, j < 6 → I' 12641 k' j = I 12641 k j) ∧ w' k' = w k ∧ (∀ j, I' 6288 (w k) j = I 6288 (w k) j) ∧ I' 204961 (w k) = I 204961 (w k) ∧ I' 204977 (w k) = I 204977 (w k) ∧ I' 204993 (w k) = I 204993 (w k) ∧ I' 205009 (w k) = I 205009 (w k)
section WN
variable {I I' : FI} {w w' : Nat → Nat} {k k' N : Nat}
theorem wn_fD (h : wsn N I w k I' w' k') {p : Nat} (hp5 : p < N) : fD I' k' p = fD I k p := by
  unfold fD
  rw [h.1 p hp5, h.2.1 p hp5, h.2.2.1 p hp5]
theorem wn_ar (h : wsn N I w k I' w' k') {p : Nat} (hp5 : p < N) : arD I' w' k' p = arD I w k p := by
  obtain ⟨h1, h2, h3, h4, h5, h6, h7, h8, h9, hA, hB⟩ := h
  unfold arD
  rw [h1 p hp5, h2 p hp5, h4 p hp5, h9, hA]
theorem wn_pull (h : wsn N I w k I' w' k') {f : Nat → Int32} : pullD I' (w' k') f = pullD I (w k) f := by
  obtain ⟨h1, h2, h3, h4, h5, h6, h7, h8, h9, hA, hB, hC, hD, hE⟩ := h
  unfold pullD
  rw [h9, hA, hB, hC, hD, hE]
theorem wn_sk (h : wsn N I w k I' w' k') {p t dy : Nat} {l : Int32} (hp5 : p < N) (hN : N ≤ 5) (ht : t < 6) : skD I' w' k' p t l dy = skD I w k p t l dy := by
  unfold skD
  rw [wn_pull h, h.1 p hp5, h.2.1 p hp5, h.2.2.2.2.1 _ (by omega), h.2.2.2.2.2.1 t ht]
theorem wn_day (h : wsn N I w k I' w' k') {p t : Nat} (hp5 : p < N) (hN : N ≤ 5) (ht : t < 6) : dayD I' w' k' p t = dayD I w k p t := by
  funext l dy
  unfold dayD
  rw [wn_sk h hp5 hN ht, wn_fD h hp5, h.2.2.2.2.2.2.2.2.1, h.2.2.2.2.2.2.2.2.2.1, h.2.2.2.2.2.2.2.2.2.1]
theorem wn_low (h : wsn N I w k I' w' k') {t n dy : Nat} (hN : N ≤ 5) (ht : t < 6) (hp5 : I 12625 k t = -5 ∨ ∃ p, p < N ∧ I 12625 k t = c p) : lowB I' w' k' t n dy = lowB I w k t n dy := by
  unfold lowB
  rw [h.2.2.2.2.2.2.1 t ht, h.2.2.2.2.2.2.2.1 t ht]
  rcases hp5 with ho | ⟨p, hp5, hpk⟩
  · rw [if_pos ho, if_pos ho]
  · have hne : ¬ I 12625 k t = -5 := by rw [hpk]; exact c_m5 (by omega)
    rw [if_neg hne, if_neg hne, hpk, ix_c (by omega), wn_day h hp5 hN ht]
theorem wn_all (h : wsn N I w k I' w' k') : ∀ n, n ≤ N → allA (arD I' w' k') n = allA (arD I w k) n := by
  intro n
  induction n with
  | zero => intro _; rfl
  | succ n ih =>
    intro hn
    show allA _ n + _ = allA _ n + _
    rw [ih (by omega), wn_ar h (by omega)]
theorem wn_lwz (h : wsn N I w k I' w' k') {t n dy : Nat} (hN : N ≤ 5) (ht : t < 6) (hp5 : I 12625 k t = -5 ∨ ∃ p, p < N ∧ I 12625 k t = c p) : lwz I' w' k' n dy t = lwz I w k n dy t := by
  unfold lwz
  rw [wn_low h hN ht hp5, h.2.2.2.2.2.2.1 t ht]
theorem wn_out (h : wsn N I w k I' w' k') {t : Nat} (ht : t < 6) : outD I' k' t = outD I k t := by
  unfold outD
  rw [h.2.2.2.2.2.2.1 t ht]
theorem wn_wth (h : wsn N I w k I' w' k') {t : Nat} (ht : t < 6) : wthD I' w' k' N t = wthD I w k N t := by
  unfold wthD
  rw [wn_out h ht, h.2.2.2.2.2.2.2.1 t ht, wn_all h N (Nat.le_refl _)]
end WN
section P74
variable {I : FI} {L : FL} {w : Nat → Nat} {nW nT dy m : Nat} {x y z : Int32}
/-- the seen rows of both -/
def RS (I : FI) (nT m : Nat) : Prop := SV I 0 nT m ∧ SM I nT m ∧ ∀ i, i < m → I 11233 0 i = I 10625 0 i ∧ I 11249 0 i = I 10641 0 i ∧ I 11265 0 i = I 10657 0 i
theorem allT_c {f g : Nat → Bool} : ∀ r i, (∀ j, i ≤ j → j < i + r → f j = g j) → allT f r i = allT g r i := by
  intro r
  induction r with
  | zero => intro i _; rfl
  | succ r ih =>
    intro i h
    show (f i && allT f r (i + 1)) = (g i && allT g r (i + 1))
    rw [h i (by omega) (by omega), ih (i + 1) (fun j h1 h2 => h j (by omega) (by omega))]
/-- from r - 1 down: how many, the last -/
def lyF (Q : Nat → Bool) : Nat → Int32 → Int32 → Int32 × Int32
  | 0, m, l => (m, l)
  | r + 1, m, l => if Q r = true then lyF Q r (m + 1) (c r) else lyF Q r m l
theorem lyF_c {Q Q' : Nat → Bool} : ∀ r m l, (∀ n, n < r → Q n = Q' n) → lyF Q r m l = lyF Q' r m l := by
  intro r
  induction r with
  | zero => intro m l _; rfl
  | succ r ih =>
    intro m l h
    show (if Q r = true then lyF Q r (m + 1) (c r) else lyF Q r m l) = (if Q' r = true then lyF Q' r (m + 1) (c r) else lyF Q' r m l)
    rw [h r (by omega), ih _ _ (fun n hn => h n (by omega)), ih _ _ (fun n hn => h n (by omega))]
theorem c_m1 {n : Nat} (hn : n < 1000) : c (n + 1) + (-1) = c n ∧ ¬ c n < 0 := by
  refine ⟨?_, by rw [c_n0 (by omega)]; exact id⟩
  have := c_s (n := n)
  rw [← this]
  grind
/-- the trial world's seen -/
def SoQ (I : FI) (w : Nat → Nat) (k dy m : Nat) : Bool := allT (sSo I w k dy) m 0
theorem fct_u {I : FI} {k t k' j : Nat} {x : Int32} {g : Nat → Int32} (h : t ≠ 12849) : uI (fct I k g) t k' j x = fct (uI I t k' j x) k g := by
  funext a b e
  show (if a = t ∧ b = k' ∧ e = j then x else if a = 12849 ∧ b = k then g e else I a b e) = (if a = 12849 ∧ b = k then g e else if a = t ∧ b = k' ∧ e = j then x else I a b e)
  by_cases p : a = t ∧ b = k' ∧ e = j
  · rw [if_pos p, if_neg (fun z => h (p.1 ▸ z.1)), if_pos p]
  · rw [if_neg p, if_neg p]
theorem SoQ_fct {k : Nat} {g : Nat → Int32} : SoQ (fct I k g) w k dy m = SoQ I w k dy m := by
  unfold SoQ
  have : sSo (fct I k g) w k dy = sSo I w k dy := by
    funext i
    unfold sSo
    rw [lowB_fct, fct_p (by omega), fct_p (by omega), fct_p (by omega)]
  rw [this]
theorem if10 {b : Bool} {α : Type} {p q : α} : (if (if b = true then (1 : Int32) else 0) = 0 then p else q) = if b = true then q else p := by
  cases b
  · rfl
  · rfl
/-- lay: the class's loop, over the trial world -/
theorem l76 {t : Nat} {H : FI} (hW : ∀ x, WV (uI H 12641 2 t x) w 2 nW nT dy) (hS : SV H 2 nT m) (ht : t < 6) (ho : H 12625 0 t ≠ -5) : ∀ r mm l x g, ∃ g' x', r ≤ 41 → rn none (dn 59) 76 42 [some (vR 12288 0), some (vI (c t)), some (vI y), some (vI mm), some (vI l), some (vI (c r + (-1)))] [] (hp (fct (uI H 12641 2 t x) 2 g) L w) = some (some (vI (if y = 0 then (lyF (fun n => SoQ (uI H 12641 2 t (c n)) w 2 dy m) r mm l).1 else (lyF (fun n => SoQ (uI H 12641 2 t (c n)) w 2 dy m) r mm l).2)), hp (fct (uI H 12641 2 t x') 2 g') L w) := by
  intro r
  induction r with
  | zero =>
    intro mm l x g
    refine ⟨g, x, fun hr => ?_⟩
    rw [b76_42, if_pos (by decide)]
    show (if y = 0 then _ else _) = some (some (vI (if y = 0 then mm else l)), _)
    split <;> rfl
  | succ r ih =>
    intro mm l x g
    obtain ⟨g1, hg1⟩ := s52 (d := 53) (L := L) (m := m) (hW (c r)) (by
      obtain ⟨q1, q2, q3⟩ := hS
      exact ⟨q1, by rw [uI_t (by omega)]; exact q2, fun i hi => by rw [uI_t (by omega), uI_t (by omega)]; exact q3 i hi⟩)
    have hg2 : ∀ g, ∃ g1, dn 59 52 [vR 10464 2] (hp (fct (uI H 12641 2 t (c r)) 2 g) L w) = some (some (vI (if SoQ (uI H 12641 2 t (c r)) w 2 dy m = true then 1 else 0)), hp (fct (uI H 12641 2 t (c r)) 2 g1) L w) := by
      intro g
      obtain ⟨g1, hg1⟩ := s52 (d := 53) (L := L) (m := m) (WV_fct (g := g) (hW (c r))) (SV_fct (g := g) (nT := nT) (show SV (uI H 12641 2 t (c r)) 2 nT m from by
        obtain ⟨q1, q2, q3⟩ := hS
        exact ⟨q1, by rw [uI_t (by omega)]; exact q2, fun i hi => by rw [uI_t (by omega), uI_t (by omega)]; exact q3 i hi⟩))
      refine ⟨g1, ?_⟩
      rw [fct_f] at hg1
      rw [show dn 59 52 = dn (53 + 6) 52 from rfl, hg1]
      have := SoQ_fct (I := uI H 12641 2 t (c r)) (w := w) (dy := dy) (m := m) (k := 2) (g := g)
      unfold SoQ at this ⊢
      rw [this]
    obtain ⟨g2, hg3⟩ := hg2 g
    obtain ⟨ga, xa, ea⟩ := ih (mm + 1) (c r) (c r) g2
    obtain ⟨gb, xb, eb⟩ := ih mm l (c r) g2
    by_cases q : SoQ (uI H 12641 2 t (c r)) w 2 dy m = true
    · refine ⟨ga, xa, fun hr => ?_⟩
      obtain ⟨c1, c2⟩ := c_m1 (n := r) (by omega)
      rw [b76_42, c1, if_neg c2, s33 ht, bn_s, fct_p (by omega), uI_t (by omega)]
      show rn none _ 76 55 _ [vI _] _ = _
      rw [b76_55, ib, if_neg ho, ck_t (vin_c ht (by omega)), ix_c (by omega), fct_u (by omega), uI_u, hg3, bn_s]
      show rn none _ 76 76 _ [vI _] _ = _
      rw [b76_76, if10, if_pos q, ea (by omega)]
      have e : lyF (fun n => SoQ (uI H 12641 2 t (c n)) w 2 dy m) (r + 1) mm l = lyF (fun n => SoQ (uI H 12641 2 t (c n)) w 2 dy m) r (mm + 1) (c r) := if_pos q
      rw [e]
    · refine ⟨gb, xb, fun hr => ?_⟩
      obtain ⟨c1, c2⟩ := c_m1 (n := r) (by omega)
      rw [b76_42, c1, if_neg c2, s33 ht, bn_s, fct_p (by omega), uI_t (by omega)]
      show rn none _ 76 55 _ [vI _] _ = _
      rw [b76_55, ib, if_neg ho, ck_t (vin_c ht (by omega)), ix_c (by omega), fct_u (by omega), uI_u, hg3, bn_s]
      show rn none _ 76 76 _ [vI _] _ = _
      rw [b76_76, if10, if_neg q, eb (by omega)]
      have e : lyF (fun n => SoQ (uI H 12641 2 t (c n)) w 2 dy m) (r + 1) mm l = lyF (fun n => SoQ (uI H 12641 2 t (c n)) w 2 dy m) r mm l := if_neg q
      rw [e]
end P74
