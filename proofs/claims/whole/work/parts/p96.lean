set_option maxHeartbeats 400000
/-! the reference's reader: what waits, what is emitted -/
def sg (a : Tk) : Int32 := if a.1 = 0 then c (1000 * a.2.1 + 100 * (a.2.2.1 - 60) + a.2.2.2) else if a.1 = 1 then -33 else if a.1 = 2 then -38 else -124
def encS (H : FI) (f : Nat) (l : List Tk) : Prop := H 14944 0 24 = c (100 * f + l.length) ∧ ∀ i a, l[i]? = some a → H 1229633 0 (100 * f + i) = sg a
def stW (H : FI) : List Nat → Prop
  | [] => True
  | a :: r => H 207697 0 r.length = c a ∧ a < 200 ∧ stW H r
def opn : List Nat → Nat
  | [] => 0
  | a :: r => opn r + (if a = 33 ∨ a = 40 then 1 else 0)
def popB : List Nat → List Nat
  | [] => []
  | a :: r => if a = 33 then popB r else a :: r
def ntB : List Nat → List Tk
  | [] => []
  | a :: r => if a = 33 then (1, 0, 0, 0) :: ntB r else []
/-- settled: what waits is emitted -/
def stlF (s : Nat) : List Nat → List Tk → List Nat × List Tk
  | [], l => ([], l)
  | a :: r, l => if a = 38 then stlF s r (l ++ [(2, 0, 0, 0)]) else if a = 124 ∧ s ≠ 38 then stlF s r (l ++ [(3, 0, 0, 0)]) else (a :: r, l)
theorem get_snocT {l : List Tk} {x a : Tk} {i : Nat} (h : (l ++ [x])[i]? = some a) : (i < l.length ∧ l[i]? = some a) ∨ (i = l.length ∧ a = x) := by
  by_cases q : i < l.length
  · rw [List.getElem?_append_left q] at h
    exact Or.inl ⟨q, h⟩
  · rw [List.getElem?_append_right (by omega)] at h
    by_cases e : i = l.length
    · rw [e, Nat.sub_self] at h
      exact Or.inr ⟨e, by simpa using h.symm⟩
    · have : i - l.length = (i - l.length - 1) + 1 := by omega
      rw [this] at h
      simp at h
section P96
variable {L : FL} {w : Nat → Nat} {tx : Nat → Int32} {n f ci : Nat}
def frM (f ci : Nat) (H H' : FI) : Prop := ∀ t k j, ¬ (t = 14944 ∧ (j = 14 ∨ j = 15 ∨ j = 24 ∨ j = 25 ∨ j = 26)) → t ≠ 207697 → ¬ (t = 1229633 ∧ 100 * f ≤ j ∧ j < 100 * f + 100) → ¬ (t = 123697 ∧ j = ci) → H' t k j = H t k j
theorem frM.rf {H : FI} : frM f ci H H := fun _ _ _ _ _ _ _ => rfl
theorem frM.tr {H H' H'' : FI} (h : frM f ci H H') (h' : frM f ci H' H'') : frM f ci H H'' := fun t k j a b d e => (h' t k j a b d e).trans (h t k j a b d e)
def MTx (tx : Nat → Int32) (n : Nat) (H : FI) : Prop := H 14944 0 13 = c n ∧ ∀ i, i < n → H 205537 0 i = tx i
def MZ (tx : Nat → Int32) (n f : Nat) (H : FI) (p : Nat) (q : List Nat) (l : List Tk) : Prop := MTx tx n H ∧ H 14944 0 14 = c p ∧ p ≤ n ∧ H 14944 0 25 = c q.length ∧ stW H q ∧ H 14944 0 26 = c (opn q) ∧ encS H f l ∧ l.length + q.length ≤ p ∧ f < 6
theorem MTx_fr {H H' : FI} (h : MTx tx n H) (hf : frM f ci H H') : MTx tx n H' := ⟨(hf _ _ _ (by omega) (by omega) (by omega) (by omega)).trans h.1, fun i hi => (hf _ _ _ (by omega) (by omega) (by omega) (by omega)).trans (h.2 i hi)⟩
theorem stW_p {H H' : FI} (hh : ∀ j, H' 207697 0 j = H 207697 0 j) : ∀ q, stW H q → stW H' q := by
  intro q
  induction q with
  | nil => intro _; trivial
  | cons a r ih => intro h; exact ⟨(hh _).trans h.1, h.2.1, ih h.2.2⟩
theorem stW_u {H : FI} {x : Int32} : ∀ q m, q.length ≤ m → stW H q → stW (uI H 207697 0 m x) q := by
  intro q
  induction q with
  | nil => intro m _ _; trivial
  | cons a r ih =>
    intro m hm h
    rw [List.length_cons] at hm
    exact ⟨by rw [uI_j (by omega)]; exact h.1, h.2.1, ih m (by omega) h.2.2⟩
theorem s126 {d p : Nat} {H : FI} (hn : n ≤ 100) (h : MTx tx n H) (hp' : H 14944 0 14 = c p) (hpn : p ≤ 200) : dn (d + 1) 126 [vR 14944 0] (hp H L w) = some (some (vI (nxF tx n p)), hp H L w) := by
  rw [e126, b126_0, hp', h.1]
  unfold nxF
  by_cases q : p < n
  · rw [if_pos (tq_gt q (by omega)), ck_t (vin_c (by omega) (by omega)), ix_c (by omega), h.2 p q, if_pos q]
  · rw [if_neg (tq_ng (by omega) (by omega)), if_neg q]
theorem s127 {d p : Nat} {H : FI} {x : Int32} (hn : n ≤ 100) (h : MTx tx n H) (hp' : H 14944 0 14 = c p) (hpn : p ≤ 200) : dn (d + 2) 127 [vR 14944 0, vI x] (hp H L w) = (if nxF tx n p = x then some (some (vI 1), hp (uI H 14944 0 14 (c (p + 1))) L w) else some (some (vI 0), hp H L w)) := by
  rw [e127, b127_0, s126 hn h hp' hpn, bn_s]
  show rn none _ 127 4 _ [vI _] _ = _
  rw [b127_4, hp', c_s]
theorem frM_at {H : FI} {x : Int32} {j : Nat} (hj : j = 14 ∨ j = 15 ∨ j = 24 ∨ j = 25 ∨ j = 26) : frM f ci H (uI H 14944 0 j x) := fun t k i a _ _ _ => by
  unfold uI
  rw [if_neg (fun z => a ⟨z.1, by omega⟩)]
theorem frM_w {H : FI} {x : Int32} {j : Nat} : frM f ci H (uI H 207697 0 j x) := fun t k i _ a _ _ => by
  unfold uI
  rw [if_neg (fun z => a z.1)]
/-- a sign emitted -/
def emF (H : FI) (f : Nat) (m : Nat) (a : Tk) : FI := uI (uI H 1229633 0 (100 * f + m) (sg a)) 14944 0 24 (c (100 * f + m + 1))
theorem emF_fr {H : FI} {m : Nat} {a : Tk} (hm : m < 100) : frM f ci H (emF H f m a) := fun t k i a _ b _ => by
  unfold emF uI
  rw [if_neg (fun z => a ⟨z.1, by omega⟩), if_neg (fun z => b ⟨z.1, by omega, by omega⟩)]
theorem emF_j {H : FI} {m j : Nat} {a : Tk} (hj : j ≠ 24) : emF H f m a 14944 0 j = H 14944 0 j := by
  unfold emF
  rw [uI_j hj, uI_t (by omega)]
theorem emF_w {H : FI} {m j : Nat} {a : Tk} : emF H f m a 207697 0 j = H 207697 0 j := by
  unfold emF
  rw [uI_t (by omega), uI_t (by omega)]
theorem emF_S {H : FI} {l : List Tk} {a : Tk} (h : encS H f l) : encS (emF H f l.length a) f (l ++ [a]) := by
  refine ⟨?_, fun i b hb => ?_⟩
  · unfold emF
    rw [uI_e, List.length_append, List.length_cons, List.length_nil]
    rfl
  · unfold emF
    rcases get_snocT hb with ⟨h1, h2⟩ | ⟨h1, h2⟩
    · rw [uI_t (by omega), uI_j (by omega)]
      exact h.2 i b h2
    · rw [h1, h2, uI_t (by omega), uI_e]
theorem encS_p {H H' : FI} {l : List Tk} (h : encS H f l) (h24 : H' 14944 0 24 = H 14944 0 24) (hh : ∀ j, H' 1229633 0 j = H 1229633 0 j) : encS H' f l := ⟨h24.trans h.1, fun i a ha => (hh _).trans (h.2 i a ha)⟩
theorem s131 {d : Nat} {H : FI} {l : List Tk} {a : Tk} {x : Int32} (h : encS H f l) (hf : f < 6) (hl : l.length < 100) (hx : x = sg a) : dn (d + 1) 131 [vR 14944 0, vI x] (hp H L w) = some (none, hp (emF H f l.length a) L w) := by
  rw [e131, b131_0, h.1, ck_t (vin_c (by omega) (by omega)), ix_c (by omega), c_s, hx]
  rfl
/-- MZ behind a sign emitted -/
theorem MZ_em {H : FI} {p : Nat} {q : List Nat} {l : List Tk} {a : Tk} (hn : n ≤ 100) (h : MZ tx n f H p q l) (hl : l.length + 1 + q.length ≤ p) : MZ tx n f (emF H f l.length a) p q (l ++ [a]) ∧ frM f ci H (emF H f l.length a) := by
  obtain ⟨h1, h2, h3, h4, h5, h6, h7, h8, h9⟩ := h
  have hfr : frM f ci H (emF H f l.length a) := emF_fr (by omega)
  exact ⟨⟨MTx_fr h1 hfr, by rw [emF_j (by omega)]; exact h2, h3, by rw [emF_j (by omega)]; exact h4, stW_p (fun j => emF_w) q h5, by rw [emF_j (by omega)]; exact h6, emF_S h7, by rw [List.length_append, List.length_cons, List.length_nil]; omega, h9⟩, hfr⟩
/-- MZ behind what is popped -/
theorem MZ_pop {H : FI} {p : Nat} {a : Nat} {q : List Nat} {l : List Tk} (h : MZ tx n f H p (a :: q) l) : MZ tx n f (uI (uI H 14944 0 25 (c q.length)) 14944 0 26 (c (opn q))) p q l ∧ frM f ci H (uI (uI H 14944 0 25 (c q.length)) 14944 0 26 (c (opn q))) := by
  obtain ⟨h1, h2, h3, h4, h5, h6, h7, h8, h9⟩ := h
  have hfr : frM f ci H (uI (uI H 14944 0 25 (c q.length)) 14944 0 26 (c (opn q))) := (frM_at (by omega)).tr (frM_at (by omega))
  rw [List.length_cons] at h8
  exact ⟨⟨MTx_fr h1 hfr, by rw [uI_j (by omega), uI_j (by omega)]; exact h2, h3, by rw [uI_j (by omega), uI_e], stW_p (fun j => by rw [uI_t (by omega), uI_t (by omega)]) q h5.2.2, uI_e, encS_p h7 (by rw [uI_j (by omega), uI_j (by omega)]) (fun j => by rw [uI_t (by omega), uI_t (by omega)]), by omega, h9⟩, hfr⟩
theorem opn_le : ∀ q, opn q ≤ q.length := by
  intro q
  induction q with
  | nil => exact Nat.le_refl _
  | cons a r ih =>
    show opn r + (if a = 33 ∨ a = 40 then 1 else 0) ≤ r.length + 1
    split <;> omega
/-- the negations that wait -/
theorem s132 {d : Nat} (hn : n ≤ 100) : ∀ q H p l, MZ tx n f H p q l → ∃ H', frM f ci H H' ∧ MZ tx n f H' p (popB q) (l ++ ntB q) ∧ rn none (dn (d + 1)) 132 0 [some (vR 14944 0)] [] (hp H L w) = some (none, hp H' L w) := by
  intro q
  induction q with
  | nil =>
    intro H p l h
    refine ⟨H, frM.rf, ?_, ?_⟩
    · rw [show ntB [] = [] from rfl, List.append_nil]; exact h
    · rw [b132_0, h.2.2.2.1, if_neg (by decide)]
  | cons a r ih =>
    intro H p l h
    obtain ⟨h1, h2, h3, h4, h5, h6, h7, h8, h9⟩ := id h
    rw [List.length_cons] at h4 h8
    have e1 : c (r.length + 1) - 1 = c r.length := by rw [show (1 : Int32) = c 1 from rfl, c_sub (by omega), Nat.add_sub_cancel]
    rw [b132_0, h4, if_pos (show (0 : Int32) < c (r.length + 1) from tq_gt (a := 0) (by omega) (by omega)), e1, ck_t (vin_c (by omega) (by omega)), ix_c (by omega), h5.1]
    by_cases q : a = 33
    · subst q
      obtain ⟨g1, g2⟩ := MZ_pop (ci := ci) h
      have hopn : opn (33 :: r) = opn r + 1 := rfl
      rw [if_pos (show c 33 = 33 from rfl), s131 (a := (1, 0, 0, 0)) (x := -33) h7 h9 (by omega) rfl, bn_s]
      show ∃ H', _ ∧ _ ∧ rn none _ 132 29 _ [] _ = _
      have e2 : c (opn r + 1) - 1 = c (opn r) := by
        have := opn_le r
        rw [show (1 : Int32) = c 1 from rfl, c_sub (by omega), Nat.add_sub_cancel]
      have hA : MZ tx n f (uI (uI (emF H f l.length (1, 0, 0, 0)) 14944 0 25 (c r.length)) 14944 0 26 (c (opn r))) p r (l ++ [(1, 0, 0, 0)]) ∧ frM f ci H (uI (uI (emF H f l.length (1, 0, 0, 0)) 14944 0 25 (c r.length)) 14944 0 26 (c (opn r))) := by
        have hfr : frM f ci H (uI (uI (emF H f l.length (1, 0, 0, 0)) 14944 0 25 (c r.length)) 14944 0 26 (c (opn r))) := ((emF_fr (by omega)).tr (frM_at (by omega))).tr (frM_at (by omega))
        refine ⟨⟨MTx_fr h1 hfr, ?_, h3, ?_, ?_, uI_e, ?_, ?_, h9⟩, hfr⟩
        · rw [uI_j (by omega), uI_j (by omega), emF_j (by omega)]; exact h2
        · rw [uI_j (by omega), uI_e]
        · exact stW_p (fun j => by rw [uI_t (by omega), uI_t (by omega), emF_w]) r h5.2.2
        · exact encS_p (emF_S h7) (by rw [uI_j (by omega), uI_j (by omega)]) (fun j => by rw [uI_t (by omega), uI_t (by omega)])
        · rw [List.length_append, List.length_cons, List.length_nil]; omega
      obtain ⟨H', i1, i2, i3⟩ := ih _ p _ hA.1
      refine ⟨H', hA.2.tr i1, ?_, ?_⟩
      · rw [show popB (33 :: r) = popB r from rfl, show ntB (33 :: r) = (1, 0, 0, 0) :: ntB r from rfl]
        rw [List.append_assoc] at i2
        exact i2
      · rw [b132_29, emF_j (by omega), h4, e1, emF_j (by omega), h6, hopn, e2]
        exact i3
    · have hne : ¬ c a = 33 := fun z => q (c_inj (by have := h5.2.1; omega) (by omega) (show c a = c 33 from z))
      rw [if_neg hne]
      refine ⟨H, frM.rf, ?_, rfl⟩
      rw [show popB (a :: r) = a :: r from if_neg q, show ntB (a :: r) = [] from if_neg q, List.append_nil]
      exact h
end P96
