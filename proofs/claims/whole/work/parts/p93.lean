set_option maxHeartbeats 400000
/-! clauses, and a whole town: what both read -/
abbrev Cl : Type := Nat × Nat × List Tk
def wkx (x : Int32) : Nat := if x = 102 then 1 else if x = 108 then 4 else if x = 114 then 2 else if x = 116 then 3 else 5
def wdx (k : Nat) : Nat := if k = 5 then 0 else if k = 1 then 1 else if k = 2 then 2 else if k = 3 then 3 else 4
def rdW (nx : Nat → Int32) : List Int32 → Nat → Bool × Nat
  | [], p => (true, p)
  | a :: r, p => if nx p = a then rdW nx r (p + 1) else (false, p)
def SBk (k : Nat) : List Int32 := SBYTES.getD k []
/-- a clause: read or not, the place, it -/
def rdC (nx : Nat → Int32) (p : Nat) : Bool × Nat × Cl :=
  if (rdW nx (SBk (wkx (nx p))) p).1 = true then
    (if (rdN nx (rdW nx (SBk (wkx (nx p))) p).2).1 = true then
      (if wkx (nx p) = 1 ∨ wkx (nx p) = 5 then
        (if nx (rdN nx (rdW nx (SBk (wkx (nx p))) p).2).2.1 = 32 then
          (if (rdE nx 4 ((rdN nx (rdW nx (SBk (wkx (nx p))) p).2).2.1 + 1) []).1 = true then
            (true, (rdE nx 4 ((rdN nx (rdW nx (SBk (wkx (nx p))) p).2).2.1 + 1) []).2.1, (wdx (wkx (nx p)), (rdN nx (rdW nx (SBk (wkx (nx p))) p).2).2.2, (rdE nx 4 ((rdN nx (rdW nx (SBk (wkx (nx p))) p).2).2.1 + 1) []).2.2))
          else (false, (rdE nx 4 ((rdN nx (rdW nx (SBk (wkx (nx p))) p).2).2.1 + 1) []).2.1, (0, 0, [])))
        else (false, (rdN nx (rdW nx (SBk (wkx (nx p))) p).2).2.1, (0, 0, [])))
      else (true, (rdN nx (rdW nx (SBk (wkx (nx p))) p).2).2.1, (wdx (wkx (nx p)), (rdN nx (rdW nx (SBk (wkx (nx p))) p).2).2.2, [])))
    else (false, (rdN nx (rdW nx (SBk (wkx (nx p))) p).2).2.1, (0, 0, [])))
  else (false, (rdW nx (SBk (wkx (nx p))) p).2, (0, 0, []))
def rdI (nx : Nat → Int32) (n : Nat) : Nat → Nat → List Cl → Bool × Nat × List Cl
  | 0, p, cs => (false, p, cs)
  | r + 1, p, cs => if (rdC nx p).1 = true then (if r ≠ 0 ∧ nx (rdC nx p).2.1 = 59 then rdI nx n r ((rdC nx p).2.1 + 1) (cs ++ [(rdC nx p).2.2]) else (decide ((rdC nx p).2.1 = n), (rdC nx p).2.1, cs ++ [(rdC nx p).2.2])) else (false, (rdC nx p).2.1, cs)
/-- a clause's steps, as the class keeps them -/
def flC (a : Cl) : List TkI := if a.1 = 0 then a.2.2.map tk ++ [(4, 0, 0, c a.2.1)] else if a.1 = 1 then a.2.2.map tk ++ [(4, 0, 0, -(c a.2.1))] else []
def flat : List Cl → List TkI
  | [] => []
  | a :: r => flC a ++ flat r
theorem flat_s {a : Cl} : ∀ cs, flat (cs ++ [a]) = flat cs ++ flC a := by
  intro cs
  induction cs with
  | nil => show flC a ++ [] = [] ++ flC a; simp
  | cons b r ih =>
    show flC b ++ flat (r ++ [a]) = flC b ++ flat r ++ flC a
    rw [ih, List.append_assoc]
def lcw (k : Nat) : Nat → List Cl → Nat
  | d, [] => d
  | d, a :: r => lcw k (if a.1 = k then a.2.1 else d) r
theorem lcw_s {k : Nat} {a : Cl} : ∀ cs d, lcw k d (cs ++ [a]) = if a.1 = k then a.2.1 else lcw k d cs := by
  intro cs
  induction cs with
  | nil => intro d; rfl
  | cons b r ih =>
    intro d
    show lcw k _ (r ++ [a]) = if a.1 = k then a.2.1 else lcw k _ r
    exact ih _
/-- a town as the class keeps it -/
def encT (H : FI) (T : Nat) (cs : List Cl) : Prop := enc H T (flat cs) ∧ H 6288 T 0 = c (lcw 2 10 cs) ∧ H 6288 T 1 = c (lcw 3 0 cs) ∧ H 6288 T 2 = c (lcw 4 5 cs)
section P93
variable {L : FL} {w : Nat → Nat} {tx : Nat → Int32} {n T : Nat}
theorem rdW_b {nx : Nat → Int32} (hn : ∀ p, n ≤ p → nx p = -1) : ∀ l p, (∀ a ∈ l, a ≠ -1) → p ≤ n → p ≤ (rdW nx l p).2 ∧ (rdW nx l p).2 ≤ n ∧ ((rdW nx l p).1 = true → (rdW nx l p).2 = p + l.length) := by
  intro l
  induction l with
  | nil => intro p _ h; exact ⟨Nat.le_refl _, h, fun _ => rfl⟩
  | cons a r ih =>
    intro p ha h
    have e : rdW nx (a :: r) p = if nx p = a then rdW nx r (p + 1) else (false, p) := rfl
    rw [e]
    by_cases q : nx p = a
    · have := nx_lt hn q (ha a List.mem_cons_self)
      obtain ⟨i1, i2, i3⟩ := ih (p + 1) (fun b hb => ha b (List.mem_cons_of_mem _ hb)) (by omega)
      rw [if_pos q]
      exact ⟨by omega, i2, fun z => by rw [i3 z, List.length_cons]; omega⟩
    · rw [if_neg q]; exact ⟨Nat.le_refl _, h, fun z => by cases z⟩
theorem SB_ok : ∀ k, k < 7 → (∀ a ∈ SBk k, a ≠ -1) ∧ sLen k < 100 ∧ Nat.blt k 7 = true ∧ 5 ≤ (SBk k).length := by decide +kernel
theorem SB_b : ∀ k, k < 7 → ∀ i, i < 6 → i < sLen k → (sByt k i).toNatClampNeg < 128 ∧ sByt k i = c ((sByt k i).toNatClampNeg) := by decide +kernel
theorem SB_6 : ∀ k, k < 7 → sLen k ≤ 6 := by decide
theorem wkx_7 {x : Int32} : wkx x < 7 := by
  unfold wkx
  repeat' split
  all_goals omega
/-- a word is taken -/
theorem s4c {d k p : Nat} {H : FI} (hn : n ≤ 100) (hk : k < 7) (h : CT tx n H) (hp' : H 32 0 2 = c p) (hpn : p ≤ n) : ∃ H', frC T H H' ∧ (∀ t k j, t ≠ 32 → H' t k j = H t k j) ∧ H' 32 0 2 = c (rdW (nxF tx n) (SBk k) p).2 ∧ dn (d + 5) 4 [vR 32 0, vR 1926 k] (hp H L w) = some (some (vI (if (rdW (nxF tx n) (SBk k) p).1 = true then 1 else 0)), hp H' L w) := by
  obtain ⟨q1, q2, q3, -⟩ := SB_ok k hk
  have hlen : (SBk k).length = sLen k := rfl
  have A : ∀ r i H p, i + r = sLen k → CT tx n H → H 32 0 2 = c p → p ≤ n → ∃ H', frC T H H' ∧ (∀ t k j, t ≠ 32 → H' t k j = H t k j) ∧ H' 32 0 2 = c (rdW (nxF tx n) ((SBk k).drop i) p).2 ∧ rn none (dn (d + 4)) 4 2 [some (vR 32 0), some (vR 1926 k), some (vI (c i))] [] (hp H L w) = some (some (vI (if (rdW (nxF tx n) ((SBk k).drop i) p).1 = true then 1 else 0)), hp H' L w) := by
    intro r
    induction r with
    | zero =>
      intro i H p hi hC hp' hpn
      obtain rfl : i = sLen k := by omega
      rw [show (SBk k).drop (sLen k) = [] from List.drop_of_length_le (by rw [hlen]; exact Nat.le_refl _)]
      refine ⟨H, frC.rf, fun _ _ _ _ => rfl, hp', ?_⟩
      rw [b4_2, q3, ck_t (by rfl), s207 q3 q2, bn_s]
      show rn none _ 4 7 _ [vI _, vI _] _ = _
      rw [b4_7, if_neg (tq_ng (Nat.le_refl _) (by omega))]
      rfl
    | succ r ih =>
      intro i H p hi hC hp' hpn
      have h6 := SB_6 k hk
      obtain ⟨b1, b2⟩ := SB_b k hk i (by omega) (by omega)
      have hdrop : (SBk k).drop i = sByt k i :: (SBk k).drop (i + 1) := by
        rw [List.drop_eq_getElem_cons (by rw [hlen]; omega)]
        congr 1
        show _ = (SBk k).getD i 0
        rw [List.getD_eq_getElem?_getD, List.getElem?_eq_getElem (by rw [hlen]; omega)]
        rfl
      have e : rdW (nxF tx n) ((SBk k).drop i) p = if nxF tx n p = sByt k i then rdW (nxF tx n) ((SBk k).drop (i + 1)) (p + 1) else (false, p) := by rw [hdrop]; rfl
      rw [e, b4_2, q3, ck_t (by rfl), s207 q3 q2, bn_s]
      show ∃ H', _ ∧ _ ∧ _ ∧ rn none _ 4 7 _ [vI _, vI _] _ = _
      rw [b4_7, if_pos (tq_gt (by omega) (by omega)), q3, ck_t (by rfl), s208 q3 q2 (by omega) b1 b2, bn_s, ← b2]
      show ∃ H', _ ∧ _ ∧ _ ∧ rn none _ 4 16 _ [vI _, vR _ _] _ = _
      rw [b4_16, s3c hn hC hp' (by omega)]
      by_cases a : nxF tx n p = sByt k i
      · have hpn1 : p < n := nx_lt (nx := nxF tx n) nxF_n a (by
          rw [b2]
          intro z
          have := c_0 (a := (sByt k i).toNatClampNeg) (by omega)
          rw [z] at this
          exact absurd this (by decide))
        obtain ⟨H', f1, f2, f3, f4⟩ := ih (i + 1) (uI H 32 0 2 (c (p + 1))) (p + 1) (by omega) (CT_fr (T := T) hC (fr_pl (by omega))) uI_e (by omega)
        refine ⟨H', (fr_pl (by omega)).tr f1, fun t k' j ht => by rw [f2 t k' j ht, uI_t ht], ?_, ?_⟩
        · rw [if_pos a]; exact f3
        · rw [if_pos a, if_pos a, bn_s]
          show rn none _ 4 19 _ [vI _] _ = _
          rw [b4_19, if_neg (show ¬ (1 : Int32) = 0 from by decide), c_s]
          exact f4
      · refine ⟨H, frC.rf, fun _ _ _ _ => rfl, ?_, ?_⟩
        · rw [if_neg a]; exact hp'
        · rw [if_neg a, if_neg a, bn_s]
          show rn none _ 4 19 _ [vI _] _ = _
          rw [b4_19, if_pos rfl]
          rfl
  rw [e4, b4_0]
  exact A (sLen k) 0 H p (by omega) h hp' hpn
end P93
