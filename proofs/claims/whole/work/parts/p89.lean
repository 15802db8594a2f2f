set_option maxHeartbeats 400000
abbrev TkI : Type := Nat × Nat × Nat × Int32
def tk (a : Tk) : TkI := (a.1, a.2.1, a.2.2.1, c a.2.2.2)
def enc (H : FI) (T : Nat) (l : List TkI) : Prop := H 6288 T 3 = c l.length ∧ ∀ i a, l[i]? = some a → H 204961 T i = c a.1 ∧ H 204977 T i = c a.2.1 ∧ H 204993 T i = c a.2.2.1 ∧ H 205009 T i = a.2.2.2
/-- all but what reading writes -/
def frC (T : Nat) (H H' : FI) : Prop := ∀ t k j, ¬ (t = 32 ∧ (j = 2 ∨ j = 3)) → ¬ (k = T ∧ (t = 204961 ∨ t = 204977 ∨ t = 204993 ∨ t = 205009 ∨ (t = 6288 ∧ j = 3))) → H' t k j = H t k j
theorem frC.rf {T : Nat} {H : FI} : frC T H H := fun _ _ _ _ _ => rfl
theorem frC.tr {T : Nat} {H H' H'' : FI} (h : frC T H H') (h' : frC T H' H'') : frC T H H'' := fun t k j a b => (h' t k j a b).trans (h t k j a b)
theorem get_snoc {l : List TkI} {x a : TkI} {i : Nat} (h : (l ++ [x])[i]? = some a) : (i < l.length ∧ l[i]? = some a) ∨ (i = l.length ∧ a = x) := by
  by_cases q : i < l.length
  · rw [List.getElem?_append_left q] at h
    exact Or.inl ⟨q, h⟩
  · rw [List.getElem?_append_right (by omega)] at h
    by_cases e : i = l.length
    · rw [e, Nat.sub_self] at h
      exact Or.inr ⟨e, by simpa using h.symm⟩
    · have : i - l.length = (i - l.length - 1) + 1 := by omega
      rw [this] at h
      simp at h
theorem d_sub {x : Int32} {v : Nat} (h1 : v < 10) (h2 : x = c (v + 48)) : x - 48 = c v := by
  rw [h2, show (48 : Int32) = c 48 from rfl, c_sub (by omega), Nat.add_sub_cancel]
theorem d_two {x : Int32} {u v : Nat} (h0 : u < 10) (h1 : v < 10) (h2 : x = c (v + 48)) : c u * 10 + x - 48 = c (10 * u + v) := by
  rw [h2, show (10 : Int32) = c 10 from rfl, ← Int32.ofNat_mul, cq rfl, show (48 : Int32) = c 48 from rfl, c_sub (by omega)]
  congr 1
  omega
theorem d_two' {x : Int32} {u v : Nat} (h0 : u < 10) (h1 : v < 10) (h2 : x = c (v + 48)) : 10 * c u + x - 48 = c (10 * u + v) := by
  rw [h2, show (10 : Int32) = c 10 from rfl, ← Int32.ofNat_mul, cq rfl, show (48 : Int32) = c 48 from rfl, c_sub (by omega)]
  congr 1
section CP
variable {L : FL} {w : Nat → Nat} {tx : Nat → Int32} {n T : Nat} {A : List TkI}
def nxF (tx : Nat → Int32) (n p : Nat) : Int32 := if p < n then tx p else -1
theorem nxF_n : ∀ p, n ≤ p → nxF tx n p = -1 := fun p h => if_neg (by omega)
def CT (tx : Nat → Int32) (n : Nat) (H : FI) : Prop := H 32 0 1 = c n ∧ ∀ i, i < n → H 204849 0 i = tx i
theorem CT_fr {H H' : FI} (h : CT tx n H) (hf : frC T H H') : CT tx n H' := ⟨(hf _ _ _ (by omega) (by omega)).trans h.1, fun i hi => (hf _ _ _ (by omega) (by omega)).trans (h.2 i hi)⟩
theorem s2c {d p : Nat} {H : FI} (hn : n ≤ 100) (h : CT tx n H) (hp' : H 32 0 2 = c p) (hpn : p ≤ 200) : dn (d + 1) 2 [vR 32 0] (hp H L w) = some (some (vI (nxF tx n p)), hp H L w) := by
  rw [e2, b2_0, hp', h.1]
  unfold nxF
  by_cases q : p < n
  · rw [if_pos (tq_gt q (by omega)), if_pos (show c p < 100 from tq_gt (b := 100) (by omega) (by omega)), ck_t (vin_c (by omega) (by omega)), ix_c (by omega), h.2 p q, if_pos q]
  · rw [if_neg (tq_ng (by omega) (by omega)), if_neg q]
theorem s3c {d p : Nat} {H : FI} {x : Int32} (hn : n ≤ 100) (h : CT tx n H) (hp' : H 32 0 2 = c p) (hpn : p ≤ 200) : dn (d + 2) 3 [vR 32 0, vI x] (hp H L w) = (if nxF tx n p = x then some (some (vI 1), hp (uI H 32 0 2 (c (p + 1))) L w) else some (some (vI 0), hp H L w)) := by
  rw [e3, b3_0, s2c hn h hp' hpn, bn_s]
  show rn none _ 3 4 _ [vI _] _ = _
  rw [b3_4, hp', c_s]
theorem fr_pl {H : FI} {x : Int32} {j : Nat} (hj : j = 2 ∨ j = 3) : frC T H (uI H 32 0 j x) := fun t k i a b => by
  unfold uI
  rw [if_neg (fun z => a ⟨z.1, by omega⟩)]
theorem s7c {d p : Nat} {H : FI} (hn : n ≤ 100) (h : CT tx n H) (hp' : H 32 0 2 = c p) (hpn : p ≤ n) : ∃ H', frC T H H' ∧ (∀ t k j, t ≠ 32 → H' t k j = H t k j) ∧ H' 32 0 2 = c (rdN (nxF tx n) p).2.1 ∧ ((rdN (nxF tx n) p).1 = true → H' 32 0 3 = c (rdN (nxF tx n) p).2.2) ∧ dn (d + 2) 7 [vR 32 0] (hp H L w) = some (some (vI (if (rdN (nxF tx n) p).1 = true then 1 else 0)), hp H' L w) := by
  have hcond : ∀ x : Int32, isD x = false → x < 48 ∨ 57 < x := fun x hx => by
    unfold isD at hx
    simp only [Bool.and_eq_false_iff, decide_eq_false_iff_not] at hx
    rcases hx with hx | hx
    · exact Or.inl (by grind)
    · exact Or.inr (by grind)
  have hcond2 : ∀ x : Int32, isD x = true → ¬ x < 48 ∧ ¬ 57 < x := fun x hx => by
    unfold isD at hx
    simp only [Bool.and_eq_true, decide_eq_true_eq] at hx
    grind
  unfold rdN
  cases a : isD (nxF tx n p) with
  | false =>
    refine ⟨H, frC.rf, fun _ _ _ _ => rfl, hp', fun z => (by cases z), ?_⟩
    rw [e7, b7_0, s2c hn h hp' (by omega), bn_s]
    show rn none _ 7 4 _ [vI _] _ = _
    rw [b7_4]
    rcases hcond _ a with q | q
    · rw [if_pos q]; rfl
    · by_cases q2 : nxF tx n p < 48
      · rw [if_pos q2]; rfl
      · rw [if_neg q2, if_pos q]; rfl
  | true =>
    obtain ⟨q1, q2⟩ := hcond2 _ a
    obtain ⟨d1, d2⟩ := isD_c a
    have e1 : nxF tx n p - 48 = c (dvl (nxF tx n p)) := d_sub d1 d2
    have hC1 : CT tx n (uI (uI H 32 0 3 (c (dvl (nxF tx n p)))) 32 0 2 (c (p + 1))) := CT_fr (T := T) h ((fr_pl (by omega)).tr (fr_pl (by omega)))
    have S := s2c (d := d) (L := L) (w := w) hn hC1 uI_e (show p + 1 ≤ 200 by omega)
    have B : ∀ o, (if nxF tx n (p + 1) < 48 then some (some (vI 1), hp (uI (uI H 32 0 3 (c (dvl (nxF tx n p)))) 32 0 2 (c (p + 1))) L w) else if 57 < nxF tx n (p + 1) then some (some (vI 1), hp (uI (uI H 32 0 3 (c (dvl (nxF tx n p)))) 32 0 2 (c (p + 1))) L w) else some (some (vI 1), hp (uI (uI (uI (uI H 32 0 3 (c (dvl (nxF tx n p)))) 32 0 2 (c (p + 1))) 32 0 3 (c (dvl (nxF tx n p)) * 10 + nxF tx n (p + 1) - 48)) 32 0 2 (c (p + 1 + 1))) L w)) = o → dn (d + 2) 7 [vR 32 0] (hp H L w) = o := by
      intro o ho
      rw [e7, b7_0, s2c hn h hp' (by omega), bn_s]
      show rn none _ 7 4 _ [vI _] _ = _
      rw [b7_4, if_neg q1, if_neg q2, e1, hp', c_s, S, bn_s]
      show rn none _ 7 41 _ [vI _] _ = _
      rw [b7_41, uI_e, uI_j (by omega), uI_e, c_s]
      exact ho
    cases b : isD (nxF tx n (p + 1)) with
    | false =>
      refine ⟨uI (uI H 32 0 3 (c (dvl (nxF tx n p)))) 32 0 2 (c (p + 1)), (fr_pl (by omega)).tr (fr_pl (by omega)), fun t k j ht => ?_, uI_e, fun _ => ?_, B _ ?_⟩
      · rw [uI_t ht, uI_t ht]
      · rw [uI_j (by omega), uI_e]; rfl
      · rcases hcond _ b with q | q
        · rw [if_pos q]; rfl
        · by_cases q2 : nxF tx n (p + 1) < 48
          · rw [if_pos q2]; rfl
          · rw [if_neg q2, if_pos q]; rfl
    | true =>
      obtain ⟨r1, r2⟩ := hcond2 _ b
      obtain ⟨f1, f2⟩ := isD_c b
      have e2 : c (dvl (nxF tx n p)) * 10 + nxF tx n (p + 1) - 48 = c (10 * dvl (nxF tx n p) + dvl (nxF tx n (p + 1))) := d_two d1 f1 f2
      refine ⟨uI (uI (uI (uI H 32 0 3 (c (dvl (nxF tx n p)))) 32 0 2 (c (p + 1))) 32 0 3 (c (10 * dvl (nxF tx n p) + dvl (nxF tx n (p + 1))))) 32 0 2 (c (p + 1 + 1)), (((fr_pl (by omega)).tr (fr_pl (by omega))).tr (fr_pl (by omega))).tr (fr_pl (by omega)), fun t k j ht => ?_, uI_e, fun _ => ?_, B _ ?_⟩
      · rw [uI_t ht, uI_t ht, uI_t ht, uI_t ht]
      · rw [uI_j (by omega), uI_e]; rfl
      · rw [if_neg r1, if_neg r2, e2]; rfl
/-- a step more -/
def stpF (H : FI) (T : Nat) (m : Nat) (a : TkI) : FI := uI (uI (uI (uI (uI H 204961 T m (c a.1)) 204977 T m (c a.2.1)) 204993 T m (c a.2.2.1)) 205009 T m a.2.2.2) 6288 T 3 (c (m + 1))
theorem stpF_fr {H : FI} {m : Nat} {a : TkI} : frC T H (stpF H T m a) := fun t k j x y => by
  unfold stpF uI
  rw [if_neg (by omega), if_neg (by omega), if_neg (by omega), if_neg (by omega), if_neg (by omega)]
theorem stpF_p {H : FI} {m : Nat} {a : TkI} {j : Nat} : stpF H T m a 32 0 j = H 32 0 j := by
  unfold stpF
  rw [uI_t (by omega), uI_t (by omega), uI_t (by omega), uI_t (by omega), uI_t (by omega)]
theorem s19c {d : Nat} {H : FI} {l : List TkI} (h : enc H T l) (hl : l.length < 100) {a : TkI} : dn (d + 1) 19 [vR 6288 T, vI (c a.1), vI (c a.2.1), vI (c a.2.2.1), vI a.2.2.2] (hp H L w) = some (none, hp (stpF H T l.length a) L w) := by
  rw [e19, b19_0, h.1, if_pos (show c l.length < 100 from tq_gt (b := 100) hl (by omega)), ck_t (vin_c hl (by omega)), ck_t (vin_c hl (by omega)), ck_t (vin_c hl (by omega)), ck_t (vin_c hl (by omega)), ix_c (by omega), c_s]
  rfl
theorem enc_s {H : FI} {l : List TkI} (h : enc H T l) {a : TkI} : enc (stpF H T l.length a) T (l ++ [a]) := by
  refine ⟨?_, fun i b hb => ?_⟩
  · rw [List.length_append, List.length_cons, List.length_nil]
    unfold stpF
    rw [uI_e]
  · unfold stpF
    rcases get_snoc hb with ⟨h1, h2⟩ | ⟨h1, h2⟩
    · obtain ⟨q1, q2, q3, q4⟩ := h.2 i b h2
      have : i ≠ l.length := by omega
      rw [uI_t (by omega), uI_t (by omega), uI_t (by omega), uI_t (by omega), uI_j this, uI_t (by omega), uI_t (by omega), uI_t (by omega), uI_j this, uI_t (by omega), uI_t (by omega), uI_t (by omega), uI_j this, uI_t (by omega), uI_t (by omega), uI_t (by omega), uI_j this, uI_t (by omega), uI_t (by omega), uI_t (by omega)]
      exact ⟨q1, q2, q3, q4⟩
    · subst h2
      rw [h1, uI_t (by omega), uI_t (by omega), uI_t (by omega), uI_t (by omega), uI_e, uI_t (by omega), uI_t (by omega), uI_t (by omega), uI_e, uI_t (by omega), uI_t (by omega), uI_e, uI_t (by omega), uI_e]
      exact ⟨rfl, rfl, rfl, rfl⟩
theorem enc_p {H H' : FI} {l : List TkI} (h : enc H T l) (hh : ∀ t k j, t ≠ 32 → H' t k j = H t k j) : enc H' T l := by
  refine ⟨(hh _ _ _ (by omega)).trans h.1, fun i a ha => ?_⟩
  rw [hh 204961 T i (by omega), hh 204977 T i (by omega), hh 204993 T i (by omega), hh 205009 T i (by omega)]
  exact h.2 i a ha
end CP
