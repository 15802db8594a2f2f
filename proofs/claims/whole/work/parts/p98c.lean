set_option maxHeartbeats 400000
/-- all tests of clauses, one behind the other -/
def tlF : List Cl → List Tk
  | [] => []
  | a :: r => a.2.2 ++ tlF r
theorem tlF_s {a : Cl} : ∀ cs, tlF (cs ++ [a]) = tlF cs ++ a.2.2 := by
  intro cs
  induction cs with
  | nil => show a.2.2 ++ [] = [] ++ a.2.2; simp
  | cons b r ih =>
    show b.2.2 ++ tlF (r ++ [a]) = b.2.2 ++ tlF r ++ a.2.2
    rw [ih, List.append_assoc]
/-- clauses as the reference keeps them -/
def encK (H : FI) (f : Nat) (cs : List Cl) : Prop := ∀ i a, cs[i]? = some a → H 123649 0 (10 * f + i) = c a.1 ∧ H 123665 0 (10 * f + i) = c a.2.1 ∧ (a.1 < 2 → H 123681 0 (10 * f + i) = c (100 * f + (tlF (cs.take i)).length) ∧ H 123697 0 (10 * f + i) = c (100 * f + (tlF (cs.take i)).length + a.2.2.length))
def ltrs : List Int32 := [115, 105, 110, 107, 102, 108, 111, 97, 116, 114, 101, 97, 99, 104, 116, 105, 100, 101, 108, 105, 102, 116]
def HLt (H : FI) : Prop := ∀ i, i < 22 → H 45921 0 i = ltrs.getD i 0
def frK (f : Nat) (H H' : FI) : Prop := ∀ t k j, ¬ (t = 14944 ∧ (j = 14 ∨ j = 15 ∨ j = 24 ∨ j = 25 ∨ j = 26)) → t ≠ 207697 → ¬ (t = 1229633 ∧ 100 * f ≤ j ∧ j < 100 * f + 100) → ¬ ((t = 123649 ∨ t = 123665 ∨ t = 123681 ∨ t = 123697) ∧ 10 * f ≤ j ∧ j < 10 * f + 10) → H' t k j = H t k j
section P98c
variable {L : FL} {w : Nat → Nat} {tx : Nat → Int32} {n f ci : Nat} {A : List Tk}
theorem frK.rf {H : FI} : frK f H H := fun _ _ _ _ _ _ _ => rfl
theorem frK.tr {H H' H'' : FI} (h : frK f H H') (h' : frK f H' H'') : frK f H H'' := fun t k j a b d e => (h' t k j a b d e).trans (h t k j a b d e)
theorem frM_K {H H' : FI} (h : frM f ci H H') (h1 : 10 * f ≤ ci) (h2 : ci < 10 * f + 10) : frK f H H' := fun t k j a b d e => h t k j a b d (fun z => e ⟨by omega, by omega, by omega⟩)
theorem frN_K {H H' : FI} (h : frN H H') : frK f H H' := fun t k j a _ _ _ => h t k j (fun z => a ⟨z.1, by omega⟩)
theorem frK_u {H : FI} {t j : Nat} {x : Int32} (ht : t = 123649 ∨ t = 123665 ∨ t = 123681 ∨ t = 123697) (h1 : 10 * f ≤ j) (h2 : j < 10 * f + 10) : frK f H (uI H t 0 j x) := fun t' k i _ _ _ e => by
  unfold uI
  rw [if_neg (fun z => e ⟨by omega, by omega, by omega⟩)]
theorem MTx_K {H H' : FI} (h : MTx tx n H) (hf : frK f H H') : MTx tx n H' := ⟨(hf _ _ _ (by omega) (by omega) (by omega) (by omega)).trans h.1, fun i hi => (hf _ _ _ (by omega) (by omega) (by omega) (by omega)).trans (h.2 i hi)⟩
theorem HLt_K {H H' : FI} (h : HLt H) (hf : frK f H H') : HLt H' := fun i hi => (hf _ _ _ (by omega) (by omega) (by omega) (by omega)).trans (h i hi)
/-- what is tested, in a clause -/
theorem s136 {d p : Nat} (hn : n ≤ 100) (hf6 : f < 6) (hci : ci < 60) {H : FI} (hT : MTx tx n H) (hp' : H 14944 0 14 = c p) (hpn : p ≤ n) (hS : encS H f A) (hl : A.length ≤ p) : ((rdE (nxF tx n) 4 p []).1 = true → ∃ H', frM f ci (uI H 123681 0 ci (c (100 * f + A.length))) H' ∧ H' 14944 0 14 = c (rdE (nxF tx n) 4 p []).2.1 ∧ encS H' f (A ++ (rdE (nxF tx n) 4 p []).2.2) ∧ H' 123697 0 ci = c (100 * f + A.length + (rdE (nxF tx n) 4 p []).2.2.length) ∧ dn (d + 9) 136 [vR 14944 0, vI (c ci)] (hp H L w) = some (some (vI 1), hp H' L w)) ∧ ((rdE (nxF tx n) 4 p []).1 = false → ∃ H', frM f ci (uI H 123681 0 ci (c (100 * f + A.length))) H' ∧ H' 14944 0 14 = c (rdE (nxF tx n) 4 p []).2.1 ∧ dn (d + 9) 136 [vR 14944 0, vI (c ci)] (hp H L w) = some (some (vI 0), hp H' L w)) := by
  have hfr0 : frM f ci (uI H 123681 0 ci (c (100 * f + A.length))) (uI (uI (uI H 14944 0 25 0) 14944 0 26 0) 123681 0 ci (c (100 * f + A.length))) := fun t k j a b e g => by
    unfold uI
    by_cases q : t = 123681 ∧ k = 0 ∧ j = ci
    · rw [if_pos q, if_pos q]
    · rw [if_neg q, if_neg q, if_neg (fun z => a ⟨z.1, by omega⟩), if_neg (fun z => a ⟨z.1, by omega⟩)]
  have hZ : MZ tx n f (uI (uI (uI H 14944 0 25 0) 14944 0 26 0) 123681 0 ci (c (100 * f + A.length))) p [] (A ++ []) := by
    rw [List.append_nil]
    refine ⟨⟨?_, fun i hi => ?_⟩, ?_, hpn, ?_, trivial, ?_, ?_, ?_, hf6⟩
    · rw [uI_t (by omega), uI_j (by omega), uI_j (by omega)]; exact hT.1
    · rw [uI_t (by omega), uI_t (by omega), uI_t (by omega)]; exact hT.2 i hi
    · rw [uI_t (by omega), uI_j (by omega), uI_j (by omega)]; exact hp'
    · rw [uI_t (by omega), uI_j (by omega), uI_e]; rfl
    · rw [uI_t (by omega), uI_e]; rfl
    · exact encS_p hS (by rw [uI_t (by omega), uI_j (by omega), uI_j (by omega)]) (fun j => by rw [uI_t (by omega), uI_t (by omega), uI_t (by omega)])
    · show A.length + 0 ≤ p; omega
  have P : ∀ o, r22 d ci L w 1 none (uI (uI (uI H 14944 0 25 0) 14944 0 26 0) 123681 0 ci (c (100 * f + A.length))) = o → dn (d + 9) 136 [vR 14944 0, vI (c ci)] (hp H L w) = o := by
    intro o ho
    rw [e136, b136_0, ck_t (vin_c hci (by omega)), ix_c (by omega), hS.1]
    exact ho
  obtain ⟨g1, g2⟩ := sy_E (A := A) (d := d) (L := L) (w := w) hn hci (sy_F hn hci 4) _ p [] [] none rfl (Or.inl rfl) hZ
  refine ⟨fun z => ?_, fun z => ?_⟩
  · obtain ⟨H2, o2, q2, l2, k1, k2, k3, k4, k5, k6⟩ := g1 z
    obtain ⟨H3, m1, m2, m3⟩ := sy_e (d := d) (ci := ci) (L := L) (w := w) (o := o2) hn k2 k3 (Or.inl rfl) k4 k5
    obtain ⟨r1, r2, r3, r4, r5, r6, r7, r8, r9⟩ := id m2
    have e25 : H3 14944 0 25 = 0 := r4
    refine ⟨uI H3 123697 0 ci (H3 14944 0 24), ((hfr0.tr k1).tr m1).tr frM_to, ?_, ?_, ?_, P _ ?_⟩
    · rw [uI_t (by omega)]; exact r2
    · exact encS_p r7 (uI_t (by omega)) (fun j => uI_t (by omega))
    · rw [uI_e, r7.1, List.length_append, Nat.add_assoc]
      rfl
    · rw [k6, m3, b136_168, ck_t (vin_c hci (by omega)), if_pos e25, ix_c (by omega)]
  · obtain ⟨H', j1, j2, j3⟩ := g2 z
    exact ⟨H', hfr0.tr j1, j2, P _ j3⟩
/-- where the letters of a word lie -/
def frW (k : Nat) : Nat := if k = 1 then 4 else if k = 2 then 9 else if k = 3 then 14 else if k = 4 then 18 else 0
def mnW (k : Nat) : Nat := if k = 1 then 5 else if k = 2 then 5 else 4
theorem SB_d : ∀ k, k < 6 → 1 ≤ k → frW k + mnW k ≤ 22 ∧ mnW k ≤ 5 ∧ (SBk k).drop (mnW k) = [32] := by decide +kernel
theorem SB_e : ∀ k, k < 6 → 1 ≤ k → ∀ i, i < 5 → i < mnW k → (SBk k).drop i = ltrs.getD (frW k + i) 0 :: (SBk k).drop (i + 1) := by decide +kernel
theorem ltrs_p : ∀ i, i < 22 → ltrs.getD i 0 ≠ -1 := by decide
theorem s128 {d k p : Nat} {H : FI} (hn : n ≤ 100) (hk : k < 6) (hk1 : 1 ≤ k) (hT : MTx tx n H) (hLt : HLt H) (hp' : H 14944 0 14 = c p) (hpn : p ≤ n) : ∃ H', frN H H' ∧ H' 14944 0 14 = c (rdW (nxF tx n) (SBk k) p).2 ∧ dn (d + 4) 128 [vR 14944 0, vI (c (frW k)), vI (c (mnW k))] (hp H L w) = some (some (vI (if (rdW (nxF tx n) (SBk k) p).1 = true then 1 else 0)), hp H' L w) := by
  obtain ⟨q1, q2, q3⟩ := SB_d k hk hk1
  have frat : ∀ (H : FI) x, frN H (uI H 14944 0 14 x) := fun H x t k j a => by
    unfold uI; rw [if_neg (fun z => a ⟨z.1, by omega⟩)]
  have A : ∀ r i H p, i + r = mnW k → MTx tx n H → HLt H → H 14944 0 14 = c p → p ≤ n → ∃ H', frN H H' ∧ H' 14944 0 14 = c (rdW (nxF tx n) ((SBk k).drop i) p).2 ∧ rn none (dn (d + 3)) 128 2 [some (vR 14944 0), some (vI (c (frW k))), some (vI (c (mnW k))), some (vI (c i))] [] (hp H L w) = some (some (vI (if (rdW (nxF tx n) ((SBk k).drop i) p).1 = true then 1 else 0)), hp H' L w) := by
    intro r
    induction r with
    | zero =>
      intro i H p hi hT hLt hp' hpn
      obtain rfl : i = mnW k := by omega
      have e : rdW (nxF tx n) ((SBk k).drop (mnW k)) p = if nxF tx n p = 32 then (true, p + 1) else (false, p) := by rw [q3]; rfl
      rw [e, b128_2, if_neg (tq_ng (Nat.le_refl _) (by omega)), show dn (d + 3) 127 = dn (d + 1 + 2) 127 from rfl, s127 hn hT hp' (by omega)]
      by_cases a : nxF tx n p = 32
      · refine ⟨uI H 14944 0 14 (c (p + 1)), frat _ _, ?_, ?_⟩
        · rw [if_pos a]; exact uI_e
        · rw [if_pos a, if_pos a, bn_s]
          show rn none _ 128 36 _ [vI _] _ = _
          rw [b128_36, ck_t (by decide)]
          rfl
      · refine ⟨H, fun _ _ _ _ => rfl, ?_, ?_⟩
        · rw [if_neg a]; exact hp'
        · rw [if_neg a, if_neg a, bn_s]
          show rn none _ 128 36 _ [vI _] _ = _
          rw [b128_36, ck_t (by decide)]
          rfl
    | succ r ih =>
      intro i H p hi hT hLt hp' hpn
      have e : rdW (nxF tx n) ((SBk k).drop i) p = if nxF tx n p = ltrs.getD (frW k + i) 0 then rdW (nxF tx n) ((SBk k).drop (i + 1)) (p + 1) else (false, p) := by
        rw [SB_e k hk hk1 i (by omega) (by omega)]; rfl
      rw [e, b128_2, if_pos (tq_gt (by omega) (by omega)), cq rfl, ck_t (vin_c (by omega) (by omega)), ix_c (by omega), hLt _ (by omega), show dn (d + 3) 127 = dn (d + 1 + 2) 127 from rfl, s127 hn hT hp' (by omega)]
      by_cases a : nxF tx n p = ltrs.getD (frW k + i) 0
      · have hpn1 := nx_lt (nx := nxF tx n) nxF_n a (ltrs_p _ (by omega))
        obtain ⟨H', f1, f2, f3⟩ := ih (i + 1) (uI H 14944 0 14 (c (p + 1))) (p + 1) (by omega) ⟨by rw [uI_j (by omega)]; exact hT.1, fun i hi => by rw [uI_t (by omega)]; exact hT.2 i hi⟩ (fun i hi => by rw [uI_t (by omega)]; exact hLt i hi) uI_e (by omega)
        refine ⟨H', fun t k' j hh => by rw [f1 t k' j hh, frat _ _ t k' j hh], ?_, ?_⟩
        · rw [if_pos a]; exact f2
        · rw [if_pos a, if_pos a, bn_s]
          show rn none _ 128 19 _ [vI _] _ = _
          rw [b128_19, if_neg (show ¬ (1 : Int32) = 0 from by decide), c_s]
          exact f3
      · refine ⟨H, fun _ _ _ _ => rfl, ?_, ?_⟩
        · rw [if_neg a]; exact hp'
        · rw [if_neg a, if_neg a, bn_s]
          show rn none _ 128 19 _ [vI _] _ = _
          rw [b128_19, if_pos rfl]
          rfl
  rw [e128, b128_0]
  exact A (mnW k) 0 H p (by omega) hT hLt hp' hpn
/-- a clause's head -/
theorem s137 {d p : Nat} {H : FI} (hn : n ≤ 100) (hci : ci < 60) (hT : MTx tx n H) (hLt : HLt H) (hp' : H 14944 0 14 = c p) (hpn : p ≤ n) : ∃ H' wd, frN (uI H 123649 0 ci (c wd)) H' ∧ H' 14944 0 14 = c (rdW (nxF tx n) (SBk (wkx (nxF tx n p))) p).2 ∧ ((rdW (nxF tx n) (SBk (wkx (nxF tx n p))) p).1 = true → wd = wdx (wkx (nxF tx n p))) ∧ dn (d + 5) 137 [vR 14944 0, vI (c ci)] (hp H L w) = some (some (vI (if (rdW (nxF tx n) (SBk (wkx (nxF tx n p))) p).1 = true then 1 else 0)), hp H' L w) := by
  have G : ∀ wd k, k < 6 → 1 ≤ k → ∃ H', frN (uI H 123649 0 ci (c wd)) H' ∧ H' 14944 0 14 = c (rdW (nxF tx n) (SBk k) p).2 ∧ dn (d + 4) 128 [vR 14944 0, vI (c (frW k)), vI (c (mnW k))] (hp (uI H 123649 0 ci (c wd)) L w) = some (some (vI (if (rdW (nxF tx n) (SBk k) p).1 = true then 1 else 0)), hp H' L w) := fun wd k hk hk1 => s128 hn hk hk1 ⟨by rw [uI_t (by omega)]; exact hT.1, fun i hi => by rw [uI_t (by omega)]; exact hT.2 i hi⟩ (fun i hi => by rw [uI_t (by omega)]; exact hLt i hi) (by rw [uI_t (by omega)]; exact hp') hpn
  have v := vin_c hci (show 60 < 2147483648 by omega)
  have P : dn (d + 5) 137 [vR 14944 0, vI (c ci)] (hp H L w) = rn none (dn (d + 4)) 137 4 [some (vR 14944 0), some (vI (c ci))] [vI (nxF tx n p)] (hp H L w) := by
    rw [e137, b137_0, s126 hn hT hp' (by omega), bn_s]
    rfl
  rw [P, b137_4, ck_t v, ck_t v, ck_t v, ck_t v, ck_t v, ix_c (by omega)]
  rcases wkx_w (x := nxF tx n p) with ⟨e, q⟩ | ⟨e, q⟩ | ⟨e, q⟩ | ⟨e, q⟩ | ⟨e, q1, q2, q3, q4⟩
  · obtain ⟨H', f1, f2, f3⟩ := G 1 1 (by omega) (by omega)
    have f3 : dn (d + 4) 128 [vR 14944 0, vI 4, vI 5] (hp (uI H 123649 0 ci 1) L w) = _ := f3
    rw [e]
    refine ⟨H', 1, f1, f2, fun _ => rfl, ?_⟩
    rw [if_pos q, f3, bn_s]
    show rn none _ 137 75 _ [vI _] _ = _
    rw [b137_75, ck_t rok01]
  · obtain ⟨H', f1, f2, f3⟩ := G 4 4 (by omega) (by omega)
    have f3 : dn (d + 4) 128 [vR 14944 0, vI 18, vI 4] (hp (uI H 123649 0 ci 4) L w) = _ := f3
    rw [e]
    refine ⟨H', 4, f1, f2, fun _ => rfl, ?_⟩
    rw [if_neg (by rw [q]; decide), if_neg (by rw [q]; decide), if_neg (by rw [q]; decide), if_neg (by rw [q]; decide), f3, bn_s]
    show rn none _ 137 120 _ [vI _] _ = _
    rw [b137_120, ck_t rok01]
  · obtain ⟨H', f1, f2, f3⟩ := G 2 2 (by omega) (by omega)
    have f3 : dn (d + 4) 128 [vR 14944 0, vI 9, vI 5] (hp (uI H 123649 0 ci 2) L w) = _ := f3
    rw [e]
    refine ⟨H', 2, f1, f2, fun _ => rfl, ?_⟩
    rw [if_neg (by rw [q]; decide), if_pos q, f3, bn_s]
    show rn none _ 137 90 _ [vI _] _ = _
    rw [b137_90, ck_t rok01]
  · obtain ⟨H', f1, f2, f3⟩ := G 3 3 (by omega) (by omega)
    have f3 : dn (d + 4) 128 [vR 14944 0, vI 14, vI 4] (hp (uI H 123649 0 ci 3) L w) = _ := f3
    rw [e]
    refine ⟨H', 3, f1, f2, fun _ => rfl, ?_⟩
    rw [if_neg (by rw [q]; decide), if_neg (by rw [q]; decide), if_neg (by rw [q]; decide), if_pos q, f3, bn_s]
    show rn none _ 137 105 _ [vI _] _ = _
    rw [b137_105, ck_t rok01]
  · rw [e]
    by_cases s : nxF tx n p = 115
    · obtain ⟨H', f1, f2, f3⟩ := G 0 5 (by omega) (by omega)
      have f3 : dn (d + 4) 128 [vR 14944 0, vI 0, vI 4] (hp (uI H 123649 0 ci 0) L w) = _ := f3
      refine ⟨H', 0, f1, f2, fun _ => rfl, ?_⟩
      rw [if_neg q1, if_neg q3, if_pos s, f3, bn_s]
      show rn none _ 137 61 _ [vI _] _ = _
      rw [b137_61, ck_t rok01]
    · obtain ⟨H', f1, f2, f3⟩ := G 4 4 (by omega) (by omega)
      have f3 : dn (d + 4) 128 [vR 14944 0, vI 18, vI 4] (hp (uI H 123649 0 ci 4) L w) = _ := f3
      have e4 : rdW (nxF tx n) (SBk 4) p = (false, p) := if_neg q2
      have e5 : rdW (nxF tx n) (SBk 5) p = (false, p) := if_neg s
      rw [e4] at f2 f3
      rw [e5]
      refine ⟨H', 4, f1, f2, fun z => (by cases z), ?_⟩
      rw [if_neg q1, if_neg q3, if_neg s, if_neg q4, f3, bn_s]
      show rn none _ 137 120 _ [vI _] _ = _
      rw [b137_120, ck_t rok01]
end P98c
