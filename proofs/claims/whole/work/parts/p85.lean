set_option maxHeartbeats 400000
section P85
variable {I : FI} {L : FL} {w : Nat → Nat} {nW nT dy m : Nat} {x y z : Int32} {P : Nat → Bool} {W : Nat → Nat → Bool}
/-- P, of the things that there are -/
abbrev PnT (P : Nat → Bool) (nT : Nat) : Nat → Bool := fun t => decide (t < nT) && P t
/-- the whole table stands -/
def TabA (P : Nat → Bool) (W : Nat → Nat → Bool) (H : FI) (nT : Nat) : Prop := H 8256 0 0 = c (mkb P nT) ∧ (∀ k, k < 6 → H 12369 0 k = c (mkb (W k) nT)) ∧ ∀ u, u < 64 → sbP (PnT P nT) u → H 131169 0 u = c (TS (PnT P nT) W u)
theorem TabA_T {H : FI} {s : Nat} (h : TabA P W H nT) : Tab P W H nT s := ⟨h.1, h.2.1, fun u _ h1 h2 => h.2.2 u h1 h2⟩
theorem s28 {H : FI} {d s : Nat} (h2 : nT ≤ 6) (hT : TabA P W H nT) (hs' : s < 64) (hsb : sbP (PnT P nT) s) : dn (d + 3) 28 [vR 8256 0, vI (c s)] (hp H L w) = some (some (vI (if gr (PnT P nT) W s < 6 then c (gr (PnT P nT) W s) else -5)), hp H L w) := by
  have A : ∀ r t, t + r = 6 → rn none (dn (d + 2)) 28 2 [some (vR 8256 0), some (vI (c s)), some (vI (c t))] [] (hp H L w) = some (some (vI (if gz (PnT P nT) W s r t < 6 then c (gz (PnT P nT) W s r t) else -5)), hp H L w) := by
    intro r
    induction r with
    | zero =>
      intro t ht
      obtain rfl : t = 6 := by omega
      rw [b28_2, if_neg (by decide)]
      rfl
    | succ r ih =>
      intro t ht
      have g := ih (t + 1) (by omega)
      have e : gz (PnT P nT) W s (r + 1) t = if lf (PnT P nT) s t = true ∧ TS (PnT P nT) W (s ||| 2 ^ t) + (W (pcn s) t).toNat = TS (PnT P nT) W s then t else gz (PnT P nT) W s r (t + 1) := rfl
      have hG := TS_le (PnT P nT) W (s := s ||| 2 ^ t)
      have hG2 := TS_le (PnT P nT) W (s := s)
      have hB : (W (pcn s) t).toNat ≤ 1 := by cases W (pcn s) t <;> decide
      rw [b28_2, if_pos (show c t < 6 from tq_gt (b := 6) (by omega) (by omega)), s25 h2 hT.1 hs' (by omega), bn_s]
      show rn none _ 28 14 _ [vI _] _ = _
      rw [b28_14, if10, c_s]
      by_cases q : lf (PnT P nT) s t = true
      · rw [if_pos q, s26 h2 (TabA_T hT) hs' (by omega) hsb q, bn_s]
        show rn none _ 28 23 _ [vI _] _ = _
        rw [b28_23, ck_t (vin_c hs' (by omega)), ix_c (by omega), hT.2.2 s hs' hsb, c_s]
        by_cases k : TS (PnT P nT) W (s ||| 2 ^ t) + (W (pcn s) t).toNat = TS (PnT P nT) W s
        · rw [if_pos (by rw [k]), e.trans (if_pos ⟨q, k⟩), if_pos (show t < 6 by omega)]
        · rw [if_neg (tq_ne k (by omega) (by omega)), e.trans (if_neg (fun z => k z.2))]
          exact g
      · rw [if_neg q, e.trans (if_neg (fun z => q z.1))]
        exact g
  rw [e28, b28_0]
  exact A 6 0 rfl
theorem gr_n {s : Nat} (h : ∀ u, u < 6 → lf P s u = false) : gr P W s = 6 := gz_n P W 6 0 rfl h
/-- the k-th of the greedy order -/
def gkF (P : Nat → Bool) (W : Nat → Nat → Bool) (k : Nat) : Int32 := if k < cnN P 6 then c (gr P W (gs P W k)) else -5
theorem cnN_6 {P : Nat → Bool} : ∀ n, cnN P n ≤ n := by
  intro n
  induction n with
  | zero => exact Nat.le_refl _
  | succ n ih =>
    show cnN P n + (P n).toNat ≤ n + 1
    cases P n <;> simp <;> omega
theorem s27 {H : FI} {d k : Nat} (h2 : nT ≤ 6) (hT : TabA P W H nT) (hk : k < 6) : dn (d + 4) 27 [vR 8256 0, vI (c k)] (hp H L w) = some (some (vI (gkF (PnT P nT) W k)), hp H L w) := by
  have hN := cnN_6 (P := PnT P nT) 6
  have A : ∀ r j l, j + r = k + 1 → j ≤ cnN (PnT P nT) 6 → (∀ i, j = i + 1 → l = c (gr (PnT P nT) W (gs (PnT P nT) W i))) → rn none (dn (d + 3)) 27 8 [some (vR 8256 0), some (vI (c k)), some (vI (c (gs (PnT P nT) W j))), some (vI l), some (vI (c j))] [] (hp H L w) = some (some (vI (if j = k + 1 then l else gkF (PnT P nT) W k)), hp H L w) := by
    intro r
    induction r with
    | zero =>
      intro j l hj hjN hl
      rw [b27_8, if_pos (tq_gt (by omega) (by omega)), if_pos (by omega)]
    | succ r ih =>
      intro j l hj hjN hl
      obtain ⟨h1, h2', h3⟩ := gs_f (PnT P nT) W j hjN
      rw [b27_8, if_neg (tq_ng (by omega) (by omega)), s28 h2 hT h1 h2', bn_s, if_neg (show ¬ j = k + 1 by omega)]
      show rn none _ 27 19 _ [vI _] _ = _
      by_cases q : j < cnN (PnT P nT) 6
      · obtain ⟨g1, g2, g3, g4⟩ := gr_f (PnT P nT) W h1 h2' (by omega)
        rw [if_pos g1, b27_19, if_neg (show ¬ c (gr (PnT P nT) W (gs (PnT P nT) W j)) = -5 from fun z => by
          have := c_0 (a := gr (PnT P nT) W (gs (PnT P nT) W j)) (by omega)
          rw [z] at this
          exact absurd this (by decide)), mk_or _ h1 _ g1, c_s]
        have := ih (j + 1) (c (gr (PnT P nT) W (gs (PnT P nT) W j))) (by omega) (by omega) (fun i hi => by
          obtain rfl : j = i := by omega
          rfl)
        refine Eq.trans this ?_
        by_cases e : j + 1 = k + 1
        · rw [if_pos e]
          obtain rfl : j = k := by omega
          unfold gkF
          rw [if_pos q]
        · rw [if_neg e]
      · obtain rfl : j = cnN (PnT P nT) 6 := by omega
        rw [gr_n (gs_end (PnT P nT) W), if_neg (by omega), b27_19, if_pos rfl]
        unfold gkF
        rw [if_neg (by omega)]
  rw [e27, b27_0]
  have := A (k + 1) 0 (-5) (by omega) (by omega) (fun i hi => by omega)
  rw [if_neg (by omega)] at this
  exact this
/-- within reach behind k days -/
def Wd (I : FI) (w : Nat → Nat) (nW dy k t : Nat) : Bool := !outD I 0 t && decide (lowB I w 0 t k dy ≤ allA (arD I w 0) nW)
def Pd (I : FI) (t : Nat) : Bool := !outD I 0 t
theorem s221b {d : Nat} : dn (d + 1) 221 [vR 12369 0, vI x] (hp I L w) = some (none, hp (fil I 12369 0 0 6 x) L w) := by
  have A : ∀ r i, i + r = 6 → rn none (dn d) 221 5 [some (vR 12369 0), some (vI x), some (vI (c i)), some (vI 6)] [] (hp (fil I 12369 0 0 i x) L w) = some (none, hp (fil I 12369 0 0 6 x) L w) := by
    intro r
    induction r with
    | zero =>
      intro i hi
      obtain rfl : i = 6 := by omega
      rw [b221_5b, if_neg (by decide)]
    | succ r ih =>
      intro i hi
      rw [b221_5b, if_pos (show c i < 6 from tq_gt (b := 6) (by omega) (by omega)), ck_t (vin_c (by omega) (by omega)), ix_c (by omega), fil_s (by omega), c_s]
      exact ih (i + 1) (by omega)
  rw [e221b, b221_0b]
  have := A 6 0 rfl
  rw [fil_0] at this
  exact this
/-- weighing: the pockets and who is within reach when -/
theorem l23a (h : WV I w 0 nW nT dy) : ∀ r t H o, t + r = nT → scM I H → H 8256 0 0 = c (mkb (Pd I) t) → (∀ k, k < 6 → H 12369 0 k = c (mkb (Wd I w nW dy k) t)) → ∃ H' o', scM I H' ∧ H' 8256 0 0 = c (mkb (Pd I) nT) ∧ (∀ k, k < 6 → H' 12369 0 k = c (mkb (Wd I w nW dy k) nT)) ∧ rn none (dn 58) 23 20 [some (vR 8256 0), some (vR 10464 0), some (vI (allA (arD I w 0) nW)), some (vI (c t)), o] [] (hp H L w) = rn none (dn 58) 23 103 [some (vR 8256 0), some (vR 10464 0), some (vI (allA (arD I w 0) nW)), some (vI (c (mkb (Pd I) nT))), o'] [] (hp H' L w) := by
  have h2 := h.2.1
  intro r
  induction r with
  | zero =>
    intro t H o ht hs' hP hW'
    obtain rfl : t = nT := by omega
    refine ⟨H, o, hs', hP, hW', ?_⟩
    rw [b23_20, hs' 10464 0 6 (by unfold scb; omega), h.2.2.2.2.1, if_neg (tq_ng (Nat.le_refl _) (by omega)), hP]
  | succ r ih =>
    intro t H o ht hs' hP hW'
    have ho : H 12625 0 t = I 12625 0 t := hs' _ _ _ (by unfold scb; omega)
    have eP : mkb (Pd I) (t + 1) = if Pd I t = true then mkb (Pd I) t ||| 2 ^ t else mkb (Pd I) t := rfl
    have eW : ∀ k, mkb (Wd I w nW dy k) (t + 1) = if Wd I w nW dy k t = true then mkb (Wd I w nW dy k) t ||| 2 ^ t else mkb (Wd I w nW dy k) t := fun k => rfl
    have ml : ∀ f, mkb f t < 64 := fun f => (mkb_f (f := f) t (by omega)).1
    rw [b23_20, hs' 10464 0 6 (by unfold scb; omega), h.2.2.2.2.1, if_pos (tq_gt (by omega) (by omega)), s33 (by omega), bn_s, ho]
    show ∃ H' o', _ ∧ _ ∧ _ ∧ rn none _ 23 33 _ [vI _] _ = _
    rw [b23_33, ib]
    by_cases q : I 12625 0 t = -5
    · have oq : outD I 0 t = true := decide_eq_true q
      rw [if_pos q, c_s]
      refine ih (t + 1) H o (by omega) hs' ?_ (fun k hk => ?_)
      · rw [eP, if_neg (by unfold Pd; rw [oq]; decide)]; exact hP
      · rw [eW, if_neg (by unfold Wd; rw [oq]; simp)]; exact hW' k hk
    · have oq : outD I 0 t = false := decide_eq_false q
      rw [if_neg q, hP, mk_or _ (ml _) _ (by omega)]
      have inner : ∀ r k H, k + r = 6 → scM I H → H 8256 0 0 = c (mkb (Pd I) (t + 1)) → (∀ k', k' < 6 → H 12369 0 k' = c (mkb (Wd I w nW dy k') (if k' < k then t + 1 else t))) → ∃ H', scM I H' ∧ H' 8256 0 0 = c (mkb (Pd I) (t + 1)) ∧ (∀ k', k' < 6 → H' 12369 0 k' = c (mkb (Wd I w nW dy k') (t + 1))) ∧ rn none (dn 58) 23 51 [some (vR 8256 0), some (vR 10464 0), some (vI (allA (arD I w 0) nW)), some (vI (c t)), some (vI (c k))] [] (hp H L w) = rn none (dn 58) 23 51 [some (vR 8256 0), some (vR 10464 0), some (vI (allA (arD I w 0) nW)), some (vI (c t)), some (vI (c 6))] [] (hp H' L w) := by
        intro r
        induction r with
        | zero =>
          intro k H hk hs' hP hW'
          obtain rfl : k = 6 := by omega
          exact ⟨H, hs', hP, fun k' hk' => by rw [hW' k' hk', if_pos hk'], rfl⟩
        | succ r ih2 =>
          intro k H hk hs' hP hW'
          have hWV := sc_WV hs' h
          obtain ⟨g, hg⟩ := s45 (d := 53) (L := L) (r := k) hWV (show t < nT by omega) (by omega)
          have elow : lowB H w 0 t k dy = lowB I w 0 t k dy := by
            unfold lowB
            have e1 : H 12641 0 t = I 12641 0 t := hs' _ _ _ (by unfold scb; omega)
            have e2 : ∀ p, dayD H w 0 p t = dayD I w 0 p t := fun p => by
              funext l d
              unfold dayD skD fD
              have T : ∀ t', (t' = 204961 ∨ t' = 204977 ∨ t' = 204993 ∨ t' = 205009 ∨ t' = 6288) → H t' (w 0) = I t' (w 0) := fun t' ht' => sc_t hs' (fun j => by unfold scb; omega)
              have ep : ∀ f, pullD H (w 0) f = pullD I (w 0) f := fun f => by
                unfold pullD
                rw [T _ (by omega), T _ (by omega), T _ (by omega), T _ (by omega), T 6288 (by omega)]
              rw [ep, T 6288 (by omega), hs' 10481 0 p (by unfold scb; omega), hs' 10497 0 p (by unfold scb; omega), hs' 10513 0 p (by unfold scb; omega), hs' 41265 0 _ (by unfold scb; omega), hs' 12609 0 t (by unfold scb; omega)]
            rw [hs' 12625 0 t (by unfold scb; omega), e1, e2]
          have eWk : H 12369 0 k = c (mkb (Wd I w nW dy k) t) := by rw [hW' k (by omega), if_neg (Nat.lt_irrefl k)]
          have fin : ∀ v, v = c (mkb (Wd I w nW dy k) (t + 1)) → ∃ H', scM I H' ∧ H' 8256 0 0 = c (mkb (Pd I) (t + 1)) ∧ (∀ k', k' < 6 → H' 12369 0 k' = c (mkb (Wd I w nW dy k') (t + 1))) ∧ rn none (dn 58) 23 51 [some (vR 8256 0), some (vR 10464 0), some (vI (allA (arD I w 0) nW)), some (vI (c t)), some (vI (c (k + 1)))] [] (hp (uI (fct H 0 g) 12369 0 k v) L w) = rn none (dn 58) 23 51 [some (vR 8256 0), some (vR 10464 0), some (vI (allA (arD I w 0) nW)), some (vI (c t)), some (vI (c 6))] [] (hp H' L w) := by
            intro v hv
            refine ih2 (k + 1) _ (by omega) ?_ ?_ (fun k' hk' => ?_)
            · refine hs'.tr fun t' k' j' hn => ?_
              unfold scb at hn
              rw [uI_t (by omega), fct_p (by omega)]
            · rw [uI_t (by omega), fct_p (by omega)]; exact hP
            · by_cases e : k' = k
              · subst e; rw [uI_e, if_pos (by omega), hv]
              · rw [uI_j e, fct_p (by omega), hW' k' hk']
                by_cases e2 : k' < k
                · rw [if_pos e2, if_pos (by omega)]
                · rw [if_neg e2, if_neg (by omega)]
          rw [b23_51, if_pos (show c k < 6 from tq_gt (b := 6) (by omega) (by omega)), ck_t (vin_c (by omega) (by omega)), ix_c (by omega), show dn 58 45 = dn (53 + 5) 45 from rfl, hg, bn_s, elow, eWk]
          show ∃ H', _ ∧ _ ∧ _ ∧ rn none _ 23 73 _ [vI _, vI _, vI _, vR _ _] _ = _
          rw [b23_73, ck_t (vin_c (by omega) (by omega)), ix_c (by omega), mk_o0 _ (ml _), mk_or _ (ml _) _ (by omega), c_s]
          by_cases a : allA (arD I w 0) nW < lowB I w 0 t k dy
          · rw [if_pos a]
            refine fin _ ?_
            rw [eW, if_neg (by unfold Wd; simp only [Bool.and_eq_true, decide_eq_true_eq]; grind)]
          · rw [if_neg a, ck_t (vin_c (by omega) (by omega))]
            refine fin _ ?_
            rw [eW, if_pos (by unfold Wd; rw [oq]; simp only [Bool.and_eq_true, decide_eq_true_eq]; grind)]
      have hs2 : scM I (uI H 8256 0 0 (c (mkb (Pd I) t ||| 2 ^ t))) := by
        refine hs'.tr fun t' k' j' hn => ?_
        unfold scb at hn
        rw [uI_t (by omega)]
      obtain ⟨H1, i1, i2, i3, i4⟩ := inner 6 0 (uI H 8256 0 0 (c (mkb (Pd I) t ||| 2 ^ t))) rfl hs2 (by rw [uI_e, eP, if_pos (by unfold Pd; rw [oq]; rfl)]) (fun k hk => by rw [uI_t (by omega), if_neg (Nat.not_lt_zero _)]; exact hW' k hk)
      obtain ⟨H', o', j1, j2, j3, j4⟩ := ih (t + 1) H1 (some (vI (c 6))) (by omega) i1 i2 i3
      refine ⟨H', o', j1, j2, j3, ?_⟩
      refine Eq.trans i4 ?_
      rw [b23_51, if_neg (by decide), c_s]
      exact j4
/-- weighing: the table -/
theorem l23b (h2 : nT ≤ 6) (hm : mkb P nT < 64) : ∀ r H o, r ≤ mkb P nT + 1 → scM I H → (∀ s, s + 1 = r → Tab P W H nT s) → (r = 0 → TabA P W H nT) → ∃ H', scM I H' ∧ TabA P W H' nT ∧ rn none (dn 58) 23 103 [some (vR 8256 0), some (vR 10464 0), some (vI x), some (vI (c r + (-1))), o] [] (hp H L w) = some (none, hp H' L w) := by
  intro r
  induction r with
  | zero =>
    intro H o _ hs' _ hT
    refine ⟨H, hs', hT rfl, ?_⟩
    rw [b23_103, if_pos (by decide)]
  | succ s ih =>
    intro H o hr hs' hT _
    have hT := hT s rfl
    have hs64 : s < 64 := by omega
    obtain ⟨c1, c2⟩ := c_m1 (n := s) (by omega)
    have hsub : (c s &&& (c (mkb P nT) ^^^ (-1)) = 0) ↔ sbP (PnT P nT) s := by
      rw [sub_t hs64 hm]
      constructor
      · intro h t ht hb
        have := h t ht hb
        rw [(mkb_f nT h2).2 t ht] at this
        exact this
      · intro h t ht hb
        rw [(mkb_f nT h2).2 t ht]
        exact h t ht hb
    have next : ∀ H', (H' 8256 0 0 = c (mkb P nT) ∧ (∀ k, k < 6 → H' 12369 0 k = c (mkb (W k) nT)) ∧ ∀ u, s ≤ u → u < 64 → sbP (PnT P nT) u → H' 131169 0 u = c (TS (PnT P nT) W u)) → (∀ q, q + 1 = s → Tab P W H' nT q) ∧ (s = 0 → TabA P W H' nT) := by
      intro H' ⟨a1, a2, a3⟩
      exact ⟨fun q hq => ⟨a1, a2, fun u h1 h2 h3 => a3 u (by omega) h2 h3⟩, fun hs0 => ⟨a1, a2, fun u h1 h2 => a3 u (by omega) h1 h2⟩⟩
    rw [b23_103, c1, if_neg c2, hT.1]
    by_cases q : sbP (PnT P nT) s
    · rw [if_pos (hsub.mpr q), show dn 58 24 = dn (55 + 3) 24 from rfl, s24 h2 hT hs64 q, bn_s]
      show ∃ H', _ ∧ _ ∧ rn none _ 23 128 _ [vI _, vI _, vR _ _] _ = _
      rw [b23_128, ck_t (vin_c hs64 (by omega)), ix_c (by omega)]
      obtain ⟨n1, n2⟩ := next (uI H 131169 0 s (c (TS (PnT P nT) W s))) ⟨by rw [uI_t (by omega)]; exact hT.1, fun k hk => by rw [uI_t (by omega)]; exact hT.2.1 k hk, fun u h1 h2 h3 => by
        by_cases e : u = s
        · subst e; exact uI_e
        · rw [uI_j e]; exact hT.2.2 u (by omega) h2 h3⟩
      exact ih _ o (by omega) (hs'.tr fun t' k' j' hn => by
        unfold scb at hn
        rw [uI_t (by omega)]) n1 n2
    · rw [if_neg (fun z => q (hsub.mp z))]
      obtain ⟨n1, n2⟩ := next H ⟨hT.1, hT.2.1, fun u h1 h2 h3 => by
        by_cases e : u = s
        · subst e; exact absurd h3 q
        · exact hT.2.2 u (by omega) h2 h3⟩
      exact ih _ o (by omega) hs' n1 n2
theorem s23 (h : WV I w 0 nW nT dy) : ∃ H', scM I H' ∧ TabA (Pd I) (Wd I w nW dy) H' nT ∧ dn 59 23 [vR 8256 0, vR 10464 0] (hp I L w) = some (none, hp H' L w) := by
  have h2 := h.2.1
  have hm := mkb_f (f := Pd I) nT h2
  obtain ⟨H1, o1, a1, a2, a3, a4⟩ := l23a (L := L) h nT 0 (fil (uI I 8256 0 0 0) 12369 0 0 6 0) none (by omega) (fun t' k' j' hn => by
    unfold scb at hn
    rw [fil_p (by omega), uI_t (by omega)]) (by rw [fil_p (by omega), uI_e]; rfl) (fun k hk => by
    unfold fil
    rw [if_pos ⟨rfl, rfl, by omega, hk⟩]
    rfl)
  obtain ⟨H2, b1, b2, b3⟩ := l23b (I := I) (L := L) (w := w) (x := allA (arD I w 0) nW) h2 hm.1 (mkb (Pd I) nT + 1) H1 o1 (Nat.le_refl _) a1 (fun s hs' => ⟨a2, a3, fun u h1 h2' h3 => by
    obtain rfl : s = mkb (Pd I) nT := by omega
    have := sub_le h2' hm.1 (fun t ht hb => by rw [hm.2 t ht]; exact h3 t ht hb)
    omega⟩) (fun hz => by omega)
  refine ⟨H2, b1, b2, ?_⟩
  have c1 := (c_m1 (n := mkb (Pd I) nT) (by have := hm.1; omega)).1
  rw [c1] at b3
  rw [e23, b23_0, s40 h.1 (by rw [uI_t (by omega)]; exact h.2.2.2.1), bn_s]
  show rn none _ 23 9 _ [vI _] _ = _
  rw [b23_9, s221b, bn_s]
  show rn none _ 23 18 _ [] _ = _
  rw [b23_18]
  have e : allA (arD (uI I 8256 0 0 0) w 0) nW = allA (arD I w 0) nW := allA_congr nW fun i hi => by
    unfold arD
    rw [uI_t (by omega), uI_t (by omega), uI_t (by omega), uI_t (by omega)]
  rw [e]
  exact a4.trans b3
end P85
