set_option maxHeartbeats 400000
section P72
variable {I : FI} {L : FL} {w : Nat → Nat} {nW nT dy : Nat} {x y z : Int32}
def pcF (s : Nat) : Int32 := cnt (hs (c s)) 5
set_option maxRecDepth 10000 in
theorem s225 {d s : Nat} (h : s < 32) : dn (d + 1) 225 [vI (c s)] (hp I L w) = some (some (vI (pcF s)), hp I L w) := by
  rw [e225, b225_0]
  congr 3
  revert s
  decide +kernel
theorem s109 {d : Nat} {s : Nat} : dn (d + 2) 109 [vR 14944 0, vI (c s)] (hp I L w) = some (some (vI (pcF s)), hp I L w) := by
  have A : ∀ r i, i + r = 5 → rn none (dn (d + 1)) 109 4 [some (vR 14944 0), some (vI (c s)), some (vI (cnt (hs (c s)) i)), some (vI (c i))] [] (hp I L w) = some (some (vI (pcF s)), hp I L w) := by
    intro r
    induction r with
    | zero =>
      intro i hi
      obtain rfl : i = 5 := by omega
      rw [b109_4, if_neg (by decide)]
      rfl
    | succ r ih =>
      intro i hi
      have e : cnt (hs (c s)) (i + 1) = cnt (hs (c s)) i + (if hs (c s) i = true then 1 else 0) := rfl
      have g := ih (i + 1) (by omega)
      rw [e] at g
      rw [b109_4, if_pos (show c i < 5 from tq_gt (b := 5) (by omega) (by omega)), s107, bn_s]
      show rn none _ 109 16 _ [vI _, vI _] _ = _
      rw [b109_16, ib, c_s]
      by_cases q : hs (c s) i = true
      · rw [if_pos q] at g ⊢; exact g
      · rw [if_neg q] at g ⊢; exact g
  rw [e109, b109_0]
  exact A 5 0 rfl
def chnF (A : Nat → Int32) (lw : Int32) : Nat → Nat → Int32 → Int32 → Int32
  | 0, _, f, _ => f
  | r + 1, s, f, h => if pcF s < h ∧ lw ≤ A s then chnF A lw r (s + 1) (c s) (pcF s) else chnF A lw r (s + 1) f h
/-- the arms of a set -/
def amF (I : FI) (w : Nat → Nat) (nW s : Nat) : Int32 := sumA (arD I w 0) (hs (c s)) nW
theorem l71 {t N : Nat} (h : WV I w 0 nW nT dy) (ht : t < nT) (hN : N ≤ 32) (hk : (1 : Int32) <<< (c nW &&& 31) = c N) : ∀ r s f hh o5, s + r = N → rn none (dn 59) 71 36 [some (vR 12288 0), some (vI (c t)), some (vI f), some (vI hh), some (vI (c s)), o5] [] (hp I L w) = some (some (vI (chnF (amF I w nW) (I 12641 0 t) r s f hh)), hp I L w) := by
  obtain ⟨h1, h2, h3, h4, h5, h6, h7, n, hn, h8⟩ := h
  intro r
  induction r with
  | zero =>
    intro s f hh o5 hs
    obtain rfl : s = N := by omega
    rw [b71_36, h4, hk, if_neg (tq_ng (Nat.le_refl _) (by omega))]
    rfl
  | succ r ih =>
    intro s f hh o5 hs'
    have e : chnF (amF I w nW) (I 12641 0 t) (r + 1) s f hh = if pcF s < hh ∧ I 12641 0 t ≤ amF I w nW s then chnF (amF I w nW) (I 12641 0 t) r (s + 1) (c s) (pcF s) else chnF (amF I w nW) (I 12641 0 t) r (s + 1) f hh := rfl
    rw [e, b71_36, h4, hk, if_pos (tq_gt (by omega) (by omega)), s225 (by omega), bn_s]
    show rn none _ 71 55 _ [vI _] _ = _
    rw [b71_55, s39 h1 h4, bn_s, c_s]
    show (if _ then rn none _ 71 72 _ [vI (amF I w nW s)] _ else _) = _
    rw [b71_72, ck_t (vin_c (by omega) (by omega)), ix_c (by omega), c_s]
    by_cases a : pcF s < hh
    · rw [if_pos a]
      by_cases b : amF I w nW s < I 12641 0 t
      · rw [if_pos b, if_neg (fun z => absurd z.2 (by grind))]
        exact ih (s + 1) _ _ _ (by omega)
      · rw [if_neg b, if_pos ⟨a, by grind⟩]
        exact ih (s + 1) _ _ _ (by omega)
    · rw [if_neg a, if_neg (fun z => a z.1)]
      exact ih (s + 1) _ _ _ (by omega)
theorem sumA_c {f : Nat → Int32} {b b' : Nat → Bool} {i : Nat} (h0 : f i = 0) : ∀ n, (∀ j, j < n → j ≠ i → b' j = b j) → sumA f b' n = sumA f b n := by
  intro n
  induction n with
  | zero => intro _; rfl
  | succ n ih =>
    intro h
    show sumA f b' n + (if b' n = true then f n else 0) = sumA f b n + (if b n = true then f n else 0)
    rw [ih (fun j hj hi => h j (by omega) hi)]
    by_cases q : n = i
    · subst q; rw [h0, ite_self, ite_self]
    · rw [h n (by omega) q]
set_option maxRecDepth 100000 in
theorem pc_a : ∀ s, s < 32 → ∀ i, i < 5 → hs (c s) i = true → 2 ^ i ≤ s := by decide +kernel
set_option maxRecDepth 100000 in
theorem pc_b : ∀ s, s < 32 → ∀ i, i < 5 → hs (c s) i = true → pcF (s - 2 ^ i) < pcF s := by decide +kernel
set_option maxRecDepth 100000 in
theorem pc_d0 : ∀ s, s < 32 → ∀ i, i < 5 → ∀ j, j < 5 → (!hs (c s) i || decide (j = i) || (hs (c (s - 2 ^ i)) j == hs (c s) j)) = true := by decide +kernel
theorem pc_d (s : Nat) (h : s < 32) (i : Nat) (hi : i < 5) (j : Nat) (hj : j < 5) (hh : hs (c s) i = true) (hji : j ≠ i) : hs (c (s - 2 ^ i)) j = hs (c s) j := by
  have := pc_d0 s h i hi j hj
  rw [hh, decide_eq_false hji] at this
  simpa using this
theorem pc_cl (s : Nat) (h : s < 32) (i : Nat) (hi : i < 5) (hh : hs (c s) i = true) : 2 ^ i ≤ s ∧ pcF (s - 2 ^ i) < pcF s ∧ ∀ j, j < 5 → j ≠ i → hs (c (s - 2 ^ i)) j = hs (c s) j := ⟨pc_a s h i hi hh, pc_b s h i hi hh, fun j hj hji => pc_d s h i hi j hj hh hji⟩
theorem pc_6 : ∀ s, s < 32 → pcF s < 6 := by decide +kernel
set_option maxRecDepth 100000 in
theorem s_31 : ∀ s, s < 32 → ∀ i, i < 31 → 5 ≤ i → hs (c s) i = false := by decide +kernel
theorem s_m : ∀ s, s < 32 → (c s).toBitVec.getLsbD 31 = false := by decide +kernel
set_option maxRecDepth 100000 in
theorem s_nw : ∀ nW, nW ≤ 5 → ∀ s, s < 2 ^ nW → ∀ i, i < 5 → hs (c s) i = true → i < nW := by decide +kernel
theorem and_nz {s : Nat} {g : Int32} (hs' : s < 32) (h : c s &&& g ≠ 0) : ∃ i, i < 5 ∧ hs (c s) i = true ∧ hs g i = true := by
  apply Classical.byContradiction
  intro hn
  apply h
  rw [← Int32.toBitVec_inj]
  apply BitVec.eq_of_getLsbD_eq
  intro i hi
  rw [Int32.toBitVec_and, BitVec.getLsbD_and]
  have e0 : (0 : Int32).toBitVec.getLsbD i = false := by rw [show (0 : Int32).toBitVec = 0#32 from rfl, BitVec.getLsbD_zero]
  rw [e0]
  by_cases h31 : i < 31
  · rw [← hs_b h31, ← hs_b h31]
    by_cases h5 : i < 5
    · cases h1 : hs (c s) i with
      | false => rfl
      | true =>
        cases h2 : hs g i with
        | false => rfl
        | true => exact absurd ⟨i, h5, h1, h2⟩ hn
    · rw [s_31 s hs' i h31 (by omega)]; rfl
  · obtain rfl : i = 31 := by omega
    rw [s_m s hs']; rfl
theorem and_z {s i : Nat} {g : Int32} (hi : i < 5) (h1 : hs (c s) i = true) (h2 : hs g i = true) : c s &&& g ≠ 0 := by
  intro z
  have : hs (c s &&& g) i = false := by rw [z]; exact (show ∀ i, i < 5 → hs 0 i = false from by decide) i hi
  rw [hs_and (by omega), h1, h2] at this
  cases this
theorem l164 {t N : Nat} (h : MV I w nW nT dy) (ht : t < nT) (hN : N = 2 ^ nW) (hk : (1 : Int32) <<< (c nW &&& 31) = c N) : ∀ r s f hh, s + r = N → ((f < 0 ∧ hh = 6) ∨ ∃ q, q < 32 ∧ f = c q ∧ hh = pcF q) → (∀ u, u < s → I 13009 0 t ≤ amF (mv I) w nW u → hh ≤ pcF u) → rn none (dn 59) 164 26 [some (vR 14944 0), some (vI (c t)), some (vI f), some (vI (c s))] [] (hp I L w) = some (some (vI (chnF (amF (mv I) w nW) (I 13009 0 t) r s f hh)), hp I L w) := by
  obtain ⟨h1, h2, h3, h4, h5, h6, h7, hT, hF⟩ := h
  have hN32 : N ≤ 32 := by rw [hN]; exact Nat.pow_le_pow_right (by omega) h1
  intro r
  induction r with
  | zero =>
    intro s f hh hs' hf hu
    obtain rfl : s = N := by omega
    rw [b164_26, h4, hk, if_neg (tq_ng (Nat.le_refl _) (by omega))]
    rfl
  | succ r ih =>
    intro s f hh hs' hf hu
    have e : chnF (amF (mv I) w nW) (I 13009 0 t) (r + 1) s f hh = if pcF s < hh ∧ I 13009 0 t ≤ amF (mv I) w nW s then chnF (amF (mv I) w nW) (I 13009 0 t) r (s + 1) (c s) (pcF s) else chnF (amF (mv I) w nW) (I 13009 0 t) r (s + 1) f hh := rfl
    have skip : ¬ (pcF s < hh ∧ I 13009 0 t ≤ amF (mv I) w nW s) → rn none (dn 59) 164 26 [some (vR 14944 0), some (vI (c t)), some (vI f), some (vI (c s + 1))] [] (hp I L w) = some (some (vI (chnF (amF (mv I) w nW) (I 13009 0 t) (r + 1) s f hh)), hp I L w) := by
      intro hno
      rw [e, if_neg hno, c_s]
      refine ih (s + 1) f hh (by omega) hf fun u hus hl => ?_
      by_cases q : u = s
      · subst q
        by_cases q2 : pcF u < hh
        · exact absurd ⟨q2, hl⟩ hno
        · grind
      · exact hu u (by omega) hl
    have take : (pcF s < hh ∧ I 13009 0 t ≤ amF (mv I) w nW s) → rn none (dn 59) 164 26 [some (vR 14944 0), some (vI (c t)), some (vI (c s)), some (vI (c s + 1))] [] (hp I L w) = some (some (vI (chnF (amF (mv I) w nW) (I 13009 0 t) (r + 1) s f hh)), hp I L w) := by
      intro hyes
      rw [e, if_pos hyes, c_s]
      refine ih (s + 1) (c s) (pcF s) (by omega) (Or.inr ⟨s, by omega, rfl, rfl⟩) fun u hus hl => ?_
      by_cases q : u = s
      · subst q; exact Int32.le_refl _
      · have := hu u (by omega) hl
        have := hyes.1
        grind
    rw [b164_26, h4, hk, if_pos (tq_gt (by omega) (by omega))]
    by_cases a : c s &&& I 14944 0 1 = 0
    · rw [if_pos a, s150 hT h1 h4, bn_s]
      show rn none _ 164 50 _ [vI (amF (mv I) w nW s)] _ = _
      rw [b164_50, ck_t (vin_c (by omega) (by omega)), ix_c (by omega)]
      by_cases b : amF (mv I) w nW s < I 13009 0 t
      · rw [if_pos b]
        exact skip (fun z => absurd z.2 (by grind))
      · have b' : I 13009 0 t ≤ amF (mv I) w nW s := by grind
        rw [if_neg b, s109, bn_s]
        show (if _ then _ else rn none _ 164 68 _ [vI _] _) = _
        rcases hf with ⟨f0, rfl⟩ | ⟨q, hq, rfl, rfl⟩
        · rw [if_pos f0]
          exact take ⟨pc_6 s (by omega), b'⟩
        · rw [if_neg (by rw [c_n0 (by omega)]; exact id), b164_68, s109, bn_s]
          show rn none _ 164 73 _ [vI _, vI _] _ = _
          rw [b164_73]
          by_cases q2 : pcF s < pcF q
          · rw [if_pos q2]; exact take ⟨q2, b'⟩
          · rw [if_neg q2]; exact skip (fun z => q2 z.1)
    · rw [if_neg a]
      refine skip fun z => ?_
      obtain ⟨i, hi5, hi1, hi2⟩ := and_nz (by omega) a
      obtain ⟨p1, p2, p3⟩ := pc_cl s (by omega) i hi5 hi1
      have hpos : 0 < 2 ^ i := Nat.pow_pos (by omega)
      have ez : arD (mv I) w 0 i = 0 := by
        unfold arD ar
        rw [mv_gone, if_pos hi2, if_neg (by decide)]
      have ea : amF (mv I) w nW (s - 2 ^ i) = amF (mv I) w nW s := sumA_c ez nW (fun j hj hji => p3 j (by omega) hji)
      have := hu (s - 2 ^ i) (by omega) (by rw [ea]; exact z.2)
      have := z.1
      grind
theorem chnF_c {A A' : Nat → Int32} {lw : Int32} (h : ∀ s, A s = A' s) : ∀ r s f hh, chnF A lw r s f hh = chnF A' lw r s f hh := by
  have : A = A' := funext h
  subst this
  intros; rfl
theorem p2_k : ∀ n, n ≤ 5 → (1 : Int32) <<< (c n &&& 31) = c (2 ^ n) := by decide
theorem ask71 (h : RA I w nW nT dy) : Ask I L w 71 164 [vI x] := by
  obtain ⟨hW, hM, hws, hd, hB, hTA⟩ := id h
  obtain ⟨h1, h2, h3, h4, h5, h6, h7, n, hn, h8⟩ := id hW
  obtain ⟨m1, m2, m3, m4, m5, m6, m7, mT, mF⟩ := id hM
  have e111 : ∀ d, dn (d + 2) 111 [vR 14944 0, vI x] (hp I L w) = some (some (vI (bi (0 ≤ x ∧ x < c nT))), hp I L w) := fun d => s111 (by omega) m5
  by_cases a : 0 ≤ x ∧ x < c nT
  · obtain ⟨t, ht, ht6, rfl⟩ := of_6 h2 a
    have epk : I 12993 0 t = I 12625 0 t := hws.2.2.2.2.2.2.1 t ht6
    have elw : I 13009 0 t = I 12641 0 t := hws.2.2.2.2.2.2.2.1 t ht6
    by_cases o : I 12625 0 t = -5
    · refine ask_of (I1 := I) (I2 := I) (v := vI (-5)) (v' := vI (-5)) scM.rf ?_ scM.rf ?_ rfl
      · rw [e71]; simp only [b71_0, s32, bn_s, psh, h5, b71_8, ib, if_pos a, s33 ht6, b71_21, if_pos o]
      · rw [e164]; simp only [b164_0, e111, bn_s, psh, b164_5, ib, if_pos a, s121 ht6, b164_15, epk, if_pos o]
    · have hN32 : 2 ^ nW ≤ 32 := (show ∀ n, n ≤ 5 → 2 ^ n ≤ 32 from by decide) nW h1
      have hg := l71 (L := L) hW ht hN32 (p2_k nW h1) (2 ^ nW) 0 (-5) 6 none (by omega)
      have hm := l164 (L := L) hM ht rfl (p2_k nW h1) (2 ^ nW) 0 (-5) 6 (by omega) (Or.inl ⟨by decide, rfl⟩) (fun u hu => absurd hu (Nat.not_lt_zero u))
      refine ask_of (I1 := I) (I2 := I) (v := vI (chnF (amF I w nW) (I 12641 0 t) (2 ^ nW) 0 (-5) 6)) (v' := vI (chnF (amF (mv I) w nW) (I 13009 0 t) (2 ^ nW) 0 (-5) 6)) scM.rf ?_ scM.rf ?_ ?_
      · rw [e71]; simp only [b71_0, s32, bn_s, psh, h5, b71_8, ib, if_pos a, s33 ht6, b71_21, if_neg o]
        exact hg
      · rw [e164]; simp only [b164_0, e111, bn_s, psh, b164_5, ib, if_pos a, s121 ht6, b164_15, epk, if_neg o]
        exact hm
      · rw [elw, chnF_c (A := amF I w nW) (A' := amF (mv I) w nW)]
        intro s
        exact (ws_sum hws nW h1).symm
  · refine ask_of (I1 := I) (I2 := I) (v := vI (-1)) (v' := vI (-1)) scM.rf ?_ scM.rf ?_ rfl
    · rw [e71]; simp only [b71_0, s32, bn_s, psh, h5, b71_8, ib, if_neg a]
    · rw [e164]; simp only [b164_0, e111, bn_s, psh, b164_5, ib, if_neg a]
end P72
