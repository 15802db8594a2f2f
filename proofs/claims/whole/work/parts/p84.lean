set_option maxHeartbeats 400000
section P84
variable {I : FI} {L : FL} {w : Nat → Nat} {nW nT dy m : Nat} {x y z : Int32}
def mkb (f : Nat → Bool) : Nat → Nat
  | 0 => 0
  | n + 1 => if f n = true then mkb f n ||| 2 ^ n else mkb f n
theorem mkb_f {f : Nat → Bool} : ∀ n, n ≤ 6 → mkb f n < 64 ∧ ∀ u, u < 6 → bt (mkb f n) u = (decide (u < n) && f u) := by
  intro n
  induction n with
  | zero =>
    intro _
    refine ⟨by show 0 < 64; omega, fun u hu => ?_⟩
    rw [show mkb f 0 = 0 from rfl, bt_0 u hu]
    simp
  | succ n ih =>
    intro hn
    obtain ⟨h1, h2⟩ := ih (by omega)
    show (if f n = true then mkb f n ||| 2 ^ n else mkb f n) < 64 ∧ ∀ u, u < 6 → bt (if f n = true then mkb f n ||| 2 ^ n else mkb f n) u = (decide (u < n + 1) && f u)
    by_cases q : f n = true
    · rw [if_pos q]
      refine ⟨or_lt _ h1 _ (by omega), fun u hu => ?_⟩
      rw [bt_or _ h1 _ (by omega) _ hu, h2 u hu]
      by_cases e : u = n
      · subst e; rw [q]; simp
      · rw [decide_eq_false e, Bool.or_false]
        congr 1
        apply decide_eq_decide.mpr
        omega
    · rw [if_neg q]
      refine ⟨h1, fun u hu => ?_⟩
      rw [h2 u hu]
      by_cases e : u = n
      · subst e
        cases hq : f u with
        | true => exact absurd hq q
        | false => simp
      · congr 1
        apply decide_eq_decide.mpr
        omega
theorem mk_or : ∀ s, s < 64 → ∀ t, t < 6 → c s ||| (1 <<< (c t &&& 31)) = c (s ||| 2 ^ t) := by decide +kernel
theorem mk_o0 : ∀ s, s < 64 → c s ||| 0 = c s := by decide +kernel
theorem bt_s : ∀ s, s < 64 → ∀ t, t < 6 → ((c s >>> (c t &&& 31)) &&& 1) = c (bt s t).toNat := by decide +kernel
theorem bt_n : ∀ s, s < 64 → ∀ t, t < 6 → hs (c s ^^^ (-1)) t = !bt s t := by decide +kernel
theorem bt_v : ∀ s, s < 64 → s = (bt s 0).toNat + 2 * (bt s 1).toNat + 4 * (bt s 2).toNat + 8 * (bt s 3).toNat + 16 * (bt s 4).toNat + 32 * (bt s 5).toNat := by decide +kernel
theorem sub_le {u m : Nat} (hu : u < 64) (hm : m < 64) (h : ∀ t, t < 6 → bt u t = true → bt m t = true) : u ≤ m := by
  have a := bt_v u hu
  have b := bt_v m hm
  have K : ∀ t, t < 6 → (bt u t).toNat ≤ (bt m t).toNat := fun t ht => by
    cases q : bt u t with
    | false => exact Nat.zero_le _
    | true => rw [h t ht q]; exact Nat.le_refl _
  have := K 0 (by omega)
  have := K 1 (by omega)
  have := K 2 (by omega)
  have := K 3 (by omega)
  have := K 4 (by omega)
  have := K 5 (by omega)
  omega
theorem s_31b : ∀ s, s < 64 → ∀ i, i < 31 → 6 ≤ i → hs (c s) i = false := by decide +kernel
theorem s_mb : ∀ s, s < 64 → (c s).toBitVec.getLsbD 31 = false := by decide +kernel
/-- the test for a subset -/
theorem sub_t {s m : Nat} (hs' : s < 64) (hm : m < 64) : (c s &&& (c m ^^^ (-1)) = 0) ↔ ∀ t, t < 6 → bt s t = true → bt m t = true := by
  constructor
  · intro h t ht hb
    have : hs (c s &&& (c m ^^^ (-1))) t = false := by rw [h]; exact (show ∀ i, i < 6 → hs 0 i = false from by decide) t ht
    rw [hs_and (by omega), bt_n m hm t ht, show hs (c s) t = bt s t from rfl, hb] at this
    simpa using this
  · intro h
    rw [← Int32.toBitVec_inj]
    apply BitVec.eq_of_getLsbD_eq
    intro i hi
    rw [Int32.toBitVec_and, BitVec.getLsbD_and]
    have e0 : (0 : Int32).toBitVec.getLsbD i = false := by rw [show (0 : Int32).toBitVec = 0#32 from rfl, BitVec.getLsbD_zero]
    rw [e0]
    by_cases h31 : i < 31
    · rw [← hs_b h31, ← hs_b h31]
      by_cases h5 : i < 6
      · rw [bt_n m hm i h5, show hs (c s) i = bt s i from rfl]
        cases h1 : bt s i with
        | false => rfl
        | true => rw [h i h5 h1]; rfl
      · rw [s_31b s hs' i h31 (by omega)]; rfl
    · obtain rfl : i = 31 := by omega
      rw [s_mb s hs']; rfl
set_option maxRecDepth 10000 in
theorem s225n {d s : Nat} (h : s < 64) : dn (d + 1) 225 [vI (c s)] (hp I L w) = some (some (vI (c (pcn s))), hp I L w) := by
  rw [e225, b225_0]
  congr 3
  revert s
  decide +kernel
section
variable (P : Nat → Bool) (W : Nat → Nat → Bool)
/-- the table stands for all sets above s -/
def Tab (H : FI) (nT s : Nat) : Prop := H 8256 0 0 = c (mkb P nT) ∧ (∀ k, k < 6 → H 12369 0 k = c (mkb (W k) nT)) ∧ ∀ u, s < u → u < 64 → sbP (fun t => decide (t < nT) && P t) u → H 131169 0 u = c (TS (fun t => decide (t < nT) && P t) W u)
variable {P W}
theorem s25 {H : FI} {d s t : Nat} (h2 : nT ≤ 6) (hH : H 8256 0 0 = c (mkb P nT)) (hs' : s < 64) (ht : t < 6) : dn (d + 1) 25 [vR 8256 0, vI (c s), vI (c t)] (hp H L w) = some (some (vI (if lf (fun t => decide (t < nT) && P t) s t = true then 1 else 0)), hp H L w) := by
  have e : (((c (mkb P nT) &&& (c s ^^^ (-1))) >>> (c t &&& 31)) &&& 1 = 1) ↔ lf (fun t => decide (t < nT) && P t) s t = true := by
    have : hs (c (mkb P nT) &&& (c s ^^^ (-1))) t = lf (fun t => decide (t < nT) && P t) s t := by
      rw [hs_and (by omega), bt_n s hs' t ht, show hs (c (mkb P nT)) t = bt (mkb P nT) t from rfl, (mkb_f nT h2).2 t ht]
      rfl
    rw [← this]
    unfold hs
    simp only [decide_eq_true_eq]
  rw [e25, b25_0, hH]
  by_cases q : lf (fun t => decide (t < nT) && P t) s t = true
  · rw [if_pos (e.mpr q), if_pos q]
  · rw [if_neg (fun z => q (e.mp z)), if_neg q]
theorem s26 {H : FI} {d s t : Nat} (h2 : nT ≤ 6) (hT : Tab P W H nT s) (hs' : s < 64) (ht : t < 6) (hsb : sbP (fun t => decide (t < nT) && P t) s) (hl : lf (fun t => decide (t < nT) && P t) s t = true) : dn (d + 2) 26 [vR 8256 0, vI (c s), vI (c t)] (hp H L w) = some (some (vI (c (TS (fun t => decide (t < nT) && P t) W (s ||| 2 ^ t) + (W (pcn s) t).toNat))), hp H L w) := by
  obtain ⟨l1, l2⟩ := lf_f _ hl
  obtain ⟨t1, t2, t3⟩ := hT
  have hp1 := pcn_or hs' ht l2
  have hp2 := pcn_6 (s ||| 2 ^ t) (or_lt s hs' t ht)
  have htn : t < nT := by
    simp only [Bool.and_eq_true, decide_eq_true_eq] at l1
    exact l1.1
  have e3 := t3 (s ||| 2 ^ t) (or_gt hs' ht l2) (or_lt s hs' t ht) (fun u hu hb => by
    rw [bt_or s hs' t ht u hu, Bool.or_eq_true] at hb
    rcases hb with hb | hb
    · exact hsb u hu hb
    · rw [of_decide_eq_true hb]; exact l1)
  have e4 : bt (mkb (W (pcn s)) nT) t = W (pcn s) t := by rw [(mkb_f nT h2).2 t ht, decide_eq_true htn, Bool.true_and]
  rw [e26, b26_0, s225n hs', bn_s]
  show rn none _ 26 4 _ [vI _] _ = _
  rw [b26_4, if_pos (show c (pcn s) < 6 from tq_gt (b := 6) (by omega) (by omega)), mk_or s hs' t ht, ck_t (vin_c (or_lt s hs' t ht) (by omega)), ck_t (vin_c (by omega) (by omega)), ix_c (by have := or_lt s hs' t ht; omega), ix_c (by omega), e3, t2 _ (by omega), bt_s _ (mkb_f nT h2).1 t ht, e4, cq rfl]
theorem s24 {H : FI} {d s : Nat} (h2 : nT ≤ 6) (hT : Tab P W H nT s) (hs' : s < 64) (hsb : sbP (fun t => decide (t < nT) && P t) s) : dn (d + 3) 24 [vR 8256 0, vI (c s)] (hp H L w) = some (some (vI (c (TS (fun t => decide (t < nT) && P t) W s))), hp H L w) := by
  have A : ∀ r t, t + r = 6 → rn none (dn (d + 2)) 24 4 [some (vR 8256 0), some (vI (c s)), some (vI (c (fld (lf (fun t => decide (t < nT) && P t) s) (fun t => TS (fun t => decide (t < nT) && P t) W (s ||| 2 ^ t) + (W (pcn s) t).toNat) t))), some (vI (c t))] [] (hp H L w) = some (some (vI (c (fld (lf (fun t => decide (t < nT) && P t) s) (fun t => TS (fun t => decide (t < nT) && P t) W (s ||| 2 ^ t) + (W (pcn s) t).toNat) 6))), hp H L w) := by
    intro r
    induction r with
    | zero =>
      intro t ht
      obtain rfl : t = 6 := by omega
      rw [b24_4, if_neg (by decide)]
    | succ r ih =>
      intro t ht
      have e : fld (lf (fun t => decide (t < nT) && P t) s) (fun t => TS (fun t => decide (t < nT) && P t) W (s ||| 2 ^ t) + (W (pcn s) t).toNat) (t + 1) = if lf (fun t => decide (t < nT) && P t) s t = true then max (fld (lf (fun t => decide (t < nT) && P t) s) (fun t => TS (fun t => decide (t < nT) && P t) W (s ||| 2 ^ t) + (W (pcn s) t).toNat) t) (TS (fun t => decide (t < nT) && P t) W (s ||| 2 ^ t) + (W (pcn s) t).toNat) else fld (lf (fun t => decide (t < nT) && P t) s) (fun t => TS (fun t => decide (t < nT) && P t) W (s ||| 2 ^ t) + (W (pcn s) t).toNat) t := rfl
      have g := ih (t + 1) (by omega)
      rw [e] at g
      have hb1 : ∀ t, (W (pcn s) t).toNat ≤ 1 := fun t => by cases W (pcn s) t <;> decide
      have hF : fld (lf (fun t => decide (t < nT) && P t) s) (fun t => TS (fun t => decide (t < nT) && P t) W (s ||| 2 ^ t) + (W (pcn s) t).toNat) t ≤ 7 := fld_le t fun u _ _ => by
        have := TS_le (fun t => decide (t < nT) && P t) W (s := s ||| 2 ^ u)
        have := hb1 u
        show TS _ W (s ||| 2 ^ u) + (W (pcn s) u).toNat ≤ 7
        omega
      have hG := TS_le (fun t => decide (t < nT) && P t) W (s := s ||| 2 ^ t)
      have hGB : TS (fun t => decide (t < nT) && P t) W (s ||| 2 ^ t) + (W (pcn s) t).toNat ≤ 7 := by
        have := hb1 t
        omega
      rw [b24_4, if_pos (show c t < 6 from tq_gt (b := 6) (by omega) (by omega)), s25 h2 hT.1 hs' (by omega), bn_s]
      show rn none _ 24 16 _ [vI _] _ = _
      rw [b24_16, if10, c_s]
      by_cases q : lf (fun t => decide (t < nT) && P t) s t = true
      · rw [if_pos q] at g ⊢
        rw [s26 h2 hT hs' (by omega) hsb q, bn_s]
        show rn none _ 24 26 _ [vI _, vI _] _ = _
        rw [b24_26, c_s]
        generalize fld (lf (fun t => decide (t < nT) && P t) s) (fun t => TS (fun t => decide (t < nT) && P t) W (s ||| 2 ^ t) + (W (pcn s) t).toNat) t = a at g hF ⊢
        generalize TS (fun t => decide (t < nT) && P t) W (s ||| 2 ^ t) + (W (pcn s) t).toNat = b at g hGB ⊢
        rw [← g]
        by_cases k : a < b
        · rw [if_pos (tq_gt k (by omega)), Nat.max_eq_right (by omega)]
        · rw [if_neg (tq_ng (by omega) (by omega)), Nat.max_eq_left (by omega)]
      · rw [if_neg q] at g ⊢
        exact g
  rw [e24, b24_0, TS_eq _ W hs']
  exact A 6 0 rfl
end
end P84
