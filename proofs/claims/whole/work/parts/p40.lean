/-- the reference's world, told as world 0 -/
def mv (I : FI) : FI := fun t k j => if k = 0 then (if t = 10481 then I 10865 0 j else if t = 10497 then I 10881 0 j else if t = 10513 then I 10897 0 j else if t = 10530 then (if hs (I 14944 0 1) j = true then 1 else 0) else if t = 41265 then I 41633 0 j else if t = 12609 then I 12977 0 j else if t = 12625 then I 12993 0 j else if t = 12641 then I 13009 0 j else if t = 10625 then I 11233 0 j else if t = 10641 then I 11249 0 j else if t = 10657 then I 11265 0 j else I t k j) else I t k j
theorem mv_kind {I : FI} {j : Nat} : mv I 10481 0 j = I 10865 0 j := rfl
theorem mv_v {I : FI} {j : Nat} : mv I 10497 0 j = I 10881 0 j := rfl
theorem mv_th {I : FI} {j : Nat} : mv I 10513 0 j = I 10897 0 j := rfl
theorem mv_gone {I : FI} {j : Nat} : mv I 10530 0 j = (if hs (I 14944 0 1) j = true then 1 else 0) := rfl
theorem mv_rows {I : FI} {j : Nat} : mv I 41265 0 j = I 41633 0 j := rfl
theorem mv_wt {I : FI} {j : Nat} : mv I 12609 0 j = I 12977 0 j := rfl
theorem mv_pk {I : FI} {j : Nat} : mv I 12625 0 j = I 12993 0 j := rfl
theorem mv_low {I : FI} {j : Nat} : mv I 12641 0 j = I 13009 0 j := rfl
theorem mv_T {I : FI} {k j : Nat} : mv I 6288 k j = I 6288 k j := by unfold mv; split <;> rfl
theorem mv_c {I : FI} {t k : Nat} (h : t = 204961 ∨ t = 204977 ∨ t = 204993 ∨ t = 205009) : mv I t k = I t k := by
  funext j
  unfold mv
  rcases h with rfl | rfl | rfl | rfl <;> split <;> rfl
theorem pullD_mv {I : FI} {T : Nat} {f : Nat → Int32} : pullD (mv I) T f = pullD I T f := by
  unfold pullD
  rw [mv_c (by omega), mv_c (by omega), mv_c (by omega), mv_c (by omega), mv_T]
/-- the reference's pile, overwritten -/
def pl (I : FI) (b : Nat → Int32) : FI := fun t k j => if t = 205682 ∧ k = 0 then b j else I t k j
theorem pl_p {I : FI} {b : Nat → Int32} {t k : Nat} (h : t ≠ 205682) : pl I b t k = I t k := by
  funext j; unfold pl; rw [if_neg (fun z => h z.1)]
theorem pl_pl {I : FI} {b b' : Nat → Int32} : pl (pl I b) b' = pl I b' := by
  funext t k j
  unfold pl
  split <;> rfl
theorem pl_i {I : FI} : pl I (I 205682 0) = I := by
  funext t k j
  unfold pl
  split
  · rename_i h; rw [h.1, h.2]
  · rfl
/-- the towns' cells are the same -/
def tsm (I I' : FI) : Prop := I' 14944 0 12 = I 14944 0 12 ∧ ∀ t, (t = 6288 ∨ t = 204961 ∨ t = 204977 ∨ t = 204993 ∨ t = 205009 ∨ t = 13041 ∨ t = 123649 ∨ t = 123665 ∨ t = 123681 ∨ t = 123697 ∨ t = 1229633) → ∀ k, I' t k = I t k
theorem tsm.rf {I : FI} : tsm I I := ⟨rfl, fun _ _ _ => rfl⟩
theorem tsm.tr {I I' I'' : FI} (h : tsm I I') (h' : tsm I' I'') : tsm I I'' := ⟨h'.1.trans h.1, fun t ht k => (h'.2 t ht k).trans (h.2 t ht k)⟩
/-- how the reference reads the town that holds: as the class does -/
def TI (I : FI) (w : Nat → Nat) : Prop := ∀ I', tsm I I' →
  (∀ d L, dn (d + 2) 143 [vR 14944 0, vI 2, vI 10] (hp I' L w) = some (some (vI (I' 6288 (w 0) 0)), hp I' L w)) ∧
  (∀ d L, dn (d + 2) 143 [vR 14944 0, vI 3, vI 0] (hp I' L w) = some (some (vI (I' 6288 (w 0) 1)), hp I' L w)) ∧
  (∀ d L, dn (d + 2) 143 [vR 14944 0, vI 4, vI 5] (hp I' L w) = some (some (vI (I' 6288 (w 0) 2)), hp I' L w)) ∧
  (∀ d L p t, p < 5 → t < 6 → ∃ b, dn (d + 4) 146 [vR 14944 0, vI (c p), vI (c t)] (hp I' L w) = some (some (vI (pullD I' (w 0) (fx (c p) (c t) (I' 10865 0 p) (I' 10881 0 p) (I' 12977 0 t) (I' 13009 0 t / 10) nil0))), hp (pl I' b) L w)) ∧
  (∃ n, n ≤ 100 ∧ I' 6288 (w 0) 3 = c n)
theorem TI.of {I I' : FI} {w : Nat → Nat} (h : TI I w) (h' : tsm I I') : TI I' w := fun I'' h'' => h I'' (h'.tr h'')
theorem tsm_pl {I : FI} {b : Nat → Int32} : tsm I (pl I b) := ⟨by rw [pl_p (by omega)], fun t ht k => pl_p (by omega)⟩
theorem tsm_uI {I : FI} {t k j : Nat} {x : Int32} (h : t = 13009 ∨ t = 10897 ∨ t = 10881 ∨ t = 12993 ∨ (t = 14944 ∧ j ≠ 12) ∨ t = 11137 ∨ t = 13201 ∨ t = 13217) : tsm I (uI I t k j x) := by
  refine ⟨?_, fun t' ht k' => uI_p (by omega)⟩
  unfold uI
  rw [if_neg (by omega)]
theorem s147 {d : Nat} {I : FI} {L : FL} {w : Nat → Nat} {i : Nat} (hi : i < 5) : dn (d + 1) 147 [vR 14944 0, vI (c i)] (hp I L w) = some (some (vI (fD (mv I) 0 i)), hp I L w) := by
  rw [e147, b147_0]
  simp only [vin_c hi (by omega : 5 < 2147483648), ck_tt, ix_c (show i < 2147483648 by omega)]
  unfold fD
  rw [mv_kind, mv_v, mv_th]
  unfold fl
  grind
theorem s108 {d : Nat} {I : FI} {L : FL} {w : Nat → Nat} {x : Int32} : dn (d + 1) 108 [vR 14944 0, vI x] (hp I L w) = some (some (vI (mx0 x)), hp I L w) := by
  rw [e108, b108_0]
  unfold mx0
  grind
theorem s107 {d : Nat} {I : FI} {L : FL} {w : Nat → Nat} {x : Int32} {i : Nat} : dn (d + 1) 107 [vR 14944 0, vI x, vI (c i)] (hp I L w) = some (some (vI (bi (hs x i = true))), hp I L w) := by
  rw [e107, b107_0]
  unfold bi hs
  simp only [decide_eq_true_eq]
  grind
theorem s121 {d : Nat} {I : FI} {L : FL} {w : Nat → Nat} {t : Nat} (ht : t < 6) : dn (d + 1) 121 [vR 14944 0, vI (c t)] (hp I L w) = some (some (vI (bi (I 12993 0 t = -5))), hp I L w) := by
  rw [e121, b121_0, ck_t (vin_c ht (by omega)), ix_c (by omega)]; unfold bi; grind
theorem s149 {d : Nat} {I : FI} {L : FL} {w : Nat → Nat} {i : Nat} (hT : TI I w) (hi : i < 5) : dn (d + 3) 149 [vR 14944 0, vI (c i)] (hp I L w) = some (some (vI (arD (mv I) w 0 i)), hp I L w) := by
  rw [e149, b149_0, s107, bn_s]
  show rn none _ 149 9 _ [vI _] _ = _
  rw [b149_9, ib]
  unfold arD
  rw [mv_gone, mv_kind, mv_v, mv_T]
  by_cases a : hs (I 14944 0 1) i = true
  · rw [if_pos a, if_pos a]; unfold ar; rw [if_neg (by decide)]
  · rw [if_neg a, if_neg a, (hT I tsm.rf).1, bn_s]
    show rn none _ 149 21 _ [vI _] _ = _
    rw [b149_21]
    simp only [vin_c hi (by omega : 5 < 2147483648), ck_tt, ix_c (show i < 2147483648 by omega)]
    unfold ar
    grind
theorem l150 {d : Nat} {I : FI} {L : FL} {w : Nat → Nat} {n : Nat} {x : Int32} (hT : TI I w) (hn : n ≤ 5) (hW : I 14944 0 0 = c n) : ∀ r i, i + r = n → rn none (dn (d + 3)) 150 4 [some (vR 14944 0), some (vI x), some (vI (sumA (arD (mv I) w 0) (hs x) i)), some (vI (c i))] [] (hp I L w) = some (some (vI (sumA (arD (mv I) w 0) (hs x) n)), hp I L w) := by
  intro r
  induction r with
  | zero =>
    intro i hi
    obtain rfl : i = n := by omega
    rw [b150_4, hW, if_neg (by rw [c_lt (by omega) (by omega)]; omega)]
  | succ r ih =>
    intro i hi
    have hg := ih (i + 1) (by omega)
    have e : sumA (arD (mv I) w 0) (hs x) (i + 1) = sumA (arD (mv I) w 0) (hs x) i + (if hs x i = true then arD (mv I) w 0 i else 0) := rfl
    rw [e] at hg
    rw [b150_4, hW, if_pos (by rw [c_lt (by omega) (by omega)]; omega), s107, bn_s]
    show rn none _ 150 19 _ [vI _, vI _] _ = _
    rw [b150_19, ib, c_s]
    by_cases hb : hs x i = true
    · rw [if_pos hb] at hg
      rw [if_pos hb, s149 hT (by omega), bn_s]
      show rn none _ 150 27 _ [vI _, vI _] _ = _
      rw [b150_27, c_s, hg]
    · rw [if_neg hb] at hg
      rw [if_neg hb, hg]
theorem s150 {d : Nat} {I : FI} {L : FL} {w : Nat → Nat} {n : Nat} {x : Int32} (hT : TI I w) (hn : n ≤ 5) (hW : I 14944 0 0 = c n) : dn (d + 4) 150 [vR 14944 0, vI x] (hp I L w) = some (some (vI (sumA (arD (mv I) w 0) (hs x) n)), hp I L w) := by
  rw [e150, b150_0]
  exact l150 hT hn hW n 0 (by omega)
theorem s151 {d : Nat} {I : FI} {L : FL} {w : Nat → Nat} {n t : Nat} (hT : TI I w) (hn : n ≤ 5) (hW : I 14944 0 0 = c n) (ht : t < 6) : dn (d + 5) 151 [vR 14944 0, vI (c t)] (hp I L w) = some (some (vI (if wthD (mv I) w 0 n t = true then 1 else 0)), hp I L w) := by
  rw [e151, b151_0, s121 ht, bn_s]
  show rn none _ 151 5 _ [vI _] _ = _
  rw [b151_5, ib, s150 hT hn hW, bn_s, sumA_all n (fun i hi => hs_31 i (by omega))]
  show (if _ then _ else rn none _ 151 14 _ [vI _] _) = _
  rw [b151_14, ck_t (vin_c ht (by omega)), ix_c (by omega)]
  unfold wthD outD
  rw [mv_pk, mv_low]
  simp only [Bool.and_eq_true, decide_eq_true_eq, Bool.not_eq_true']
  grind
theorem s152 {d : Nat} {I : FI} {L : FL} {w : Nat → Nat} {t : Nat} (ht : t < 6) : dn (d + 2) 152 [vR 14944 0, vI (c t)] (hp I L w) = some (some (vI (if I 12993 0 t = -5 then -5 else I 13009 0 t)), hp I L w) := by
  rw [e152, b152_0, s121 ht, bn_s]
  show rn none _ 152 5 _ [vI _] _ = _
  rw [b152_5, ib, ck_t (vin_c ht (by omega)), ix_c (by omega)]
  grind
