theorem s148 {d : Nat} {I : FI} {L : FL} {w : Nat → Nat} {p t dy : Nat} (hT : TI I w) (hp5 : p < 5) (ht : t < 6) (hd : dy < 2147483648) (hD : I 14944 0 3 = c dy) : ∃ b, dn (d + 5) 148 [vR 14944 0, vI (c p), vI (c t)] (hp I L w) = some (some (vI (skD (mv I) w 0 p t (I 13009 0 t) dy)), hp (pl I b) L w) := by
  obtain ⟨b, hb⟩ := (hT I tsm.rf).2.2.2.1 d L p t hp5 ht
  refine ⟨b, ?_⟩
  rw [e148, b148_0, hb, bn_s]
  show rn none _ 148 6 _ [vI _] _ = _
  unfold skD
  rw [pullD_mv, mv_kind, mv_rows, mv_v, mv_wt]
  generalize pullD I (w 0) (fx (c p) (c t) (I 10865 0 p) (I 10881 0 p) (I 12977 0 t) (I 13009 0 t / 10) nil0) = q
  rw [b148_6, ck_t (vin_c hp5 (by omega)), ix_c (by omega), pl_p (by omega), s108, bn_s, bn_s]
  show (if _ then _ else if _ then _ else if _ then rn none _ 148 63 _ [vI _] _ else if _ then _ else if _ then _ else if _ then rn none _ 148 71 _ [vI _] _ else _) = _
  rw [b148_63, b148_71, pl_p (by omega), hD, c_row' hp5 hd, ck_t (vin_c (by omega) (by omega)), ix_c (by omega), pl_p (by omega)]
  unfold sk
  generalize I 10865 0 p = kd
  by_cases h1 : kd = 1
  · rw [if_pos h1, if_pos h1]
  · rw [if_neg h1, if_neg h1]
    by_cases h2 : kd = 2
    · rw [if_pos h2, if_neg (by rw [h2]; decide), if_neg (by rw [h2]; decide), if_neg (by rw [h2]; decide)]
    · rw [if_neg h2]
      by_cases h3 : kd = 3
      · rw [if_pos h3, if_pos h3]
      · rw [if_neg h3, if_neg h3]
        by_cases h4 : kd = 4
        · rw [if_pos h4, if_pos h4]
        · rw [if_neg h4, if_neg h4]
          by_cases h5 : kd = 5
          · rw [if_pos h5, if_neg (by rw [h5]; decide)]
          · rw [if_neg h5]
            by_cases h6 : kd = 6
            · rw [if_pos h6, if_pos h6]
            · rw [if_neg h6, if_neg h6]
/-- the reference's world is in order -/
def MV (I : FI) (w : Nat → Nat) (nW nT dy : Nat) : Prop := nW ≤ 5 ∧ nT ≤ 6 ∧ dy ≤ 10100 ∧ I 14944 0 0 = c nW ∧ I 14944 0 2 = c nT ∧ I 14944 0 3 = c dy ∧ (∀ t, t < nT → I 12993 0 t = -5 ∨ ∃ p, p < nW ∧ I 12993 0 t = c p) ∧ TI I w ∧ (∀ p, p < nW → 0 ≤ fD (mv I) 0 p)
/-- the first i things n days on -/
def mgo (I : FI) (w : Nat → Nat) (n dy i : Nat) (b : Nat → Int32) : FI := fun t k j => if t = 205682 ∧ k = 0 then b j else if t = 13009 ∧ k = 0 ∧ j < i ∧ I 12993 0 j ≠ -5 then lowB (mv I) w 0 j n dy else I t k j
theorem mgo_p {I : FI} {w : Nat → Nat} {n dy i : Nat} {b : Nat → Int32} {t k : Nat} (h : t ≠ 205682) (h' : t ≠ 13009) : mgo I w n dy i b t k = I t k := by
  funext j
  unfold mgo
  rw [if_neg (fun z => h z.1), if_neg (fun z => h' z.1)]
theorem mgo_l {I : FI} {w : Nat → Nat} {n dy i : Nat} {b : Nat → Int32} {j : Nat} (h : i ≤ j) : mgo I w n dy i b 13009 0 j = I 13009 0 j := by
  unfold mgo
  rw [if_neg (fun z => absurd z.1 (by decide)), if_neg (fun z => by omega)]
theorem mgo_s {I : FI} {w : Nat → Nat} {n dy i : Nat} {b b' : Nat → Int32} (h : I 12993 0 i ≠ -5) : uI (pl (mgo I w n dy i b) b') 13009 0 i (lowB (mv I) w 0 i n dy) = mgo I w n dy (i + 1) b' := by
  funext t k' j
  unfold uI pl mgo
  by_cases a : t = 13009 ∧ k' = 0 ∧ j = i
  · obtain ⟨rfl, rfl, rfl⟩ := a
    rw [if_pos ⟨rfl, rfl, rfl⟩, if_neg (fun z => absurd z.1 (by decide)), if_pos ⟨rfl, rfl, by omega, h⟩]
  · rw [if_neg a]
    by_cases b : t = 205682 ∧ k' = 0
    · rw [if_pos b, if_pos b]
    · rw [if_neg b, if_neg b, if_neg b]
      have : (t = 13009 ∧ k' = 0 ∧ j < i + 1 ∧ I 12993 0 j ≠ -5) = (t = 13009 ∧ k' = 0 ∧ j < i ∧ I 12993 0 j ≠ -5) := propext ⟨fun z => ⟨z.1, z.2.1, by
        have := z.2.2.1
        have : j ≠ i := fun y => a ⟨z.1, z.2.1, y⟩
        omega, z.2.2.2⟩, fun z => ⟨z.1, z.2.1, by have := z.2.2.1; omega, z.2.2.2⟩⟩
      simp only [this]
theorem mgo_o {I : FI} {w : Nat → Nat} {n dy i : Nat} {b : Nat → Int32} (h : I 12993 0 i = -5) : mgo I w n dy i b = mgo I w n dy (i + 1) b := by
  funext t k' j
  unfold mgo
  have : (t = 13009 ∧ k' = 0 ∧ j < i + 1 ∧ I 12993 0 j ≠ -5) = (t = 13009 ∧ k' = 0 ∧ j < i ∧ I 12993 0 j ≠ -5) := propext ⟨fun z => ⟨z.1, z.2.1, by
    have := z.2.2.1
    have : j ≠ i := fun y => z.2.2.2 (by rw [y]; exact h)
    omega, z.2.2.2⟩, fun z => ⟨z.1, z.2.1, by have := z.2.2.1; omega, z.2.2.2⟩⟩
  simp only [this]
theorem mgo_0 {I : FI} {w : Nat → Nat} {n dy : Nat} : mgo I w n dy 0 (I 205682 0) = I := by
  funext t k' j
  unfold mgo
  by_cases b : t = 205682 ∧ k' = 0
  · rw [if_pos b, b.1, b.2]
  · rw [if_neg b, if_neg (fun z => absurd z.2.2.1 (Nat.not_lt_zero _))]
/-- two heaps in which the reference's days go alike -/
def dsm (I I' : FI) : Prop := (∀ j, I' 10865 0 j = I 10865 0 j) ∧ (∀ j, I' 10881 0 j = I 10881 0 j) ∧ (∀ j, I' 10897 0 j = I 10897 0 j) ∧ (∀ j, I' 41633 0 j = I 41633 0 j) ∧ (∀ j, I' 12977 0 j = I 12977 0 j) ∧ tsm I I'
theorem dsm_pull {I I' : FI} (h : dsm I I') {T : Nat} {f : Nat → Int32} : pullD I' T f = pullD I T f := by
  unfold pullD
  obtain ⟨-, -, -, -, -, -, h6⟩ := h
  rw [h6 204961 (by omega), h6 204977 (by omega), h6 204993 (by omega), h6 205009 (by omega), h6 6288 (by omega)]
theorem dsm_fD {I I' : FI} (h : dsm I I') {p : Nat} : fD (mv I') 0 p = fD (mv I) 0 p := by
  unfold fD
  rw [mv_kind, mv_kind, mv_v, mv_v, mv_th, mv_th, h.1, h.2.1, h.2.2.1]
theorem dsm_sk {I I' : FI} {w : Nat → Nat} (h : dsm I I') {p t dy : Nat} {l : Int32} : skD (mv I') w 0 p t l dy = skD (mv I) w 0 p t l dy := by
  unfold skD
  rw [pullD_mv, pullD_mv, dsm_pull h, mv_kind, mv_kind, mv_v, mv_v, mv_rows, mv_rows, mv_wt, mv_wt, h.1, h.2.1, h.2.2.2.1, h.2.2.2.2.1]
theorem dsm_day {I I' : FI} {w : Nat → Nat} (h : dsm I I') {p t : Nat} : dayD (mv I') w 0 p t = dayD (mv I) w 0 p t := by
  funext l dy
  unfold dayD
  rw [dsm_sk h, dsm_fD h, mv_T, mv_T, mv_T, mv_T, h.2.2.2.2.2.2 6288 (by omega)]
theorem dsm_mgo {I : FI} {w : Nat → Nat} {n dy i : Nat} {b : Nat → Int32} : dsm I (mgo I w n dy i b) := by
  refine ⟨fun j => ?_, fun j => ?_, fun j => ?_, fun j => ?_, fun j => ?_, ?_, fun t ht k => mgo_p (by omega) (by omega)⟩
  all_goals rw [mgo_p (by omega) (by omega)]
theorem one_eq {g td lf x up : Int32} {d1 : Nat} (hg : 0 ≤ g) (hu : up = if 0 < td ∧ c d1 % td = 0 then lf else 0) : (if g < mx0 (x - up) then g else mx0 (x - up)) = one g td lf x d1 := by
  rw [hu]
  unfold one mx0
  by_cases a : 0 < td ∧ c d1 % td = 0
  · simp only [if_pos a]; grind
  · simp only [if_neg a, Int32.sub_zero]; grind
theorem l157 {d : Nat} {I : FI} {L : FL} {w : Nat → Nat} {nW nT dy : Nat} {up x1 : Int32} {o5 : Option Vl} (h : MV I w nW nT dy) (hu : up = if 0 < I 6288 (w 0) 1 ∧ c (dy + 1) % I 6288 (w 0) 1 = 0 then I 6288 (w 0) 2 else 0) : ∀ r i b o4 o5, i + r = nT → ∃ b', rn none (dn (d + 5)) 157 35 [some (vR 14944 0), some (vI x1), some (vI up), some (vI (c i)), o4, o5] [] (hp (mgo I w 1 dy i b) L w) = some (none, hp (uI (mgo I w 1 dy nT b') 14944 0 3 (c (dy + 1))) L w) := by
  obtain ⟨h1, h2, h3, h4, h5, h6, h7, hT, hF⟩ := h
  intro r
  induction r with
  | zero =>
    intro i b o4 o5 hr
    obtain rfl : i = nT := by omega
    refine ⟨b, ?_⟩
    rw [b157_35, mgo_p (by omega) (by omega), h5, if_neg (by rw [c_lt (by omega) (by omega)]; omega), h6, c_s]
  | succ r ih =>
    intro i b o4 o5 hr
    rw [b157_35, mgo_p (by omega) (by omega), h5, if_pos (by rw [c_lt (by omega) (by omega)]; omega), s121 (by omega), bn_s]
    show ∃ b', rn none _ 157 48 _ [vI _] _ = _
    rw [b157_48, ib, mgo_p (by omega) (by omega), c_s]
    rcases h7 i (by omega) with ho | ⟨p, hp5, hpk⟩
    · obtain ⟨b', hb⟩ := ih (i + 1) b o4 o5 (by omega)
      refine ⟨b', ?_⟩
      rw [if_pos ho, mgo_o ho, hb]
    · have hne : ¬ I 12993 0 i = -5 := by rw [hpk]; exact c_m5 (by omega)
      have D : dsm I (mgo I w 1 dy i b) := dsm_mgo
      obtain ⟨b1, hb1⟩ := s148 (d := d) (I := mgo I w 1 dy i b) (L := L) (w := w) (p := p) (t := i) (dy := dy) (hT.of D.2.2.2.2.2) (by omega) (by omega) (by omega) (by rw [mgo_p (by omega) (by omega)]; exact h6)
      have fin : ∀ v, v = lowB (mv I) w 0 i 1 dy → ∀ o4 o5, ∃ b', rn none (dn (d + 5)) 157 35 [some (vR 14944 0), some (vI x1), some (vI up), some (vI (c (i + 1))), o4, o5] [] (hp (uI (pl (mgo I w 1 dy i b) b1) 13009 0 i v) L w) = some (none, hp (uI (mgo I w 1 dy nT b') 14944 0 3 (c (dy + 1))) L w) := by
        intro v hv o4 o5
        rw [hv, mgo_s hne]
        exact ih (i + 1) b1 o4 o5 (by omega)
      rw [if_neg hne, ck_t (vin_c (by omega) (by omega)), ck_t (vin_c (by omega) (by omega)), ix_c (by omega), hpk, hb1, bn_s]
      show ∃ b', rn none _ 157 76 _ [vI _, vI _, vR _ _] _ = _
      rw [b157_76, s108, bn_s]
      show ∃ b', rn none _ 157 82 _ [vI _] _ = _
      rw [b157_82, s147 (by omega), bn_s]
      show ∃ b', rn none _ 157 97 _ [vI _, vI _, vI _, vR _ _] _ = _
      have D' : dsm I (pl (mgo I w 1 dy i b) b1) := by
        refine ⟨fun j => ?_, fun j => ?_, fun j => ?_, fun j => ?_, fun j => ?_, D.2.2.2.2.2.tr tsm_pl⟩
        all_goals rw [pl_p (by omega), mgo_p (by omega) (by omega)]
      have hv : (if fD (mv I) 0 p < mx0 (I 13009 0 i + skD (mv I) w 0 p i (I 13009 0 i) dy - up) then fD (mv I) 0 p else mx0 (I 13009 0 i + skD (mv I) w 0 p i (I 13009 0 i) dy - up)) = lowB (mv I) w 0 i 1 dy := by
        rw [one_eq (hF p hp5) hu]
        unfold lowB
        rw [mv_pk, if_neg hne, hpk, ix_c (by omega), mv_low]
        show _ = dayD (mv I) w 0 p i (I 13009 0 i) dy
        unfold dayD
        rw [mv_T, mv_T]
      rw [b157_97, dsm_fD D', mgo_l (Nat.le_refl _), dsm_sk D, c_s]
      by_cases a : fD (mv I) 0 p < mx0 (I 13009 0 i + skD (mv I) w 0 p i (I 13009 0 i) dy - up)
      · rw [if_pos a, s147 (by omega), bn_s]
        show ∃ b', rn none _ 157 106 _ [vI _, vI _, vR _ _] _ = _
        rw [b157_106, ck_t (vin_c (by omega) (by omega)), ix_c (by omega), dsm_fD D', c_s]
        rw [if_pos a] at hv
        exact fin _ hv _ _
      · rw [if_neg a, ck_t (vin_c (by omega) (by omega)), ix_c (by omega)]
        rw [if_neg a] at hv
        exact fin _ hv _ _
theorem s157 {d : Nat} {I : FI} {L : FL} {w : Nat → Nat} {nW nT dy : Nat} (h : MV I w nW nT dy) : ∃ b', dn (d + 6) 157 [vR 14944 0] (hp I L w) = some (none, hp (uI (mgo I w 1 dy nT b') 14944 0 3 (c (dy + 1))) L w) := by
  have fin : ∀ up x1 o4 o5, up = (if 0 < I 6288 (w 0) 1 ∧ c (dy + 1) % I 6288 (w 0) 1 = 0 then I 6288 (w 0) 2 else 0) → ∃ b', rn none (dn (d + 5)) 157 35 [some (vR 14944 0), some (vI x1), some (vI up), some (vI 0), o4, o5] [] (hp I L w) = some (none, hp (uI (mgo I w 1 dy nT b') 14944 0 3 (c (dy + 1))) L w) := by
    intro up x1 o4 o5 hu
    have := l157 (d := d) (L := L) (x1 := x1) (o5 := none) h hu nT 0 (I 205682 0) o4 o5 (by omega)
    rw [mgo_0] at this
    exact this
  have hT := h.2.2.2.2.2.2.2.1 I tsm.rf
  rw [e157, b157_0, hT.2.1, bn_s]
  show ∃ b', rn none _ 157 6 _ [vI _] _ = _
  rw [b157_6, h.2.2.2.2.2.1, c_s]
  by_cases a : 0 < I 6288 (w 0) 1
  · have a0 : (!(I 6288 (w 0) 1 == 0)) = true := by grind
    rw [if_pos a, ck_t a0]
    by_cases b : c (dy + 1) % I 6288 (w 0) 1 = 0
    · rw [if_pos b, hT.2.2.1, bn_s]
      show ∃ b', rn none _ 157 28 _ [vI _] _ = _
      rw [b157_28]
      exact fin _ _ _ _ (by rw [if_pos ⟨a, b⟩])
    · rw [if_neg b]
      exact fin _ _ _ _ (by rw [if_neg (fun z => b z.2)])
  · rw [if_neg a]
    exact fin _ _ _ _ (by rw [if_neg (fun z => a z.1)])
