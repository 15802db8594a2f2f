theorem uI_id {I : FI} {t k j : Nat} {x : Int32} (h : I t k j = x) : uI I t k j x = I := by
  funext a b e
  unfold uI
  split
  · rename_i z; rw [z.1, z.2.1, z.2.2, h]
  · rfl
theorem uI_u {I : FI} {t k j : Nat} {x y : Int32} : uI (uI I t k j x) t k j y = uI I t k j y := by
  funext a b e
  unfold uI
  split <;> rfl
/-- n days on -/
def gd (I : FI) (w : Nat → Nat) (n dy nT : Nat) (b : Nat → Int32) : FI := uI (mgo I w n dy nT b) 14944 0 3 (c (dy + n))
theorem gd_p {I : FI} {w : Nat → Nat} {n dy nT : Nat} {b : Nat → Int32} {t k : Nat} (h : t ≠ 205682) (h' : t ≠ 13009) (h'' : t ≠ 14944) : gd I w n dy nT b t k = I t k := by
  unfold gd
  rw [uI_p h'', mgo_p h h']
theorem gd_j {I : FI} {w : Nat → Nat} {n dy nT j : Nat} {b : Nat → Int32} (h : j ≠ 3) : gd I w n dy nT b 14944 0 j = I 14944 0 j := by
  unfold gd
  rw [uI_j h, mgo_p (by omega) (by omega)]
theorem gd_d {I : FI} {w : Nat → Nat} {n dy nT : Nat} {b : Nat → Int32} : gd I w n dy nT b 14944 0 3 = c (dy + n) := by
  unfold gd
  exact uI_e
theorem gd_l {I : FI} {w : Nat → Nat} {n dy nT j : Nat} {b : Nat → Int32} : gd I w n dy nT b 13009 0 j = if j < nT ∧ I 12993 0 j ≠ -5 then lowB (mv I) w 0 j n dy else I 13009 0 j := by
  unfold gd
  rw [uI_t (by omega)]
  unfold mgo
  rw [if_neg (fun z => absurd z.1 (by decide))]
  simp only [true_and]
theorem dsm_gd {I : FI} {w : Nat → Nat} {n dy nT : Nat} {b : Nat → Int32} : dsm I (gd I w n dy nT b) := by
  refine ⟨fun j => ?_, fun j => ?_, fun j => ?_, fun j => ?_, fun j => ?_, gd_j (by omega), fun t ht k => gd_p (by omega) (by omega) (by omega)⟩
  all_goals rw [gd_p (by omega) (by omega) (by omega)]
theorem MV_gd {I : FI} {w : Nat → Nat} {nW nT n dy : Nat} {b : Nat → Int32} (h : MV I w nW nT dy) (hn : dy + n ≤ 10100) : MV (gd I w n dy nT b) w nW nT (dy + n) := by
  obtain ⟨h1, h2, h3, h4, h5, h6, h7, hT, hF⟩ := h
  refine ⟨h1, h2, hn, by rw [gd_j (by omega)]; exact h4, by rw [gd_j (by omega)]; exact h5, gd_d, fun t ht => by rw [gd_p (by omega) (by omega) (by omega)]; exact h7 t ht, hT.of dsm_gd.2.2.2.2.2, fun p hp => by rw [dsm_fD dsm_gd]; exact hF p hp⟩
theorem gd_0 {I : FI} {w : Nat → Nat} {dy nT : Nat} (h : I 14944 0 3 = c dy) : gd I w 0 dy nT (I 205682 0) = I := by
  unfold gd
  have : mgo I w 0 dy nT (I 205682 0) = I := by
    funext t k j
    unfold mgo
    split
    · rename_i z; rw [z.1, z.2]
    · split
      · rename_i z
        unfold lowB
        rw [mv_pk, if_neg z.2.2.2, mv_low, z.1, z.2.1]
        rfl
      · rfl
  rw [this]
  exact uI_id h
theorem lowB_gd {I : FI} {w : Nat → Nat} {n dy nT j m : Nat} {b : Nat → Int32} (hj : j < nT) (ho : I 12993 0 j ≠ -5) : lowB (mv (gd I w n dy nT b)) w 0 j m (dy + n) = itD (dayD (mv I) w 0 (ix (I 12993 0 j)) j) m (dy + n) (lowB (mv I) w 0 j n dy) := by
  have e : lowB (mv (gd I w n dy nT b)) w 0 j m (dy + n) = if gd I w n dy nT b 12993 0 j = -5 then -5 else itD (dayD (mv (gd I w n dy nT b)) w 0 (ix (gd I w n dy nT b 12993 0 j)) j) m (dy + n) (gd I w n dy nT b 13009 0 j) := rfl
  rw [e, gd_p (by omega) (by omega) (by omega), if_neg ho, dsm_day dsm_gd, gd_l, if_pos ⟨hj, ho⟩]
theorem gd_s {I : FI} {w : Nat → Nat} {n dy nT : Nat} {b b' : Nat → Int32} : uI (mgo (gd I w n dy nT b) w 1 (dy + n) nT b') 14944 0 3 (c (dy + n + 1)) = gd I w (n + 1) dy nT b' := by
  funext t k j
  unfold gd
  by_cases a : t = 14944 ∧ k = 0 ∧ j = 3
  · obtain ⟨rfl, rfl, rfl⟩ := a
    rw [uI_e, uI_e]
    rfl
  · have e : ∀ (X : FI) (x : Int32), uI X 14944 0 3 x t k j = X t k j := fun X x => by unfold uI; rw [if_neg a]
    rw [e, e]
    have F : ∀ t k j, uI (mgo I w n dy nT b) 14944 0 3 (c (dy + n)) t k j = gd I w n dy nT b t k j := fun _ _ _ => rfl
    unfold mgo
    by_cases p : t = 205682 ∧ k = 0
    · rw [if_pos p, if_pos p]
    · rw [if_neg p, if_neg p]
      have g1 : gd I w n dy nT b 12993 0 j = I 12993 0 j := by rw [gd_p (by omega) (by omega) (by omega)]
      show (if t = 13009 ∧ k = 0 ∧ j < nT ∧ gd I w n dy nT b 12993 0 j ≠ -5 then lowB (mv (gd I w n dy nT b)) w 0 j 1 (dy + n) else gd I w n dy nT b t k j) = _
      rw [g1]
      by_cases q : t = 13009 ∧ k = 0 ∧ j < nT ∧ I 12993 0 j ≠ -5
      · rw [if_pos q, if_pos q, lowB_gd q.2.2.1 q.2.2.2]
        unfold lowB
        rw [mv_pk, if_neg q.2.2.2, if_neg q.2.2.2]
        exact (itD_snoc n dy _).symm
      · rw [if_neg q, if_neg q]
        show uI (mgo I w n dy nT b) 14944 0 3 (c (dy + n)) t k j = I t k j
        rw [e]
        unfold mgo
        rw [if_neg p, if_neg q]
theorem l158 {d : Nat} {I : FI} {L : FL} {w : Nat → Nat} {nW nT dy n : Nat} (h : MV I w nW nT dy) (hn : dy + n ≤ 10100) : ∀ r i b, i + r = n → ∃ b', rn none (dn (d + 6)) 158 2 [some (vR 14944 0), some (vI (c n)), some (vI (c i))] [] (hp (gd I w i dy nT b) L w) = some (none, hp (gd I w n dy nT b') L w) := by
  intro r
  induction r with
  | zero =>
    intro i b hr
    obtain rfl : i = n := by omega
    refine ⟨b, ?_⟩
    rw [b158_2, if_neg (by rw [c_lt (by omega) (by omega)]; omega)]
  | succ r ih =>
    intro i b hr
    obtain ⟨b1, hb1⟩ := s157 (d := d) (L := L) (MV_gd (b := b) (n := i) h (by omega))
    obtain ⟨b2, hb2⟩ := ih (i + 1) b1 (by omega)
    refine ⟨b2, ?_⟩
    rw [b158_2, if_pos (by rw [c_lt (by omega) (by omega)]; omega), hb1, bn_s, gd_s]
    show rn none _ 158 11 _ [] _ = _
    rw [b158_11, c_s, hb2]
theorem s158 {d : Nat} {I : FI} {L : FL} {w : Nat → Nat} {nW nT dy n : Nat} (h : MV I w nW nT dy) (hn : dy + n ≤ 10100) : ∃ b, dn (d + 7) 158 [vR 14944 0, vI (c n)] (hp I L w) = some (none, hp (gd I w n dy nT b) L w) := by
  obtain ⟨b, hb⟩ := l158 (d := d) (L := L) h hn n 0 (I 205682 0) (by omega)
  refine ⟨b, ?_⟩
  rw [gd_0 h.2.2.2.2.2.1] at hb
  rw [e158, b158_0, ← hb]
  rfl
/-- the first n of one row come over another's -/
def cp (I : FI) (a b n : Nat) : FI := fun t k j => if t = b ∧ k = 0 ∧ j < n then I a 0 j else I t k j
theorem cp_0 {I : FI} {a b : Nat} : cp I a b 0 = I := by
  funext t k j
  unfold cp
  rw [if_neg (fun z => absurd z.2.2 (Nat.not_lt_zero _))]
theorem cp_p {I : FI} {a b n t k : Nat} (h : t ≠ b) : cp I a b n t k = I t k := by
  funext j; unfold cp; rw [if_neg (fun z => h z.1)]
theorem cp_s {I : FI} {a b i : Nat} : uI (cp I a b i) b 0 i (I a 0 i) = cp I a b (i + 1) := by
  funext t k j
  unfold uI cp
  by_cases h : t = b ∧ k = 0 ∧ j = i
  · obtain ⟨rfl, rfl, rfl⟩ := h
    rw [if_pos ⟨rfl, rfl, rfl⟩, if_pos ⟨rfl, rfl, by omega⟩]
  · rw [if_neg h]
    by_cases q : t = b ∧ k = 0 ∧ j < i
    · rw [if_pos q, if_pos ⟨q.1, q.2.1, by omega⟩]
    · rw [if_neg q, if_neg (fun z => by
        have : j ≠ i := fun y => h ⟨z.1, z.2.1, y⟩
        exact q ⟨z.1, z.2.1, by omega⟩)]
theorem cp_c {I : FI} {a b e n i : Nat} {x : Int32} {b' : Nat} (h : b' ≠ b) (h' : b' ≠ a) : uI (cp I a b n) b' 0 i x = cp (uI I b' 0 i x) a b n := by
  funext t k j
  unfold uI cp
  grind
def sv0 (I : FI) : FI := uI (uI I 14944 0 29 (I 14944 0 1)) 14944 0 30 (I 14944 0 3)
def sav (I : FI) : FI := cp (cp (cp (sv0 I) 10897 11137 5) 12993 13201 6) 13009 13217 6
theorem s160 {d : Nat} {I : FI} {L : FL} {w : Nat → Nat} : dn (d + 1) 160 [vR 14944 0] (hp I L w) = some (none, hp (sav I) L w) := by
  have A : ∀ r i, i + r = 5 → ∀ J : FI, rn none (dn d) 160 18 [some (vR 14944 0), some (vI (c i))] [] (hp (cp J 10897 11137 i) L w) = rn none (dn d) 160 43 [some (vR 14944 0), some (vI 0)] [] (hp (cp J 10897 11137 5) L w) := by
    intro r
    induction r with
    | zero =>
      intro i hr J
      obtain rfl : i = 5 := by omega
      rw [b160_18, if_neg (by decide)]
    | succ r ih =>
      intro i hr J
      rw [b160_18, show (5 : Int32) = c 5 from rfl, if_pos (by rw [c_lt (by omega) (by omega)]; omega), ck_t (vin_c (by omega) (by omega)), ck_t (vin_c (by omega) (by omega)), ix_c (by omega), c_s, cp_p (by omega), cp_s]
      exact ih (i + 1) (by omega) J
  have B : ∀ r i, i + r = 6 → ∀ J : FI, rn none (dn d) 160 43 [some (vR 14944 0), some (vI (c i))] [] (hp (cp (cp J 12993 13201 i) 13009 13217 i) L w) = some (none, hp (cp (cp J 12993 13201 6) 13009 13217 6) L w) := by
    intro r
    induction r with
    | zero =>
      intro i hr J
      obtain rfl : i = 6 := by omega
      rw [b160_43, if_neg (by decide)]
    | succ r ih =>
      intro i hr J
      rw [b160_43, show (6 : Int32) = c 6 from rfl, if_pos (by rw [c_lt (by omega) (by omega)]; omega), ck_t (vin_c (by omega) (by omega)), ck_t (vin_c (by omega) (by omega)), ck_t (vin_c (by omega) (by omega)), ck_t (vin_c (by omega) (by omega)), ix_c (by omega), c_s]
      rw [cp_p (I := cp J 12993 13201 i) (show 12993 ≠ 13217 by omega), cp_p (show 12993 ≠ 13201 by omega), cp_c (e := 0) (by omega) (by omega), cp_s, cp_p (show 13009 ≠ 13217 by omega), show cp J 12993 13201 i 13009 0 i = cp J 12993 13201 (i + 1) 13009 0 i from by rw [cp_p (by omega), cp_p (by omega)], cp_s]
      exact ih (i + 1) (by omega) J
  rw [e160, b160_0]
  have a := A 5 0 rfl (sv0 I)
  rw [cp_0] at a
  have b := B 6 0 rfl (cp (sv0 I) 10897 11137 5)
  rw [cp_0, cp_0] at b
  exact a.trans b
def pb0 (I : FI) : FI := uI (uI I 14944 0 1 (I 14944 0 29)) 14944 0 3 (I 14944 0 30)
def pbk (I : FI) : FI := cp (cp (cp (pb0 I) 11137 10897 5) 13201 12993 6) 13217 13009 6
theorem s161 {d : Nat} {I : FI} {L : FL} {w : Nat → Nat} : dn (d + 1) 161 [vR 14944 0] (hp I L w) = some (none, hp (pbk I) L w) := by
  have A : ∀ r i, i + r = 5 → ∀ J : FI, rn none (dn d) 161 18 [some (vR 14944 0), some (vI (c i))] [] (hp (cp J 11137 10897 i) L w) = rn none (dn d) 161 43 [some (vR 14944 0), some (vI 0)] [] (hp (cp J 11137 10897 5) L w) := by
    intro r
    induction r with
    | zero =>
      intro i hr J
      obtain rfl : i = 5 := by omega
      rw [b161_18, if_neg (by decide)]
    | succ r ih =>
      intro i hr J
      rw [b161_18, show (5 : Int32) = c 5 from rfl, if_pos (by rw [c_lt (by omega) (by omega)]; omega), ck_t (vin_c (by omega) (by omega)), ck_t (vin_c (by omega) (by omega)), ix_c (by omega), c_s, cp_p (by omega), cp_s]
      exact ih (i + 1) (by omega) J
  have B : ∀ r i, i + r = 6 → ∀ J : FI, rn none (dn d) 161 43 [some (vR 14944 0), some (vI (c i))] [] (hp (cp (cp J 13201 12993 i) 13217 13009 i) L w) = some (none, hp (cp (cp J 13201 12993 6) 13217 13009 6) L w) := by
    intro r
    induction r with
    | zero =>
      intro i hr J
      obtain rfl : i = 6 := by omega
      rw [b161_43, if_neg (by decide)]
    | succ r ih =>
      intro i hr J
      rw [b161_43, show (6 : Int32) = c 6 from rfl, if_pos (by rw [c_lt (by omega) (by omega)]; omega), ck_t (vin_c (by omega) (by omega)), ck_t (vin_c (by omega) (by omega)), ck_t (vin_c (by omega) (by omega)), ck_t (vin_c (by omega) (by omega)), ix_c (by omega), c_s]
      rw [cp_p (I := cp J 13201 12993 i) (show 13201 ≠ 13009 by omega), cp_p (show 13201 ≠ 12993 by omega), cp_c (e := 0) (by omega) (by omega), cp_s, cp_p (show 13217 ≠ 13009 by omega), show cp J 13201 12993 i 13217 0 i = cp J 13201 12993 (i + 1) 13217 0 i from by rw [cp_p (by omega), cp_p (by omega)], cp_s]
      exact ih (i + 1) (by omega) J
  rw [e161, b161_0]
  have a := A 5 0 rfl (pb0 I)
  rw [cp_0] at a
  have b := B 6 0 rfl (cp (pb0 I) 11137 10897 5)
  rw [cp_0, cp_0] at b
  exact a.trans b
