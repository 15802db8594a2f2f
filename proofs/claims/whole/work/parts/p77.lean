set_option maxHeartbeats 400000
section P77
variable {I : FI} {L : FL} {w : Nat → Nat} {nW nT dy m : Nat} {x y z : Int32}
theorem s221a {d : Nat} {k : Nat} : dn (d + 1) 221 [vR 10513 k, vI x] (hp I L w) = some (none, hp (fil I 10513 k 0 5 x) L w) := by
  have A : ∀ r i, i + r = 5 → rn none (dn d) 221 5 [some (vR 10513 k), some (vI x), some (vI (c i)), some (vI 5)] [] (hp (fil I 10513 k 0 i x) L w) = some (none, hp (fil I 10513 k 0 5 x) L w) := by
    intro r
    induction r with
    | zero =>
      intro i hi
      obtain rfl : i = 5 := by omega
      rw [b221_5a, if_neg (by decide)]
    | succ r ih =>
      intro i hi
      rw [b221_5a, if_pos (show c i < 5 from tq_gt (b := 5) (by omega) (by omega)), ck_t (vin_c (by omega) (by omega)), ix_c (by omega), fil_s (by omega), c_s]
      exact ih (i + 1) (by omega)
  rw [e221a, b221_0a]
  have := A 5 0 rfl
  rw [fil_0] at this
  exact this
def EN (H K : FI) (w : Nat → Nat) (nW nT dy : Nat) : Prop := MV K w nW nT dy ∧ wsn nW H w 2 (mv K) w 0 ∧ (∀ p, p < nW → ∃ v, v < 10 ∧ K 10881 0 p = c v)
theorem wsn_of {N : Nat} {H K H' K' : FI} (h : wsn N H w 2 (mv K) w 0) (hH : ∀ t, (t = 10481 ∨ t = 10497 ∨ t = 41265 ∨ t = 12609) → H' t 2 = H t 2) (hT : ∀ t, (t = 6288 ∨ t = 204961 ∨ t = 204977 ∨ t = 204993 ∨ t = 205009) → H' t (w 2) = H t (w 2) ∧ K' t (w 2) = K t (w 2)) (hK : ∀ t, (t = 10865 ∨ t = 10881 ∨ t = 41633 ∨ t = 12977) → K' t 0 = K t 0) (th : ∀ j, j < N → K' 10897 0 j = H' 10513 2 j) (gn : ∀ j, j < N → mv K' 10530 0 j = H' 10530 2 j) (pk : ∀ j, j < 6 → K' 12993 0 j = H' 12625 2 j) (lw : ∀ j, j < 6 → K' 13009 0 j = H' 12641 2 j) : wsn N H' w 2 (mv K') w 0 := by
  obtain ⟨a1, a2, a3, a4, a5, a6, a7, a8, a9, aA, aB, aC, aD, aE⟩ := h
  refine ⟨fun j hj => ?_, fun j hj => ?_, th, gn, fun j hj => ?_, fun j hj => ?_, pk, lw, a9, fun j => ?_, ?_, ?_, ?_, ?_⟩
  · rw [mv_kind, hK 10865 (by omega), hH 10481 (by omega)]; exact a1 j hj
  · rw [mv_v, hK 10881 (by omega), hH 10497 (by omega)]; exact a2 j hj
  · rw [mv_rows, hK 41633 (by omega), hH 41265 (by omega)]; exact a5 j hj
  · rw [mv_wt, hK 12977 (by omega), hH 12609 (by omega)]; exact a6 j hj
  · have := aA j
    rw [mv_T] at this
    rw [mv_T, (hT 6288 (by omega)).1, (hT 6288 (by omega)).2]; exact this
  · rw [mv_c (by omega)] at aB
    rw [mv_c (by omega), (hT 204961 (by omega)).1, (hT 204961 (by omega)).2]; exact aB
  · rw [mv_c (by omega)] at aC
    rw [mv_c (by omega), (hT 204977 (by omega)).1, (hT 204977 (by omega)).2]; exact aC
  · rw [mv_c (by omega)] at aD
    rw [mv_c (by omega), (hT 204993 (by omega)).1, (hT 204993 (by omega)).2]; exact aD
  · rw [mv_c (by omega)] at aE
    rw [mv_c (by omega), (hT 205009 (by omega)).1, (hT 205009 (by omega)).2]; exact aE
/-- a row of the week is in order -/
def wkR (nW nT : Nat) (a b b' : Int32) : Prop := a = 0 ∨ (a = 1 ∧ b' = b ∧ ∃ p, p < nW ∧ b = c p) ∨ (a = 2 ∧ b' = b ∧ ∃ t, t < nT ∧ b = c t) ∨ (a = 3 ∧ b' = b ∧ ∃ h, h < 100 ∧ b = c h)
theorem wn_gone {K : FI} {p j : Nat} {g : Int32} (hp5 : p < 5) (hj : j < 5) (h : mv K 10530 0 j = g) : mv (uI K 14944 0 1 (gl (K 14944 0 1) (c p) 1)) 10530 0 j = if j = p then 1 else g := by
  rw [mv_gone, uI_e, hs_gl hp5 hj]
  by_cases q : j = p
  · rw [if_pos q, if_pos q, if_pos (by decide)]
  · rw [if_neg q, if_neg q, ← h, mv_gone]
/-- a row of the week goes, on both sides -/
theorem en_s {H : FI} {a b b' : Int32} (hW : WV H w 2 nW nT dy) (hd : dy ≤ 10050) (hr : wkR nW nT a b b') : ∃ H' dy', dy' ≤ dy + 1 ∧ WV H' w 2 nW nT dy' ∧ scM H H' ∧ dn 59 53 [vR 10464 2, vI a, vI b] (hp H L w) = some (none, hp H' L w) ∧ ∀ K, EN H K w nW nT dy → ∃ K', EN H' K' w nW nT dy' ∧ (∀ t k j, ¬ mtb t k j → K' t k j = K t k j) ∧ dn 59 181 [vR 14944 0, vI a, vI b'] (hp K L w) = some (none, hp K' L w) := by
  obtain ⟨h1, h2, h3, h4, h5, h6, h7, n, hn, h8⟩ := id hW
  have Z : ∀ (K : FI) (x1 b : Int32), x1 ≠ 3 → rn none (dn 58) 181 29 [some (vR 14944 0), some (vI x1), some (vI b), none] [] (hp K L w) = some (none, hp K L w) := by
    intro K x1 b hx
    rw [b181_29, b181_31, if_neg hx, ite_self]
  rcases hr with rfl | ⟨rfl, rfl, p, hp', rfl⟩ | ⟨rfl, rfl, t, ht, rfl⟩ | ⟨rfl, rfl, hh, hhl, rfl⟩
  · obtain ⟨g, hg⟩ := s47 (d := 53) (L := L) (n := 1) hW (by omega)
    refine ⟨uI (lgo H w 2 1 dy nT g) 10464 2 10 (c (dy + 1)), dy + 1, Nat.le_refl _, ?_, ?_, ?_, ?_⟩
    · refine ⟨h1, h2, by omega, ?_, ?_, uI_e, fun t ht => ?_, n, hn, ?_⟩
      · rw [uI_j (by omega), lgo_p (by omega) (by omega)]; exact h4
      · rw [uI_j (by omega), lgo_p (by omega) (by omega)]; exact h5
      · rw [uI_t (by omega), lgo_p (by omega) (by omega)]; exact h7 t ht
      · rw [uI_t (by omega), lgo_p (by omega) (by omega)]; exact h8
    · intro t k j hs'
      unfold scb at hs'
      unfold uI
      rw [if_neg (by omega)]
      unfold lgo
      rw [if_neg (by omega), if_neg (by omega)]
    · rw [e53, b53_0, if_pos rfl, show dn 58 47 = dn (53 + 5) 47 from rfl, show (1 : Int32) = c 1 from rfl, hg, bn_s]
      show rn none _ 53 9 _ [] _ = _
      rw [b53_9, b53_69]
    · intro K hK
      obtain ⟨hM, hw, hv⟩ := hK
      obtain ⟨bb, hb⟩ := s157 (d := 52) (L := L) hM
      refine ⟨gd K w 1 dy nT bb, ⟨MV_gd hM (by omega), ?_, ?_⟩, gd_mut h2, ?_⟩
      · refine wsn_of hw (fun t ht => ?_) (fun t ht => ⟨?_, ?_⟩) (fun t ht => ?_) (fun j hj => ?_) (fun j hj => ?_) (fun j hj => ?_) (fun j hj => ?_)
        · rw [uI_p (by omega), lgo_p (by omega) (by omega)]
        · rw [uI_p (by omega), lgo_p (by omega) (by omega)]
        · rw [gd_p (by omega) (by omega) (by omega)]
        · rw [gd_p (by omega) (by omega) (by omega)]
        · rw [gd_p (by omega) (by omega) (by omega), uI_t (by omega), lgo_p (by omega) (by omega)]
          exact hw.2.2.1 j hj
        · rw [mv_gone, gd_j (by omega), uI_t (by omega), lgo_p (by omega) (by omega), ← mv_gone]
          exact hw.2.2.2.1 j hj
        · rw [gd_p (by omega) (by omega) (by omega), uI_t (by omega), lgo_p (by omega) (by omega)]
          exact hw.2.2.2.2.2.2.1 j hj
        · have e1 : K 12993 0 j = H 12625 2 j := hw.2.2.2.2.2.2.1 j hj
          have e2 : K 13009 0 j = H 12641 2 j := hw.2.2.2.2.2.2.2.1 j hj
          rw [gd_l, uI_t (by omega), e1, e2]
          unfold lgo
          rw [if_neg (show ¬ ((12641 : Nat) = 12849 ∧ 2 = 2) from fun z => absurd z.1 (by decide))]
          by_cases q : j < nT ∧ H 12625 2 j ≠ -5
          · rw [if_pos q, if_pos ⟨rfl, rfl, q⟩, wn_low hw h1 hj (h7 j q.1)]
          · rw [if_neg q, if_neg (fun z => q z.2.2)]
      · intro p hp'
        rw [gd_p (by omega) (by omega) (by omega)]
        exact hv p hp'
      · rw [e181, b181_0, if_pos rfl, show dn 58 157 = dn (52 + 6) 157 from rfl, hb, bn_s]
        show rn none _ 181 8 _ [] _ = _
        rw [b181_8, if_neg (by decide), b181_19, if_neg (by decide), Z _ _ _ (by decide)]
        rfl
  · refine ⟨uI H 10530 2 p 1, dy, by omega, ?_, ?_, ?_, ?_⟩
    · refine ⟨h1, h2, h3, ?_, ?_, ?_, fun t ht => ?_, n, hn, ?_⟩
      · rw [uI_t (by omega)]; exact h4
      · rw [uI_t (by omega)]; exact h5
      · rw [uI_t (by omega)]; exact h6
      · rw [uI_t (by omega)]; exact h7 t ht
      · rw [uI_t (by omega)]; exact h8
    · intro t k j hs'
      unfold scb at hs'
      unfold uI
      rw [if_neg (by omega)]
    · rw [e53, b53_0, if_neg (by decide), if_pos rfl, s31, bn_s, h4]
      show rn none _ 53 22 _ [vI _] _ = _
      rw [b53_22, ib, if_pos (show 0 ≤ c p ∧ c p < c nW from ⟨c_0 (by omega), tq_gt hp' (by omega)⟩), ck_t (vin_c (by omega) (by omega)), ix_c (by omega), show (1 &&& 1 : Int32) = 1 from by decide, b53_69]
    · intro K hK
      obtain ⟨hM, hw, hv⟩ := hK
      refine ⟨uI K 14944 0 1 (gl (K 14944 0 1) (c p) 1), ⟨MV_g hM, ?_, ?_⟩, ?_, ?_⟩
      · refine wsn_of hw (fun t ht => ?_) (fun t ht => ⟨?_, ?_⟩) (fun t ht => ?_) (fun j hj => ?_) (fun j hj => ?_) (fun j hj => ?_) (fun j hj => ?_)
        · rw [uI_p (by omega)]
        · rw [uI_p (by omega)]
        · rw [uI_p (by omega)]
        · rw [uI_p (by omega)]
        · rw [uI_t (by omega), uI_t (by omega)]
          exact hw.2.2.1 j hj
        · rw [wn_gone (by omega) (by omega) (hw.2.2.2.1 j hj)]
          by_cases q : j = p
          · subst q; rw [if_pos rfl, uI_e]
          · rw [if_neg q, uI_j q]
        · rw [uI_t (by omega), uI_t (by omega)]
          exact hw.2.2.2.2.2.2.1 j hj
        · rw [uI_t (by omega), uI_t (by omega)]
          exact hw.2.2.2.2.2.2.2.1 j hj
      · intro q hq
        rw [uI_t (by omega)]
        exact hv q hq
      · intro t k j hm
        unfold mtb at hm
        unfold uI
        rw [if_neg (by omega)]
      · rw [e181, b181_0, if_neg (by decide), b181_8, if_pos rfl, s118, bn_s]
        show rn none _ 181 19 _ [] _ = _
        rw [b181_19, if_neg (by decide), Z _ _ _ (by decide)]
  · refine ⟨uI (uI H 12625 2 t (-5)) 12641 2 t 0, dy, by omega, ?_, ?_, ?_, ?_⟩
    · refine ⟨h1, h2, h3, ?_, ?_, ?_, fun u hu => ?_, n, hn, ?_⟩
      · rw [uI_t (by omega), uI_t (by omega)]; exact h4
      · rw [uI_t (by omega), uI_t (by omega)]; exact h5
      · rw [uI_t (by omega), uI_t (by omega)]; exact h6
      · rw [uI_t (by omega)]
        by_cases q : u = t
        · subst q; rw [uI_e]; exact Or.inl rfl
        · rw [uI_j q]; exact h7 u hu
      · rw [uI_t (by omega), uI_t (by omega)]; exact h8
    · intro t k j hs'
      unfold scb at hs'
      unfold uI
      rw [if_neg (by omega), if_neg (by omega)]
    · rw [e53, b53_0, if_neg (by decide), if_neg (by decide), if_pos rfl, s32, bn_s, h5]
      show rn none _ 53 45 _ [vI _] _ = _
      rw [b53_45, ib, if_pos (show 0 ≤ c t ∧ c t < c nT from ⟨c_0 (by omega), tq_gt ht (by omega)⟩), s36 (by omega), bn_s]
      show rn none _ 53 53 _ [] _ = _
      rw [b53_53, b53_69]
    · intro K hK
      obtain ⟨hM, hw, hv⟩ := hK
      have hdk : dsm K (uI (uI K 12993 0 t (-5)) 13009 0 t 0) := by
        refine ⟨fun j => ?_, fun j => ?_, fun j => ?_, fun j => ?_, fun j => ?_, (tsm_uI (by omega)).tr (tsm_uI (by omega))⟩
        all_goals rw [uI_t (by omega), uI_t (by omega)]
      refine ⟨uI (uI K 12993 0 t (-5)) 13009 0 t 0, ⟨?_, ?_, ?_⟩, ?_, ?_⟩
      · obtain ⟨a1, a2, a3, a4, a5, a6, a7, aT, aF⟩ := hM
        refine ⟨a1, a2, a3, by rw [uI_t (by omega), uI_t (by omega)]; exact a4, by rw [uI_t (by omega), uI_t (by omega)]; exact a5, by rw [uI_t (by omega), uI_t (by omega)]; exact a6, fun u hu => ?_, aT.of hdk.2.2.2.2.2, fun p hp => by rw [dsm_fD hdk]; exact aF p hp⟩
        rw [uI_t (by omega)]
        by_cases q : u = t
        · subst q; rw [uI_e]; exact Or.inl rfl
        · rw [uI_j q]; exact a7 u hu
      · refine wsn_of hw (fun t ht => ?_) (fun t ht => ⟨?_, ?_⟩) (fun t ht => ?_) (fun j hj => ?_) (fun j hj => ?_) (fun j hj => ?_) (fun j hj => ?_)
        · rw [uI_p (by omega), uI_p (by omega)]
        · rw [uI_p (by omega), uI_p (by omega)]
        · rw [uI_p (by omega), uI_p (by omega)]
        · rw [uI_p (by omega), uI_p (by omega)]
        · rw [uI_t (by omega), uI_t (by omega), uI_t (by omega), uI_t (by omega)]
          exact hw.2.2.1 j hj
        · rw [mv_gone, uI_t (by omega), uI_t (by omega), uI_t (by omega), uI_t (by omega), ← mv_gone]
          exact hw.2.2.2.1 j hj
        · rw [uI_t (by omega), uI_t (t := 12641) (by omega)]
          by_cases q : j = t
          · subst q; rw [uI_e, uI_e]
          · rw [uI_j q, uI_j q]
            exact hw.2.2.2.2.2.2.1 j hj
        · by_cases q : j = t
          · subst q; rw [uI_e, uI_e]
          · rw [uI_j q, uI_j q, uI_j q, uI_j q]
            exact hw.2.2.2.2.2.2.2.1 j hj
      · intro q hq
        rw [uI_t (by omega), uI_t (by omega)]
        exact hv q hq
      · intro t' k j hm
        unfold mtb at hm
        unfold uI
        rw [if_neg (by omega), if_neg (by omega)]
      · rw [e181, b181_0, if_neg (by decide), b181_8, if_neg (by decide), b181_19, if_pos rfl, s120 (by omega), bn_s]
        show rn none _ 181 29 _ [] _ = _
        rw [Z _ _ _ (by decide)]
  · refine ⟨fil H 10513 2 0 5 (c hh), dy, by omega, ?_, ?_, ?_, ?_⟩
    · refine ⟨h1, h2, h3, ?_, ?_, ?_, fun t ht => ?_, n, hn, ?_⟩
      · rw [fil_p (by omega)]; exact h4
      · rw [fil_p (by omega)]; exact h5
      · rw [fil_p (by omega)]; exact h6
      · rw [fil_p (by omega)]; exact h7 t ht
      · rw [fil_p (by omega)]; exact h8
    · intro t k j hs'
      unfold scb at hs'
      unfold fil
      rw [if_neg (by omega)]
    · rw [e53, b53_0, if_neg (by decide), if_neg (by decide), if_neg (by decide), if_pos rfl, s221a, bn_s]
      show rn none _ 53 69 _ [] _ = _
      rw [b53_69]
    · intro K hK
      obtain ⟨hM, hw, hv⟩ := hK
      have A : ∀ r i, i + r = nW → rn none (dn 58) 181 31 [some (vR 14944 0), some (vI 3), some (vI (c hh)), some (vI (c i))] [] (hp (fil K 10897 0 0 i (c hh)) L w) = some (none, hp (fil K 10897 0 0 nW (c hh)) L w) := by
        intro r
        induction r with
        | zero =>
          intro i hi
          obtain rfl : i = nW := by omega
          rw [b181_31, fil_p (by omega), hM.2.2.2.1, if_neg (tq_ng (Nat.le_refl _) (by omega))]
        | succ r ih =>
          intro i hi
          rw [b181_31, fil_p (by omega), hM.2.2.2.1, if_pos (tq_gt (by omega) (by omega)), if_pos rfl, ck_t (vin_c (by omega) (by omega)), ix_c (by omega), fil_s (by omega), c_s]
          exact ih (i + 1) (by omega)
      have A0 := A nW 0 (by omega)
      rw [fil_0] at A0
      have hdt : tsm K (fil K 10897 0 0 nW (c hh)) := ⟨by rw [fil_p (by omega)], fun t ht k => fil_p (by omega)⟩
      refine ⟨fil K 10897 0 0 nW (c hh), ⟨?_, ?_, ?_⟩, ?_, ?_⟩
      · obtain ⟨a1, a2, a3, a4, a5, a6, a7, aT, aF⟩ := hM
        refine ⟨a1, a2, a3, by rw [fil_p (by omega)]; exact a4, by rw [fil_p (by omega)]; exact a5, by rw [fil_p (by omega)]; exact a6, fun u hu => by rw [fil_p (by omega)]; exact a7 u hu, aT.of hdt, fun p hp => ?_⟩
        obtain ⟨v, hv1, hv2⟩ := hv p hp
        unfold fD
        rw [mv_kind, mv_v, mv_th, fil_p (t' := 10865) (by omega), fil_p (t' := 10881) (by omega), hv2]
        unfold fil
        rw [if_pos ⟨rfl, rfl, by omega, hp⟩]
        exact fl_n (kd := 0) (by omega) hhl _
      · refine wsn_of hw (fun t ht => ?_) (fun t ht => ⟨?_, ?_⟩) (fun t ht => ?_) (fun j hj => ?_) (fun j hj => ?_) (fun j hj => ?_) (fun j hj => ?_)
        · rw [fil_p (by omega)]
        · rw [fil_p (by omega)]
        · rw [fil_p (by omega)]
        · rw [fil_p (by omega)]
        · unfold fil
          rw [if_pos ⟨rfl, rfl, by omega, hj⟩, if_pos ⟨rfl, rfl, by omega, by omega⟩]
        · rw [mv_gone, fil_p (by omega), fil_p (by omega), ← mv_gone]
          exact hw.2.2.2.1 j hj
        · rw [fil_p (by omega), fil_p (by omega)]
          exact hw.2.2.2.2.2.2.1 j hj
        · rw [fil_p (by omega), fil_p (by omega)]
          exact hw.2.2.2.2.2.2.2.1 j hj
      · intro q hq
        rw [fil_p (by omega)]
        exact hv q hq
      · intro t k j hm
        unfold mtb at hm
        unfold fil
        rw [if_neg (by omega)]
      · rw [e181, b181_0, if_neg (by decide), b181_8, if_neg (by decide), b181_19, if_neg (by decide), b181_29]
        exact A0
/-- the week's rows of both -/
def RK (I : FI) (nW nT m : Nat) : Prop := m ≤ 10 ∧ I 2480 0 0 = c m ∧ I 14944 0 42 = c m ∧ ∀ i, i < m → I 21521 0 i = I 20929 0 i ∧ wkR nW nT (I 20929 0 i) (I 20945 0 i) (I 21537 0 i)
/-- the week's rows go, on both sides -/
theorem en_l (hK0 : RK I nW nT m) {x1 : Int32} : ∀ r i H dy', i + r = m → dy' ≤ 10020 + i → WV H w 2 nW nT dy' → scM I H → ∃ H' dy2, dy2 ≤ 10020 + m ∧ WV H' w 2 nW nT dy2 ∧ scM I H' ∧ rn none (dn 59) 83 23 [some (vR 12288 0), some (vI x1), some (vI (c i))] [] (hp H L w) = rn none (dn 59) 83 23 [some (vR 12288 0), some (vI x1), some (vI (c m))] [] (hp H' L w) ∧ ∀ K, EN H K w nW nT dy' → (∀ j, K 21521 0 j = I 21521 0 j ∧ K 21537 0 j = I 21537 0 j) → K 14944 0 42 = c m → ∃ K', EN H' K' w nW nT dy2 ∧ (∀ t k j, ¬ mtb t k j → K' t k j = K t k j) ∧ rn none (dn 59) 182 18 [some (vR 14944 0), some (vI x1), some (vI (c i)), none] [] (hp K L w) = rn none (dn 59) 182 18 [some (vR 14944 0), some (vI x1), some (vI (c m)), none] [] (hp K' L w) := by
  obtain ⟨k1, k2, k3, k4⟩ := hK0
  intro r
  induction r with
  | zero =>
    intro i H dy' hi hd hW hs'
    obtain rfl : i = m := by omega
    exact ⟨H, dy', hd, hW, hs', rfl, fun K hE _ _ => ⟨K, hE, fun _ _ _ _ => rfl, rfl⟩⟩
  | succ r ih =>
    intro i H dy' hi hd hW hs'
    obtain ⟨q1, q2⟩ := k4 i (by omega)
    obtain ⟨H1, d1, hd1, hW1, hs1, e1, f1⟩ := en_s (L := L) hW (by omega) q2
    obtain ⟨H2, d2, hd2, hW2, hs2, e2, f2⟩ := ih (i + 1) H1 d1 (by omega) (by omega) hW1 (hs'.tr hs1)
    refine ⟨H2, d2, hd2, hW2, hs2, ?_, fun K hE hKr hKm => ?_⟩
    · rw [b83_23, hs' 2480 0 0 (by unfold scb; omega), k2, if_pos (tq_gt (by omega) (by omega)), ck_t (vin_c (by omega) (by omega)), ck_t (vin_c (by omega) (by omega)), ix_c (by omega), hs' 20929 0 i (by unfold scb; omega), hs' 20945 0 i (by unfold scb; omega), e1, bn_s]
      show rn none _ 83 68 _ [] _ = _
      rw [b83_68, c_s, e2]
    · obtain ⟨K1, hE1, hf1, g1⟩ := f1 K hE
      obtain ⟨K2, hE2, hf2, g2⟩ := f2 K1 hE1 (fun j => ⟨by rw [hf1 _ _ _ (by unfold mtb; omega)]; exact (hKr j).1, by rw [hf1 _ _ _ (by unfold mtb; omega)]; exact (hKr j).2⟩) (by rw [hf1 _ _ _ (by unfold mtb; omega)]; exact hKm)
      refine ⟨K2, hE2, fun t k j hm => (hf2 t k j hm).trans (hf1 t k j hm), ?_⟩
      rw [b182_18, hKm, if_pos (tq_gt (by omega) (by omega)), ck_t (vin_c (by omega) (by omega)), ck_t (vin_c (by omega) (by omega)), ix_c (by omega), (hKr i).1, (hKr i).2, q1, g1, bn_s]
      show rn none _ 182 42 _ [] _ = _
      rw [b182_42, c_s, g2]
end P77
