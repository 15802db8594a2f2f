set_option maxHeartbeats 400000
section P98s
variable {I I' : FI} {L : FL} {w w' : Nat → Nat} {nW nT dy m mk nb nt dy' : Nat} {x y z : Int32} {A B A' B' : Nat → Nat → Int32}
theorem RWn_dy (hA : ∀ t j, CW t j → t ≠ 12641 → ¬ (t = 10464 ∧ j = 10) → A' t j = A t j) (hB : ∀ t j, CW t j → t ≠ 12641 → ¬ (t = 10464 ∧ j = 10) → B' t j = B t j) (h1 : A' 10464 10 = c dy') (h2 : B' 10464 10 = c dy') (hd : dy' ≤ 9999) (g : ∀ j, j < 6 → B' 12641 j = A' 12641 j) (h : RWn A B nW nT dy m mk nb) : RWn A' B' nW nT dy' m mk nb := by
  have h1' : RWn (fun t j => if t = 12641 ∨ (t = 10464 ∧ j = 10) then A t j else A' t j) (fun t j => if t = 12641 ∨ (t = 10464 ∧ j = 10) then B t j else B' t j) nW nT dy m mk nb := by
    refine RWn_c (fun t j q => ?_) (fun t j q => ?_) h
    · by_cases e : t = 12641 ∨ (t = 10464 ∧ j = 10)
      · rw [if_pos e]
      · rw [if_neg e]; exact hA t j q (fun z => e (Or.inl z)) (fun z => e (Or.inr z))
    · by_cases e : t = 12641 ∨ (t = 10464 ∧ j = 10)
      · rw [if_pos e]
      · rw [if_neg e]; exact hB t j q (fun z => e (Or.inl z)) (fun z => e (Or.inr z))
  obtain ⟨⟨k1, k1b, k1c⟩, ⟨k2, k2b, k2c, k2d, k2e, k2f⟩, k3, k4, k5, k6, k7, k8⟩ := h1'
  obtain ⟨s1, s2, s3, s4, s5, s6, s7, s8⟩ := sm_un k3
  exact ⟨⟨k1, k1b, hd⟩, ⟨k2, k2b, k2c, k2d, h1, h2⟩, sm_mk s1 s2 s3 s4 s5 s6 s7 g, k4, k5, k6, k7, k8⟩
theorem sm68 (h : R I L w) : Sm I L w 68 159 [vI x] := by
  obtain ⟨nW, nT, dy, m, mk, nb, q⟩ := h.1
  have hA := R_RA q h.2.1
  obtain ⟨⟨a1, a2, a3⟩, ⟨b1, b2, b3, b4, b5, b6⟩, h3, h4, h5, h6, h7, h8⟩ := id q
  obtain ⟨g, E1⟩ := s68 (d := 54) (L := L) (x := x) hA.1 a3
  obtain ⟨b0, E2⟩ := s159 (d := 52) (L := L) (x := x) hA.2.1 a3
  by_cases a : 0 ≤ x ∧ x ≤ 60
  · rw [if_pos a] at E1 E2
    obtain ⟨n, hn, ex⟩ := of_c (x := x) (n := 61) a.1 (by omega) (by have := a.2; show x < 61; grind)
    have ei : ix x = n := by rw [ex, ix_c (by omega)]
    by_cases e : 9999 < dy + ix x
    · rw [if_pos e] at E1 E2
      exact sm_no h E1 E2
    · rw [if_neg e] at E1
      clear E2
      rw [ei] at E1 e
      generalize hI1 : uI (lgo I w 0 n dy nT g) 10464 0 10 (c (dy + n)) = I1 at E1
      have K : ∀ t k j, t ≠ 12849 → t ≠ 12641 → t ≠ 10464 → I1 t k j = I t k j := fun t k j q1 q2 q3 => by rw [← hI1, uI_t q3, lgo_p q1 q2]
      have ht1 : tsm I I1 := ⟨K _ _ _ (by omega) (by omega) (by omega), fun t ht k => funext fun j => K _ _ _ (by omega) (by omega) (by omega)⟩
      obtain ⟨w1, w2, w3, w4, w5, w6, w7, w8, w9, w10, w11, w12, w13, w14⟩ := hA.2.2.1
      have hw1 : wsm I w 0 (mv I1) w 0 := ⟨fun j hj => (K 10865 0 j (by omega) (by omega) (by omega)).trans (w1 j hj), fun j hj => (K 10881 0 j (by omega) (by omega) (by omega)).trans (w2 j hj), fun j hj => (K 10897 0 j (by omega) (by omega) (by omega)).trans (w3 j hj), fun j hj => by rw [mv_gone, K 14944 0 1 (by omega) (by omega) (by omega), ← mv_gone]; exact w4 j hj, fun j hj => (K 41633 0 j (by omega) (by omega) (by omega)).trans (w5 j hj), fun j hj => (K 12977 0 j (by omega) (by omega) (by omega)).trans (w6 j hj), fun j hj => (K 12993 0 j (by omega) (by omega) (by omega)).trans (w7 j hj), fun j hj => (K 13009 0 j (by omega) (by omega) (by omega)).trans (w8 j hj), rfl, fun j => by rw [mv_T]; exact K _ _ _ (by omega) (by omega) (by omega), by rw [mv_c (by omega)]; exact funext fun j => K _ _ _ (by omega) (by omega) (by omega), by rw [mv_c (by omega)]; exact funext fun j => K _ _ _ (by omega) (by omega) (by omega), by rw [mv_c (by omega)]; exact funext fun j => K _ _ _ (by omega) (by omega) (by omega), by rw [mv_c (by omega)]; exact funext fun j => K _ _ _ (by omega) (by omega) (by omega)⟩
      obtain ⟨m1, m2, m3, m4, m5, m6, m7, m8, m9⟩ := hA.2.1
      have hM1 : MV I1 w nW nT dy := ⟨m1, m2, m3, (K _ _ _ (by omega) (by omega) (by omega)).trans m4, (K _ _ _ (by omega) (by omega) (by omega)).trans m5, (K _ _ _ (by omega) (by omega) (by omega)).trans m6, fun t ht => by rw [K 12993 0 t (by omega) (by omega) (by omega)]; exact m7 t ht, m8.of ht1, fun p hp => by rw [ws_fD hw1 (by omega), ← ws_fD hA.2.2.1 (by omega)]; exact m9 p hp⟩
      obtain ⟨b1', E2⟩ := s159 (d := 52) (L := L) (x := x) hM1 a3
      rw [if_pos a, ei, if_neg e] at E2
      have hM : RM (gd I1 w n dy nT b1') := by
        refine ⟨nW, nT, dy + n, m, mk, nb, RWn_dy (A := fun t j => I t 0 j) (B := rvM I) (fun t j ht n1 n2 => ?_) (fun t j ht n1 n2 => ?_) ?_ ?_ (by omega) (fun j hj => ?_) q⟩
        · have := CW_t ht
          show gd I1 w n dy nT b1' t 0 j = I t 0 j
          rw [gd_p (by omega) (by omega) (by omega), ← hI1]
          by_cases e5 : t = 10464
          · rw [e5, uI_j (fun z => n2 ⟨e5, z⟩), lgo_p (by omega) (by omega)]
          · rw [uI_t e5, lgo_p (by omega) n1]
        · unfold gd
          rw [rvs3]
          by_cases e5 : t = 10464 ∧ (j ≠ 0 ∧ j ≠ 6)
          · have hj10 : j = 10 := by
              have := ht
              rw [e5.1] at this
              unfold CW at this
              omega
            exact absurd ⟨e5.1, hj10⟩ n2
          · rw [if_neg e5]
            have eM : rvM (mgo I1 w n dy nT b1') t j = rvM I1 t j := by
              unfold rvM
              simp only [if_neg n1]
              repeat rw [mgo_p (by omega) (by omega)]
            rw [eM, rvM_c (fun t j z => K t 0 j (by unfold mcl at z; omega) (by unfold mcl at z; omega) (by unfold mcl at z; omega))]
        · show gd I1 w n dy nT b1' 10464 0 10 = _
          rw [gd_p (by omega) (by omega) (by omega), ← hI1, uI_e]
        · show gd I1 w n dy nT b1' 14944 0 3 = _
          exact gd_d
        · show gd I1 w n dy nT b1' 13009 0 j = gd I1 w n dy nT b1' 12641 0 j
          have eI : I1 12641 0 j = lgo I w 0 n dy nT g 12641 0 j := by rw [← hI1, uI_t (by omega)]
          rw [gd_l, gd_p (by omega) (by omega) (by omega), eI, K 12993 0 j (by omega) (by omega) (by omega), K 13009 0 j (by omega) (by omega) (by omega), show I 12993 0 j = I 12625 0 j from w7 j hj, show I 13009 0 j = I 12641 0 j from w8 j hj]
          have el : lgo I w 0 n dy nT g 12641 0 j = if j < nT ∧ I 12625 0 j ≠ -5 then lowB I w 0 j n dy else I 12641 0 j := by
            unfold lgo
            rw [if_neg (fun z => absurd z.1 (by omega))]
            by_cases e6 : j < nT ∧ I 12625 0 j ≠ -5
            · rw [if_pos e6, if_pos ⟨rfl, rfl, e6.1, e6.2⟩]
            · rw [if_neg e6, if_neg (fun z => e6 ⟨z.2.2.1, z.2.2.2⟩)]
          rw [el]
          by_cases e6 : j < nT ∧ I 12625 0 j ≠ -5
          · rw [if_pos e6, if_pos e6]
            refine ws_low hw1 hj ?_
            rcases h4 j e6.1 with z | ⟨p, hp, z⟩
            · exact Or.inl z
            · exact Or.inr ⟨p, by omega, z⟩
          · rw [if_neg e6, if_neg e6]
      have f1 : frX I I1 := fun t k j q1 q2 => by
        rw [← hI1]
        unfold uI
        rw [if_neg (fun z => q2 ⟨z.2.1, by unfold wtag; omega⟩)]
        unfold lgo
        rw [if_neg (fun z => q1 (by unfold scb; omega)), if_neg (fun z => q2 ⟨z.2.1, by unfold wtag; omega⟩)]
      have f2 : frX I1 (gd I1 w n dy nT b1') := fun t k j q1 q2 => by
        unfold gd uI
        rw [if_neg (fun z => q2 ⟨z.2.1, by unfold mcl; omega⟩)]
        unfold mgo
        rw [if_neg (fun z => q1 (by unfold scb; omega)), if_neg (fun z => q2 ⟨z.2.1, by unfold mcl; omega⟩)]
      exact ⟨_, _, L, w, _, L, E1, E2, R_core (f1.tr f2) hM h⟩
  · rw [if_neg a] at E1 E2
    exact sm_no h E1 E2
end P98s
