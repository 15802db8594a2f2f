set_option maxHeartbeats 400000
section P98t
variable {I I' : FI} {L : FL} {w w' : Nat → Nat} {nW nT dy m mk nb nt dy' : Nat} {x y z : Int32}
/-- bytes are fed -/
theorem sm65 (h : R I L w) : Sm I L w 65 125 [vI x] := by
  obtain ⟨h1, h2, ⟨n, r1, r2, r3, r4⟩, h4, h5, h6⟩ := id h
  have E1 := s65 (d := 58) (I := I) (L := L) (w := w) (x := x) r1 r2
  by_cases a : 0 ≤ x ∧ x ≤ 127
  · by_cases e : n < 100
    · rw [if_pos a, if_pos e] at E1
      have E2 := s125 (d := 58) (I := uI (uI I 204849 0 n x) 32 0 1 (c (n + 1))) (L := L) (w := w) (x := x) r1 ((uI_t (by omega)).trans ((uI_t (by omega)).trans r3))
      rw [if_pos a, if_pos e] at E2
      obtain ⟨b, hb, eb⟩ := of_c (x := x) (n := 128) a.1 (by omega) (by have := a.2; show x < 128; grind)
      have f : ∀ t k j, ¬ (t = 204849 ∨ t = 205537 ∨ (t = 32 ∧ j = 1) ∨ (t = 14944 ∧ j = 13)) → uI (uI (uI (uI I 204849 0 n x) 32 0 1 (c (n + 1))) 205537 0 n x) 14944 0 13 (c (n + 1)) t k j = I t k j := fun t k j q => by
        unfold uI
        rw [if_neg (fun z => by omega), if_neg (fun z => by omega), if_neg (fun z => by omega), if_neg (fun z => by omega)]
      refine ⟨_, _, L, w, _, L, E1, E2, RM_c (fun t j q => f _ _ _ (by have := CW_t q; omega)) (fun t j q => f _ _ _ (by unfold mcl at q; omega)) h1, RV_c (fun t j i q => f _ _ _ (by unfold tcl at q; omega)) (fun t j q => f _ _ _ (by have := CW_t q; omega)) (fun t j q => f _ _ _ (by unfold icl at q; omega)) (fun t j q => f _ _ _ (by omega)) rfl rfl h2, ⟨n + 1, by omega, ?_, uI_e, fun i hi => ?_⟩, RT_c rfl (fun t k j q => f _ _ _ (by omega)) h4, RG_c (fun i => ⟨f _ _ _ (by omega), f _ _ _ (by omega)⟩) (f _ _ _ (by omega)) (f _ _ _ (by omega)) h5, fun i hi => (f _ _ _ (by omega)).trans (h6 i hi)⟩
      · rw [uI_t (by omega), uI_t (by omega), uI_e]
      · have v1 : uI (uI (uI (uI I 204849 0 n x) 32 0 1 (c (n + 1))) 205537 0 n x) 14944 0 13 (c (n + 1)) 204849 0 i = if i = n then x else I 204849 0 i := by
          rw [uI_t (by omega), uI_t (by omega), uI_t (by omega)]
          by_cases q : i = n
          · rw [if_pos q, q, uI_e]
          · rw [if_neg q, uI_j q]
        have v2 : uI (uI (uI (uI I 204849 0 n x) 32 0 1 (c (n + 1))) 205537 0 n x) 14944 0 13 (c (n + 1)) 205537 0 i = if i = n then x else I 205537 0 i := by
          rw [uI_t (by omega)]
          by_cases q : i = n
          · rw [if_pos q, q, uI_e]
          · rw [if_neg q, uI_j q, uI_t (by omega), uI_t (by omega)]
        rw [v1, v2]
        by_cases q : i = n
        · rw [if_pos q, if_pos q]; exact ⟨b, hb, eb, eb⟩
        · rw [if_neg q, if_neg q]; exact r4 i (by omega)
    · have E2 := s125 (d := 58) (I := I) (L := L) (w := w) (x := x) r1 r3
      rw [if_pos a, if_neg e] at E1 E2
      exact sm_no h E1 E2
  · have E2 := s125 (d := 58) (I := I) (L := L) (w := w) (x := x) r1 r3
    rw [if_neg a] at E1 E2
    exact sm_no h E1 E2
theorem lgI_f {tb tc sl t k j : Nat} (h : t ≠ tb) (h' : ¬ (t = tc ∧ j = sl)) : ∀ (l : List Int32) (I : FI) n, lgI I tb tc sl n l t k j = I t k j := by
  intro l
  induction l with
  | nil => intro I n; rfl
  | cons a r ih =>
    intro I n
    show lgI (uI (uI I tb 0 n a) tc 0 sl (c (n + 1))) tb tc sl (n + 1) r t k j = _
    rw [ih]
    unfold uI
    rw [if_neg (fun z => h' ⟨z.1, z.2.2⟩), if_neg (fun z => h z.1)]
theorem lgI_v {tb tc sl : Nat} (hne : tb ≠ tc) : ∀ (l : List Int32) (I : FI) n i, (i < n → lgI I tb tc sl n l tb 0 i = I tb 0 i) ∧ (n ≤ i → i < n + l.length → lgI I tb tc sl n l tb 0 i = l.getD (i - n) 0) := by
  intro l
  induction l with
  | nil => intro I n i; exact ⟨fun _ => rfl, fun h1 h2 => absurd h2 (by simp only [List.length_nil]; omega)⟩
  | cons a r ih =>
    intro I n i
    have e : lgI I tb tc sl n (a :: r) tb 0 i = lgI (uI (uI I tb 0 n a) tc 0 sl (c (n + 1))) tb tc sl (n + 1) r tb 0 i := rfl
    rw [e]
    refine ⟨fun h => ?_, fun h1 h2 => ?_⟩
    · rw [(ih _ (n + 1) i).1 (by omega), uI_t hne, uI_j (by omega)]
    · rw [List.length_cons] at h2
      by_cases q : i = n
      · rw [(ih _ (n + 1) i).1 (by omega), uI_t hne, q, uI_e, Nat.sub_self]; rfl
      · rw [(ih _ (n + 1) i).2 (by omega) (by omega), show i - n = (i - (n + 1)) + 1 by omega]; rfl
theorem bF_len : ∀ k, k < 7 → (gbF k).length ≤ 20 ∧ (tbF k).length ≤ 20 ∧ (ebF k).length ≤ 20 := by decide
/-- a body is run on both sides -/
theorem act_R (h : R I L w) {l : List Int32} (hl : l.length ≤ 20) : R (lgI (uI (lgI (uI I 12288 0 9 0) 41073 12288 9 0 l) 14944 0 71 0) 42289 14944 71 0 l) L w := by
  obtain ⟨h1, h2, h3, h4, h5, h6⟩ := h
  have f : ∀ t k j, ¬ (t = 41073 ∨ t = 42289 ∨ (t = 12288 ∧ j = 9) ∨ (t = 14944 ∧ j = 71)) → lgI (uI (lgI (uI I 12288 0 9 0) 41073 12288 9 0 l) 14944 0 71 0) 42289 14944 71 0 l t k j = I t k j := fun t k j q => by
    rw [lgI_f (by omega) (by omega)]
    unfold uI
    rw [if_neg (fun z => by omega), lgI_f (by omega) (by omega), if_neg (fun z => by omega)]
  refine ⟨RM_c (fun t j q => f _ _ _ (by have := CW_t q; omega)) (fun t j q => f _ _ _ (by unfold mcl at q; omega)) h1, RV_c (fun t j i q => f _ _ _ (by unfold tcl at q; omega)) (fun t j q => f _ _ _ (by have := CW_t q; omega)) (fun t j q => f _ _ _ (by unfold icl at q; omega)) (fun t j q => f _ _ _ (by omega)) rfl rfl h2, RX_c (fun i => ⟨f _ _ _ (by omega), f _ _ _ (by omega)⟩) (f _ _ _ (by omega)) (f _ _ _ (by omega)) h3, RT_c rfl (fun t k j q => f _ _ _ (by omega)) h4, ⟨l.length, hl, ?_, ?_, fun i hi => ?_⟩, fun i hi => (f _ _ _ (by omega)).trans (h6 i hi)⟩
  · rw [lgI_f (by omega) (by omega), uI_t (by omega)]
    exact (lgI_c (tb := 41073) (tc := 12288) (sl := 9) (n := 0) (by omega) (show uI I 12288 0 9 0 12288 0 9 = c 0 from uI_e) l).trans (by rw [Nat.zero_add])
  · exact (lgI_c (tb := 42289) (tc := 14944) (sl := 71) (n := 0) (by omega) (show uI (lgI (uI I 12288 0 9 0) 41073 12288 9 0 l) 14944 0 71 0 14944 0 71 = c 0 from uI_e) l).trans (by rw [Nat.zero_add])
  · rw [(lgI_v (by omega) l _ 0 i).2 (Nat.zero_le _) (by omega), lgI_f (by omega) (by omega), uI_t (by omega), (lgI_v (by omega) l _ 0 i).2 (Nat.zero_le _) (by omega)]
theorem sm89 (h : R I L w) : Sm I L w 89 196 [vI x, vI y, vI z] := by
  obtain ⟨nW, nT, dy, m, mk, nb, q⟩ := h.1
  obtain ⟨⟨a1, a2, a3⟩, ⟨b1, b2, b3, b4, b5, b6⟩, h3, h4, h5, h6, h7, h8⟩ := id q
  have hk : ∀ p, p < nW → ∃ k, k < 7 ∧ I 10481 0 p = c k := fun p hp => (h5 p hp).1
  have hk' : ∀ p, p < nW → ∃ k, k < 7 ∧ I 10865 0 p = c k := fun p hp => by
    obtain ⟨k, q1, q2⟩ := hk p hp
    exact ⟨k, q1, (show I 10865 0 p = I 10481 0 p from h3 10481 p (by unfold smC; omega)).trans q2⟩
  have E1 := s89 (d := 51) (I := I) (L := L) (w := w) (x := x) (y := y) (z := z) a1 b1 hk
  have E2 : ∀ l, dn 60 196 [vR 14944 0, vI x, vI y, vI z] (hp (lgI (uI I 12288 0 9 0) 41073 12288 9 0 l) L w) = _ := fun l => s196 (d := 51) (I := lgI (uI I 12288 0 9 0) 41073 12288 9 0 l) (L := L) (w := w) (x := x) (y := y) (z := z) a1 (by rw [lgI_f (by omega) (by omega), uI_t (by omega)]; exact b2) (fun p hp => by rw [lgI_f (by omega) (by omega), uI_t (by omega)]; exact hk' p hp)
  by_cases a : 0 ≤ x ∧ x < c nW
  · obtain ⟨p, hp', hp5, ex⟩ := of_5 a1 a
    obtain ⟨k, hk7, ek⟩ := hk p hp'
    have e1 : I 10865 0 p = I 10481 0 p := h3 10481 p (by unfold smC; omega)
    have e2 : I 10881 0 p = I 10497 0 p := h3 10497 p (by unfold smC; omega)
    have eix : ix x = p := by rw [ex, ix_c (by omega)]
    have eik : ix (I 10481 0 p) = k := by rw [ek, ix_c (by omega)]
    obtain ⟨l1, l2, l3⟩ := bF_len k hk7
    rw [if_pos a, eix, eik] at E1
    have E2' : ∀ l, dn 60 196 [vR 14944 0, vI x, vI y, vI z] (hp (lgI (uI I 12288 0 9 0) 41073 12288 9 0 l) L w) = _ := fun l => (E2 l).trans (by
      rw [if_pos a, eix, lgI_f (t := 10865) (by omega) (by omega), lgI_f (t := 10881) (by omega) (by omega), uI_t (t' := 10865) (by omega), uI_t (t' := 10881) (by omega), e1, e2, eik])
    by_cases y0 : y = 0
    · have G := E2' (gbF k)
      rw [if_pos y0] at E1 G
      exact ⟨_, _, L, w, _, L, E1, G, act_R h l1⟩
    · by_cases y1 : y = 1
      · have G := E2' (tbF k)
        rw [if_neg y0, if_pos y1] at E1 G
        exact ⟨_, _, L, w, _, L, E1, G, act_R h l2⟩
      · by_cases y2 : y = 2
        · have G := E2' (ebF k)
          rw [if_neg y0, if_neg y1, if_pos y2] at E1 G
          exact ⟨_, _, L, w, _, L, E1, G, act_R h l3⟩
        · have G := E2' []
          rw [if_neg y0, if_neg y1, if_neg y2] at E1 G
          exact ⟨_, _, L, w, _, L, E1, G, act_R (l := []) h (Nat.zero_le _)⟩
  · have G := E2 []
    rw [if_neg a] at E1 G
    exact ⟨_, _, L, w, _, L, E1, G, act_R (l := []) h (Nat.zero_le _)⟩
end P98t
