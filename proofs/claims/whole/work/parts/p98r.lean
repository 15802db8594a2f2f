set_option maxHeartbeats 400000
section P98r
variable {I I' : FI} {L : FL} {w w' : Nat → Nat} {nW nT dy m mk nb nt m' : Nat} {x y z : Int32} {A B A' B' : Nat → Nat → Int32}
theorem sm82 (h : R I L w) : Sm I L w 82 180 [vI x, vI y] := by
  obtain ⟨nW, nT, dy, m, mk, nb, q⟩ := h.1
  obtain ⟨⟨a1, a2, a3⟩, ⟨b1, b2, b3, b4, b5, b6⟩, h3, h4, h5, h6, ⟨d1, d2, d3, d4⟩, h8⟩ := id q
  have E1 := s82 (d := 58) (I := I) (L := L) (w := w) (x := x) (y := y) b1 b3 d1 d2
  have E2 := s180 (d := 57) (I := I) (L := L) (w := w) (x := x) (y := y) a1 a2 b2 b4 d1 d3
  by_cases x1 : x = -1
  · clear E2
    have E2 := s180 (d := 57) (I := uI I 2480 0 0 0) (L := L) (w := w) (x := x) (y := y) a1 a2 ((uI_t (by omega)).trans b2) ((uI_t (by omega)).trans b4) d1 ((uI_t (by omega)).trans d3)
    unfold wkF at E1 E2
    rw [if_pos x1] at E1 E2
    have hM : RM (uI (uI I 2480 0 0 0) 14944 0 42 0) := by
      refine ⟨nW, nT, dy, m, 0, nb, RWn_wk (A := fun t j => I t 0 j) (B := rvM I) (fun t j ht e => ?_) (fun t j ht e => ?_) ⟨by omega, ?_, ?_, fun i hi => absurd hi (by omega)⟩ q⟩
      · have := CW_k ht
        show uI (uI I 2480 0 0 0) 14944 0 42 0 t 0 j = I t 0 j
        rw [uI_t (by omega), uI_t (by omega)]
      · rw [rvs42, if_neg (by omega), rv_o (by unfold mcl; omega)]
      · show uI (uI I 2480 0 0 0) 14944 0 42 0 2480 0 0 = c 0
        rw [uI_t (by omega), uI_e]; rfl
      · rw [rvs42, if_pos rfl]; rfl
    exact ⟨_, _, L, w, _, L, E1, E2, R_core ((frX_u (Or.inl (by unfold wtag; omega))).tr (frX_u (Or.inr (by unfold mcl; omega)))) hM h⟩

  · unfold wkF at E1 E2
    rw [if_neg x1] at E1 E2
    by_cases x2 : x < 0
    · rw [if_pos x2] at E1 E2
      exact sm_no h E1 E2
    rw [if_neg x2] at E1 E2
    by_cases x3 : 3 < x
    · rw [if_pos x3] at E1 E2
      exact sm_no h E1 E2
    rw [if_neg x3] at E1 E2
    by_cases y1 : x = 1 ∧ ¬ (0 ≤ y ∧ y < c nW)
    · rw [if_pos y1] at E1 E2
      exact sm_no h E1 E2
    rw [if_neg y1] at E1 E2
    by_cases y2 : x = 2 ∧ ¬ (0 ≤ y ∧ y < c nT)
    · rw [if_pos y2] at E1 E2
      exact sm_no h E1 E2
    rw [if_neg y2] at E1 E2
    by_cases y3 : x = 3 ∧ ¬ (0 ≤ y ∧ y ≤ 99)
    · rw [if_pos y3] at E1 E2
      exact sm_no h E1 E2
    rw [if_neg y3] at E1 E2
    by_cases e : mk < 10
    · rw [if_pos e] at E1 E2
      clear E2
      have g : ∀ t k j, t ≠ 20929 → t ≠ 20945 → t ≠ 20961 → t ≠ 2480 → nrb I 0 mk x y 0 t k j = I t k j := fun t k j q1 q2 q3 q4 => by
        unfold nrb
        rw [uI_t q4, uI_t q3, uI_t q2, uI_t q1]
      have E2 := s180 (d := 57) (I := nrb I 0 mk x y 0) (L := L) (w := w) (x := x) (y := y) a1 a2 ((g _ _ _ (by omega) (by omega) (by omega) (by omega)).trans b2) ((g _ _ _ (by omega) (by omega) (by omega) (by omega)).trans b4) d1 ((g _ _ _ (by omega) (by omega) (by omega) (by omega)).trans d3)
      unfold wkF at E2
      rw [if_neg x1, if_neg x2, if_neg x3, if_neg y1, if_neg y2, if_neg y3, if_pos e] at E2
      have hw : wkR nW nT x y (if 0 < x then y else 0) := by
        obtain ⟨k, hk, ek⟩ := of_c (x := x) (n := 4) (by grind) (by omega) (by show x < 4; grind)
        have hk4 : k = 0 ∨ k = 1 ∨ k = 2 ∨ k = 3 := by omega
        rcases hk4 with rfl | rfl | rfl | rfl
        · exact Or.inl ek
        · have ek : x = 1 := ek
          have hy : 0 ≤ y ∧ y < c nW := Classical.byContradiction (fun z => y1 ⟨ek, z⟩)
          obtain ⟨p, hp', -, ep⟩ := of_5 a1 hy
          exact Or.inr (Or.inl ⟨ek, by rw [ek, if_pos (by decide)], p, hp', ep⟩)
        · have ek : x = 2 := ek
          have hy : 0 ≤ y ∧ y < c nT := Classical.byContradiction (fun z => y2 ⟨ek, z⟩)
          obtain ⟨p, hp', -, ep⟩ := of_6 a2 hy
          exact Or.inr (Or.inr (Or.inl ⟨ek, by rw [ek, if_pos (by decide)], p, hp', ep⟩))
        · have ek : x = 3 := ek
          have hy : 0 ≤ y ∧ y ≤ 99 := Classical.byContradiction (fun z => y3 ⟨ek, z⟩)
          obtain ⟨p, hp', ep⟩ := of_c (x := y) (n := 100) hy.1 (by omega) (by have := hy.2; show y < 100; grind)
          exact Or.inr (Or.inr (Or.inr ⟨ek, by rw [ek, if_pos (by decide)], p, hp', ep⟩))
      generalize hY : (if 0 < x then y else 0) = y' at hw
      have gM : ∀ t k j, t ≠ 21521 → t ≠ 21537 → t ≠ 14944 → nkM (nrb I 0 mk x y 0) mk x y t k j = nrb I 0 mk x y 0 t k j := fun t k j q1 q2 q4 => by
        unfold nkM
        rw [uI_t q4, uI_t q2, uI_t q1]
      have rD : rvM (nrb I 0 mk x y 0) = rvM I := by
        unfold nrb
        rw [rv_o (by unfold mcl; omega), rv_o (by unfold mcl; omega), rv_o (by unfold mcl; omega), rv_o (by unfold mcl; omega)]
      have rv1 : ∀ j, rvM (nkM (nrb I 0 mk x y 0) mk x y) 20929 j = if j = mk then x else rvM I 20929 j := fun j => by
        unfold nkM
        rw [rvs42, if_neg (by omega), rv21537, if_neg (by omega), rv21521, rD]
        by_cases e : j = mk
        · rw [if_pos ⟨rfl, e⟩, if_pos e]
        · rw [if_neg (fun z => e z.2), if_neg e]
      have rv2 : ∀ j, rvM (nkM (nrb I 0 mk x y 0) mk x y) 20945 j = if j = mk then y' else rvM I 20945 j := fun j => by
        unfold nkM
        rw [rvs42, if_neg (by omega), rv21537, hY]
        by_cases e : j = mk
        · rw [if_pos ⟨rfl, e⟩, if_pos e]
        · rw [if_neg (fun z => e z.2), if_neg e, rv21521, if_neg (by omega), rD]
      have cv1 : ∀ j, nkM (nrb I 0 mk x y 0) mk x y 20929 0 j = if j = mk then x else I 20929 0 j := fun j => by
        rw [gM _ _ _ (by omega) (by omega) (by omega)]
        unfold nrb
        rw [uI_t (by omega), uI_t (by omega), uI_t (by omega)]
        by_cases e : j = mk
        · rw [if_pos e, e, uI_e]
        · rw [if_neg e, uI_j e]
      have cv2 : ∀ j, nkM (nrb I 0 mk x y 0) mk x y 20945 0 j = if j = mk then y else I 20945 0 j := fun j => by
        rw [gM _ _ _ (by omega) (by omega) (by omega)]
        unfold nrb
        rw [uI_t (by omega), uI_t (by omega)]
        by_cases e : j = mk
        · rw [if_pos e, e, uI_e]
        · rw [if_neg e, uI_j e, uI_t (by omega)]
      have hM : RM (nkM (nrb I 0 mk x y 0) mk x y) := by
        refine ⟨nW, nT, dy, m, mk + 1, nb, RWn_wk (A := fun t j => I t 0 j) (B := rvM I) (fun t j ht e => ?_) (fun t j ht e => ?_) ⟨by omega, ?_, ?_, fun i hi => ?_⟩ q⟩
        · have := CW_t ht
          exact (gM t 0 j (by omega) (by omega) (by omega)).trans (g t 0 j (by omega) (by omega) (by omega) (by omega))
        · unfold nkM
          rw [rvs42, if_neg (by omega), rv21537, if_neg (by omega), rv21521, if_neg (by omega), rD]
        · show nkM (nrb I 0 mk x y 0) mk x y 2480 0 0 = _
          rw [gM _ _ _ (by omega) (by omega) (by omega)]
          unfold nrb
          rw [uI_e]
        · unfold nkM
          rw [rvs42, if_pos rfl]
        · show rvM (nkM (nrb I 0 mk x y 0) mk x y) 20929 i = nkM (nrb I 0 mk x y 0) mk x y 20929 0 i ∧ wkR nW nT (nkM (nrb I 0 mk x y 0) mk x y 20929 0 i) (nkM (nrb I 0 mk x y 0) mk x y 20945 0 i) (rvM (nkM (nrb I 0 mk x y 0) mk x y) 20945 i)
          rw [cv1, cv2, rv1, rv2]
          by_cases e : i = mk
          · rw [if_pos e, if_pos e, if_pos e, if_pos e]
            exact ⟨rfl, hw⟩
          · rw [if_neg e, if_neg e, if_neg e, if_neg e]
            exact d4 i (by omega)
      have f1 : frX I (nrb I 0 mk x y 0) := (((frX_u (Or.inl (by unfold wtag; omega))).tr (frX_u (Or.inl (by unfold wtag; omega)))).tr (frX_u (Or.inl (by unfold wtag; omega)))).tr (frX_u (Or.inl (by unfold wtag; omega)))
      have f2 : frX (nrb I 0 mk x y 0) (nkM (nrb I 0 mk x y 0) mk x y) := ((frX_u (Or.inr (by unfold mcl; omega))).tr (frX_u (Or.inr (by unfold mcl; omega)))).tr (frX_u (Or.inr (by unfold mcl; omega)))
      exact ⟨_, _, L, w, _, L, E1, E2, R_core (f1.tr f2) hM h⟩
    · rw [if_neg e] at E1 E2
      exact sm_no h E1 E2
theorem sm84 (h : R I L w) : Sm I L w 84 183 [vI x, vI y] := by
  obtain ⟨nW, nT, dy, m, mk, nb, q⟩ := h.1
  obtain ⟨⟨a1, a2, a3⟩, ⟨b1, b2, b3, b4, b5, b6⟩, h3, h4, h5, h6, h7, d1, d2, d3, d4⟩ := id q
  have E1 := s84 (d := 58) (I := I) (L := L) (w := w) (x := x) (y := y) a2 b3 d1 d2
  have E2 := s183 (d := 57) (I := I) (L := L) (w := w) (x := x) (y := y) a2 b4 d1 d3
  by_cases x1 : x = -1
  · rw [if_pos x1] at E1
    clear E2
    have E2 := s183 (d := 57) (I := uI I 2544 0 0 0) (L := L) (w := w) (x := x) (y := y) a2 ((uI_t (by omega)).trans b4) d1 ((uI_t (by omega)).trans d3)
    rw [if_pos x1] at E2
    have hM : RM (uI (uI I 2544 0 0 0) 14944 0 43 0) := by
      refine ⟨nW, nT, dy, m, mk, 0, RWn_bk (A := fun t j => I t 0 j) (B := rvM I) (fun t j ht e => ?_) (fun t j ht e => ?_) ⟨by omega, ?_, ?_, fun i hi => absurd hi (by omega)⟩ q⟩
      · have := CW_k ht
        show uI (uI I 2544 0 0 0) 14944 0 43 0 t 0 j = I t 0 j
        rw [uI_t (by omega), uI_t (by omega)]
      · rw [rvs43, if_neg (by omega), rv_o (by unfold mcl; omega)]
      · show uI (uI I 2544 0 0 0) 14944 0 43 0 2544 0 0 = c 0
        rw [uI_t (by omega), uI_e]; rfl
      · rw [rvs43, if_pos rfl]; rfl
    exact ⟨_, _, L, w, _, L, E1, E2, R_core ((frX_u (Or.inl (by unfold wtag; omega))).tr (frX_u (Or.inr (by unfold mcl; omega)))) hM h⟩

  · rw [if_neg x1] at E1 E2
    by_cases a : 0 ≤ x ∧ x < c nT
    · rw [if_pos a] at E1 E2
      by_cases b : 0 ≤ y ∧ y ≤ 999
      · rw [if_pos b] at E1 E2
        by_cases e : nb < 8
        · rw [if_pos e] at E1 E2
          clear E2
          have g : ∀ t k j, t ≠ 16897 → t ≠ 16913 → t ≠ 16929 → t ≠ 2544 → nrc I 0 nb x y 0 t k j = I t k j := fun t k j q1 q2 q3 q4 => by
            unfold nrc
            rw [uI_t q4, uI_t q3, uI_t q2, uI_t q1]
          have E2 := s183 (d := 57) (I := nrc I 0 nb x y 0) (L := L) (w := w) (x := x) (y := y) a2 ((g _ _ _ (by omega) (by omega) (by omega) (by omega)).trans b4) d1 ((g _ _ _ (by omega) (by omega) (by omega) (by omega)).trans d3)
          rw [if_neg x1, if_pos a, if_pos b, if_pos e] at E2
          obtain ⟨t, ht, ht6, et⟩ := of_6 a2 a
          have gM : ∀ t k j, t ≠ 17457 → t ≠ 17473 → t ≠ 14944 → nbM (nrc I 0 nb x y 0) nb x y t k j = nrc I 0 nb x y 0 t k j := fun t k j q1 q2 q4 => by
            unfold nbM
            rw [uI_t q4, uI_t q2, uI_t q1]
          have rD : rvM (nrc I 0 nb x y 0) = rvM I := by
            unfold nrc
            rw [rv_o (by unfold mcl; omega), rv_o (by unfold mcl; omega), rv_o (by unfold mcl; omega), rv_o (by unfold mcl; omega)]
          have rv1 : ∀ j, rvM (nbM (nrc I 0 nb x y 0) nb x y) 16897 j = if j = nb then x else rvM I 16897 j := fun j => by
            unfold nbM
            rw [rvs43, if_neg (by omega), rv17473, if_neg (by omega), rv17457, rD]
            by_cases e : j = nb
            · rw [if_pos ⟨rfl, e⟩, if_pos e]
            · rw [if_neg (fun z => e z.2), if_neg e]
          have rv2 : ∀ j, rvM (nbM (nrc I 0 nb x y 0) nb x y) 16913 j = if j = nb then y else rvM I 16913 j := fun j => by
            unfold nbM
            rw [rvs43, if_neg (by omega), rv17473]
            by_cases e : j = nb
            · rw [if_pos ⟨rfl, e⟩, if_pos e]
            · rw [if_neg (fun z => e z.2), if_neg e, rv17457, if_neg (by omega), rD]
          have cv1 : ∀ j, nbM (nrc I 0 nb x y 0) nb x y 16897 0 j = if j = nb then x else I 16897 0 j := fun j => by
            rw [gM _ _ _ (by omega) (by omega) (by omega)]
            unfold nrc
            rw [uI_t (by omega), uI_t (by omega), uI_t (by omega)]
            by_cases e : j = nb
            · rw [if_pos e, e, uI_e]
            · rw [if_neg e, uI_j e]
          have cv2 : ∀ j, nbM (nrc I 0 nb x y 0) nb x y 16913 0 j = if j = nb then y else I 16913 0 j := fun j => by
            rw [gM _ _ _ (by omega) (by omega) (by omega)]
            unfold nrc
            rw [uI_t (by omega), uI_t (by omega)]
            by_cases e : j = nb
            · rw [if_pos e, e, uI_e]
            · rw [if_neg e, uI_j e, uI_t (by omega)]
          have hM : RM (nbM (nrc I 0 nb x y 0) nb x y) := by
            refine ⟨nW, nT, dy, m, mk, nb + 1, RWn_bk (A := fun t j => I t 0 j) (B := rvM I) (fun t j ht e => ?_) (fun t j ht e => ?_) ⟨by omega, ?_, ?_, fun i hi => ?_⟩ q⟩
            · have := CW_t ht
              exact (gM t 0 j (by omega) (by omega) (by omega)).trans (g t 0 j (by omega) (by omega) (by omega) (by omega))
            · unfold nbM
              rw [rvs43, if_neg (by omega), rv17473, if_neg (by omega), rv17457, if_neg (by omega), rD]
            · show nbM (nrc I 0 nb x y 0) nb x y 2544 0 0 = _
              rw [gM _ _ _ (by omega) (by omega) (by omega)]
              unfold nrc
              rw [uI_e]
            · unfold nbM
              rw [rvs43, if_pos rfl]
            · show (∃ t, t < nT ∧ nbM (nrc I 0 nb x y 0) nb x y 16897 0 i = c t) ∧ rvM (nbM (nrc I 0 nb x y 0) nb x y) 16897 i = nbM (nrc I 0 nb x y 0) nb x y 16897 0 i ∧ rvM (nbM (nrc I 0 nb x y 0) nb x y) 16913 i = nbM (nrc I 0 nb x y 0) nb x y 16913 0 i
              rw [cv1, cv2, rv1, rv2]
              by_cases e : i = nb
              · rw [if_pos e, if_pos e, if_pos e, if_pos e]
                exact ⟨⟨t, ht, et⟩, rfl, rfl⟩
              · rw [if_neg e, if_neg e, if_neg e, if_neg e]
                exact d4 i (by omega)
          have f1 : frX I (nrc I 0 nb x y 0) := (((frX_u (Or.inl (by unfold wtag; omega))).tr (frX_u (Or.inl (by unfold wtag; omega)))).tr (frX_u (Or.inl (by unfold wtag; omega)))).tr (frX_u (Or.inl (by unfold wtag; omega)))
          have f2 : frX (nrc I 0 nb x y 0) (nbM (nrc I 0 nb x y 0) nb x y) := ((frX_u (Or.inr (by unfold mcl; omega))).tr (frX_u (Or.inr (by unfold mcl; omega)))).tr (frX_u (Or.inr (by unfold mcl; omega)))
          exact ⟨_, _, L, w, _, L, E1, E2, R_core (f1.tr f2) hM h⟩
        · rw [if_neg e] at E1 E2
          exact sm_no h E1 E2
      · rw [if_neg b] at E1 E2
        exact sm_no h E1 E2
    · rw [if_neg a] at E1 E2
      exact sm_no h E1 E2
end P98r
