set_option maxHeartbeats 400000
section P98q
variable {I I' : FI} {L : FL} {w w' : Nat → Nat} {nW nT dy m mk nb nt m' : Nat} {x y z : Int32} {A B A' B' : Nat → Nat → Int32}
theorem RWn_see (hA : ∀ t j, CW t j → ¬ (t = 2416 ∨ t = 10625 ∨ t = 10641 ∨ t = 10657) → A' t j = A t j) (hB : ∀ t j, CW t j → ¬ (t = 2416 ∨ t = 10625 ∨ t = 10641 ∨ t = 10657) → B' t j = B t j) (hs : m' ≤ 5 ∧ A' 2416 0 = c m' ∧ B' 2416 0 = c m' ∧ ∀ i, i < m' → (∃ t, t < nT ∧ A' 10625 i = c t) ∧ (∃ n, n ≤ 20 ∧ A' 10657 i = c n) ∧ B' 10625 i = A' 10625 i ∧ B' 10641 i = A' 10641 i ∧ B' 10657 i = A' 10657 i) (h : RWn A B nW nT dy m mk nb) : RWn A' B' nW nT dy m' mk nb := by
  have h1 : RWn (fun t j => if t = 2416 ∨ t = 10625 ∨ t = 10641 ∨ t = 10657 then A t j else A' t j) (fun t j => if t = 2416 ∨ t = 10625 ∨ t = 10641 ∨ t = 10657 then B t j else B' t j) nW nT dy m mk nb := by
    refine RWn_c (fun t j q => ?_) (fun t j q => ?_) h
    · by_cases e : t = 2416 ∨ t = 10625 ∨ t = 10641 ∨ t = 10657
      · rw [if_pos e]
      · rw [if_neg e]; exact hA t j q e
    · by_cases e : t = 2416 ∨ t = 10625 ∨ t = 10641 ∨ t = 10657
      · rw [if_pos e]
      · rw [if_neg e]; exact hB t j q e
  obtain ⟨k1, k2, k3, k4, k5, -, k7, k8⟩ := h1
  obtain ⟨s1, s2, s3, s4, s5, s6, s7, s8⟩ := sm_un k3
  exact ⟨k1, k2, (sm_mk s1 s2 s3 s4 s5 s6 s7 s8), k4, k5, hs, k7, k8⟩
theorem RWn_wk (hA : ∀ t j, CW t j → ¬ (t = 2480 ∨ t = 20929 ∨ t = 20945 ∨ t = 20961) → A' t j = A t j) (hB : ∀ t j, CW t j → ¬ (t = 2480 ∨ t = 20929 ∨ t = 20945 ∨ t = 20961) → B' t j = B t j) (hs : m' ≤ 10 ∧ A' 2480 0 = c m' ∧ B' 2480 0 = c m' ∧ ∀ i, i < m' → B' 20929 i = A' 20929 i ∧ wkR nW nT (A' 20929 i) (A' 20945 i) (B' 20945 i)) (h : RWn A B nW nT dy m mk nb) : RWn A' B' nW nT dy m m' nb := by
  have h1 : RWn (fun t j => if t = 2480 ∨ t = 20929 ∨ t = 20945 ∨ t = 20961 then A t j else A' t j) (fun t j => if t = 2480 ∨ t = 20929 ∨ t = 20945 ∨ t = 20961 then B t j else B' t j) nW nT dy m mk nb := by
    refine RWn_c (fun t j q => ?_) (fun t j q => ?_) h
    · by_cases e : t = 2480 ∨ t = 20929 ∨ t = 20945 ∨ t = 20961
      · rw [if_pos e]
      · rw [if_neg e]; exact hA t j q e
    · by_cases e : t = 2480 ∨ t = 20929 ∨ t = 20945 ∨ t = 20961
      · rw [if_pos e]
      · rw [if_neg e]; exact hB t j q e
  obtain ⟨k1, k2, k3, k4, k5, k6, -, k8⟩ := h1
  obtain ⟨s1, s2, s3, s4, s5, s6, s7, s8⟩ := sm_un k3
  exact ⟨k1, k2, (sm_mk s1 s2 s3 s4 s5 s6 s7 s8), k4, k5, k6, hs, k8⟩
theorem RWn_bk (hA : ∀ t j, CW t j → ¬ (t = 2544 ∨ t = 16897 ∨ t = 16913 ∨ t = 16929) → A' t j = A t j) (hB : ∀ t j, CW t j → ¬ (t = 2544 ∨ t = 16897 ∨ t = 16913 ∨ t = 16929) → B' t j = B t j) (hs : m' ≤ 8 ∧ A' 2544 0 = c m' ∧ B' 2544 0 = c m' ∧ ∀ i, i < m' → (∃ t, t < nT ∧ A' 16897 i = c t) ∧ B' 16897 i = A' 16897 i ∧ B' 16913 i = A' 16913 i) (h : RWn A B nW nT dy m mk nb) : RWn A' B' nW nT dy m mk m' := by
  have h1 : RWn (fun t j => if t = 2544 ∨ t = 16897 ∨ t = 16913 ∨ t = 16929 then A t j else A' t j) (fun t j => if t = 2544 ∨ t = 16897 ∨ t = 16913 ∨ t = 16929 then B t j else B' t j) nW nT dy m mk nb := by
    refine RWn_c (fun t j q => ?_) (fun t j q => ?_) h
    · by_cases e : t = 2544 ∨ t = 16897 ∨ t = 16913 ∨ t = 16929
      · rw [if_pos e]
      · rw [if_neg e]; exact hA t j q e
    · by_cases e : t = 2544 ∨ t = 16897 ∨ t = 16913 ∨ t = 16929
      · rw [if_pos e]
      · rw [if_neg e]; exact hB t j q e
  obtain ⟨k1, k2, k3, k4, k5, k6, k7, -⟩ := h1
  obtain ⟨s1, s2, s3, s4, s5, s6, s7, s8⟩ := sm_un k3
  exact ⟨k1, k2, (sm_mk s1 s2 s3 s4 s5 s6 s7 s8), k4, k5, k6, k7, hs⟩
theorem sm75 (h : R I L w) : Sm I L w 75 170 [vI x, vI y, vI z] := by
  obtain ⟨nW, nT, dy, m, mk, nb, q⟩ := h.1
  obtain ⟨⟨a1, a2, a3⟩, ⟨b1, b2, b3, b4, b5, b6⟩, h3, h4, h5, ⟨d1, d2, d3, d4⟩, h7, h8⟩ := id q
  have E1 := s75 (d := 58) (I := I) (L := L) (w := w) (x := x) (y := y) (z := z) a2 b3 d1 d2
  have E2 := s170 (d := 57) (I := I) (L := L) (w := w) (x := x) (y := y) (z := z) a2 b4 d1 d3
  by_cases x1 : x = -1
  · rw [if_pos x1] at E1
    clear E2
    have E2 := s170 (d := 57) (I := uI I 2416 0 0 0) (L := L) (w := w) (x := x) (y := y) (z := z) a2 ((uI_t (by omega)).trans b4) d1 ((uI_t (by omega)).trans d3)
    rw [if_pos x1] at E2
    have hM : RM (uI (uI I 2416 0 0 0) 14944 0 38 0) := by
      refine ⟨nW, nT, dy, 0, mk, nb, RWn_see (A := fun t j => I t 0 j) (B := rvM I) (fun t j ht e => ?_) (fun t j ht e => ?_) ⟨by omega, ?_, ?_, fun i hi => absurd hi (by omega)⟩ q⟩
      · have := CW_k ht
        show uI (uI I 2416 0 0 0) 14944 0 38 0 t 0 j = I t 0 j
        rw [uI_t (by omega), uI_t (by omega)]
      · rw [rvs38, if_neg (by omega), rv_o (by unfold mcl; omega)]
      · show uI (uI I 2416 0 0 0) 14944 0 38 0 2416 0 0 = c 0
        rw [uI_t (by omega), uI_e]; rfl
      · rw [rvs38, if_pos rfl]; rfl
    exact ⟨_, _, L, w, _, L, E1, E2, R_core ((frX_u (Or.inl (by unfold wtag; omega))).tr (frX_u (Or.inr (by unfold mcl; omega)))) hM h⟩

  · rw [if_neg x1] at E1 E2
    by_cases a : 0 ≤ x ∧ x < c nT
    · rw [if_pos a] at E1 E2
      by_cases b : (0 ≤ y ∧ y ≤ 999) ∧ (0 ≤ z ∧ z ≤ 20)
      · rw [if_pos b] at E1 E2
        by_cases e : m < 5
        · rw [if_pos e] at E1 E2
          clear E2
          have g : ∀ t k j, t ≠ 10625 → t ≠ 10641 → t ≠ 10657 → t ≠ 2416 → nra I 0 m x y z t k j = I t k j := fun t k j q1 q2 q3 q4 => by
            unfold nra
            rw [uI_t q4, uI_t q3, uI_t q2, uI_t q1]
          have E2 := s170 (d := 57) (I := nra I 0 m x y z) (L := L) (w := w) (x := x) (y := y) (z := z) a2 ((g _ _ _ (by omega) (by omega) (by omega) (by omega)).trans b4) d1 ((g _ _ _ (by omega) (by omega) (by omega) (by omega)).trans d3)
          rw [if_neg x1, if_pos a, if_pos b, if_pos e] at E2
          obtain ⟨t, ht, ht6, et⟩ := of_6 a2 a
          obtain ⟨n, hn, en⟩ := of_c (x := z) (n := 21) b.2.1 (by omega) (by have := b.2.2; show z < 21; grind)
          have gM : ∀ t k j, t ≠ 11233 → t ≠ 11249 → t ≠ 11265 → t ≠ 14944 → nsM (nra I 0 m x y z) m x y z t k j = nra I 0 m x y z t k j := fun t k j q1 q2 q3 q4 => by
            unfold nsM
            rw [uI_t q4, uI_t q3, uI_t q2, uI_t q1]
          have rD : rvM (nra I 0 m x y z) = rvM I := by
            unfold nra
            rw [rv_o (by unfold mcl; omega), rv_o (by unfold mcl; omega), rv_o (by unfold mcl; omega), rv_o (by unfold mcl; omega)]
          have rv1 : ∀ j, rvM (nsM (nra I 0 m x y z) m x y z) 10625 j = if j = m then x else rvM I 10625 j := fun j => by
            unfold nsM
            rw [rvs38, if_neg (by omega), rv11265, if_neg (by omega), rv11249, if_neg (by omega), rv11233, rD]
            by_cases e : j = m
            · rw [if_pos ⟨rfl, e⟩, if_pos e]
            · rw [if_neg (fun z => e z.2), if_neg e]
          have rv2 : ∀ j, rvM (nsM (nra I 0 m x y z) m x y z) 10641 j = if j = m then y else rvM I 10641 j := fun j => by
            unfold nsM
            rw [rvs38, if_neg (by omega), rv11265, if_neg (by omega), rv11249]
            by_cases e : j = m
            · rw [if_pos ⟨rfl, e⟩, if_pos e]
            · rw [if_neg (fun z => e z.2), if_neg e, rv11233, if_neg (by omega), rD]
          have rv3 : ∀ j, rvM (nsM (nra I 0 m x y z) m x y z) 10657 j = if j = m then z else rvM I 10657 j := fun j => by
            unfold nsM
            rw [rvs38, if_neg (by omega), rv11265]
            by_cases e : j = m
            · rw [if_pos ⟨rfl, e⟩, if_pos e]
            · rw [if_neg (fun z => e z.2), if_neg e, rv11249, if_neg (by omega), rv11233, if_neg (by omega), rD]
          have cv1 : ∀ j, nsM (nra I 0 m x y z) m x y z 10625 0 j = if j = m then x else I 10625 0 j := fun j => by
            rw [gM _ _ _ (by omega) (by omega) (by omega) (by omega)]
            unfold nra
            rw [uI_t (by omega), uI_t (by omega), uI_t (by omega)]
            by_cases e : j = m
            · rw [if_pos e, e, uI_e]
            · rw [if_neg e, uI_j e]
          have cv2 : ∀ j, nsM (nra I 0 m x y z) m x y z 10641 0 j = if j = m then y else I 10641 0 j := fun j => by
            rw [gM _ _ _ (by omega) (by omega) (by omega) (by omega)]
            unfold nra
            rw [uI_t (by omega), uI_t (by omega)]
            by_cases e : j = m
            · rw [if_pos e, e, uI_e]
            · rw [if_neg e, uI_j e, uI_t (by omega)]
          have cv3 : ∀ j, nsM (nra I 0 m x y z) m x y z 10657 0 j = if j = m then z else I 10657 0 j := fun j => by
            rw [gM _ _ _ (by omega) (by omega) (by omega) (by omega)]
            unfold nra
            rw [uI_t (by omega)]
            by_cases e : j = m
            · rw [if_pos e, e, uI_e]
            · rw [if_neg e, uI_j e, uI_t (by omega), uI_t (by omega)]
          have hM : RM (nsM (nra I 0 m x y z) m x y z) := by
            refine ⟨nW, nT, dy, m + 1, mk, nb, RWn_see (A := fun t j => I t 0 j) (B := rvM I) (fun t j ht e => ?_) (fun t j ht e => ?_) ⟨by omega, ?_, ?_, fun i hi => ?_⟩ q⟩
            · have := CW_t ht
              exact (gM t 0 j (by omega) (by omega) (by omega) (by omega)).trans (g t 0 j (by omega) (by omega) (by omega) (by omega))
            · unfold nsM
              rw [rvs38, if_neg (by omega), rv11265, if_neg (by omega), rv11249, if_neg (by omega), rv11233, if_neg (by omega), rD]
            · show nsM (nra I 0 m x y z) m x y z 2416 0 0 = _
              rw [gM _ _ _ (by omega) (by omega) (by omega) (by omega)]
              unfold nra
              rw [uI_e]
            · unfold nsM
              rw [rvs38, if_pos rfl]
            · show (∃ t, t < nT ∧ nsM (nra I 0 m x y z) m x y z 10625 0 i = c t) ∧ (∃ n, n ≤ 20 ∧ nsM (nra I 0 m x y z) m x y z 10657 0 i = c n) ∧ rvM (nsM (nra I 0 m x y z) m x y z) 10625 i = nsM (nra I 0 m x y z) m x y z 10625 0 i ∧ rvM (nsM (nra I 0 m x y z) m x y z) 10641 i = nsM (nra I 0 m x y z) m x y z 10641 0 i ∧ rvM (nsM (nra I 0 m x y z) m x y z) 10657 i = nsM (nra I 0 m x y z) m x y z 10657 0 i
              rw [cv1, cv2, cv3, rv1, rv2, rv3]
              by_cases e : i = m
              · rw [if_pos e, if_pos e, if_pos e, if_pos e, if_pos e, if_pos e]
                exact ⟨⟨t, ht, et⟩, ⟨n, by omega, en⟩, rfl, rfl, rfl⟩
              · rw [if_neg e, if_neg e, if_neg e, if_neg e, if_neg e, if_neg e]
                exact d4 i (by omega)
          have f1 : frX I (nra I 0 m x y z) := (((frX_u (Or.inl (by unfold wtag; omega))).tr (frX_u (Or.inl (by unfold wtag; omega)))).tr (frX_u (Or.inl (by unfold wtag; omega)))).tr (frX_u (Or.inl (by unfold wtag; omega)))
          have f2 : frX (nra I 0 m x y z) (nsM (nra I 0 m x y z) m x y z) := (((frX_u (Or.inr (by unfold mcl; omega))).tr (frX_u (Or.inr (by unfold mcl; omega)))).tr (frX_u (Or.inr (by unfold mcl; omega)))).tr (frX_u (Or.inr (by unfold mcl; omega)))
          exact ⟨_, _, L, w, _, L, E1, E2, R_core (f1.tr f2) hM h⟩
        · rw [if_neg e] at E1 E2
          exact sm_no h E1 E2
      · rw [if_neg b] at E1 E2
        exact sm_no h E1 E2
    · rw [if_neg a] at E1 E2
      exact sm_no h E1 E2
end P98q
