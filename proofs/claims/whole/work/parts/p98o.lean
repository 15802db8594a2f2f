set_option maxHeartbeats 400000
section P98o
variable {I I' : FI} {L : FL} {w w' : Nat → Nat} {nW nT dy m mk nb nt : Nat} {x y z : Int32}
theorem wkR_l {nW' nT' : Nat} {a b b' : Int32} (h : wkR nW nT a b b') (h1 : nW ≤ nW') (h2 : nT ≤ nT') : wkR nW' nT' a b b' := by
  rcases h with h | ⟨e1, e2, p, hp, e3⟩ | ⟨e1, e2, t, ht, e3⟩ | h
  · exact Or.inl h
  · exact Or.inr (Or.inl ⟨e1, e2, p, by omega, e3⟩)
  · exact Or.inr (Or.inr (Or.inl ⟨e1, e2, t, by omega, e3⟩))
  · exact Or.inr (Or.inr (Or.inr h))
/-- one thing more -/
theorem RWn_th {A B A' B' : Nat → Nat → Int32} (hA : ∀ t j, CW t j → ¬ ((t = 12609 ∨ t = 12625 ∨ t = 12641) ∧ j = nT) → ¬ (t = 10464 ∧ j = 6) → A' t j = A t j) (hB : ∀ t j, CW t j → ¬ ((t = 12609 ∨ t = 12625 ∨ t = 12641) ∧ j = nT) → ¬ (t = 10464 ∧ j = 6) → B' t j = B t j) (h1 : A' 10464 6 = c (nT + 1)) (h2 : B' 10464 6 = c (nT + 1)) (g1 : B' 12609 nT = A' 12609 nT) (g2 : B' 12625 nT = A' 12625 nT) (g3 : B' 12641 nT = A' 12641 nT) (g4 : A' 12625 nT = -5 ∨ ∃ p, p < nW ∧ A' 12625 nT = c p) (hn : nT < 6) (h : RWn A B nW nT dy m mk nb) : RWn A' B' nW (nT + 1) dy m mk nb := by
  obtain ⟨⟨a1, a2, a3⟩, ⟨b1, b2, b3, b4, b5, b6⟩, h3, h4, h5, ⟨d1, d2, d3, d4⟩, ⟨e1, e2, e3, e4⟩, f1, f2, f3, f4⟩ := h
  have c1 := CW10464_0 (j := 0) rfl
  have c3 := CW10464_10 (j := 10) rfl
  have kA : ∀ t j, CW t j → (t ≠ 12609 ∧ t ≠ 12625 ∧ t ≠ 12641 ∧ t ≠ 10464) → A' t j = A t j := fun t j q z => hA t j q (by omega) (by omega)
  have kB : ∀ t j, CW t j → (t ≠ 12609 ∧ t ≠ 12625 ∧ t ≠ 12641 ∧ t ≠ 10464) → B' t j = B t j := fun t j q z => hB t j q (by omega) (by omega)
  refine ⟨⟨a1, by omega, a3⟩, ⟨(hA _ _ c1 (by omega) (by omega)).trans b1, (hB _ _ c1 (by omega) (by omega)).trans b2, h1, h2, (hA _ _ c3 (by omega) (by omega)).trans b5, (hB _ _ c3 (by omega) (by omega)).trans b6⟩, fun t j ht => ?_, fun t ht => ?_, fun p hp => ?_, ⟨d1, (kA _ _ (CW2416 rfl) (by omega)).trans d2, (kB _ _ (CW2416 rfl) (by omega)).trans d3, fun i hi => ?_⟩, ⟨e1, (kA _ _ (CW2480 rfl) (by omega)).trans e2, (kB _ _ (CW2480 rfl) (by omega)).trans e3, fun i hi => ?_⟩, f1, (kA _ _ (CW2544 rfl) (by omega)).trans f2, (kB _ _ (CW2544 rfl) (by omega)).trans f3, fun i hi => ?_⟩
  · by_cases e : (t = 12609 ∨ t = 12625 ∨ t = 12641) ∧ j = nT
    · obtain ⟨q | q | q, q2⟩ := e
      · rw [q, q2]; exact g1
      · rw [q, q2]; exact g2
      · rw [q, q2]; exact g3
    · have e2 : ¬ (t = 10464 ∧ j = 6) := fun z => by unfold smC at ht; omega
      rw [hA _ _ (smC_W ht) e e2, hB _ _ (smC_W ht) e e2]; exact h3 t j ht
  · by_cases e : t = nT
    · rw [e]; exact g4
    · rw [hA _ _ (CW12625 (by omega)) (by omega) (by omega)]; exact h4 t (by omega)
  · rw [kA _ _ (CW10481 (by omega)) (by omega), kA _ _ (CW10497 (by omega)) (by omega), kA _ _ (CW10513 (by omega)) (by omega)]; exact h5 p hp
  · rw [kA _ _ (CW10625 (by omega)) (by omega), kA _ _ (CW10641 (by omega)) (by omega), kA _ _ (CW10657 (by omega)) (by omega), kB _ _ (CW10625 (by omega)) (by omega), kB _ _ (CW10641 (by omega)) (by omega), kB _ _ (CW10657 (by omega)) (by omega)]
    obtain ⟨⟨t, ht, q1⟩, q2⟩ := d4 i hi
    exact ⟨⟨t, by omega, q1⟩, q2⟩
  · rw [kA _ _ (CW20929 (by omega)) (by omega), kA _ _ (CW20945 (by omega)) (by omega), kB _ _ (CW20929 (by omega)) (by omega), kB _ _ (CW20945 (by omega)) (by omega)]
    exact ⟨(e4 i hi).1, wkR_l (e4 i hi).2 (Nat.le_refl _) (by omega)⟩
  · rw [kA _ _ (CW16897 (by omega)) (by omega), kA _ _ (CW16913 (by omega)) (by omega), kB _ _ (CW16897 (by omega)) (by omega), kB _ _ (CW16913 (by omega)) (by omega)]
    obtain ⟨⟨t, ht, q1⟩, q2⟩ := f4 i hi
    exact ⟨⟨t, by omega, q1⟩, q2⟩
/-! the reference's cells, told -/
theorem rv10865 {n t j : Nat} {v : Int32} : rvM (uI I 10865 0 n v) t j = if t = 10481 ∧ j = n then v else rvM I t j := by
  by_cases e : t = 10481
  · subst e
    show uI I 10865 0 n v 10865 0 j = if 10481 = 10481 ∧ j = n then v else I 10865 0 j
    by_cases q : j = n
    · rw [if_pos ⟨rfl, q⟩, q, uI_e]
    · rw [if_neg (fun z => q z.2), uI_j q]
  · rw [if_neg (fun z => e z.1)]
    unfold rvM
    simp only [if_neg e]
    repeat rw [uI_t (by omega)]
theorem rv10881 {n t j : Nat} {v : Int32} : rvM (uI I 10881 0 n v) t j = if t = 10497 ∧ j = n then v else rvM I t j := by
  by_cases e : t = 10497
  · subst e
    show uI I 10881 0 n v 10881 0 j = if 10497 = 10497 ∧ j = n then v else I 10881 0 j
    by_cases q : j = n
    · rw [if_pos ⟨rfl, q⟩, q, uI_e]
    · rw [if_neg (fun z => q z.2), uI_j q]
  · rw [if_neg (fun z => e z.1)]
    unfold rvM
    simp only [if_neg e]
    repeat rw [uI_t (by omega)]
theorem rv10897 {n t j : Nat} {v : Int32} : rvM (uI I 10897 0 n v) t j = if t = 10513 ∧ j = n then v else rvM I t j := by
  by_cases e : t = 10513
  · subst e
    show uI I 10897 0 n v 10897 0 j = if 10513 = 10513 ∧ j = n then v else I 10897 0 j
    by_cases q : j = n
    · rw [if_pos ⟨rfl, q⟩, q, uI_e]
    · rw [if_neg (fun z => q z.2), uI_j q]
  · rw [if_neg (fun z => e z.1)]
    unfold rvM
    simp only [if_neg e]
    repeat rw [uI_t (by omega)]
theorem rv41633 {n t j : Nat} {v : Int32} : rvM (uI I 41633 0 n v) t j = if t = 41265 ∧ j = n then v else rvM I t j := by
  by_cases e : t = 41265
  · subst e
    show uI I 41633 0 n v 41633 0 j = if 41265 = 41265 ∧ j = n then v else I 41633 0 j
    by_cases q : j = n
    · rw [if_pos ⟨rfl, q⟩, q, uI_e]
    · rw [if_neg (fun z => q z.2), uI_j q]
  · rw [if_neg (fun z => e z.1)]
    unfold rvM
    simp only [if_neg e]
    repeat rw [uI_t (by omega)]
theorem rv12977 {n t j : Nat} {v : Int32} : rvM (uI I 12977 0 n v) t j = if t = 12609 ∧ j = n then v else rvM I t j := by
  by_cases e : t = 12609
  · subst e
    show uI I 12977 0 n v 12977 0 j = if 12609 = 12609 ∧ j = n then v else I 12977 0 j
    by_cases q : j = n
    · rw [if_pos ⟨rfl, q⟩, q, uI_e]
    · rw [if_neg (fun z => q z.2), uI_j q]
  · rw [if_neg (fun z => e z.1)]
    unfold rvM
    simp only [if_neg e]
    repeat rw [uI_t (by omega)]
theorem rv12993 {n t j : Nat} {v : Int32} : rvM (uI I 12993 0 n v) t j = if t = 12625 ∧ j = n then v else rvM I t j := by
  by_cases e : t = 12625
  · subst e
    show uI I 12993 0 n v 12993 0 j = if 12625 = 12625 ∧ j = n then v else I 12993 0 j
    by_cases q : j = n
    · rw [if_pos ⟨rfl, q⟩, q, uI_e]
    · rw [if_neg (fun z => q z.2), uI_j q]
  · rw [if_neg (fun z => e z.1)]
    unfold rvM
    simp only [if_neg e]
    repeat rw [uI_t (by omega)]
theorem rv13009 {n t j : Nat} {v : Int32} : rvM (uI I 13009 0 n v) t j = if t = 12641 ∧ j = n then v else rvM I t j := by
  by_cases e : t = 12641
  · subst e
    show uI I 13009 0 n v 13009 0 j = if 12641 = 12641 ∧ j = n then v else I 13009 0 j
    by_cases q : j = n
    · rw [if_pos ⟨rfl, q⟩, q, uI_e]
    · rw [if_neg (fun z => q z.2), uI_j q]
  · rw [if_neg (fun z => e z.1)]
    unfold rvM
    simp only [if_neg e]
    repeat rw [uI_t (by omega)]
theorem rv11233 {n t j : Nat} {v : Int32} : rvM (uI I 11233 0 n v) t j = if t = 10625 ∧ j = n then v else rvM I t j := by
  by_cases e : t = 10625
  · subst e
    show uI I 11233 0 n v 11233 0 j = if 10625 = 10625 ∧ j = n then v else I 11233 0 j
    by_cases q : j = n
    · rw [if_pos ⟨rfl, q⟩, q, uI_e]
    · rw [if_neg (fun z => q z.2), uI_j q]
  · rw [if_neg (fun z => e z.1)]
    unfold rvM
    simp only [if_neg e]
    repeat rw [uI_t (by omega)]
theorem rv11249 {n t j : Nat} {v : Int32} : rvM (uI I 11249 0 n v) t j = if t = 10641 ∧ j = n then v else rvM I t j := by
  by_cases e : t = 10641
  · subst e
    show uI I 11249 0 n v 11249 0 j = if 10641 = 10641 ∧ j = n then v else I 11249 0 j
    by_cases q : j = n
    · rw [if_pos ⟨rfl, q⟩, q, uI_e]
    · rw [if_neg (fun z => q z.2), uI_j q]
  · rw [if_neg (fun z => e z.1)]
    unfold rvM
    simp only [if_neg e]
    repeat rw [uI_t (by omega)]
theorem rv11265 {n t j : Nat} {v : Int32} : rvM (uI I 11265 0 n v) t j = if t = 10657 ∧ j = n then v else rvM I t j := by
  by_cases e : t = 10657
  · subst e
    show uI I 11265 0 n v 11265 0 j = if 10657 = 10657 ∧ j = n then v else I 11265 0 j
    by_cases q : j = n
    · rw [if_pos ⟨rfl, q⟩, q, uI_e]
    · rw [if_neg (fun z => q z.2), uI_j q]
  · rw [if_neg (fun z => e z.1)]
    unfold rvM
    simp only [if_neg e]
    repeat rw [uI_t (by omega)]
theorem rv21521 {n t j : Nat} {v : Int32} : rvM (uI I 21521 0 n v) t j = if t = 20929 ∧ j = n then v else rvM I t j := by
  by_cases e : t = 20929
  · subst e
    show uI I 21521 0 n v 21521 0 j = if 20929 = 20929 ∧ j = n then v else I 21521 0 j
    by_cases q : j = n
    · rw [if_pos ⟨rfl, q⟩, q, uI_e]
    · rw [if_neg (fun z => q z.2), uI_j q]
  · rw [if_neg (fun z => e z.1)]
    unfold rvM
    simp only [if_neg e]
    repeat rw [uI_t (by omega)]
theorem rv21537 {n t j : Nat} {v : Int32} : rvM (uI I 21537 0 n v) t j = if t = 20945 ∧ j = n then v else rvM I t j := by
  by_cases e : t = 20945
  · subst e
    show uI I 21537 0 n v 21537 0 j = if 20945 = 20945 ∧ j = n then v else I 21537 0 j
    by_cases q : j = n
    · rw [if_pos ⟨rfl, q⟩, q, uI_e]
    · rw [if_neg (fun z => q z.2), uI_j q]
  · rw [if_neg (fun z => e z.1)]
    unfold rvM
    simp only [if_neg e]
    repeat rw [uI_t (by omega)]
theorem rv17457 {n t j : Nat} {v : Int32} : rvM (uI I 17457 0 n v) t j = if t = 16897 ∧ j = n then v else rvM I t j := by
  by_cases e : t = 16897
  · subst e
    show uI I 17457 0 n v 17457 0 j = if 16897 = 16897 ∧ j = n then v else I 17457 0 j
    by_cases q : j = n
    · rw [if_pos ⟨rfl, q⟩, q, uI_e]
    · rw [if_neg (fun z => q z.2), uI_j q]
  · rw [if_neg (fun z => e z.1)]
    unfold rvM
    simp only [if_neg e]
    repeat rw [uI_t (by omega)]
theorem rv17473 {n t j : Nat} {v : Int32} : rvM (uI I 17473 0 n v) t j = if t = 16913 ∧ j = n then v else rvM I t j := by
  by_cases e : t = 16913
  · subst e
    show uI I 17473 0 n v 17473 0 j = if 16913 = 16913 ∧ j = n then v else I 17473 0 j
    by_cases q : j = n
    · rw [if_pos ⟨rfl, q⟩, q, uI_e]
    · rw [if_neg (fun z => q z.2), uI_j q]
  · rw [if_neg (fun z => e z.1)]
    unfold rvM
    simp only [if_neg e]
    repeat rw [uI_t (by omega)]
theorem rvs38 {t j : Nat} {v : Int32} : rvM (uI I 14944 0 38 v) t j = if t = 2416 then v else rvM I t j := by
  by_cases e : t = 2416
  · subst e
    show uI I 14944 0 38 v 14944 0 38 = _
    rw [uI_e, if_pos rfl]
  · rw [if_neg e]
    unfold rvM
    simp only [if_neg e]
    repeat first | rw [uI_t (by omega)] | rw [uI_j (by omega)]
theorem rvs42 {t j : Nat} {v : Int32} : rvM (uI I 14944 0 42 v) t j = if t = 2480 then v else rvM I t j := by
  by_cases e : t = 2480
  · subst e
    show uI I 14944 0 42 v 14944 0 42 = _
    rw [uI_e, if_pos rfl]
  · rw [if_neg e]
    unfold rvM
    simp only [if_neg e]
    repeat first | rw [uI_t (by omega)] | rw [uI_j (by omega)]
theorem rvs43 {t j : Nat} {v : Int32} : rvM (uI I 14944 0 43 v) t j = if t = 2544 then v else rvM I t j := by
  by_cases e : t = 2544
  · subst e
    show uI I 14944 0 43 v 14944 0 43 = _
    rw [uI_e, if_pos rfl]
  · rw [if_neg e]
    unfold rvM
    simp only [if_neg e]
    repeat first | rw [uI_t (by omega)] | rw [uI_j (by omega)]
theorem rvs0 {t j : Nat} {v : Int32} : rvM (uI I 14944 0 0 v) t j = if t = 10464 ∧ j = 0 then v else rvM I t j := by
  by_cases e : t = 10464
  · subst e
    show (if j = 0 then uI I 14944 0 0 v 14944 0 0 else if j = 6 then uI I 14944 0 0 v 14944 0 2 else uI I 14944 0 0 v 14944 0 3) = if 10464 = 10464 ∧ j = 0 then v else (if j = 0 then I 14944 0 0 else if j = 6 then I 14944 0 2 else I 14944 0 3)
    unfold uI
    by_cases q : j = 0
    · simp [q]
    · by_cases q2 : j = 6
      · simp [q2]
      · simp [q, q2]
  · rw [if_neg (fun z => e z.1)]
    unfold rvM
    simp only [if_neg e]
    repeat first | rw [uI_t (by omega)] | rw [uI_j (by omega)]
theorem rvs2 {t j : Nat} {v : Int32} : rvM (uI I 14944 0 2 v) t j = if t = 10464 ∧ j = 6 then v else rvM I t j := by
  by_cases e : t = 10464
  · subst e
    show (if j = 0 then uI I 14944 0 2 v 14944 0 0 else if j = 6 then uI I 14944 0 2 v 14944 0 2 else uI I 14944 0 2 v 14944 0 3) = if 10464 = 10464 ∧ j = 6 then v else (if j = 0 then I 14944 0 0 else if j = 6 then I 14944 0 2 else I 14944 0 3)
    unfold uI
    by_cases q : j = 0
    · simp [q]
    · by_cases q2 : j = 6
      · simp [q2]
      · simp [q, q2]
  · rw [if_neg (fun z => e z.1)]
    unfold rvM
    simp only [if_neg e]
    repeat first | rw [uI_t (by omega)] | rw [uI_j (by omega)]
theorem rvs3 {t j : Nat} {v : Int32} : rvM (uI I 14944 0 3 v) t j = if t = 10464 ∧ (j ≠ 0 ∧ j ≠ 6) then v else rvM I t j := by
  by_cases e : t = 10464
  · subst e
    show (if j = 0 then uI I 14944 0 3 v 14944 0 0 else if j = 6 then uI I 14944 0 3 v 14944 0 2 else uI I 14944 0 3 v 14944 0 3) = if 10464 = 10464 ∧ (j ≠ 0 ∧ j ≠ 6) then v else (if j = 0 then I 14944 0 0 else if j = 6 then I 14944 0 2 else I 14944 0 3)
    unfold uI
    by_cases q : j = 0
    · simp [q]
    · by_cases q2 : j = 6
      · simp [q2]
      · simp [q, q2]
  · rw [if_neg (fun z => e z.1)]
    unfold rvM
    simp only [if_neg e]
    repeat first | rw [uI_t (by omega)] | rw [uI_j (by omega)]
theorem rv_o {t0 n : Nat} {v : Int32} (h : ∀ j, ¬ mcl t0 j) : rvM (uI I t0 0 n v) = rvM I := rvM_c (fun t j q => by
  unfold uI
  rw [if_neg (fun z => h j (by rw [← z.1]; exact q))])
theorem sm56 (h : R I L w) : Sm I L w 56 116 [vI x, vI y] := by
  obtain ⟨nW, nT, dy, m, mk, nb, q⟩ := h.1
  obtain ⟨⟨a1, a2, a3⟩, ⟨b1, b2, b3, b4, b5, b6⟩, h3, h4, h5, h6, h7, h8⟩ := id q
  have E1 := s56 (d := 58) (I := I) (L := L) (w := w) (x := x) (y := y) a1 a2 b1 b3
  have E2 := s116 (d := 57) (I := I) (L := L) (w := w) (x := x) (y := y) a1 a2 b2 b4
  by_cases a : 0 ≤ y ∧ y < c nW
  · rw [if_pos a] at E1 E2
    by_cases b : 0 ≤ x ∧ x ≤ 9
    · rw [if_pos b] at E1 E2
      by_cases e : nT < 6
      · rw [if_pos e] at E1 E2
        clear E2
        have k0 : ntD I nT x y 14944 0 0 = I 14944 0 0 := by unfold ntD; rw [uI_t (by omega), uI_t (by omega), uI_t (by omega), uI_t (by omega)]
        have k2 : ntD I nT x y 14944 0 2 = I 14944 0 2 := by unfold ntD; rw [uI_t (by omega), uI_t (by omega), uI_t (by omega), uI_t (by omega)]
        have E2 := s116 (d := 57) (I := ntD I nT x y) (L := L) (w := w) (x := x) (y := y) a1 a2 (k0.trans b2) (k2.trans b4)
        rw [if_pos a, if_pos b, if_pos e] at E2
        obtain ⟨p, hp', hp5, rfl⟩ := of_5 a1 a
        have hM : RM (ntM (ntD I nT x (c p)) nT x (c p)) := by
          refine ⟨nW, nT + 1, dy, m, mk, nb, RWn_th (A := fun t j => I t 0 j) (B := rvM I) (fun t j ht n1 n2 => ?_) (fun t j ht n1 n2 => ?_) ?_ ?_ ?_ ?_ ?_ ?_ e q⟩
          · have := CW_t ht
            show ntM (ntD I nT x (c p)) nT x (c p) t 0 j = I t 0 j
            unfold ntM ntD uI
            repeat rw [if_neg (fun z => by omega)]
          · unfold ntM
            rw [rvs2, if_neg n2, rv13009, if_neg (by omega), rv12993, if_neg (by omega), rv12977, if_neg (by omega)]
            unfold ntD
            rw [rv_o (by unfold mcl; omega), rv_o (by unfold mcl; omega), rv_o (by unfold mcl; omega), rv_o (by unfold mcl; omega)]
          · show ntM (ntD I nT x (c p)) nT x (c p) 10464 0 6 = _
            unfold ntM
            rw [uI_t (by omega), uI_t (by omega), uI_t (by omega), uI_t (by omega)]
            unfold ntD
            rw [uI_e]
          · unfold ntM
            rw [rvs2, if_pos ⟨rfl, rfl⟩]
          · show _ = ntM (ntD I nT x (c p)) nT x (c p) 12609 0 nT
            unfold ntM
            rw [rvs2, if_neg (by omega), rv13009, if_neg (by omega), rv12993, if_neg (by omega), rv12977, if_pos ⟨rfl, rfl⟩, uI_t (by omega), uI_t (by omega), uI_t (by omega), uI_t (by omega)]
            unfold ntD
            rw [uI_t (by omega), uI_t (by omega), uI_t (by omega), uI_e]
          · show _ = ntM (ntD I nT x (c p)) nT x (c p) 12625 0 nT
            unfold ntM
            rw [rvs2, if_neg (by omega), rv13009, if_neg (by omega), rv12993, if_pos ⟨rfl, rfl⟩, uI_t (by omega), uI_t (by omega), uI_t (by omega), uI_t (by omega)]
            unfold ntD
            rw [uI_t (by omega), uI_t (by omega), uI_e]
          · show _ = ntM (ntD I nT x (c p)) nT x (c p) 12641 0 nT
            unfold ntM
            rw [rvs2, if_neg (by omega), rv13009, if_pos ⟨rfl, rfl⟩, uI_t (by omega), uI_t (by omega), uI_t (by omega), uI_t (by omega)]
            unfold ntD
            rw [uI_t (by omega), uI_e]
          · refine Or.inr ⟨p, hp', ?_⟩
            show ntM (ntD I nT x (c p)) nT x (c p) 12625 0 nT = c p
            unfold ntM
            rw [uI_t (by omega), uI_t (by omega), uI_t (by omega), uI_t (by omega)]
            unfold ntD
            rw [uI_t (by omega), uI_t (by omega), uI_e]
        have f1 : frX I (ntD I nT x (c p)) := (((frX_u (Or.inl (by unfold wtag; omega))).tr (frX_u (Or.inl (by unfold wtag; omega)))).tr (frX_u (Or.inl (by unfold wtag; omega)))).tr (frX_u (Or.inl (by unfold wtag; omega)))
        have f2 : frX (ntD I nT x (c p)) (ntM (ntD I nT x (c p)) nT x (c p)) := (((frX_u (Or.inr (by unfold mcl; omega))).tr (frX_u (Or.inr (by unfold mcl; omega)))).tr (frX_u (Or.inr (by unfold mcl; omega)))).tr (frX_u (Or.inr (by unfold mcl; omega)))
        exact ⟨_, _, L, w, _, L, E1, E2, R_core (f1.tr f2) hM h⟩
      · rw [if_neg e] at E1 E2
        exact sm_no h E1 E2
    · rw [if_neg b] at E1 E2
      exact sm_no h E1 E2
  · rw [if_neg a] at E1 E2
    exact sm_no h E1 E2
end P98o
