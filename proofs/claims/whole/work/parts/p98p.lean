set_option maxHeartbeats 400000
section P98p
variable {I I' : FI} {L : FL} {w w' : Nat → Nat} {nW nT dy m mk nb nt : Nat} {x y z : Int32}
/-- one wearer more -/
theorem RWn_nw {A B A' B' : Nat → Nat → Int32} (hA : ∀ t j, CW t j → ¬ ((t = 10481 ∨ t = 10497 ∨ t = 10513 ∨ t = 10530) ∧ j = nW) → ¬ (t = 41265 ∧ nW * 4 ≤ j ∧ j < (nW + 1) * 4) → ¬ (t = 10464 ∧ j = 0) → A' t j = A t j) (hB : ∀ t j, CW t j → (t = 10530 → j < 5) → ¬ ((t = 10481 ∨ t = 10497 ∨ t = 10513 ∨ t = 10530) ∧ j = nW) → ¬ (t = 41265 ∧ nW * 4 ≤ j ∧ j < (nW + 1) * 4) → ¬ (t = 10464 ∧ j = 0) → B' t j = B t j) (h1 : A' 10464 0 = c (nW + 1)) (h2 : B' 10464 0 = c (nW + 1)) (g1 : B' 10481 nW = A' 10481 nW) (g2 : B' 10497 nW = A' 10497 nW) (g3 : B' 10513 nW = A' 10513 nW) (g4 : B' 10530 nW = A' 10530 nW) (g5 : ∀ j, nW * 4 ≤ j → j < (nW + 1) * 4 → B' 41265 j = A' 41265 j) (g6 : (∃ k, k < 7 ∧ A' 10481 nW = c k) ∧ (∃ v, v < 10 ∧ A' 10497 nW = c v) ∧ (∃ h, h < 100 ∧ A' 10513 nW = c h)) (hn : nW < 5) (h : RWn A B nW nT dy m mk nb) : RWn A' B' (nW + 1) nT dy m mk nb := by
  obtain ⟨⟨a1, a2, a3⟩, ⟨b1, b2, b3, b4, b5, b6⟩, h3, h4, h5, ⟨d1, d2, d3, d4⟩, ⟨e1, e2, e3, e4⟩, f1, f2, f3, f4⟩ := h
  have c2 := CW10464_6 (j := 6) rfl
  have c3 := CW10464_10 (j := 10) rfl
  have kA : ∀ t j, CW t j → (t ≠ 10481 ∧ t ≠ 10497 ∧ t ≠ 10513 ∧ t ≠ 10530 ∧ t ≠ 41265 ∧ ¬ (t = 10464 ∧ j = 0)) → A' t j = A t j := fun t j q z => hA t j q (by omega) (by omega) (by omega)
  have kB : ∀ t j, CW t j → (t ≠ 10481 ∧ t ≠ 10497 ∧ t ≠ 10513 ∧ t ≠ 10530 ∧ t ≠ 41265 ∧ ¬ (t = 10464 ∧ j = 0)) → B' t j = B t j := fun t j q z => hB t j q (by omega) (by omega) (by omega) (by omega)
  refine ⟨⟨by omega, a2, a3⟩, ⟨h1, h2, (kA _ _ c2 (by omega)).trans b3, (kB _ _ c2 (by omega)).trans b4, (kA _ _ c3 (by omega)).trans b5, (kB _ _ c3 (by omega)).trans b6⟩, fun t j ht => ?_, fun t ht => ?_, fun p hp => ?_, ⟨d1, (kA _ _ (CW2416 rfl) (by omega)).trans d2, (kB _ _ (CW2416 rfl) (by omega)).trans d3, fun i hi => ?_⟩, ⟨e1, (kA _ _ (CW2480 rfl) (by omega)).trans e2, (kB _ _ (CW2480 rfl) (by omega)).trans e3, fun i hi => ?_⟩, f1, (kA _ _ (CW2544 rfl) (by omega)).trans f2, (kB _ _ (CW2544 rfl) (by omega)).trans f3, fun i hi => ?_⟩
  · by_cases e : (t = 10481 ∨ t = 10497 ∨ t = 10513 ∨ t = 10530) ∧ j = nW
    · obtain ⟨q | q | q | q, q2⟩ := e
      · rw [q, q2]; exact g1
      · rw [q, q2]; exact g2
      · rw [q, q2]; exact g3
      · rw [q, q2]; exact g4
    · by_cases e5 : t = 41265 ∧ nW * 4 ≤ j ∧ j < (nW + 1) * 4
      · rw [e5.1]; exact g5 j e5.2.1 e5.2.2
      · have e2 : ¬ (t = 10464 ∧ j = 0) := fun z => by unfold smC at ht; omega
        rw [hA _ _ (smC_W ht) e e5 e2, hB _ _ (smC_W ht) (fun z => by unfold smC at ht; omega) e e5 e2]; exact h3 t j ht
  · rw [kA _ _ (CW12625 (by omega)) (by omega)]
    rcases h4 t ht with q | ⟨p, hp, q⟩
    · exact Or.inl q
    · exact Or.inr ⟨p, by omega, q⟩
  · by_cases e : p = nW
    · rw [e]; exact g6
    · rw [hA _ _ (CW10481 (by omega)) (by omega) (by omega) (by omega), hA _ _ (CW10497 (by omega)) (by omega) (by omega) (by omega), hA _ _ (CW10513 (by omega)) (by omega) (by omega) (by omega)]; exact h5 p (by omega)
  · rw [kA _ _ (CW10625 (by omega)) (by omega), kA _ _ (CW10641 (by omega)) (by omega), kA _ _ (CW10657 (by omega)) (by omega), kB _ _ (CW10625 (by omega)) (by omega), kB _ _ (CW10641 (by omega)) (by omega), kB _ _ (CW10657 (by omega)) (by omega)]
    exact d4 i hi
  · rw [kA _ _ (CW20929 (by omega)) (by omega), kA _ _ (CW20945 (by omega)) (by omega), kB _ _ (CW20929 (by omega)) (by omega), kB _ _ (CW20945 (by omega)) (by omega)]
    exact ⟨(e4 i hi).1, wkR_l (e4 i hi).2 (by omega) (Nat.le_refl _)⟩
  · rw [kA _ _ (CW16897 (by omega)) (by omega), kA _ _ (CW16913 (by omega)) (by omega), kB _ _ (CW16897 (by omega)) (by omega), kB _ _ (CW16913 (by omega)) (by omega)]
    exact f4 i hi
theorem fil_t {t k a b t' k' j : Nat} {v : Int32} (h : t' ≠ t) : fil I t k a b v t' k' j = I t' k' j := by unfold fil; rw [if_neg (fun z => h z.1)]
theorem fil_e {t k a b j : Nat} {v : Int32} (h1 : a ≤ j) (h2 : j < b) : fil I t k a b v t k j = v := by unfold fil; rw [if_pos ⟨rfl, rfl, h1, h2⟩]
theorem rvfil {a b t j : Nat} {v : Int32} : rvM (fil I 41633 0 a b v) t j = if t = 41265 ∧ a ≤ j ∧ j < b then v else rvM I t j := by
  by_cases e : t = 41265
  · subst e
    show fil I 41633 0 a b v 41633 0 j = if 41265 = 41265 ∧ a ≤ j ∧ j < b then v else I 41633 0 j
    by_cases q : a ≤ j ∧ j < b
    · rw [if_pos ⟨rfl, q⟩, fil_e q.1 q.2]
    · rw [if_neg (fun z => q z.2)]; unfold fil; rw [if_neg (fun z => q z.2.2)]
  · rw [if_neg (fun z => e z.1)]
    unfold rvM
    simp only [if_neg e]
    repeat rw [fil_t (by omega)]
theorem rvfo {a b : Nat} {v : Int32} : rvM (fil I 41265 0 a b v) = rvM I := rvM_c (fun t j q => fil_t (by unfold mcl at q; omega))
theorem rvs1 {t j : Nat} {v : Int32} : rvM (uI I 14944 0 1 v) t j = if t = 10530 then (if hs v j = true then 1 else 0) else rvM I t j := by
  by_cases e : t = 10530
  · subst e
    rw [rvM_g, uI_e, if_pos rfl]
  · rw [if_neg e]
    exact rvM_n (fun t j h => by unfold uI; rw [if_neg (fun z => h ⟨z.1, z.2.2⟩)]) e
theorem frX_f {t a b : Nat} {v : Int32} (ht : t = 41265 ∨ t = 41633) : frX I (fil I t 0 a b v) := fun t' k j _ q => by
  unfold fil
  rw [if_neg (fun z => q ⟨z.2.1, by unfold wtag mcl; omega⟩)]
theorem sm55 (h : R I L w) : Sm I L w 55 115 [vI x, vI y, vI z] := by
  obtain ⟨nW, nT, dy, m, mk, nb, q⟩ := h.1
  obtain ⟨⟨a1, a2, a3⟩, ⟨b1, b2, b3, b4, b5, b6⟩, h3, h4, h5, h6, h7, h8⟩ := id q
  have E1 := s55 (d := 56) (I := I) (L := L) (w := w) (x := x) (y := y) (z := z) a1 b1
  have E2 := s115 (d := 57) (I := I) (L := L) (w := w) (x := x) (y := y) (z := z) a1 b2
  by_cases a : 0 ≤ x ∧ x ≤ 6
  · rw [if_pos a] at E1 E2
    by_cases b : (0 ≤ y ∧ y ≤ 9) ∧ (0 ≤ z ∧ z ≤ 99)
    · rw [if_pos b] at E1 E2
      by_cases e : nW < 5
      · rw [if_pos e] at E1 E2
        clear E2
        have k0 : nwD I nW x y z 14944 0 0 = I 14944 0 0 := by unfold nwD; rw [uI_t (by omega), fil_t (by omega), uI_t (by omega), uI_t (by omega), uI_t (by omega), uI_t (by omega)]
        have E2 := s115 (d := 57) (I := nwD I nW x y z) (L := L) (w := w) (x := x) (y := y) (z := z) a1 (k0.trans b2)
        rw [if_pos a, if_pos b, if_pos e] at E2
        obtain ⟨kx, hkx, rfl⟩ := of_c (x := x) (n := 7) a.1 (by omega) (by have := a.2; show x < 7; grind)
        obtain ⟨ky, hky, rfl⟩ := of_c (x := y) (n := 10) b.1.1 (by omega) (by have := b.1.2; show y < 10; grind)
        obtain ⟨kz, hkz, rfl⟩ := of_c (x := z) (n := 100) b.2.1 (by omega) (by have := b.2.2; show z < 100; grind)
        have rvD : rvM (nwD I nW (c kx) (c ky) (c kz)) = rvM I := by
          unfold nwD
          rw [rv_o (by unfold mcl; omega), rvfo, rv_o (by unfold mcl; omega), rv_o (by unfold mcl; omega), rv_o (by unfold mcl; omega), rv_o (by unfold mcl; omega)]
        have cD : ∀ t j, t ≠ 10865 → t ≠ 10881 → t ≠ 10897 → t ≠ 14944 → t ≠ 41633 → nwM (nwD I nW (c kx) (c ky) (c kz)) nW (c kx) (c ky) (c kz) t 0 j = nwD I nW (c kx) (c ky) (c kz) t 0 j := by
          intro t j q1 q2 q3 q4 q5
          unfold nwM
          rw [uI_t q4, fil_t q5, uI_t q4, uI_t q3, uI_t q2, uI_t q1]
        have hM : RM (nwM (nwD I nW (c kx) (c ky) (c kz)) nW (c kx) (c ky) (c kz)) := by
          refine ⟨nW + 1, nT, dy, m, mk, nb, RWn_nw (A := fun t j => I t 0 j) (B := rvM I) (fun t j ht n1 n2 n3 => ?_) (fun t j ht h5 n1 n2 n3 => ?_) ?_ ?_ ?_ ?_ ?_ ?_ (fun j j1 j2 => ?_) ⟨⟨kx, hkx, ?_⟩, ⟨ky, hky, ?_⟩, ⟨kz, hkz, ?_⟩⟩ e q⟩
          · have := CW_t ht
            show nwM (nwD I nW (c kx) (c ky) (c kz)) nW (c kx) (c ky) (c kz) t 0 j = I t 0 j
            rw [cD t j (by omega) (by omega) (by omega) (by omega) (by omega)]
            unfold nwD fil uI
            rw [if_neg (fun z => by omega)]
            show (if _ then _ else if _ then _ else if _ then _ else if _ then _ else if _ then _ else _) = _
            repeat rw [if_neg (fun z => by omega)]
          · unfold nwM
            rw [rvs0, if_neg n3, rvfil, if_neg n2, rvs1]
            by_cases e5 : t = 10530
            · have hj := h5 e5
              subst e5
              rw [if_pos rfl, hs_cl e hj, if_neg (show ¬ j = nW from by omega), show nwD I nW (c kx) (c ky) (c kz) 14944 0 1 = I 14944 0 1 from by unfold nwD; rw [uI_t (by omega), fil_t (by omega), uI_t (by omega), uI_t (by omega), uI_t (by omega), uI_t (by omega)]]
              exact rvM_g.symm
            · rw [if_neg e5, rv10897, if_neg (by omega), rv10881, if_neg (by omega), rv10865, if_neg (by omega), rvD]
          · show nwM (nwD I nW (c kx) (c ky) (c kz)) nW (c kx) (c ky) (c kz) 10464 0 0 = _
            rw [cD _ _ (by omega) (by omega) (by omega) (by omega) (by omega)]
            unfold nwD
            rw [uI_e]
          · unfold nwM
            rw [rvs0, if_pos ⟨rfl, rfl⟩]
          · show _ = nwM (nwD I nW (c kx) (c ky) (c kz)) nW (c kx) (c ky) (c kz) 10481 0 nW
            rw [cD _ _ (by omega) (by omega) (by omega) (by omega) (by omega)]
            unfold nwM
            rw [rvs0, if_neg (by omega), rvfil, if_neg (by omega), rvs1, if_neg (by omega), rv10897, if_neg (by omega), rv10881, if_neg (by omega), rv10865, if_pos ⟨rfl, rfl⟩]
            unfold nwD
            rw [uI_t (by omega), fil_t (by omega), uI_t (by omega), uI_t (by omega), uI_t (by omega), uI_e]
          · show _ = nwM (nwD I nW (c kx) (c ky) (c kz)) nW (c kx) (c ky) (c kz) 10497 0 nW
            rw [cD _ _ (by omega) (by omega) (by omega) (by omega) (by omega)]
            unfold nwM
            rw [rvs0, if_neg (by omega), rvfil, if_neg (by omega), rvs1, if_neg (by omega), rv10897, if_neg (by omega), rv10881, if_pos ⟨rfl, rfl⟩]
            unfold nwD
            rw [uI_t (by omega), fil_t (by omega), uI_t (by omega), uI_t (by omega), uI_e]
          · show _ = nwM (nwD I nW (c kx) (c ky) (c kz)) nW (c kx) (c ky) (c kz) 10513 0 nW
            rw [cD _ _ (by omega) (by omega) (by omega) (by omega) (by omega)]
            unfold nwM
            rw [rvs0, if_neg (by omega), rvfil, if_neg (by omega), rvs1, if_neg (by omega), rv10897, if_pos ⟨rfl, rfl⟩]
            unfold nwD
            rw [uI_t (by omega), fil_t (by omega), uI_t (by omega), uI_e]
          · show _ = nwM (nwD I nW (c kx) (c ky) (c kz)) nW (c kx) (c ky) (c kz) 10530 0 nW
            rw [cD _ _ (by omega) (by omega) (by omega) (by omega) (by omega)]
            unfold nwM
            rw [rvs0, if_neg (by omega), rvfil, if_neg (by omega), rvs1, if_pos rfl, hs_cl e e, if_pos rfl, if_neg (by decide)]
            unfold nwD
            rw [uI_t (by omega), fil_t (by omega), uI_e]
          · show _ = nwM (nwD I nW (c kx) (c ky) (c kz)) nW (c kx) (c ky) (c kz) 41265 0 j
            rw [cD _ _ (by omega) (by omega) (by omega) (by omega) (by omega)]
            unfold nwM
            rw [rvs0, if_neg (by omega), rvfil, if_pos ⟨rfl, j1, j2⟩]
            unfold nwD
            rw [uI_t (by omega), fil_e j1 j2]
          · show nwM (nwD I nW (c kx) (c ky) (c kz)) nW (c kx) (c ky) (c kz) 10481 0 nW = c kx
            rw [cD _ _ (by omega) (by omega) (by omega) (by omega) (by omega)]
            unfold nwD
            rw [uI_t (by omega), fil_t (by omega), uI_t (by omega), uI_t (by omega), uI_t (by omega), uI_e]
          · show nwM (nwD I nW (c kx) (c ky) (c kz)) nW (c kx) (c ky) (c kz) 10497 0 nW = c ky
            rw [cD _ _ (by omega) (by omega) (by omega) (by omega) (by omega)]
            unfold nwD
            rw [uI_t (by omega), fil_t (by omega), uI_t (by omega), uI_t (by omega), uI_e]
          · show nwM (nwD I nW (c kx) (c ky) (c kz)) nW (c kx) (c ky) (c kz) 10513 0 nW = c kz
            rw [cD _ _ (by omega) (by omega) (by omega) (by omega) (by omega)]
            unfold nwD
            rw [uI_t (by omega), fil_t (by omega), uI_t (by omega), uI_e]
        have f1 : frX I (nwD I nW (c kx) (c ky) (c kz)) := (((((frX_u (Or.inl (by unfold wtag; omega))).tr (frX_u (Or.inl (by unfold wtag; omega)))).tr (frX_u (Or.inl (by unfold wtag; omega)))).tr (frX_u (Or.inl (by unfold wtag; omega)))).tr (frX_f (Or.inl rfl))).tr (frX_u (Or.inl (by unfold wtag; omega)))
        have f2 : frX (nwD I nW (c kx) (c ky) (c kz)) (nwM (nwD I nW (c kx) (c ky) (c kz)) nW (c kx) (c ky) (c kz)) := (((((frX_u (Or.inr (by unfold mcl; omega))).tr (frX_u (Or.inr (by unfold mcl; omega)))).tr (frX_u (Or.inr (by unfold mcl; omega)))).tr (frX_u (Or.inr (by unfold mcl; omega)))).tr (frX_f (Or.inr rfl))).tr (frX_u (Or.inr (by unfold mcl; omega)))
        exact ⟨_, _, L, w, _, L, E1, E2, R_core (f1.tr f2) hM h⟩
      · rw [if_neg e] at E1 E2
        exact sm_no h E1 E2
    · rw [if_neg b] at E1 E2
      exact sm_no h E1 E2
  · rw [if_neg a] at E1 E2
    exact sm_no h E1 E2
end P98p
