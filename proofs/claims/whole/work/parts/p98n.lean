set_option maxHeartbeats 400000
section P98n
variable {I I' : FI} {L : FL} {w w' : Nat → Nat} {nW nT dy m mk nb nt : Nat} {x y z : Int32}
def wtag (t : Nat) : Prop := t = 10464 ∨ t = 10481 ∨ t = 10497 ∨ t = 10513 ∨ t = 10530 ∨ t = 41265 ∨ t = 12609 ∨ t = 12625 ∨ t = 12641 ∨ t = 2416 ∨ t = 10625 ∨ t = 10641 ∨ t = 10657 ∨ t = 2480 ∨ t = 20929 ∨ t = 20945 ∨ t = 20961 ∨ t = 2544 ∨ t = 16897 ∨ t = 16913 ∨ t = 16929
def frX (I I' : FI) : Prop := ∀ t k j, ¬ scb t k j → ¬ (k = 0 ∧ (wtag t ∨ mcl t j)) → I' t k j = I t k j
theorem frX.rf : frX I I := fun _ _ _ _ _ => rfl
theorem frX.tr {I'' : FI} (h : frX I I') (h' : frX I' I'') : frX I I'' := fun t k j a b => (h' t k j a b).trans (h t k j a b)
theorem frX_u {t j : Nat} {v : Int32} (ht : wtag t ∨ mcl t j) : frX I (uI I t 0 j v) := fun t' k i _ b => by
  unfold uI
  rw [if_neg (fun z => b ⟨z.2.1, by rw [z.1, z.2.2]; exact ht⟩)]
theorem frX_s (h : scM I I') : frX I I' := fun t k j a _ => h t k j a
/-- a world changes -/
theorem R_core (hf : frX I I') (hM : RM I') (h : R I L w) : R I' L w := by
  obtain ⟨h1, h2, h3, h4, h5, h6⟩ := h
  refine ⟨hM, RV_c (fun t j i q => hf _ _ _ (by unfold tcl at q; unfold scb; omega) (by unfold tcl at q; unfold wtag mcl; omega)) (fun t j q => hf _ _ _ (CW_k q).2.2.2.2.2 (by omega)) (fun t j q => hf _ _ _ (by unfold icl at q; unfold scb; omega) (by unfold icl at q; unfold wtag mcl; omega)) (fun t j q => hf _ _ _ (by unfold scb; omega) (by unfold wtag mcl; omega)) rfl rfl h2, RX_c (fun i => ⟨hf _ _ _ (by unfold scb; omega) (by unfold wtag mcl; omega), hf _ _ _ (by unfold scb; omega) (by unfold wtag mcl; omega)⟩) (hf _ _ _ (by unfold scb; omega) (by unfold wtag mcl; omega)) (hf _ _ _ (by unfold scb; omega) (by unfold wtag mcl; omega)) h3, RT_c rfl (fun t k j q => hf _ _ _ (by unfold scb; omega) (by unfold wtag mcl; omega)) h4, RG_c (fun i => ⟨hf _ _ _ (by unfold scb; omega) (by unfold wtag mcl; omega), hf _ _ _ (by unfold scb; omega) (by unfold wtag mcl; omega)⟩) (hf _ _ _ (by unfold scb; omega) (by unfold wtag mcl; omega)) (hf _ _ _ (by unfold scb; omega) (by unfold wtag mcl; omega)) h5, fun i hi => (hf _ _ _ (by unfold scb; omega) (by unfold wtag mcl; omega)).trans (h6 i hi)⟩
theorem sm_no {m m' : Nat} {a : List Vl} {v : Vl} (h : R I L w) (e1 : dn 60 m (vR 12288 0 :: a) (hp I L w) = some (some v, hp I L w)) (e2 : dn 60 m' (vR 14944 0 :: a) (hp I L w) = some (some v, hp I L w)) : Sm I L w m m' a := ⟨v, I, L, w, I, L, e1, e2, h⟩
/-- thoughts -/
theorem sm60 (h : R I L w) : Sm I L w 60 117 [vI x, vI y] := by
  obtain ⟨nW, nT, dy, m, mk, nb, q⟩ := h.1
  obtain ⟨⟨a1, a2, a3⟩, ⟨b1, b2, b3, b4, b5, b6⟩, h3, h4, h5, h6, h7, h8⟩ := id q
  have E1 := s60 (d := 58) (I := I) (L := L) (w := w) (x := x) (y := y) a1 b1
  by_cases a : 0 ≤ x ∧ x < c nW
  · obtain ⟨p, hp', hp5, rfl⟩ := of_5 a1 a
    by_cases b : 0 ≤ y ∧ y ≤ 99
    · obtain ⟨t, ht, rfl⟩ := of_c (x := y) (n := 100) b.1 (by omega) (by have := b.2; show y < 100; grind)
      rw [if_pos a, if_pos b, ix_c (by omega)] at E1
      have E2 := s117 (d := 57) (I := uI I 10513 0 p (c t)) (L := L) (w := w) (x := c p) (y := c t) a1 b2
      rw [if_pos a, if_pos b, ix_c (by omega)] at E2
      have hM : RM (uI (uI I 10513 0 p (c t)) 10897 0 p (c t)) := by
        refine ⟨nW, nT, dy, m, mk, nb, ⟨a1, a2, a3⟩, ⟨b1, b2, b3, b4, b5, b6⟩, fun t' j hs => ?_, h4, fun p' hp2 => ⟨(h5 p' hp2).1, (h5 p' hp2).2.1, ?_⟩, h6, h7, h8⟩
        · rcases hs with ⟨h | h | h | h, hj⟩ | ⟨h, hj⟩ | ⟨h | h | h, hj⟩ <;> subst h
          · exact h3 10481 j (by unfold smC; omega)
          · exact h3 10497 j (by unfold smC; omega)
          · show uI (uI I 10513 0 p (c t)) 10897 0 p (c t) 10897 0 j = uI (uI I 10513 0 p (c t)) 10897 0 p (c t) 10513 0 j
            rw [uI_t (t := 10897) (t' := 10513) (by omega)]
            by_cases e : j = p
            · rw [e, uI_e, uI_e]
            · rw [uI_j e, uI_j e, uI_j e]; exact h3 10513 j (by unfold smC; omega)
          · exact h3 10530 j (by unfold smC; omega)
          · exact h3 41265 j (by unfold smC; omega)
          · exact h3 12609 j (by unfold smC; omega)
          · exact h3 12625 j (by unfold smC; omega)
          · exact h3 12641 j (by unfold smC; omega)
        · show ∃ hh, hh < 100 ∧ uI (uI I 10513 0 p (c t)) 10897 0 p (c t) 10513 0 p' = c hh
          rw [uI_t (by omega)]
          by_cases e : p' = p
          · rw [e, uI_e]; exact ⟨t, ht, rfl⟩
          · rw [uI_j e]; exact (h5 p' hp2).2.2
      refine ⟨_, _, L, w, _, L, E1, E2.trans ?_, R_core ((frX_u (Or.inl (by unfold wtag; omega))).tr (frX_u (Or.inr (by unfold mcl; omega)))) hM h⟩
      rw [uI_t (by omega), show I 10897 0 p = I 10513 0 p from h3 10513 p (by unfold smC; omega)]
    · have E2 := s117 (d := 57) (I := I) (L := L) (w := w) (x := c p) (y := y) a1 b2
      rw [if_pos a, if_neg b] at E1 E2
      exact sm_no h E1 E2
  · have E2 := s117 (d := 57) (I := I) (L := L) (w := w) (x := x) (y := y) a1 b2
    rw [if_neg a] at E1 E2
    exact sm_no h E1 E2
theorem sm_un {A B : Nat → Nat → Int32} (h : ∀ t j, smC t j → B t j = A t j) : (∀ j, j < 5 → B 10481 j = A 10481 j) ∧ (∀ j, j < 5 → B 10497 j = A 10497 j) ∧ (∀ j, j < 5 → B 10513 j = A 10513 j) ∧ (∀ j, j < 5 → B 10530 j = A 10530 j) ∧ (∀ j, j < 20 → B 41265 j = A 41265 j) ∧ (∀ j, j < 6 → B 12609 j = A 12609 j) ∧ (∀ j, j < 6 → B 12625 j = A 12625 j) ∧ (∀ j, j < 6 → B 12641 j = A 12641 j) := ⟨fun j hj => h _ _ (by unfold smC; omega), fun j hj => h _ _ (by unfold smC; omega), fun j hj => h _ _ (by unfold smC; omega), fun j hj => h _ _ (by unfold smC; omega), fun j hj => h _ _ (by unfold smC; omega), fun j hj => h _ _ (by unfold smC; omega), fun j hj => h _ _ (by unfold smC; omega), fun j hj => h _ _ (by unfold smC; omega)⟩
theorem sm_mk {A B : Nat → Nat → Int32} (s1 : ∀ j, j < 5 → B 10481 j = A 10481 j) (s2 : ∀ j, j < 5 → B 10497 j = A 10497 j) (s3 : ∀ j, j < 5 → B 10513 j = A 10513 j) (s4 : ∀ j, j < 5 → B 10530 j = A 10530 j) (s5 : ∀ j, j < 20 → B 41265 j = A 41265 j) (s6 : ∀ j, j < 6 → B 12609 j = A 12609 j) (s7 : ∀ j, j < 6 → B 12625 j = A 12625 j) (s8 : ∀ j, j < 6 → B 12641 j = A 12641 j) : ∀ t j, smC t j → B t j = A t j := by
  intro t' j hs
  rcases hs with ⟨h | h | h | h, hj⟩ | ⟨h, hj⟩ | ⟨h | h | h, hj⟩ <;> subst h
  · exact s1 j hj
  · exact s2 j hj
  · exact s3 j hj
  · exact s4 j hj
  · exact s5 j hj
  · exact s6 j hj
  · exact s7 j hj
  · exact s8 j hj
/-- two tables, one cell each -/
theorem uI2 {t1 t2 p j : Nat} {v : Int32} (hne : t1 ≠ t2) (h : I t2 0 j = I t1 0 j) : uI (uI I t1 0 p v) t2 0 p v t2 0 j = uI (uI I t1 0 p v) t2 0 p v t1 0 j := by
  rw [uI_t (t := t2) (t' := t1) hne]
  by_cases e : j = p
  · rw [e, uI_e, uI_e]
  · rw [uI_j e, uI_j e, uI_j e]; exact h
theorem gl01 (hy : y = 0 ∨ y = 1) : (if (!decide (y = 0)) = true then (1 : Int32) else 0) = y &&& 1 := by
  rcases hy with rfl | rfl
  · rw [show (0 &&& 1 : Int32) = 0 from by decide, if_neg (by decide)]
  · rw [show (1 &&& 1 : Int32) = 1 from by decide, if_pos (by decide)]
theorem rvM_g {j : Nat} : rvM I 10530 j = if hs (I 14944 0 1) j = true then 1 else 0 := rfl
theorem RWn_g {A B A' B' : Nat → Nat → Int32} (hA : ∀ t j, CW t j → t ≠ 10530 → A' t j = A t j) (hB : ∀ t j, CW t j → t ≠ 10530 → B' t j = B t j) (hg : ∀ j, j < 5 → B' 10530 j = A' 10530 j) (h : RWn A B nW nT dy m mk nb) : RWn A' B' nW nT dy m mk nb := by
  have h1 : RWn (fun t j => if t = 10530 then A t j else A' t j) (fun t j => if t = 10530 then B t j else B' t j) nW nT dy m mk nb := by
    refine RWn_c (fun t j q => ?_) (fun t j q => ?_) h
    · by_cases e : t = 10530
      · rw [if_pos e]
      · rw [if_neg e]; exact hA t j q e
    · by_cases e : t = 10530
      · rw [if_pos e]
      · rw [if_neg e]; exact hB t j q e
  obtain ⟨k1, k2, k3, k4, k5, k6, k7, k8⟩ := h1
  obtain ⟨s1, s2, s3, s4, s5, s6, s7, s8⟩ := sm_un k3
  exact ⟨k1, k2, sm_mk s1 s2 s3 hg s5 s6 s7 s8, k4, k5, k6, k7, k8⟩
theorem rvM_n {J : FI} (h : ∀ t j, ¬ (t = 14944 ∧ j = 1) → J t 0 j = I t 0 j) {t j : Nat} (ht : t ≠ 10530) : rvM J t j = rvM I t j := by
  unfold rvM
  rw [if_neg ht, if_neg ht]
  repeat rw [h _ _ (by omega)]
theorem RM_g {p : Nat} (hy : y = 0 ∨ y = 1) (hp5 : p < 5) (q : RWn (fun t j => I t 0 j) (rvM I) nW nT dy m mk nb) : RM (uI (uI I 10530 0 p (y &&& 1)) 14944 0 1 (gl (I 14944 0 1) (c p) y)) := by
  have h0 : ∀ j, j < 5 → rvM I 10530 j = I 10530 0 j := fun j hj => q.2.2.1 10530 j (by unfold smC; omega)
  have hJ : ∀ t j, t ≠ 10530 → ¬ (t = 14944 ∧ j = 1) → uI (uI I 10530 0 p (y &&& 1)) 14944 0 1 (gl (I 14944 0 1) (c p) y) t 0 j = I t 0 j := fun t j h1 h2 => by
    unfold uI
    rw [if_neg (fun z => h2 ⟨z.1, z.2.2⟩), if_neg (fun z => h1 z.1)]
  refine ⟨nW, nT, dy, m, mk, nb, RWn_g (fun t j ht h1 => hJ t j h1 (fun z => (CW_k ht).2.2.1 z.1)) (fun t j _ h1 => ?_) (fun j hj => ?_) q⟩
  · have e1 : rvM (uI (uI I 10530 0 p (y &&& 1)) 14944 0 1 (gl (I 14944 0 1) (c p) y)) t j = rvM (uI I 10530 0 p (y &&& 1)) t j := rvM_n (fun t j h => by unfold uI; rw [if_neg (fun z => h ⟨z.1, z.2.2⟩)]) h1
    have e2 : rvM (uI I 10530 0 p (y &&& 1)) = rvM I := rvM_c (fun t j h => by unfold mcl at h; exact uI_t (by omega))
    rw [e1, e2]
  · rw [rvM_g, uI_e, hs_gl hp5 hj]
    show _ = uI (uI I 10530 0 p (y &&& 1)) 14944 0 1 _ 10530 0 j
    rw [uI_t (by omega)]
    by_cases e : j = p
    · rw [if_pos e, e, uI_e]
      exact gl01 hy
    · rw [if_neg e, uI_j e]
      exact rvM_g.symm.trans (h0 j hj)
/-- leaves -/
theorem sm61 (hy : y = 0 ∨ y = 1) (h : R I L w) : Sm I L w 61 119 [vI x, vI y] := by
  obtain ⟨nW, nT, dy, m, mk, nb, q⟩ := h.1
  obtain ⟨⟨a1, a2, a3⟩, ⟨b1, b2, b3, b4, b5, b6⟩, h3, h4, h5, h6, h7, h8⟩ := id q
  obtain ⟨s1, s2, s3, s4, s5, s6, s7, s8⟩ := sm_un h3
  have E1 := s61 (d := 58) (I := I) (L := L) (w := w) (x := x) (y := y) a1 b1
  by_cases a : 0 ≤ x ∧ x < c nW
  · obtain ⟨p, hp', hp5, rfl⟩ := of_5 a1 a
    have E2 := s119 (d := 57) (I := uI I 10530 0 p (y &&& 1)) (L := L) (w := w) (x := c p) (y := y) a1 b2
    rw [if_pos a, ix_c (by omega)] at E1 E2
    have g1 : uI I 10530 0 p (y &&& 1) 14944 0 1 = I 14944 0 1 := uI_t (by omega)
    rw [g1] at E2
    have g2 := s4 p hp5
    have g2 : (if hs (I 14944 0 1) p = true then (1 : Int32) else 0) = I 10530 0 p := g2
    have hM : RM (uI (uI I 10530 0 p (y &&& 1)) 14944 0 1 (gl (I 14944 0 1) (c p) y)) := RM_g hy hp5 q
    refine ⟨_, _, L, w, _, L, E1, E2.trans ?_, R_core ((frX_u (Or.inl (by unfold wtag; omega))).tr (frX_u (Or.inr (by unfold mcl; omega)))) hM h⟩
    by_cases e : hs (I 14944 0 1) p = true
    · rw [if_pos e] at g2
      rw [if_pos e, ← g2, if_neg (show ¬ (1 : Int32) = 0 from by decide)]
    · rw [if_neg e] at g2
      rw [if_neg e, ← g2, if_pos rfl]
  · have E2 := s119 (d := 57) (I := I) (L := L) (w := w) (x := x) (y := y) a1 b2
    rw [if_neg a] at E1 E2
    exact sm_no h E1 E2
/-- drops -/
theorem sm63 (h : R I L w) : Sm I L w 63 123 [vI x, vI y] := by
  obtain ⟨nW, nT, dy, m, mk, nb, q⟩ := h.1
  obtain ⟨⟨a1, a2, a3⟩, ⟨b1, b2, b3, b4, b5, b6⟩, h3, h4, h5, h6, h7, h8⟩ := id q
  obtain ⟨s1, s2, s3, s4, s5, s6, s7, s8⟩ := sm_un h3
  have E1 := s63 (d := 58) (I := I) (L := L) (w := w) (x := x) (y := y) a1 a2 b1 b3
  by_cases a : (0 ≤ x ∧ x < c nT) ∧ (0 ≤ y ∧ y < c nW)
  · obtain ⟨t, ht, ht6, rfl⟩ := of_6 a2 a.1
    obtain ⟨p, hp', hp5, rfl⟩ := of_5 a1 a.2
    have E2 := s123 (d := 57) (I := uI (uI I 12625 0 t (c p)) 12641 0 t 0) (L := L) (w := w) (x := c t) (y := c p) a1 a2 b2 b4
    rw [if_pos a, ix_c (by omega)] at E1 E2
    have hM : RM (uI (uI (uI (uI I 12625 0 t (c p)) 12641 0 t 0) 12993 0 t (c p)) 13009 0 t 0) := by
      refine ⟨nW, nT, dy, m, mk, nb, ⟨a1, a2, a3⟩, ⟨b1, b2, b3, b4, b5, b6⟩, sm_mk s1 s2 s3 s4 s5 s6 (fun j hj => ?_) (fun j hj => ?_), fun u hu => ?_, h5, h6, h7, h8⟩
      · show uI (uI (uI (uI I 12625 0 t (c p)) 12641 0 t 0) 12993 0 t (c p)) 13009 0 t 0 12993 0 j = uI (uI (uI (uI I 12625 0 t (c p)) 12641 0 t 0) 12993 0 t (c p)) 13009 0 t 0 12625 0 j
        rw [uI_t (t := 13009) (by omega), uI_t (t := 13009) (by omega), uI_t (t := 12993) (t' := 12625) (by omega), uI_t (t := 12641) (t' := 12625) (by omega)]
        by_cases e : j = t
        · rw [e, uI_e, uI_e]
        · rw [uI_j e, uI_j e, uI_j e, uI_j e]; exact s7 j hj
      · show uI (uI (uI (uI I 12625 0 t (c p)) 12641 0 t 0) 12993 0 t (c p)) 13009 0 t 0 13009 0 j = uI (uI (uI (uI I 12625 0 t (c p)) 12641 0 t 0) 12993 0 t (c p)) 13009 0 t 0 12641 0 j
        by_cases e : j = t
        · rw [e, uI_e, uI_t (by omega), uI_t (by omega), uI_e]
        · rw [uI_j e, uI_j e, uI_j e, uI_j e, uI_j e, uI_j e, uI_j e, uI_j e]; exact s8 j hj
      · show uI (uI (uI (uI I 12625 0 t (c p)) 12641 0 t 0) 12993 0 t (c p)) 13009 0 t 0 12625 0 u = -5 ∨ ∃ p', p' < nW ∧ uI (uI (uI (uI I 12625 0 t (c p)) 12641 0 t 0) 12993 0 t (c p)) 13009 0 t 0 12625 0 u = c p'
        rw [uI_t (by omega), uI_t (by omega), uI_t (by omega)]
        by_cases e : u = t
        · rw [e, uI_e]; exact Or.inr ⟨p, hp', rfl⟩
        · rw [uI_j e]; exact h4 u hu
    refine ⟨_, _, L, w, _, L, E1, E2.trans ?_, R_core ((((frX_u (Or.inl (by unfold wtag; omega))).tr (frX_u (Or.inl (by unfold wtag; omega)))).tr (frX_u (Or.inr (by unfold mcl; omega)))).tr (frX_u (Or.inr (by unfold mcl; omega)))) hM h⟩
    rw [uI_t (by omega), uI_t (by omega), show I 12993 0 t = I 12625 0 t from s7 t ht6]
  · have E2 := s123 (d := 57) (I := I) (L := L) (w := w) (x := x) (y := y) a1 a2 b2 b4
    rw [if_neg a] at E1 E2
    exact sm_no h E1 E2
/-- fetches -/
theorem sm62 (h : R I L w) : Sm I L w 62 122 [vI x] := by
  obtain ⟨nW, nT, dy, m, mk, nb, q⟩ := h.1
  have hA := R_RA q h.2.1
  obtain ⟨⟨a1, a2, a3⟩, ⟨b1, b2, b3, b4, b5, b6⟩, h3, h4, h5, h6, h7, h8⟩ := id q
  obtain ⟨s1, s2, s3, s4, s5, s6, s7, s8⟩ := sm_un h3
  have E1 := s62 (d := 56) (I := I) (L := L) (w := w) (x := x) a1 a2 b1 b3
  have hT : TI I w := hA.2.1.2.2.2.2.2.2.2.1
  have E2 := s122 (d := 54) (I := I) (L := L) (w := w) (x := x) hT a1 a2 b2 b4
  by_cases a : 0 ≤ x ∧ x < c nT
  · obtain ⟨t, ht, ht6, rfl⟩ := of_6 a2 a
    rw [if_pos a, ix_c (by omega)] at E1 E2
    have g7 : I 12993 0 t = I 12625 0 t := s7 t ht6
    have g8 : I 13009 0 t = I 12641 0 t := s8 t ht6
    rw [g7, g8, ws_all hA.2.2.1 nW a1] at E2
    by_cases b : I 12625 0 t = -5
    · rw [if_pos b] at E1 E2
      exact sm_no h E1 E2
    · rw [if_neg b] at E1 E2
      by_cases e : allA (arD I w 0) nW < I 12641 0 t
      · rw [if_pos e] at E1 E2
        exact sm_no h E1 E2
      · rw [if_neg e] at E1 E2
        clear E2
        have hf : frX I (uI (uI I 12625 0 t (-5)) 12641 0 t 0) := (frX_u (Or.inl (by unfold wtag; omega))).tr (frX_u (Or.inl (by unfold wtag; omega)))
        have hts : tsm I (uI (uI I 12625 0 t (-5)) 12641 0 t 0) := ⟨by rw [uI_t (by omega), uI_t (by omega)], fun t' ht' k => by rw [uI_p (by omega), uI_p (by omega)]⟩
        have ear : allA (arD (mv (uI (uI I 12625 0 t (-5)) 12641 0 t 0)) w 0) nW = allA (arD (mv I) w 0) nW := rfl
        have E2 := s122 (d := 54) (I := uI (uI I 12625 0 t (-5)) 12641 0 t 0) (L := L) (w := w) (x := c t) (hT.of hts) a1 a2 b2 b4
        rw [if_pos a, ix_c (by omega), ear, ws_all hA.2.2.1 nW a1] at E2
        have k1 : uI (uI I 12625 0 t (-5)) 12641 0 t 0 12993 0 t = I 12625 0 t := by rw [uI_t (by omega), uI_t (by omega)]; exact g7
        have k2 : uI (uI I 12625 0 t (-5)) 12641 0 t 0 13009 0 t = I 12641 0 t := by rw [uI_t (by omega), uI_t (by omega)]; exact g8
        rw [k1, k2, if_neg b, if_neg e] at E2
        have hM : RM (uI (uI (uI (uI I 12625 0 t (-5)) 12641 0 t 0) 12993 0 t (-5)) 13009 0 t 0) := by
          refine ⟨nW, nT, dy, m, mk, nb, ⟨a1, a2, a3⟩, ⟨b1, b2, b3, b4, b5, b6⟩, sm_mk s1 s2 s3 s4 s5 s6 (fun j hj => ?_) (fun j hj => ?_), fun u hu => ?_, h5, h6, h7, h8⟩
          · show uI (uI (uI (uI I 12625 0 t (-5)) 12641 0 t 0) 12993 0 t (-5)) 13009 0 t 0 12993 0 j = uI (uI (uI (uI I 12625 0 t (-5)) 12641 0 t 0) 12993 0 t (-5)) 13009 0 t 0 12625 0 j
            rw [uI_t (t := 13009) (by omega), uI_t (t := 13009) (by omega), uI_t (t := 12993) (t' := 12625) (by omega), uI_t (t := 12641) (t' := 12625) (by omega)]
            by_cases e : j = t
            · rw [e, uI_e, uI_e]
            · rw [uI_j e, uI_j e, uI_j e, uI_j e]; exact s7 j hj
          · show uI (uI (uI (uI I 12625 0 t (-5)) 12641 0 t 0) 12993 0 t (-5)) 13009 0 t 0 13009 0 j = uI (uI (uI (uI I 12625 0 t (-5)) 12641 0 t 0) 12993 0 t (-5)) 13009 0 t 0 12641 0 j
            by_cases e : j = t
            · rw [e, uI_e, uI_t (by omega), uI_t (by omega), uI_e]
            · rw [uI_j e, uI_j e, uI_j e, uI_j e, uI_j e, uI_j e, uI_j e, uI_j e]; exact s8 j hj
          · show uI (uI (uI (uI I 12625 0 t (-5)) 12641 0 t 0) 12993 0 t (-5)) 13009 0 t 0 12625 0 u = -5 ∨ ∃ p', p' < nW ∧ uI (uI (uI (uI I 12625 0 t (-5)) 12641 0 t 0) 12993 0 t (-5)) 13009 0 t 0 12625 0 u = c p'
            rw [uI_t (by omega), uI_t (by omega), uI_t (by omega)]
            by_cases e : u = t
            · rw [e, uI_e]; exact Or.inl rfl
            · rw [uI_j e]; exact h4 u hu
        exact ⟨_, _, L, w, _, L, E1, E2, R_core (hf.tr ((frX_u (Or.inr (by unfold mcl; omega))).tr (frX_u (Or.inr (by unfold mcl; omega))))) hM h⟩
  · rw [if_neg a] at E1 E2
    exact sm_no h E1 E2
/-- rows of one who forgets not -/
theorem sm64 (h : R I L w) : Sm I L w 64 124 [vI x, vI y, vI z] := by
  obtain ⟨nW, nT, dy, m, mk, nb, q⟩ := h.1
  obtain ⟨⟨a1, a2, a3⟩, ⟨b1, b2, b3, b4, b5, b6⟩, h3, h4, h5, h6, h7, h8⟩ := id q
  obtain ⟨s1, s2, s3, s4, s5, s6, s7, s8⟩ := sm_un h3
  have E1 := s64 (d := 58) (I := I) (L := L) (w := w) (x := x) (y := y) (z := z) a1 b1
  have E2 := s124 (d := 57) (I := I) (L := L) (w := w) (x := x) (y := y) (z := z) a1 b2
  by_cases a : (0 ≤ x ∧ x < c nW) ∧ (0 ≤ y ∧ y ≤ 3)
  · rw [if_pos a] at E1 E2
    by_cases b : 0 ≤ z ∧ z ≤ 9
    · rw [if_pos b] at E1 E2
      obtain ⟨p, hp', hp5, rfl⟩ := of_5 a1 a.1
      obtain ⟨i, hi, rfl⟩ := of_c (x := y) (n := 4) a.2.1 (by omega) (by have := a.2.2; show y < 4; grind)
      have ei : c p * 4 + c i = c (p * 4 + i) := by rw [show (4 : Int32) = c 4 from rfl, ← Int32.ofNat_mul, cq rfl]
      rw [ei, ix_c (by omega), ix_c (by omega)] at E1 E2
      have g1 : I 10865 0 p = I 10481 0 p := s1 p hp5
      rw [g1] at E2
      by_cases e : I 10481 0 p = 6
      · rw [if_pos e] at E1 E2
        clear E2
        have E2 := s124 (d := 57) (I := uI I 41265 0 (p * 4 + i) z) (L := L) (w := w) (x := c p) (y := c i) (z := z) a1 b2
        rw [if_pos a, if_pos b, ei, ix_c (by omega), ix_c (by omega), uI_t (by omega), uI_t (by omega), if_pos (g1.trans e)] at E2
        have g5 : I 41633 0 (p * 4 + i) = I 41265 0 (p * 4 + i) := s5 _ (by omega)
        rw [g5] at E2
        have hM : RM (uI (uI I 41265 0 (p * 4 + i) z) 41633 0 (p * 4 + i) z) := ⟨nW, nT, dy, m, mk, nb, ⟨a1, a2, a3⟩, ⟨b1, b2, b3, b4, b5, b6⟩, sm_mk s1 s2 s3 s4 (fun j hj => uI2 (by omega) (s5 j hj)) s6 s7 s8, h4, h5, h6, h7, h8⟩
        exact ⟨_, _, L, w, _, L, E1, E2, R_core ((frX_u (Or.inl (by unfold wtag; omega))).tr (frX_u (Or.inr (by unfold mcl; omega)))) hM h⟩
      · rw [if_neg e] at E1 E2
        exact sm_no h E1 E2
    · rw [if_neg b] at E1 E2
      exact sm_no h E1 E2
  · rw [if_neg a] at E1 E2
    exact sm_no h E1 E2
end P98n
