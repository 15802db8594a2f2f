set_option maxHeartbeats 400000
section P98u
variable {I I' : FI} {L : FL} {w w' : Nat → Nat} {t : Nat}
/-- all but what reading a town writes -/
def frV (T : Nat) (H H' : FI) : Prop := ∀ t k j, ¬ (t = 32 ∧ (j = 1 ∨ j = 2 ∨ j = 3)) → ¬ (k = T + 1 ∧ (t = 204961 ∨ t = 204977 ∨ t = 204993 ∨ t = 205009 ∨ t = 6288)) → ¬ (t = 12288 ∧ j = 1) → ¬ (t = 14944 ∧ (j = 11 ∨ j = 12 ∨ j = 13 ∨ j = 14 ∨ j = 15 ∨ j = 24 ∨ j = 25 ∨ j = 26)) → t ≠ 207697 → ¬ (t = 1229633 ∧ 100 * T ≤ j ∧ j < 100 * T + 100) → ¬ ((t = 123649 ∨ t = 123665 ∨ t = 123681 ∨ t = 123697) ∧ 10 * T ≤ j ∧ j < 10 * T + 10) → ¬ (t = 13041 ∧ j = T) → H' t k j = H t k j
theorem frV.tr {H H' H'' : FI} (h : frV t H H') (h' : frV t H' H'') : frV t H H'' := fun t k j a b d e f g i l => (h' t k j a b d e f g i l).trans (h t k j a b d e f g i l)
theorem frT_V {H H' : FI} (h : frT (t + 1) H H') : frV t H H' := fun t k j a b _ _ _ _ _ _ => h t k j (by omega) b
theorem frU_V {H H' : FI} (h : frU t H H') : frV t H H' := fun t k j _ _ _ e f g i l => h t k j (by omega) f g i l
theorem frV_u {H : FI} {a b : Nat} {v : Int32} (h : (a = 32 ∧ b = 1) ∨ (a = 12288 ∧ b = 1) ∨ (a = 14944 ∧ (b = 11 ∨ b = 12 ∨ b = 13))) : frV t H (uI H a 0 b v) := fun t' k j q1 _ q3 q4 _ _ _ _ => by
  unfold uI
  refine if_neg (fun z => ?_)
  rw [← z.1, ← z.2.2] at h
  rcases h with y | y | ⟨y, y1 | y1 | y1⟩
  · exact q1 ⟨y.1, Or.inl y.2⟩
  · exact q3 y
  · exact q4 ⟨y, Or.inl y1⟩
  · exact q4 ⟨y, Or.inr (Or.inl y1)⟩
  · exact q4 ⟨y, Or.inr (Or.inr (Or.inl y1))⟩
theorem TC_V {f : Nat} {cs : List Cl} (h : TC I f cs) (hne : f ≠ t) (k : frV t I I') : TC I' f cs := by
  obtain ⟨⟨⟨g0, g1⟩, g1b, g1c, g1d⟩, g2, g3, g4, g5, g6, g7, g8⟩ := h
  have K : ∀ t' j, (t' = 204961 ∨ t' = 204977 ∨ t' = 204993 ∨ t' = 205009 ∨ t' = 6288) → I' t' (f + 1) j = I t' (f + 1) j := fun t' j z => k _ _ _ (by omega) (by omega) (by omega) (by omega) (by omega) (by omega) (by omega) (by omega)
  refine ⟨⟨⟨?_, fun i a ha => ?_⟩, ?_, ?_, ?_⟩, fun i a ha => ?_, fun i a ha => ?_, ?_, g5, g6, g7, g8⟩
  · rw [K 6288 _ (by omega)]; exact g0
  · rw [K 204961 _ (by omega), K 204977 _ (by omega), K 204993 _ (by omega), K 205009 _ (by omega)]; exact g1 i a ha
  · rw [K 6288 _ (by omega)]; exact g1b
  · rw [K 6288 _ (by omega)]; exact g1c
  · rw [K 6288 _ (by omega)]; exact g1d
  · have := get_lt2 ha
    rw [k 1229633 0 (100 * f + i) (by omega) (by omega) (by omega) (by omega) (by omega) (by omega) (by omega) (by omega)]; exact g2 i a ha
  · have hi : i < cs.length := by
      apply Classical.byContradiction
      intro z
      rw [List.getElem?_eq_none (by omega)] at ha
      cases ha
    have K2 : ∀ t', (t' = 123649 ∨ t' = 123665 ∨ t' = 123681 ∨ t' = 123697) → I' t' 0 (10 * f + i) = I t' 0 (10 * f + i) := fun t' z => k _ _ _ (by omega) (by omega) (by omega) (by omega) (by omega) (by omega) (by omega) (by omega)
    rw [K2 _ (by omega), K2 _ (by omega), K2 _ (by omega), K2 _ (by omega)]; exact g3 i a ha
  · rw [k 13041 0 f (by omega) (by omega) (by omega) (by omega) (by omega) (by omega) (by omega) (by omega)]; exact g4
/-- after a town was read, or not -/
theorem town_R (h : R I L w) {nt nt' : Nat} (hN : RTw I nt) (hw0 : w 0 ≤ nt) (k : frV nt I I') (h1 : w' 1 = w 1) (hnt : nt ≤ nt') (hT : RTw I' nt') (hw' : w' 0 ≤ nt') (h12 : I' 14944 0 12 = tw (w' 0)) (hx1 : I' 32 0 1 = 0) (hx2 : I' 14944 0 13 = 0) : R I' L w' := by
  obtain ⟨g1, ⟨nt2, b1, b2, b3, b4⟩, g3, g4, g5, g6⟩ := h
  have ent : nt2 = nt := c_inj (by have := b1.1; omega) (by have := hN.1; omega) (b1.2.1.symm.trans hN.2.1)
  subst ent
  have K : ∀ t k' j, ¬ (t = 32 ∨ t = 204961 ∨ t = 204977 ∨ t = 204993 ∨ t = 205009 ∨ t = 6288 ∨ (t = 12288 ∧ j = 1) ∨ (t = 14944 ∧ (j = 11 ∨ j = 12 ∨ j = 13 ∨ j = 14 ∨ j = 15 ∨ j = 24 ∨ j = 25 ∨ j = 26)) ∨ t = 207697 ∨ t = 1229633 ∨ t = 123649 ∨ t = 123665 ∨ t = 123681 ∨ t = 123697 ∨ t = 13041) → I' t k' j = I t k' j := fun t k' j q => k t k' j (by omega) (by omega) (by omega) (by omega) (by omega) (by omega) (by omega) (by omega)
  refine ⟨RM_c (fun t j q => K _ _ _ (by have := CW_t q; omega)) (fun t j q => K _ _ _ (by unfold mcl at q; omega)) g1, ⟨nt', hT, hw', h12, ?_⟩, ⟨0, by omega, hx1, hx2, fun i hi => absurd hi (by omega)⟩, RT_c rfl (fun t k j q => K _ _ _ (by omega)) g4, RG_c (fun i => ⟨K _ _ _ (by omega), K _ _ _ (by omega)⟩) (K _ _ _ (by omega)) (K _ _ _ (by omega)) g5, fun i hi => (K _ _ _ (by omega)).trans (g6 i hi)⟩
  rw [K 12288 0 6 (by omega), K 14944 0 48 (by omega), K 14944 0 49 (by omega), h1]
  rcases b4 with e | ⟨e1, e2, e3, e4, e5⟩
  · exact Or.inl e
  · exact Or.inr ⟨e1, e2, RIm_c (fun t j q => K _ _ _ (by have := CW_t q; omega)) (fun t j q => K _ _ _ (by unfold icl at q; omega)) e3, by omega, e5⟩
theorem sm66 (h : R I L w) : Sm I L w 66 140 [] := by
  obtain ⟨g1, ⟨t, hN, b2, b3, b4⟩, ⟨n, r1, r2, r3, r4⟩, g4, g5, g6⟩ := id h
  obtain ⟨n1, n2, n3, n4, n5⟩ := id hN
  have hC : CT (I 204849 0) n I := ⟨r2, fun i _ => rfl⟩
  have hb : TB7 (I 204849 0) n := fun i hi => by obtain ⟨b, q1, q2, q3⟩ := r4 i hi; exact ⟨b, q1, q2⟩
  have hM : MTx (I 204849 0) n I := ⟨r3, fun i hi => by obtain ⟨b, q1, q2, q3⟩ := r4 i hi; rw [q2, q3]⟩
  rcases c66 (L := L) (w := w) r1 hb hC n1 n2 with ⟨e, E1⟩ | ⟨ht6, H', f1, c2⟩
  · rcases s140 (L := L) (w := w) r1 hM g6 n1 n3 with ⟨-, E2⟩ | ⟨z, -⟩
    · exact sm_no h E1 E2
    · omega
  · have zeros : ∀ J, frV t I J → J 6288 0 0 = 10 ∧ J 6288 0 1 = 0 ∧ J 6288 0 2 = 5 ∧ J 6288 0 3 = 0 := fun J k => by
      have K : ∀ j, J 6288 0 j = I 6288 0 j := fun j => k _ _ _ (by omega) (by omega) (by omega) (by omega) (by omega) (by omega) (by omega) (by omega)
      rw [K, K, K, K]; exact n4
    rcases c2 with ⟨hok, c3, c4, c5, E1⟩ | ⟨hok, E1⟩
    · have k1 : frV t I (uI (uI H' 32 0 1 0) 12288 0 1 (c (t + 1))) := ((frT_V f1).tr (frV_u (by omega))).tr (frV_u (by omega))
      have M1 : MTx (I 204849 0) n (uI (uI H' 32 0 1 0) 12288 0 1 (c (t + 1))) := ⟨by rw [uI_t (by omega), uI_t (by omega), f1 _ _ _ (by omega) (by omega)]; exact hM.1, fun i hi => by rw [uI_t (by omega), uI_t (by omega), f1 _ _ _ (by omega) (by omega)]; exact hM.2 i hi⟩
      have L1 : HLt (uI (uI H' 32 0 1 0) 12288 0 1 (c (t + 1))) := fun i hi => by rw [uI_t (by omega), uI_t (by omega), f1 _ _ _ (by omega) (by omega)]; exact g6 i hi
      rcases s140 (L := L) (w := sW w 0 (t + 1)) r1 M1 L1 n1 (show uI (uI H' 32 0 1 0) 12288 0 1 (c (t + 1)) 14944 0 11 = c t by rw [uI_t (by omega), uI_t (by omega), f1 _ _ _ (by omega) (by omega)]; exact n3) with ⟨e, -⟩ | ⟨-, H2, f2, d2⟩
      · omega
      rcases d2 with ⟨-, d3, d4, d5, d6, d7, E2⟩ | ⟨z, -⟩
      · have k2 : frV t (uI (uI H' 32 0 1 0) 12288 0 1 (c (t + 1))) (uI (uI (uI H2 14944 0 13 0) 14944 0 12 (c t)) 14944 0 11 (c (t + 1))) := (((frU_V f2).tr (frV_u (by omega))).tr (frV_u (by omega))).tr (frV_u (by omega))
        have kk := k1.tr k2
        have CA : ∀ a ∈ (rdI (nxF (I 204849 0) n) n 10 0 []).2.2, CO a := CO_I 10 0 [] (fun a ha => by cases ha) hok
        have T2 : ∀ t' k' j, t' ≠ 14944 → uI (uI (uI H2 14944 0 13 0) 14944 0 12 (c t)) 14944 0 11 (c (t + 1)) t' k' j = H2 t' k' j := fun t' k' j q => by rw [uI_t q, uI_t q, uI_t q]
        have T1 : ∀ t' k' j, (t' = 204961 ∨ t' = 204977 ∨ t' = 204993 ∨ t' = 205009 ∨ t' = 6288) → uI (uI (uI H2 14944 0 13 0) 14944 0 12 (c t)) 14944 0 11 (c (t + 1)) t' k' j = H' t' k' j := fun t' k' j q => by
          rw [T2 _ _ _ (by omega), f2 _ _ _ (by omega) (by omega) (by omega) (by omega) (by omega), uI_t (by omega), uI_t (by omega)]
        have hTC : TC (uI (uI (uI H2 14944 0 13 0) 14944 0 12 (c t)) 14944 0 11 (c (t + 1))) t (rdI (nxF (I 204849 0) n) n 10 0 []).2.2 := by
          obtain ⟨⟨x0, x1⟩, x2, x3, x4⟩ := c3
          refine ⟨⟨⟨?_, fun i a ha => ?_⟩, ?_, ?_, ?_⟩, fun i a ha => ?_, fun i a ha => ?_, ?_, d6, c4, d7, CA⟩
          · rw [T1 _ _ _ (by omega)]; exact x0
          · rw [T1 _ _ _ (by omega), T1 _ _ _ (by omega), T1 _ _ _ (by omega), T1 _ _ _ (by omega)]; exact x1 i a ha
          · rw [T1 _ _ _ (by omega)]; exact x2
          · rw [T1 _ _ _ (by omega)]; exact x3
          · rw [T1 _ _ _ (by omega)]; exact x4
          · rw [T2 _ _ _ (by omega)]; exact d3.2 i a ha
          · rw [T2 _ _ _ (by omega), T2 _ _ _ (by omega), T2 _ _ _ (by omega), T2 _ _ _ (by omega)]; exact d4 i a ha
          · rw [T2 _ _ _ (by omega)]; exact d5
        have hT : RTw (uI (uI (uI H2 14944 0 13 0) 14944 0 12 (c t)) 14944 0 11 (c (t + 1))) (t + 1) := by
          refine ⟨by omega, ?_, uI_e, zeros _ kk, fun f hf => ?_⟩
          · rw [T2 _ _ _ (by omega), f2 _ _ _ (by omega) (by omega) (by omega) (by omega) (by omega), uI_e]
          · by_cases e : f = t
            · rw [e]; exact ⟨_, hTC⟩
            · obtain ⟨cs, hcs⟩ := n5 f (by omega)
              exact ⟨cs, TC_V hcs e kk⟩
        refine ⟨_, _, L, sW w 0 (t + 1), _, L, E1, E2, town_R h hN b2 kk rfl (by omega) hT (Nat.le_refl _) ?_ ?_ ?_⟩
        · rw [uI_j (by omega), uI_e]; rfl
        · rw [T2 _ _ _ (by omega), f2 _ _ _ (by omega) (by omega) (by omega) (by omega) (by omega), uI_t (by omega), uI_e]
        · rw [uI_j (by omega), uI_j (by omega), uI_e]
      · rw [hok] at z; cases z
    · have k1 : frV t I (uI H' 32 0 1 0) := (frT_V f1).tr (frV_u (by omega))
      have M1 : MTx (I 204849 0) n (uI H' 32 0 1 0) := ⟨by rw [uI_t (by omega), f1 _ _ _ (by omega) (by omega)]; exact hM.1, fun i hi => by rw [uI_t (by omega), f1 _ _ _ (by omega) (by omega)]; exact hM.2 i hi⟩
      have L1 : HLt (uI H' 32 0 1 0) := fun i hi => by rw [uI_t (by omega), f1 _ _ _ (by omega) (by omega)]; exact g6 i hi
      rcases s140 (L := L) (w := w) r1 M1 L1 n1 (show uI H' 32 0 1 0 14944 0 11 = c t by rw [uI_t (by omega), f1 _ _ _ (by omega) (by omega)]; exact n3) with ⟨e, -⟩ | ⟨-, H2, f2, d2⟩
      · omega
      rcases d2 with ⟨z, -⟩ | ⟨-, E2⟩
      · rw [hok] at z; cases z
      · have k2 : frV t (uI H' 32 0 1 0) (uI H2 14944 0 13 0) := (frU_V f2).tr (frV_u (by omega))
        have kk := k1.tr k2
        have T2 : ∀ t' k' j, t' ≠ 14944 → uI H2 14944 0 13 0 t' k' j = H2 t' k' j := fun t' k' j q => uI_t q
        have hT : RTw (uI H2 14944 0 13 0) t := by
          refine ⟨by omega, ?_, ?_, zeros _ kk, fun f hf => ?_⟩
          · rw [T2 _ _ _ (by omega), f2 _ _ _ (by omega) (by omega) (by omega) (by omega) (by omega), uI_t (by omega), f1 _ _ _ (by omega) (by omega)]; exact n2
          · rw [uI_j (by omega), f2 _ _ _ (by omega) (by omega) (by omega) (by omega) (by omega), uI_t (by omega), f1 _ _ _ (by omega) (by omega)]; exact n3
          · obtain ⟨cs, hcs⟩ := n5 f hf
            exact ⟨cs, TC_V hcs (by omega) kk⟩
        refine ⟨_, _, L, w, _, L, E1, E2, town_R h hN b2 kk rfl (Nat.le_refl _) hT b2 ?_ ?_ uI_e⟩
        · rw [uI_j (by omega), f2 _ _ _ (by omega) (by omega) (by omega) (by omega) (by omega), uI_t (by omega), f1 _ _ _ (by omega) (by omega)]; exact b3
        · rw [T2 _ _ _ (by omega), f2 _ _ _ (by omega) (by omega) (by omega) (by omega) (by omega), uI_e]
end P98u
