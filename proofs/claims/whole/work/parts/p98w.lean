set_option maxHeartbeats 400000
section P98w
variable {I I' X : FI} {L : FL} {w w' : Nat → Nat} {nW nT dy m mk nb nt : Nat} {t k j : Nat}
theorem uI_n {x : Int32} {t k j t' k' j' : Nat} (h : ¬ (t' = t ∧ k' = k ∧ j' = j)) : uI I t k j x t' k' j' = I t' k' j' := if_neg h
theorem rvM_10464_0 : rvM I 10464 0 = I 14944 0 0 := rfl
theorem rvM_10481 : rvM I 10481 j = I 10865 0 j := rfl
theorem rvM_10497 : rvM I 10497 j = I 10881 0 j := rfl
theorem rvM_10513 : rvM I 10513 j = I 10897 0 j := rfl
theorem rvM_10530 : rvM I 10530 j = if hs (I 14944 0 1) j = true then 1 else 0 := rfl
theorem rvM_41265 : rvM I 41265 j = I 41633 0 j := rfl
theorem rvM_10464_6 : rvM I 10464 6 = I 14944 0 2 := rfl
theorem rvM_12609 : rvM I 12609 j = I 12977 0 j := rfl
theorem rvM_12625 : rvM I 12625 j = I 12993 0 j := rfl
theorem rvM_12641 : rvM I 12641 j = I 13009 0 j := rfl
theorem rvM_10464_10 : rvM I 10464 10 = I 14944 0 3 := rfl
theorem rvM_2416_0 : rvM I 2416 0 = I 14944 0 38 := rfl
theorem rvM_10625 : rvM I 10625 j = I 11233 0 j := rfl
theorem rvM_10641 : rvM I 10641 j = I 11249 0 j := rfl
theorem rvM_10657 : rvM I 10657 j = I 11265 0 j := rfl
theorem rvM_2480_0 : rvM I 2480 0 = I 14944 0 42 := rfl
theorem rvM_20929 : rvM I 20929 j = I 21521 0 j := rfl
theorem rvM_20945 : rvM I 20945 j = I 21537 0 j := rfl
theorem rvM_20961 : rvM I 20961 j = 0 := rfl
theorem rvM_2544_0 : rvM I 2544 0 = I 14944 0 43 := rfl
theorem rvM_16897 : rvM I 16897 j = I 17457 0 j := rfl
theorem rvM_16913 : rvM I 16913 j = I 17473 0 j := rfl
theorem rvM_16929 : rvM I 16929 j = 0 := rfl
theorem rvI_10464_0 : rvI I 10464 0 = I 14944 0 50 := rfl
theorem rvI_10481 : rvI I 10481 j = I 11345 0 j := rfl
theorem rvI_10497 : rvI I 10497 j = I 11361 0 j := rfl
theorem rvI_10513 : rvI I 10513 j = I 11377 0 j := rfl
theorem rvI_10530 : rvI I 10530 j = if hs (I 14944 0 51) j = true then 1 else 0 := rfl
theorem rvI_41265 : rvI I 41265 j = I 42113 0 j := rfl
theorem rvI_10464_6 : rvI I 10464 6 = I 14944 0 52 := rfl
theorem rvI_12609 : rvI I 12609 j = I 13457 0 j := rfl
theorem rvI_12625 : rvI I 12625 j = I 13473 0 j := rfl
theorem rvI_12641 : rvI I 12641 j = I 13489 0 j := rfl
theorem rvI_10464_10 : rvI I 10464 10 = I 14944 0 53 := rfl
theorem rvI_2416_0 : rvI I 2416 0 = I 14944 0 54 := rfl
theorem rvI_10625 : rvI I 10625 j = I 11457 0 j := rfl
theorem rvI_10641 : rvI I 10641 j = I 11473 0 j := rfl
theorem rvI_10657 : rvI I 10657 j = I 11489 0 j := rfl
theorem rvI_2480_0 : rvI I 2480 0 = I 14944 0 55 := rfl
theorem rvI_20929 : rvI I 20929 j = I 21745 0 j := rfl
theorem rvI_20945 : rvI I 20945 j = I 21761 0 j := rfl
theorem rvI_20961 : rvI I 20961 j = 0 := rfl
theorem rvI_2544_0 : rvI I 2544 0 = I 14944 0 56 := rfl
theorem rvI_16897 : rvI I 16897 j = I 17681 0 j := rfl
theorem rvI_16913 : rvI I 16913 j = I 17697 0 j := rfl
theorem rvI_16929 : rvI I 16929 j = 0 := rfl
theorem rvI_im (h50 : X 14944 0 50 = I 14944 0 0) (h51 : X 14944 0 51 = I 14944 0 1) (h52 : X 14944 0 52 = I 14944 0 2) (h53 : X 14944 0 53 = I 14944 0 3) (h54 : X 14944 0 54 = I 14944 0 38) (h55 : X 14944 0 55 = I 14944 0 42) (h56 : X 14944 0 56 = I 14944 0 43) (hX : ∀ t j, t ≠ 14944 → X t 0 j = I t 0 j) (ht : CW t j) : rvI (pw fIm (bIm 5 20 6 10 8) X) t j = rvM I t j := by
  unfold CW at ht
  rcases ht with ((((((((((((((((((((((h | h) | h) | h) | h) | h) | h) | h) | h) | h) | h) | h) | h) | h) | h) | h) | h) | h) | h) | h) | h) | h) | h)
  · obtain ⟨h1, hj⟩ := h
    subst h1
    subst hj
    rw [rvI_10464_0, rvM_10464_0]
    rw [pw_n (show bIm 5 20 6 10 8 14944 = 0 from rfl), h50]
  · obtain ⟨h1, hj⟩ := h
    subst h1
    rw [rvI_10481, rvM_10481]
    rw [pw_y (show j < bIm 5 20 6 10 8 11345 from hj), show fIm 11345 = 10865 from rfl, hX 10865 j (by omega)]
  · obtain ⟨h1, hj⟩ := h
    subst h1
    rw [rvI_10497, rvM_10497]
    rw [pw_y (show j < bIm 5 20 6 10 8 11361 from hj), show fIm 11361 = 10881 from rfl, hX 10881 j (by omega)]
  · obtain ⟨h1, hj⟩ := h
    subst h1
    rw [rvI_10513, rvM_10513]
    rw [pw_y (show j < bIm 5 20 6 10 8 11377 from hj), show fIm 11377 = 10897 from rfl, hX 10897 j (by omega)]
  · obtain ⟨h1, hj⟩ := h
    subst h1
    rw [rvI_10530, rvM_10530]
    rw [pw_n (show bIm 5 20 6 10 8 14944 = 0 from rfl), h51]
  · obtain ⟨h1, hj⟩ := h
    subst h1
    rw [rvI_41265, rvM_41265]
    rw [pw_y (show j < bIm 5 20 6 10 8 42113 from hj), show fIm 42113 = 41633 from rfl, hX 41633 j (by omega)]
  · obtain ⟨h1, hj⟩ := h
    subst h1
    subst hj
    rw [rvI_10464_6, rvM_10464_6]
    rw [pw_n (show bIm 5 20 6 10 8 14944 = 0 from rfl), h52]
  · obtain ⟨h1, hj⟩ := h
    subst h1
    rw [rvI_12609, rvM_12609]
    rw [pw_y (show j < bIm 5 20 6 10 8 13457 from hj), show fIm 13457 = 12977 from rfl, hX 12977 j (by omega)]
  · obtain ⟨h1, hj⟩ := h
    subst h1
    rw [rvI_12625, rvM_12625]
    rw [pw_y (show j < bIm 5 20 6 10 8 13473 from hj), show fIm 13473 = 12993 from rfl, hX 12993 j (by omega)]
  · obtain ⟨h1, hj⟩ := h
    subst h1
    rw [rvI_12641, rvM_12641]
    rw [pw_y (show j < bIm 5 20 6 10 8 13489 from hj), show fIm 13489 = 13009 from rfl, hX 13009 j (by omega)]
  · obtain ⟨h1, hj⟩ := h
    subst h1
    subst hj
    rw [rvI_10464_10, rvM_10464_10]
    rw [pw_n (show bIm 5 20 6 10 8 14944 = 0 from rfl), h53]
  · obtain ⟨h1, hj⟩ := h
    subst h1
    subst hj
    rw [rvI_2416_0, rvM_2416_0]
    rw [pw_n (show bIm 5 20 6 10 8 14944 = 0 from rfl), h54]
  · obtain ⟨h1, hj⟩ := h
    subst h1
    rw [rvI_10625, rvM_10625]
    rw [pw_y (show j < bIm 5 20 6 10 8 11457 from hj), show fIm 11457 = 11233 from rfl, hX 11233 j (by omega)]
  · obtain ⟨h1, hj⟩ := h
    subst h1
    rw [rvI_10641, rvM_10641]
    rw [pw_y (show j < bIm 5 20 6 10 8 11473 from hj), show fIm 11473 = 11249 from rfl, hX 11249 j (by omega)]
  · obtain ⟨h1, hj⟩ := h
    subst h1
    rw [rvI_10657, rvM_10657]
    rw [pw_y (show j < bIm 5 20 6 10 8 11489 from hj), show fIm 11489 = 11265 from rfl, hX 11265 j (by omega)]
  · obtain ⟨h1, hj⟩ := h
    subst h1
    subst hj
    rw [rvI_2480_0, rvM_2480_0]
    rw [pw_n (show bIm 5 20 6 10 8 14944 = 0 from rfl), h55]
  · obtain ⟨h1, hj⟩ := h
    subst h1
    rw [rvI_20929, rvM_20929]
    rw [pw_y (show j < bIm 5 20 6 10 8 21745 from hj), show fIm 21745 = 21521 from rfl, hX 21521 j (by omega)]
  · obtain ⟨h1, hj⟩ := h
    subst h1
    rw [rvI_20945, rvM_20945]
    rw [pw_y (show j < bIm 5 20 6 10 8 21761 from hj), show fIm 21761 = 21537 from rfl, hX 21537 j (by omega)]
  · obtain ⟨h1, hj⟩ := h
    subst h1
    rw [rvI_20961, rvM_20961]
  · obtain ⟨h1, hj⟩ := h
    subst h1
    subst hj
    rw [rvI_2544_0, rvM_2544_0]
    rw [pw_n (show bIm 5 20 6 10 8 14944 = 0 from rfl), h56]
  · obtain ⟨h1, hj⟩ := h
    subst h1
    rw [rvI_16897, rvM_16897]
    rw [pw_y (show j < bIm 5 20 6 10 8 17681 from hj), show fIm 17681 = 17457 from rfl, hX 17457 j (by omega)]
  · obtain ⟨h1, hj⟩ := h
    subst h1
    rw [rvI_16913, rvM_16913]
    rw [pw_y (show j < bIm 5 20 6 10 8 17697 from hj), show fIm 17697 = 17473 from rfl, hX 17473 j (by omega)]
  · obtain ⟨h1, hj⟩ := h
    subst h1
    rw [rvI_16929, rvM_16929]
theorem rvM_un (h0 : X 14944 0 0 = I 14944 0 50) (h1 : X 14944 0 1 = I 14944 0 51) (h2 : X 14944 0 2 = I 14944 0 52) (h3 : X 14944 0 3 = I 14944 0 53) (h38 : X 14944 0 38 = I 14944 0 54) (h42 : X 14944 0 42 = I 14944 0 55) (h43 : X 14944 0 43 = I 14944 0 56) (hX : ∀ t j, t ≠ 14944 → X t 0 j = I t 0 j) (ht : CW t j) : rvM (pw fUn (bUn 5 20 6 10 8) X) t j = rvI I t j := by
  unfold CW at ht
  rcases ht with ((((((((((((((((((((((h | h) | h) | h) | h) | h) | h) | h) | h) | h) | h) | h) | h) | h) | h) | h) | h) | h) | h) | h) | h) | h) | h)
  · obtain ⟨h1, hj⟩ := h
    subst h1
    subst hj
    rw [rvM_10464_0, rvI_10464_0]
    rw [pw_n (show bUn 5 20 6 10 8 14944 = 0 from rfl), h0]
  · obtain ⟨h1, hj⟩ := h
    subst h1
    rw [rvM_10481, rvI_10481]
    rw [pw_y (show j < bUn 5 20 6 10 8 10865 from hj), show fUn 10865 = 11345 from rfl, hX 11345 j (by omega)]
  · obtain ⟨h1, hj⟩ := h
    subst h1
    rw [rvM_10497, rvI_10497]
    rw [pw_y (show j < bUn 5 20 6 10 8 10881 from hj), show fUn 10881 = 11361 from rfl, hX 11361 j (by omega)]
  · obtain ⟨h1, hj⟩ := h
    subst h1
    rw [rvM_10513, rvI_10513]
    rw [pw_y (show j < bUn 5 20 6 10 8 10897 from hj), show fUn 10897 = 11377 from rfl, hX 11377 j (by omega)]
  · obtain ⟨h1, hj⟩ := h
    subst h1
    rw [rvM_10530, rvI_10530]
    rw [pw_n (show bUn 5 20 6 10 8 14944 = 0 from rfl), h1]
  · obtain ⟨h1, hj⟩ := h
    subst h1
    rw [rvM_41265, rvI_41265]
    rw [pw_y (show j < bUn 5 20 6 10 8 41633 from hj), show fUn 41633 = 42113 from rfl, hX 42113 j (by omega)]
  · obtain ⟨h1, hj⟩ := h
    subst h1
    subst hj
    rw [rvM_10464_6, rvI_10464_6]
    rw [pw_n (show bUn 5 20 6 10 8 14944 = 0 from rfl), h2]
  · obtain ⟨h1, hj⟩ := h
    subst h1
    rw [rvM_12609, rvI_12609]
    rw [pw_y (show j < bUn 5 20 6 10 8 12977 from hj), show fUn 12977 = 13457 from rfl, hX 13457 j (by omega)]
  · obtain ⟨h1, hj⟩ := h
    subst h1
    rw [rvM_12625, rvI_12625]
    rw [pw_y (show j < bUn 5 20 6 10 8 12993 from hj), show fUn 12993 = 13473 from rfl, hX 13473 j (by omega)]
  · obtain ⟨h1, hj⟩ := h
    subst h1
    rw [rvM_12641, rvI_12641]
    rw [pw_y (show j < bUn 5 20 6 10 8 13009 from hj), show fUn 13009 = 13489 from rfl, hX 13489 j (by omega)]
  · obtain ⟨h1, hj⟩ := h
    subst h1
    subst hj
    rw [rvM_10464_10, rvI_10464_10]
    rw [pw_n (show bUn 5 20 6 10 8 14944 = 0 from rfl), h3]
  · obtain ⟨h1, hj⟩ := h
    subst h1
    subst hj
    rw [rvM_2416_0, rvI_2416_0]
    rw [pw_n (show bUn 5 20 6 10 8 14944 = 0 from rfl), h38]
  · obtain ⟨h1, hj⟩ := h
    subst h1
    rw [rvM_10625, rvI_10625]
    rw [pw_y (show j < bUn 5 20 6 10 8 11233 from hj), show fUn 11233 = 11457 from rfl, hX 11457 j (by omega)]
  · obtain ⟨h1, hj⟩ := h
    subst h1
    rw [rvM_10641, rvI_10641]
    rw [pw_y (show j < bUn 5 20 6 10 8 11249 from hj), show fUn 11249 = 11473 from rfl, hX 11473 j (by omega)]
  · obtain ⟨h1, hj⟩ := h
    subst h1
    rw [rvM_10657, rvI_10657]
    rw [pw_y (show j < bUn 5 20 6 10 8 11265 from hj), show fUn 11265 = 11489 from rfl, hX 11489 j (by omega)]
  · obtain ⟨h1, hj⟩ := h
    subst h1
    subst hj
    rw [rvM_2480_0, rvI_2480_0]
    rw [pw_n (show bUn 5 20 6 10 8 14944 = 0 from rfl), h42]
  · obtain ⟨h1, hj⟩ := h
    subst h1
    rw [rvM_20929, rvI_20929]
    rw [pw_y (show j < bUn 5 20 6 10 8 21521 from hj), show fUn 21521 = 21745 from rfl, hX 21745 j (by omega)]
  · obtain ⟨h1, hj⟩ := h
    subst h1
    rw [rvM_20945, rvI_20945]
    rw [pw_y (show j < bUn 5 20 6 10 8 21537 from hj), show fUn 21537 = 21761 from rfl, hX 21761 j (by omega)]
  · obtain ⟨h1, hj⟩ := h
    subst h1
    rw [rvM_20961, rvI_20961]
  · obtain ⟨h1, hj⟩ := h
    subst h1
    subst hj
    rw [rvM_2544_0, rvI_2544_0]
    rw [pw_n (show bUn 5 20 6 10 8 14944 = 0 from rfl), h43]
  · obtain ⟨h1, hj⟩ := h
    subst h1
    rw [rvM_16897, rvI_16897]
    rw [pw_y (show j < bUn 5 20 6 10 8 17457 from hj), show fUn 17457 = 17681 from rfl, hX 17681 j (by omega)]
  · obtain ⟨h1, hj⟩ := h
    subst h1
    rw [rvM_16913, rvI_16913]
    rw [pw_y (show j < bUn 5 20 6 10 8 17473 from hj), show fUn 17473 = 17697 from rfl, hX 17697 j (by omega)]
  · obtain ⟨h1, hj⟩ := h
    subst h1
    rw [rvM_16929, rvI_16929]
theorem bIm_n (h : ¬ icl t j) : bIm 5 20 6 10 8 t = 0 := by
  unfold icl at h
  unfold bIm
  rw [if_neg (by omega), if_neg (by omega), if_neg (by omega), if_neg (by omega), if_neg (by omega)]
theorem bUn_n (h : ¬ mcl t j) : bUn 5 20 6 10 8 t = 0 := by
  unfold mcl at h
  unfold bUn
  rw [if_neg (by omega), if_neg (by omega), if_neg (by omega), if_neg (by omega), if_neg (by omega)]
theorem gone_1 {A B : Nat → Nat → Int32} (q : RWn A B nW nT dy m mk nb) {x : Int32} (hB : B 10530 j = if hs x j = true then 1 else 0) (hj : j < 5) : A 10530 j = 0 ∨ A 10530 j = 1 := by
  have h := q.2.2.1 10530 j (by unfold smC; omega)
  rw [← h, hB]
  split
  · exact Or.inr rfl
  · exact Or.inl rfl
/-- the image is taken -/
theorem sm87 (h : R I L w) : Sm I L w 87 186 [] := by
  obtain ⟨g1, ⟨nt, a, b, d, e⟩, g3, g4, g5, g6⟩ := id h
  obtain ⟨nW, nT, dy, m, mk, nb, q⟩ := id g1
  obtain ⟨cw, hc, E0⟩ := s30 (d := 57) (I := I) (L := L) (w := w) (a := 1) (b := 0) (by omega) (fun j hj => gone_1 (x := I 14944 0 1) q rfl hj)
  have E0 : dn 59 30 [vR 10464 1, vR 10464 0] (hp I L w) = some (none, hp (cpB cw I 1 0) L (sW w 1 (w 0))) := E0
  have E1 : dn 60 87 [vR 12288 0] (hp I L w) = some (some (vI (c nW)), hp (uI (cpB cw I 1 0) 12288 0 6 1) L (sW w 1 (w 0))) := by
    rw [e87, b87_0, E0, bn_s]
    show rn none _ 87 11 _ [] _ = _
    rw [b87_11, cpB_b (by omega), show I 10464 0 0 = c nW from q.2.1.1]
  generalize hI1 : uI (cpB cw I 1 0) 12288 0 6 1 = I1 at E1
  have hn : I1 14944 0 0 = c nW := by
    rw [← hI1, uI_t (by omega), cpB_b (by omega)]
    exact q.2.1.2.1
  generalize hX : uI (uI (uI (uI (uI (uI (uI (uI (uI I1 14944 0 48 1) 14944 0 49 (I1 14944 0 12)) 14944 0 50 (I1 14944 0 0)) 14944 0 51 (I1 14944 0 1)) 14944 0 52 (I1 14944 0 2)) 14944 0 53 (I1 14944 0 3)) 14944 0 54 (I1 14944 0 38)) 14944 0 55 (I1 14944 0 42)) 14944 0 56 (I1 14944 0 43) = X
  have X0 : ∀ t k j, ¬ (t = 14944 ∧ k = 0 ∧ 48 ≤ j ∧ j ≤ 56) → X t k j = I1 t k j := fun t k j z => by
    rw [← hX, uI_n (by omega), uI_n (by omega), uI_n (by omega), uI_n (by omega), uI_n (by omega), uI_n (by omega), uI_n (by omega), uI_n (by omega), uI_n (by omega)]
  have X56 : X 14944 0 56 = I1 14944 0 43 := by rw [← hX, uI_e]
  have X55 : X 14944 0 55 = I1 14944 0 42 := by rw [← hX, uI_j (by omega), uI_e]
  have X54 : X 14944 0 54 = I1 14944 0 38 := by rw [← hX, uI_j (by omega), uI_j (by omega), uI_e]
  have X53 : X 14944 0 53 = I1 14944 0 3 := by rw [← hX, uI_j (by omega), uI_j (by omega), uI_j (by omega), uI_e]
  have X52 : X 14944 0 52 = I1 14944 0 2 := by rw [← hX, uI_j (by omega), uI_j (by omega), uI_j (by omega), uI_j (by omega), uI_e]
  have X51 : X 14944 0 51 = I1 14944 0 1 := by rw [← hX, uI_j (by omega), uI_j (by omega), uI_j (by omega), uI_j (by omega), uI_j (by omega), uI_e]
  have X50 : X 14944 0 50 = I1 14944 0 0 := by rw [← hX, uI_j (by omega), uI_j (by omega), uI_j (by omega), uI_j (by omega), uI_j (by omega), uI_j (by omega), uI_e]
  have X49 : X 14944 0 49 = I1 14944 0 12 := by rw [← hX, uI_j (by omega), uI_j (by omega), uI_j (by omega), uI_j (by omega), uI_j (by omega), uI_j (by omega), uI_j (by omega), uI_e]
  have X48 : X 14944 0 48 = 1 := by rw [← hX, uI_j (by omega), uI_j (by omega), uI_j (by omega), uI_j (by omega), uI_j (by omega), uI_j (by omega), uI_j (by omega), uI_j (by omega), uI_e]
  have E2 : dn 60 186 [vR 14944 0] (hp I1 L (sW w 1 (w 0))) = some (some (vI (c nW)), hp (pw fIm (bIm 5 20 6 10 8) X) L (sW w 1 (w 0))) := by
    rw [e186, b186_0, hX, a186, X0 _ _ _ (by omega), hn]
  have I14 : ∀ j, I1 14944 0 j = I 14944 0 j := fun j => by rw [← hI1, uI_t (by omega), cpB_b (by omega)]
  have I0 : ∀ t j, t ≠ 12288 → I1 t 0 j = I t 0 j := fun t j z => by rw [← hI1, uI_t z, cpB_b (by omega)]
  have hF0 : ∀ t k j, ¬ (k = 1 ∧ CW t j) → ¬ (t = 12288 ∧ j = 6) → ¬ (t = 14944 ∧ 48 ≤ j ∧ j ≤ 56) → ¬ icl t j → pw fIm (bIm 5 20 6 10 8) X t k j = I t k j := fun t k j z1 z2 z3 z4 => by
    rw [pw_n (bIm_n z4), X0 _ _ _ (by omega), ← hI1, uI_n (by omega)]
    exact if_neg (fun z => z1 ⟨z.1, (hc _ _).mp z.2⟩)
  have hF : ∀ t k j, ¬ (wtag t ∨ (t = 12288 ∧ j = 6) ∨ (t = 14944 ∧ 48 ≤ j ∧ j ≤ 56) ∨ icl t j) → pw fIm (bIm 5 20 6 10 8) X t k j = I t k j := fun t k j z => hF0 t k j (fun y => z (Or.inl (CW_t y.2))) (fun y => z (Or.inr (Or.inl y))) (fun y => z (Or.inr (Or.inr (Or.inl y)))) (fun y => z (Or.inr (Or.inr (Or.inr y))))
  have hIm : RIm (pw fIm (bIm 5 20 6 10 8) X) := by
    refine ⟨nW, nT, dy, m, mk, nb, RWn_c (A := fun t j => I t 0 j) (B := rvM I) (fun t j ht => ?_) (fun t j ht => ?_) q⟩
    · have ht' := CW_t ht
      show pw fIm (bIm 5 20 6 10 8) X t 1 j = I t 0 j
      rw [pw_n (bIm_n (j := j) (by unfold icl; omega)), X0 _ _ _ (by omega), ← hI1, uI_n (by omega)]
      exact if_pos ⟨rfl, (hc _ _).mpr ht⟩
    · rw [rvI_im (I := I1) X50 X51 X52 X53 X54 X55 X56 (fun t j z => X0 _ _ _ (by omega)) ht]
      exact congrFun (congrFun (rvM_c (fun t j z => I0 t j (by unfold mcl at z; omega))) t) j
  refine ⟨_, _, L, _, _, L, E1, E2, RM_c (fun t j ht => hF0 t 0 j (by omega) (by have := CW_t ht; omega) (by have := CW_t ht; omega) (by have := CW_t ht; unfold icl; omega)) (fun t j ht => hF0 t 0 j (by omega) (by unfold mcl at ht; omega) (by unfold mcl at ht; omega) (by unfold mcl at ht; unfold icl; omega)) g1, ⟨nt, RTw_c (fun t j i z => hF _ _ _ (by unfold tcl at z; unfold wtag icl; omega)) (hF _ _ _ (by unfold wtag icl; omega)) (hF _ _ _ (by unfold wtag icl; omega)) a, b, ?_, Or.inr ⟨?_, ?_, hIm, b, ?_⟩⟩, RX_c (fun i => ⟨hF _ _ _ (by unfold wtag icl; omega), hF _ _ _ (by unfold wtag icl; omega)⟩) (hF _ _ _ (by unfold wtag icl; omega)) (hF _ _ _ (by unfold wtag icl; omega)) g3, RT_c rfl (fun t k j z => hF _ _ _ (by unfold wtag icl; omega)) g4, RG_c (fun i => ⟨hF _ _ _ (by unfold wtag icl; omega), hF _ _ _ (by unfold wtag icl; omega)⟩) (hF _ _ _ (by unfold wtag icl; omega)) (hF _ _ _ (by unfold wtag icl; omega)) g5, fun i hi => (hF _ _ _ (by unfold wtag icl; omega)).trans (g6 i hi)⟩
  · rw [hF _ _ _ (by unfold wtag icl; omega)]; exact d
  · rw [pw_n (show bIm 5 20 6 10 8 12288 = 0 from rfl), X0 _ _ _ (by omega), ← hI1, uI_e]
  · rw [pw_n (show bIm 5 20 6 10 8 14944 = 0 from rfl), X48]
  · rw [pw_n (show bIm 5 20 6 10 8 14944 = 0 from rfl), X49, I14]; exact d
/-- all is as it was -/
theorem sm88 (h : R I L w) : Sm I L w 88 187 [] := by
  obtain ⟨g1, ⟨nt, a, b, d, e⟩, g3, g4, g5, g6⟩ := id h
  rcases e with ⟨e1, e2⟩ | ⟨e1, e2, e3, e4, e5⟩
  · exact sm_no h (by rw [e88, b88_0, if_pos e1]) (by rw [e187, b187_0, if_pos e2])
  obtain ⟨nW, nT, dy, m, mk, nb, q⟩ := id e3
  obtain ⟨cw, hc, E0⟩ := s30 (d := 57) (I := I) (L := L) (w := w) (a := 0) (b := 1) (by omega) (fun j hj => gone_1 (x := I 14944 0 51) q rfl hj)
  have E0 : dn 59 30 [vR 10464 0, vR 10464 1] (hp I L w) = some (none, hp (cpB cw I 0 1) L (sW w 0 (w 1))) := E0
  have E1 : dn 60 88 [vR 12288 0] (hp I L w) = some (some (vI (c nW)), hp (cpB cw I 0 1) L (sW w 0 (w 1))) := by
    rw [e88, b88_0, if_neg (by rw [e1]; decide), E0, bn_s]
    show rn none _ 88 21 _ [] _ = _
    rw [b88_21, show cpB cw I 0 1 10464 0 0 = I 10464 1 0 from if_pos ⟨rfl, (hc _ _).mpr (CW10464_0 rfl)⟩, show I 10464 1 0 = c nW from q.2.1.1]
  have hI1 : ∀ t k j, ¬ wtag t → cpB cw I 0 1 t k j = I t k j := fun t k j z => if_neg (fun y => z (CW_t ((hc _ _).mp y.2)))
  generalize hI2 : cpB cw I 0 1 = I1 at E1 hI1
  have I14 : ∀ j, I1 14944 0 j = I 14944 0 j := fun j => hI1 _ _ _ (by unfold wtag; omega)
  have hn : I1 14944 0 50 = c nW := by
    rw [I14]
    exact q.2.1.2.1
  generalize hX : uI (uI (uI (uI (uI (uI (uI (uI I1 14944 0 12 (I1 14944 0 49)) 14944 0 0 (I1 14944 0 50)) 14944 0 1 (I1 14944 0 51)) 14944 0 2 (I1 14944 0 52)) 14944 0 3 (I1 14944 0 53)) 14944 0 38 (I1 14944 0 54)) 14944 0 42 (I1 14944 0 55)) 14944 0 43 (I1 14944 0 56) = X
  have X0 : ∀ t k j, ¬ (t = 14944 ∧ k = 0 ∧ (j = 12 ∨ j = 0 ∨ j = 1 ∨ j = 2 ∨ j = 3 ∨ j = 38 ∨ j = 42 ∨ j = 43)) → X t k j = I1 t k j := fun t k j z => by
    rw [← hX, uI_n (by omega), uI_n (by omega), uI_n (by omega), uI_n (by omega), uI_n (by omega), uI_n (by omega), uI_n (by omega), uI_n (by omega)]
  have X43 : X 14944 0 43 = I1 14944 0 56 := by rw [← hX, uI_e]
  have X42 : X 14944 0 42 = I1 14944 0 55 := by rw [← hX, uI_j (by omega), uI_e]
  have X38 : X 14944 0 38 = I1 14944 0 54 := by rw [← hX, uI_j (by omega), uI_j (by omega), uI_e]
  have X3 : X 14944 0 3 = I1 14944 0 53 := by rw [← hX, uI_j (by omega), uI_j (by omega), uI_j (by omega), uI_e]
  have X2 : X 14944 0 2 = I1 14944 0 52 := by rw [← hX, uI_j (by omega), uI_j (by omega), uI_j (by omega), uI_j (by omega), uI_e]
  have X1 : X 14944 0 1 = I1 14944 0 51 := by rw [← hX, uI_j (by omega), uI_j (by omega), uI_j (by omega), uI_j (by omega), uI_j (by omega), uI_e]
  have X00 : X 14944 0 0 = I1 14944 0 50 := by rw [← hX, uI_j (by omega), uI_j (by omega), uI_j (by omega), uI_j (by omega), uI_j (by omega), uI_j (by omega), uI_e]
  have X12 : X 14944 0 12 = I1 14944 0 49 := by rw [← hX, uI_j (by omega), uI_j (by omega), uI_j (by omega), uI_j (by omega), uI_j (by omega), uI_j (by omega), uI_j (by omega), uI_e]
  have E2 : dn 60 187 [vR 14944 0] (hp I1 L (sW w 0 (w 1))) = some (some (vI (c nW)), hp (pw fUn (bUn 5 20 6 10 8) X) L (sW w 0 (w 1))) := by
    rw [e187, b187_0, if_neg (by rw [I14, e2]; decide), hX, a187, X00, hn]
  have hF : ∀ t k j, ¬ (wtag t ∨ (t = 14944 ∧ j = 12) ∨ mcl t j) → pw fUn (bUn 5 20 6 10 8) X t k j = I t k j := fun t k j z => by
    rw [pw_n (bUn_n (j := j) (fun y => z (Or.inr (Or.inr y)))), X0 _ _ _ (by unfold mcl at z; omega)]
    exact hI1 _ _ _ (fun y => z (Or.inl y))
  have hM : RM (pw fUn (bUn 5 20 6 10 8) X) := by
    refine ⟨nW, nT, dy, m, mk, nb, RWn_c (A := fun t j => I t 1 j) (B := rvI I) (fun t j ht => ?_) (fun t j ht => ?_) q⟩
    · have ht' := CW_t ht
      show pw fUn (bUn 5 20 6 10 8) X t 0 j = I t 1 j
      rw [pw_n (bUn_n (j := j) (by unfold mcl; omega)), X0 _ _ _ (by omega), ← hI2]
      exact if_pos ⟨rfl, (hc _ _).mpr ht⟩
    · rw [rvM_un (I := I1) X00 X1 X2 X3 X38 X42 X43 (fun t j z => X0 _ _ _ (by omega)) ht]
      exact congrFun (congrFun (rvI_c (fun t j z => hI1 _ _ _ (by unfold icl at z; unfold wtag; omega))) t) j
  refine ⟨_, _, L, _, _, L, E1, E2, hM, ⟨nt, RTw_c (fun t j i z => hF _ _ _ (by unfold tcl at z; unfold wtag mcl; omega)) (hF _ _ _ (by unfold wtag mcl; omega)) (hF _ _ _ (by unfold wtag mcl; omega)) a, e4, ?_, Or.inr ⟨?_, ?_, ?_, e4, ?_⟩⟩, RX_c (fun i => ⟨hF _ _ _ (by unfold wtag mcl; omega), hF _ _ _ (by unfold wtag mcl; omega)⟩) (hF _ _ _ (by unfold wtag mcl; omega)) (hF _ _ _ (by unfold wtag mcl; omega)) g3, RT_c rfl (fun t k j z => hF _ _ _ (by unfold wtag mcl; omega)) g4, RG_c (fun i => ⟨hF _ _ _ (by unfold wtag mcl; omega), hF _ _ _ (by unfold wtag mcl; omega)⟩) (hF _ _ _ (by unfold wtag mcl; omega)) (hF _ _ _ (by unfold wtag mcl; omega)) g5, fun i hi => (hF _ _ _ (by unfold wtag mcl; omega)).trans (g6 i hi)⟩
  · rw [pw_n (show bUn 5 20 6 10 8 14944 = 0 from rfl), X12, I14]; exact e5
  · rw [hF _ _ _ (by unfold wtag mcl; omega)]; exact e1
  · rw [hF _ _ _ (by unfold wtag mcl; omega)]; exact e2
  · refine RIm_c (fun t j ht => ?_) (fun t j ht => hF _ _ _ (by unfold icl at ht; unfold wtag mcl; omega)) e3
    have ht' := CW_t ht
    rw [pw_n (bUn_n (j := j) (by unfold mcl; omega)), X0 _ _ _ (by omega), ← hI2]
    exact if_neg (fun y => absurd y.1 (by omega))
  · rw [hF _ _ _ (by unfold wtag mcl; omega)]; exact e5
end P98w
