set_option maxHeartbeats 400000
/-! how class and reference stand to one another -/
def rvM (I : FI) : Nat → Nat → Int32 := fun t j => if t = 10464 then (if j = 0 then I 14944 0 0 else if j = 6 then I 14944 0 2 else I 14944 0 3) else if t = 2416 then I 14944 0 38 else if t = 2480 then I 14944 0 42 else if t = 2544 then I 14944 0 43 else if t = 10530 then (if hs (I 14944 0 1) j = true then 1 else 0) else if t = 10481 then I 10865 0 j else if t = 10497 then I 10881 0 j else if t = 10513 then I 10897 0 j else if t = 41265 then I 41633 0 j else if t = 12609 then I 12977 0 j else if t = 12625 then I 12993 0 j else if t = 12641 then I 13009 0 j else if t = 10625 then I 11233 0 j else if t = 10641 then I 11249 0 j else if t = 10657 then I 11265 0 j else if t = 20929 then I 21521 0 j else if t = 20945 then I 21537 0 j else if t = 16897 then I 17457 0 j else if t = 16913 then I 17473 0 j else 0
def rvI (I : FI) : Nat → Nat → Int32 := fun t j => if t = 10464 then (if j = 0 then I 14944 0 50 else if j = 6 then I 14944 0 52 else I 14944 0 53) else if t = 2416 then I 14944 0 54 else if t = 2480 then I 14944 0 55 else if t = 2544 then I 14944 0 56 else if t = 10530 then (if hs (I 14944 0 51) j = true then 1 else 0) else if t = 10481 then I 11345 0 j else if t = 10497 then I 11361 0 j else if t = 10513 then I 11377 0 j else if t = 41265 then I 42113 0 j else if t = 12609 then I 13457 0 j else if t = 12625 then I 13473 0 j else if t = 12641 then I 13489 0 j else if t = 10625 then I 11457 0 j else if t = 10641 then I 11473 0 j else if t = 10657 then I 11489 0 j else if t = 20929 then I 21745 0 j else if t = 20945 then I 21761 0 j else if t = 16897 then I 17681 0 j else if t = 16913 then I 17697 0 j else 0
def mcl (t j : Nat) : Prop := t = 10865 ∨ t = 10881 ∨ t = 10897 ∨ t = 41633 ∨ t = 12977 ∨ t = 12993 ∨ t = 13009 ∨ t = 11233 ∨ t = 11249 ∨ t = 11265 ∨ t = 21521 ∨ t = 21537 ∨ t = 17457 ∨ t = 17473 ∨ (t = 14944 ∧ (j = 0 ∨ j = 1 ∨ j = 2 ∨ j = 3 ∨ j = 38 ∨ j = 42 ∨ j = 43))
def icl (t j : Nat) : Prop := t = 11345 ∨ t = 11361 ∨ t = 11377 ∨ t = 42113 ∨ t = 13457 ∨ t = 13473 ∨ t = 13489 ∨ t = 11457 ∨ t = 11473 ∨ t = 11489 ∨ t = 21745 ∨ t = 21761 ∨ t = 17681 ∨ t = 17697 ∨ (t = 14944 ∧ (j = 50 ∨ j = 51 ∨ j = 52 ∨ j = 53 ∨ j = 54 ∨ j = 55 ∨ j = 56))
def smC (t j : Nat) : Prop := ((t = 10481 ∨ t = 10497 ∨ t = 10513 ∨ t = 10530) ∧ j < 5) ∨ (t = 41265 ∧ j < 20) ∨ ((t = 12609 ∨ t = 12625 ∨ t = 12641) ∧ j < 6)
/-- a world of each -/
def RWn (A B : Nat → Nat → Int32) (nW nT dy m mk nb : Nat) : Prop :=
  (nW ≤ 5 ∧ nT ≤ 6 ∧ dy ≤ 9999) ∧
  (A 10464 0 = c nW ∧ B 10464 0 = c nW ∧ A 10464 6 = c nT ∧ B 10464 6 = c nT ∧ A 10464 10 = c dy ∧ B 10464 10 = c dy) ∧
  (∀ t j, smC t j → B t j = A t j) ∧
  (∀ t, t < nT → A 12625 t = -5 ∨ ∃ p, p < nW ∧ A 12625 t = c p) ∧
  (∀ p, p < nW → (∃ k, k < 7 ∧ A 10481 p = c k) ∧ (∃ v, v < 10 ∧ A 10497 p = c v) ∧ (∃ h, h < 100 ∧ A 10513 p = c h)) ∧
  (m ≤ 5 ∧ A 2416 0 = c m ∧ B 2416 0 = c m ∧ ∀ i, i < m → (∃ t, t < nT ∧ A 10625 i = c t) ∧ (∃ n, n ≤ 20 ∧ A 10657 i = c n) ∧ B 10625 i = A 10625 i ∧ B 10641 i = A 10641 i ∧ B 10657 i = A 10657 i) ∧
  (mk ≤ 10 ∧ A 2480 0 = c mk ∧ B 2480 0 = c mk ∧ ∀ i, i < mk → B 20929 i = A 20929 i ∧ wkR nW nT (A 20929 i) (A 20945 i) (B 20945 i)) ∧
  (nb ≤ 8 ∧ A 2544 0 = c nb ∧ B 2544 0 = c nb ∧ ∀ i, i < nb → (∃ t, t < nT ∧ A 16897 i = c t) ∧ B 16897 i = A 16897 i ∧ B 16913 i = A 16913 i)
def tw (T : Nat) : Int32 := if T = 0 then -1 else c (T - 1)
def RTw (I : FI) (nt : Nat) : Prop := nt ≤ 6 ∧ I 12288 0 1 = c nt ∧ I 14944 0 11 = c nt ∧ (I 6288 0 0 = 10 ∧ I 6288 0 1 = 0 ∧ I 6288 0 2 = 5 ∧ I 6288 0 3 = 0) ∧ ∀ f, f < nt → ∃ cs, TC I f cs
def RM (I : FI) : Prop := ∃ nW nT dy m mk nb, RWn (fun t j => I t 0 j) (rvM I) nW nT dy m mk nb
def RIm (I : FI) : Prop := ∃ nW nT dy m mk nb, RWn (fun t j => I t 1 j) (rvI I) nW nT dy m mk nb
def RX (I : FI) : Prop := ∃ n, n ≤ 100 ∧ I 32 0 1 = c n ∧ I 14944 0 13 = c n ∧ ∀ i, i < n → ∃ b, b < 128 ∧ I 204849 0 i = c b ∧ I 205537 0 i = c b
def RG (I : FI) : Prop := ∃ n, n ≤ 20 ∧ I 12288 0 9 = c n ∧ I 14944 0 71 = c n ∧ ∀ i, i < n → I 42289 0 i = I 41073 0 i
def RV (I : FI) (w : Nat → Nat) : Prop := ∃ nt, RTw I nt ∧ w 0 ≤ nt ∧ I 14944 0 12 = tw (w 0) ∧ ((I 12288 0 6 = 0 ∧ I 14944 0 48 = 0) ∨ (I 12288 0 6 = 1 ∧ I 14944 0 48 = 1 ∧ RIm I ∧ w 1 ≤ nt ∧ I 14944 0 49 = tw (w 1)))
def R (I : FI) (L : FL) (w : Nat → Nat) : Prop := RM I ∧ RV I w ∧ RX I ∧ RT I L ∧ RG I ∧ HLt I
section P98j
variable {I I' : FI} {L : FL} {w w' : Nat → Nat} {nW nT dy m mk nb nt : Nat}
theorem smC_W {t j : Nat} (h : smC t j) : CW t j := by
  rcases h with ⟨h | h | h | h, hj⟩ | ⟨h, hj⟩ | ⟨h | h | h, hj⟩ <;> subst h
  · exact CW10481 hj
  · exact CW10497 hj
  · exact CW10513 hj
  · exact CW10530 hj
  · exact CW41265 hj
  · exact CW12609 hj
  · exact CW12625 hj
  · exact CW12641 hj
theorem RWn_c {A B A' B' : Nat → Nat → Int32} (hA : ∀ t j, CW t j → A' t j = A t j) (hB : ∀ t j, CW t j → B' t j = B t j) (h : RWn A B nW nT dy m mk nb) : RWn A' B' nW nT dy m mk nb := by
  obtain ⟨⟨a1, a2, a3⟩, ⟨b1, b2, b3, b4, b5, b6⟩, h3, h4, h5, ⟨d1, d2, d3, d4⟩, ⟨e1, e2, e3, e4⟩, f1, f2, f3, f4⟩ := h
  have c1 := CW10464_0 (j := 0) rfl
  have c2 := CW10464_6 (j := 6) rfl
  have c3 := CW10464_10 (j := 10) rfl
  refine ⟨⟨a1, a2, a3⟩, ⟨(hA _ _ c1).trans b1, (hB _ _ c1).trans b2, (hA _ _ c2).trans b3, (hB _ _ c2).trans b4, (hA _ _ c3).trans b5, (hB _ _ c3).trans b6⟩, fun t j ht => ?_, fun t ht => ?_, fun p hp => ?_, ⟨d1, (hA _ _ (CW2416 rfl)).trans d2, (hB _ _ (CW2416 rfl)).trans d3, fun i hi => ?_⟩, ⟨e1, (hA _ _ (CW2480 rfl)).trans e2, (hB _ _ (CW2480 rfl)).trans e3, fun i hi => ?_⟩, f1, (hA _ _ (CW2544 rfl)).trans f2, (hB _ _ (CW2544 rfl)).trans f3, fun i hi => ?_⟩
  · rw [hA _ _ (smC_W ht), hB _ _ (smC_W ht)]; exact h3 t j ht
  · rw [hA _ _ (CW12625 (by omega))]; exact h4 t ht
  · rw [hA _ _ (CW10481 (by omega)), hA _ _ (CW10497 (by omega)), hA _ _ (CW10513 (by omega))]; exact h5 p hp
  · rw [hA _ _ (CW10625 (by omega)), hA _ _ (CW10641 (by omega)), hA _ _ (CW10657 (by omega)), hB _ _ (CW10625 (by omega)), hB _ _ (CW10641 (by omega)), hB _ _ (CW10657 (by omega))]; exact d4 i hi
  · rw [hA _ _ (CW20929 (by omega)), hA _ _ (CW20945 (by omega)), hB _ _ (CW20929 (by omega)), hB _ _ (CW20945 (by omega))]; exact e4 i hi
  · rw [hA _ _ (CW16897 (by omega)), hA _ _ (CW16913 (by omega)), hB _ _ (CW16897 (by omega)), hB _ _ (CW16913 (by omega))]; exact f4 i hi
theorem rvM_c (h : ∀ t j, mcl t j → I' t 0 j = I t 0 j) : rvM I' = rvM I := by
  funext t j
  unfold rvM
  repeat rw [h _ _ (by unfold mcl; omega)]
theorem rvI_c (h : ∀ t j, icl t j → I' t 0 j = I t 0 j) : rvI I' = rvI I := by
  funext t j
  unfold rvI
  repeat rw [h _ _ (by unfold icl; omega)]
theorem RM_c (h1 : ∀ t j, CW t j → I' t 0 j = I t 0 j) (h2 : ∀ t j, mcl t j → I' t 0 j = I t 0 j) (h : RM I) : RM I' := by
  obtain ⟨nW, nT, dy, m, mk, nb, h⟩ := h
  exact ⟨nW, nT, dy, m, mk, nb, RWn_c h1 (fun t j _ => by rw [rvM_c h2]) h⟩
theorem RIm_c (h1 : ∀ t j, CW t j → I' t 1 j = I t 1 j) (h2 : ∀ t j, icl t j → I' t 0 j = I t 0 j) (h : RIm I) : RIm I' := by
  obtain ⟨nW, nT, dy, m, mk, nb, h⟩ := h
  exact ⟨nW, nT, dy, m, mk, nb, RWn_c h1 (fun t j _ => by rw [rvI_c h2]) h⟩
/-- the towns' cells, whatever town holds -/
def tcl (t : Nat) : Prop := t = 6288 ∨ t = 204961 ∨ t = 204977 ∨ t = 204993 ∨ t = 205009 ∨ t = 13041 ∨ t = 123649 ∨ t = 123665 ∨ t = 123681 ∨ t = 123697 ∨ t = 1229633
theorem TC_c {f : Nat} {cs : List Cl} (k : ∀ t j i, tcl t → I' t j i = I t j i) (h : TC I f cs) : TC I' f cs := by
  obtain ⟨⟨⟨g0, g1⟩, g1b, g1c, g1d⟩, g2, g3, g4, g5, g6, g7, g8⟩ := h
  refine ⟨⟨⟨?_, fun i a ha => ?_⟩, ?_, ?_, ?_⟩, fun i a ha => ?_, fun i a ha => ?_, ?_, g5, g6, g7, g8⟩
  · rw [k 6288 _ _ (by unfold tcl; omega)]; exact g0
  · rw [k 204961 _ _ (by unfold tcl; omega), k 204977 _ _ (by unfold tcl; omega), k 204993 _ _ (by unfold tcl; omega), k 205009 _ _ (by unfold tcl; omega)]; exact g1 i a ha
  · rw [k 6288 _ _ (by unfold tcl; omega)]; exact g1b
  · rw [k 6288 _ _ (by unfold tcl; omega)]; exact g1c
  · rw [k 6288 _ _ (by unfold tcl; omega)]; exact g1d
  · rw [k 1229633 _ _ (by unfold tcl; omega)]; exact g2 i a ha
  · rw [k 123649 _ _ (by unfold tcl; omega), k 123665 _ _ (by unfold tcl; omega), k 123681 _ _ (by unfold tcl; omega), k 123697 _ _ (by unfold tcl; omega)]; exact g3 i a ha
  · rw [k 13041 _ _ (by unfold tcl; omega)]; exact g4
theorem RTw_c (k : ∀ t j i, tcl t → I' t j i = I t j i) (h1 : I' 12288 0 1 = I 12288 0 1) (h2 : I' 14944 0 11 = I 14944 0 11) (h : RTw I nt) : RTw I' nt := by
  obtain ⟨a, b, d, e, g⟩ := h
  refine ⟨a, h1.trans b, h2.trans d, ?_, fun f hf => ?_⟩
  · rw [k 6288 _ _ (by unfold tcl; omega), k 6288 _ _ (by unfold tcl; omega), k 6288 _ _ (by unfold tcl; omega), k 6288 _ _ (by unfold tcl; omega)]; exact e
  · obtain ⟨cs, q⟩ := g f hf
    exact ⟨cs, TC_c k q⟩
theorem RV_c (k : ∀ t j i, tcl t → I' t j i = I t j i) (k1 : ∀ t j, CW t j → I' t 1 j = I t 1 j) (k2 : ∀ t j, icl t j → I' t 0 j = I t 0 j) (k3 : ∀ t j, (t = 12288 ∧ (j = 1 ∨ j = 6)) ∨ (t = 14944 ∧ (j = 11 ∨ j = 12 ∨ j = 48 ∨ j = 49)) → I' t 0 j = I t 0 j) (hw0 : w' 0 = w 0) (hw1 : w' 1 = w 1) (h : RV I w) : RV I' w' := by
  obtain ⟨nt, a, b, d, e⟩ := h
  refine ⟨nt, RTw_c k (k3 _ _ (by omega)) (k3 _ _ (by omega)) a, by rw [hw0]; exact b, ?_, ?_⟩
  · rw [hw0, k3 _ _ (by omega)]; exact d
  · rw [k3 12288 6 (by omega), k3 14944 48 (by omega), k3 14944 49 (by omega), hw1]
    rcases e with e | ⟨e1, e2, e3, e4, e5⟩
    · exact Or.inl e
    · exact Or.inr ⟨e1, e2, RIm_c k1 k2 e3, e4, e5⟩
theorem RX_c (k : ∀ i, I' 204849 0 i = I 204849 0 i ∧ I' 205537 0 i = I 205537 0 i) (h1 : I' 32 0 1 = I 32 0 1) (h2 : I' 14944 0 13 = I 14944 0 13) (h : RX I) : RX I' := by
  obtain ⟨n, a, b, d, e⟩ := h
  refine ⟨n, a, h1.trans b, h2.trans d, fun i hi => ?_⟩
  rw [(k i).1, (k i).2]; exact e i hi
theorem RG_c (k : ∀ i, I' 41073 0 i = I 41073 0 i ∧ I' 42289 0 i = I 42289 0 i) (h1 : I' 12288 0 9 = I 12288 0 9) (h2 : I' 14944 0 71 = I 14944 0 71) (h : RG I) : RG I' := by
  obtain ⟨n, a, b, d, e⟩ := h
  refine ⟨n, a, h1.trans b, h2.trans d, fun i hi => ?_⟩
  rw [(k i).1, (k i).2]; exact e i hi
theorem RT_c {L' : FL} (hL : L' = L) (k : ∀ t k j, (t = 4672 ∨ t = 13633 ∨ t = 13649) → I' t k j = I t k j) (h : RT I L) : RT I' L' := by
  intro t ht
  obtain ⟨n, s, a⟩ := h t ht
  refine ⟨n, s, ?_⟩
  rw [k 4672 _ _ (by omega), k 13633 _ _ (by omega), k 4672 _ _ (by omega), k 13649 _ _ (by omega), hL]
  exact a
theorem CW_k {t j : Nat} (h : CW t j) : t ≠ 6288 ∧ t ≠ 32 ∧ t ≠ 14944 ∧ t ≠ 12288 ∧ ¬ scb t 0 j ∧ ¬ scb t 1 j := by
  have := CW_t h
  unfold scb
  omega
/-- nothing but scratch changes -/
theorem R_sc (h : R I L w) (hs : scM I I') (hw0 : w' 0 = w 0) (hw1 : w' 1 = w 1) : R I' L w' := by
  obtain ⟨h1, h2, h3, h4, h5, h6⟩ := h
  refine ⟨RM_c (fun t j q => hs _ _ _ (CW_k q).2.2.2.2.1) (fun t j q => hs _ _ _ (by unfold mcl at q; unfold scb; omega)) h1, RV_c (fun t j i q => hs _ _ _ (by unfold tcl at q; unfold scb; omega)) (fun t j q => hs _ _ _ (CW_k q).2.2.2.2.2) (fun t j q => hs _ _ _ (by unfold icl at q; unfold scb; omega)) (fun t j q => hs _ _ _ (by unfold scb; omega)) hw0 hw1 h2, RX_c (fun i => ⟨hs _ _ _ (by unfold scb; omega), hs _ _ _ (by unfold scb; omega)⟩) (hs _ _ _ (by unfold scb; omega)) (hs _ _ _ (by unfold scb; omega)) h3, RT_c rfl (fun t k j q => hs _ _ _ (by unfold scb; omega)) h4, RG_c (fun i => ⟨hs _ _ _ (by unfold scb; omega), hs _ _ _ (by unfold scb; omega)⟩) (hs _ _ _ (by unfold scb; omega)) (hs _ _ _ (by unfold scb; omega)) h5, fun i hi => (hs _ _ _ (by unfold scb; omega)).trans (h6 i hi)⟩
end P98j
