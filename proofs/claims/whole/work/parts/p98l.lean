set_option maxHeartbeats 400000
section P98l
variable {I I' : FI} {L : FL} {w w' : Nat → Nat} {nW nT dy m mk nb nt : Nat} {x y z : Int32}
theorem sm59 (h : R I L w) : Sm I L w 59 155 [vI x, vI y] := by
  obtain ⟨nW, nT, dy, m, mk, nb, q⟩ := h.1
  obtain ⟨⟨a1, a2, a3⟩, ⟨b1, b2, b3, b4, b5, b6⟩, h3, -⟩ := id q
  refine sm_ask h (ask_of scM.rf (s59 (d := 57) a2 b3) scM.rf (s155 (d := 57) a2 b4) (congrArg vI ?_))
  unfold atF
  by_cases a : 0 ≤ x ∧ x < c nT
  · obtain ⟨t, ht, ht6, rfl⟩ := of_6 a2 a
    rw [if_pos a, if_pos a, ix_c (by omega), show I 12977 0 t = I 12609 0 t from h3 12609 t (by unfold smC; omega), show I 12993 0 t = I 12625 0 t from h3 12625 t (by unfold smC; omega), show I 13009 0 t = I 12641 0 t from h3 12641 t (by unfold smC; omega)]
  · rw [if_neg a, if_neg a]
theorem sm67 (h : R I L w) : Sm I L w 67 156 [vI x] := by
  obtain ⟨nW, nT, dy, m, mk, nb, q⟩ := h.1
  have hA := R_RA q h.2.1
  obtain ⟨g, hg⟩ := s67 (d := 53) (L := L) (x := x) hA.1
  have hJ : RA (fct I 0 g) w nW nT dy := sc_RA sc_fct hA
  have hw := sc_ws hA.2.2.1 scM.rf (sc_fct (I := I) (k := 0) (g := g))
  refine sm_ask h (ask_of sc_fct hg scM.rf (s156 (d := 55) (L := L) (x := x) hJ.2.1) (congrArg vI ?_))
  have e1 : fct I 0 g 14944 0 3 = I 10464 0 10 := by
    have := hA.1.2.2.2.2.2.1
    have h2 := hJ.2.1.2.2.2.2.2.1
    rw [this]; exact h2.symm ▸ rfl
  have e2 : ∀ j, fct I 0 g 6288 (w 0) j = I 6288 (w 0) j := fun j => by rw [fct_p (by omega)]
  have e3 : allA (arD (mv (fct I 0 g)) w 0) nW = allA (arD I w 0) nW := ws_all hw nW hA.1.1
  have e4 : cnt (tchD (mv (fct I 0 g)) w 0 0 dy) nT = cnt (tchD I w 0 0 dy) nT := by
    refine cnt_congr nT (fun t ht => ?_)
    refine ws_tch hw (by have := hA.1.2.1; omega) ?_
    rcases hA.1.2.2.2.2.2.2.1 t ht with z | ⟨p, hp1, hp2⟩
    · exact Or.inl z
    · exact Or.inr ⟨p, by have := hA.1.1; omega, hp2⟩
  rw [e1, e2, e2, e2, e3, e4]
theorem sm90 (h : R I L w) : Sm I L w 90 197 [vI x] := by
  obtain ⟨n, a, b, d, e⟩ := h.2.2.2.2.1
  refine sm_ask h (ask_of scM.rf (s90 (d := 59)) scM.rf (s197 (d := 58)) (congrArg vI ?_))
  unfold trF
  rw [b, d]
  by_cases q : 0 ≤ x ∧ x < 20 ∧ x < c n
  · obtain ⟨i, hi, rfl⟩ := of_c q.1 (by omega) q.2.2
    rw [if_pos q, if_pos q, ix_c (by omega), e i hi]
  · rw [if_neg q, if_neg q]
theorem sm96 (h : R I L w) : Sm I L w 96 199 [vI x] := by
  obtain ⟨nW, nT, dy, m, mk, nb, ⟨-, ⟨b1, b2, b3, b4, b5, b6⟩, -, -, -, ⟨d1, d2, d3, -⟩, ⟨e1, e2, e3, -⟩, f1, f2, f3, -⟩⟩ := h.1
  obtain ⟨n, g1, g2, g3, -⟩ := h.2.2.2.2.1
  obtain ⟨nx, k1, k2, k3, -⟩ := h.2.2.1
  obtain ⟨nt, ⟨l1, l2, l3, -⟩, -⟩ := h.2.1
  refine sm_ask h (ask_of scM.rf (s96 (d := 59)) scM.rf (s199 (d := 59)) (congrArg vI ?_))
  rw [show I 10464 0 0 = c nW from b1, show I 14944 0 0 = c nW from b2, show I 10464 0 6 = c nT from b3, show I 14944 0 2 = c nT from b4, show I 2416 0 0 = c m from d2, show I 14944 0 38 = c m from d3, show I 2480 0 0 = c mk from e2, show I 14944 0 42 = c mk from e3, show I 2544 0 0 = c nb from f2, show I 14944 0 43 = c nb from f3, g2, g3, k2, k3, l2, l3]
theorem srch_d {f g : Nat → Bool} : ∀ r i, (∀ j, i ≤ j → j < i + r → f j = g j) → srch f r i = srch g r i := by
  intro r
  induction r with
  | zero => intro i _; rfl
  | succ r ih =>
    intro i h
    show (if f i = true then c i else srch f r (i + 1)) = (if g i = true then c i else srch g r (i + 1))
    rw [h i (by omega) (by omega), ih (i + 1) (fun j h1 h2 => h j (by omega) (by omega))]
theorem sm85 (h : R I L w) : Sm I L w 85 184 [] := by
  obtain ⟨nW, nT, dy, m, mk, nb, ⟨⟨a1, a2, a3⟩, ⟨b1, b2, b3, b4, b5, b6⟩, h3, -, -, -, -, f1, f2, f3, f4⟩⟩ := h.1
  have f4' : ∀ i, i < nb → ∃ t, t < nT ∧ I 17457 0 i = c t := fun i hi => by
    obtain ⟨⟨t, ht, e⟩, q2, q3⟩ := f4 i hi
    exact ⟨t, ht, (show I 17457 0 i = I 16897 0 i from q2).trans e⟩
  refine sm_ask h (ask_of scM.rf (s85 (d := 57) a2 f1 f2 (fun i hi => (f4 i hi).1)) scM.rf (s184 (d := 57) a2 f1 f3 f4') (congrArg vI ?_))
  refine srch_d nb 0 (fun i _ hi => ?_)
  obtain ⟨⟨t, ht, e⟩, q2, q3⟩ := f4 i (by omega)
  have e : I 16897 0 i = c t := e
  unfold lkF
  rw [show I 17457 0 i = I 16897 0 i from q2, show I 17473 0 i = I 16913 0 i from q3, e, ix_c (by omega), show I 12993 0 t = I 12625 0 t from h3 12625 t (by unfold smC; omega), show I 13009 0 t = I 12641 0 t from h3 12641 t (by unfold smC; omega)]
end P98l
