set_option maxHeartbeats 400000
section P98m
variable {I I' : FI} {L : FL} {w w' : Nat → Nat} {nW nT dy m mk nb nt : Nat} {x y z : Int32}
theorem sm69 (h : R I L w) : Sm I L w 69 162 [vI x, vI y] := by
  obtain ⟨nW, nT, dy, m, mk, nb, q⟩ := h.1
  have hA := R_RA q h.2.1
  have h2 := hA.1.2.1
  have h5 := hA.1.2.2.2.2.1
  have m5 := hA.2.1.2.2.2.2.1
  have hd := hA.2.2.2.1
  have pk5 : ∀ t, t < nT → I 12625 0 t = -5 ∨ ∃ p, p < 5 ∧ I 12625 0 t = c p := fun t ht => by
    rcases hA.1.2.2.2.2.2.2.1 t ht with z | ⟨p, hp1, hp2⟩
    · exact Or.inl z
    · exact Or.inr ⟨p, by have := hA.1.1; omega, hp2⟩
  have W103 : dn 59 103 [vI x, vI 60] (hp I L w) = some (some (vI (bi (0 ≤ x ∧ x ≤ 60))), hp I L w) := s103
  have W114 : dn 59 114 [vR 14944 0, vI x] (hp I L w) = some (some (vI (bi (0 ≤ x ∧ x ≤ 60))), hp I L w) := s114
  by_cases y0 : y = 0
  · by_cases a : 0 ≤ x ∧ x ≤ 60
    · obtain ⟨n, hn, rfl⟩ := of_c (x := x) (n := 61) a.1 (by omega) (by have := a.2; show x < 61; grind)
      subst y0
      obtain ⟨g, hg⟩ := s69z (d := 53) (L := L) (n := n) hA.1 (by omega)
      have hJ : RA (fct I 0 g) w nW nT dy := sc_RA sc_fct hA
      have hw := sc_ws hA.2.2.1 scM.rf (sc_fct (I := I) (k := 0) (g := g))
      obtain ⟨J, hJ1, hJ2⟩ := s162 (d := 51) (L := L) (n := n) (y := 0) hJ.2.1 hd (by omega) (Or.inl rfl)
      refine sm_ask h (ask_of sc_fct hg hJ1 hJ2 (congrArg vI ?_))
      rw [if_pos rfl]
      exact (cnt_congr nT (fun t ht => ws_tch hw (by omega) (pk5 t ht))).symm
    · subst y0
      refine sm_ask h (ask_of (v := vI (-2)) (v' := vI (-2)) scM.rf ?_ scM.rf ?_ rfl)
      · rw [e69, b69_0, if_pos (by decide), if_pos rfl, W103, bn_s]
        show rn none _ 69 42 _ [vI _] _ = _
        rw [b69_42, ib, if_neg a]
      · rw [e162, b162_0, if_pos rfl, W114, bn_s]
        show rn none _ 162 28 _ [vI _] _ = _
        rw [b162_28, ib, if_neg a]
  · by_cases b : ∃ t, t < nT ∧ y = c (t + 10)
    · obtain ⟨t, ht, rfl⟩ := b
      have e10 : c (t + 10) - 10 = c t := by rw [show (10 : Int32) = c 10 from rfl, c_sub (by omega), Nat.add_sub_cancel]
      have g1 : ¬ c (t + 10) < 10 := tq_ng (b := 10) (by omega) (by omega)
      have g2 : 10 ≤ c (t + 10) ∧ c (t + 10) ≤ 9 + c nT := ⟨tq_le (a := 10) (by omega) (by omega), by rw [show (9 : Int32) = c 9 from rfl, cq rfl]; exact tq_le (by omega) (by omega)⟩
      by_cases a : 0 ≤ x ∧ x ≤ 60
      · obtain ⟨n, hn, rfl⟩ := of_c (x := x) (n := 61) a.1 (by omega) (by have := a.2; show x < 61; grind)
        obtain ⟨g, hg⟩ := s69t (d := 53) (L := L) (n := n) hA.1 ht (by omega)
        have hJ : RA (fct I 0 g) w nW nT dy := sc_RA sc_fct hA
        have hw := sc_ws hA.2.2.1 scM.rf (sc_fct (I := I) (k := 0) (g := g))
        obtain ⟨J, hJ1, hJ2⟩ := s162 (d := 51) (L := L) (n := n) (y := c (t + 10)) hJ.2.1 hd (by omega) (Or.inr ⟨t, ht, rfl⟩)
        refine sm_ask h (ask_of sc_fct hg hJ1 hJ2 (congrArg vI ?_))
        rw [if_neg y0, e10, ix_c (by omega)]
        exact (ws_low hw (by omega) (pk5 t ht)).symm
      · refine sm_ask h (ask_of (v := vI (-2)) (v' := vI (-2)) scM.rf ?_ scM.rf ?_ rfl)
        · rw [e69, b69_0, if_neg g1, e10, s32, bn_s, h5]
          show rn none _ 69 17 _ [vI _] _ = _
          rw [b69_17, ib, if_pos (show 0 ≤ c t ∧ c t < c nT from ⟨c_0 (by omega), tq_gt ht (by omega)⟩), if_neg y0, if_neg (show ¬ (1 : Nat) = 0 from by decide), W103, bn_s]
          show rn none _ 69 42 _ [vI _] _ = _
          rw [b69_42, ib, if_neg a]
        · rw [e162, b162_0, if_neg y0, s106, bn_s, m5]
          show rn none _ 162 18 _ [vI _] _ = _
          rw [b162_18, ib, if_pos g2, W114, bn_s]
          show rn none _ 162 28 _ [vI _] _ = _
          rw [b162_28, ib, if_neg a]
    · have g2 : ¬ (10 ≤ y ∧ y ≤ 9 + c nT) := by
        rcases yof h2 y with (hy | hy | hy | hy | hy | hy) | ⟨t, ht, hy⟩ | ⟨t, ht, hy⟩ | ⟨n1, n2, n3, n4, n5⟩
        · exact absurd hy y0
        · rw [hy]; exact fun z => absurd z.1 (by decide)
        · rw [hy]; exact fun z => absurd z.1 (by decide)
        · rw [hy]; exact fun z => absurd z.1 (by decide)
        · rw [hy]; exact fun z => absurd z.1 (by decide)
        · rw [hy]; exact fun z => absurd z.1 (by decide)
        · exact absurd ⟨t, ht, hy⟩ b
        · rw [hy, show (9 : Int32) = c 9 from rfl, cq rfl]
          intro z
          have := z.2
          rw [c_le (by omega) (by omega)] at this
          omega
        · exact n4
      refine sm_ask h (ask_of (v := vI (-1)) (v' := vI (-1)) scM.rf ?_ scM.rf ?_ rfl)
      · rw [e69, b69_0]
        by_cases g1 : y < 10
        · rw [if_pos g1, if_neg y0, if_pos rfl]
        · rw [if_neg g1, s32, bn_s, h5]
          show rn none _ 69 17 _ [vI _] _ = _
          have g3 : ¬ (0 ≤ y - 10 ∧ y - 10 < c nT) := by
            intro z
            obtain ⟨t, ht, -, e⟩ := (of_10 (y := y) h2).mp ⟨g1, z.1, z.2⟩
            exact b ⟨t, ht, by assumption⟩
          rw [b69_17, ib, if_neg g3, if_neg y0, if_pos rfl]
      · rw [e162, b162_0, if_neg y0, s106, bn_s, m5]
        show rn none _ 162 18 _ [vI _] _ = _
        rw [b162_18, ib, if_neg g2]
end P98m
