set_option maxHeartbeats 400000
/-! what follows from it -/
def Sm (I : FI) (L : FL) (w : Nat → Nat) (m m' : Nat) (a : List Vl) : Prop := ∃ v I1 L1 w1 I2 L2, dn 60 m (vR 12288 0 :: a) (hp I L w) = some (some v, hp I1 L1 w1) ∧ dn 60 m' (vR 14944 0 :: a) (hp I1 L1 w1) = some (some v, hp I2 L2 w1) ∧ R I2 L2 w1
section P98k
variable {I I' : FI} {L : FL} {w w' : Nat → Nat} {nW nT dy m mk nb nt : Nat} {x y z : Int32}
theorem sm_ask {m m' : Nat} {a : List Vl} (h : R I L w) (ha : Ask I L w m m' a) : Sm I L w m m' a := by
  obtain ⟨v, I1, I2, w1, h0, h1, s1, s2, e1, e2⟩ := ha
  exact ⟨v, I1, L, w1, I2, L, e1, e2, R_sc h (s1.tr s2) h0 h1⟩
theorem sm_tap {m m' : Nat} {a : List Vl} (h : R I L w) (ha : Tap I L w m m' a) : Sm I L w m m' a := by
  obtain ⟨v, I1, L1, I2, L2, e1, e2, hT, hf⟩ := ha
  obtain ⟨h1, h2, h3, h4, h5, h6⟩ := h
  refine ⟨v, I1, L1, w, I2, L2, e1, e2, RM_c (fun t j q => hf _ _ _ (by have := CW_t q; omega)) (fun t j q => hf _ _ _ (by unfold mcl at q; omega)) h1, RV_c (fun t j i q => hf _ _ _ (by unfold tcl at q; omega)) (fun t j q => hf _ _ _ (by have := CW_t q; omega)) (fun t j q => hf _ _ _ (by unfold icl at q; omega)) (fun t j q => hf _ _ _ (by omega)) rfl rfl h2, RX_c (fun i => ⟨hf _ _ _ (by omega), hf _ _ _ (by omega)⟩) (hf _ _ _ (by omega)) (hf _ _ _ (by omega)) h3, hT, RG_c (fun i => ⟨hf _ _ _ (by omega), hf _ _ _ (by omega)⟩) (hf _ _ _ (by omega)) (hf _ _ _ (by omega)) h5, fun i hi => (hf _ _ _ (by omega)).trans (h6 i hi)⟩
theorem RV_TB (h : RV I w) : TB I (w 0) := by
  obtain ⟨nt, ⟨a1, a2, a3, a4, a5⟩, b, d, -⟩ := h
  by_cases q : w 0 = 0
  · refine Or.inl ⟨q, ?_, a4⟩
    rw [d, q]; rfl
  · obtain ⟨cs, hcs⟩ := a5 (w 0 - 1) (by omega)
    refine Or.inr ⟨w 0 - 1, cs, by omega, by omega, ?_, hcs⟩
    rw [d]; unfold tw; rw [if_neg q]
theorem lcw_b {k : Nat} : ∀ (cs : List Cl) d, d < 100 → (∀ a ∈ cs, CO a) → lcw k d cs < 100 := by
  intro cs
  induction cs with
  | nil => intro d hd _; exact hd
  | cons a r ih =>
    intro d hd h
    refine ih _ ?_ (fun b hb => h b (List.mem_cons_of_mem _ hb))
    have := (h a List.mem_cons_self).2.1
    split <;> omega
theorem TB_b {T : Nat} (h : TB I T) : (∃ n, n ≤ 100 ∧ I 6288 T 3 = c n) ∧ (∃ r, r < 100 ∧ I 6288 T 0 = c r) := by
  rcases h with ⟨rfl, -, h2, h3, h4, h5⟩ | ⟨f, cs, rfl, hf, h3, ⟨⟨⟨g0, g1⟩, g1b, g1c, g1d⟩, g2, g3, g4, g5, g6, g7, g8⟩⟩
  · exact ⟨⟨0, by omega, h5⟩, 10, by omega, h2⟩
  · exact ⟨⟨_, g6, g0⟩, _, lcw_b cs 10 (by omega) g8, g1b⟩
theorem R_RA (h : RWn (fun t j => I t 0 j) (rvM I) nW nT dy m mk nb) (hV : RV I w) : RA I w nW nT dy := by
  obtain ⟨⟨a1, a2, a3⟩, ⟨b1, b2, b3, b4, b5, b6⟩, h3, h4, h5, -⟩ := h
  have hTB := RV_TB hV
  obtain ⟨t1, t2⟩ := TB_b hTB
  have hws : wsm I w 0 (mv I) w 0 := ⟨fun j hj => h3 10481 j (by unfold smC; omega), fun j hj => h3 10497 j (by unfold smC; omega), fun j hj => h3 10513 j (by unfold smC; omega), fun j hj => h3 10530 j (by unfold smC; omega), fun j hj => h3 41265 j (by unfold smC; omega), fun j hj => h3 12609 j (by unfold smC; omega), fun j hj => h3 12625 j (by unfold smC; omega), fun j hj => h3 12641 j (by unfold smC; omega), rfl, fun j => mv_T, mv_c (by omega), mv_c (by omega), mv_c (by omega), mv_c (by omega)⟩
  refine ⟨⟨a1, a2, by omega, b1, b3, b5, h4, t1⟩, ⟨a1, a2, by omega, b2, b4, b6, fun t ht => ?_, TI_TB hTB, fun p hp => ?_⟩, hws, a3, ⟨h5, t2⟩, fun w' hw' => TI_TB (by rw [hw']; exact hTB)⟩
  · rw [show I 12993 0 t = I 12625 0 t from h3 12625 t (by unfold smC; omega)]; exact h4 t ht
  · obtain ⟨⟨k, hk, e1⟩, ⟨v, hv, e2⟩, ⟨hh, hh1, e3⟩⟩ := h5 p hp
    have f2 : mv I 10497 0 p = c v := (h3 10497 p (by unfold smC; omega)).trans e2
    have f3 : mv I 10513 0 p = c hh := (h3 10513 p (by unfold smC; omega)).trans e3
    unfold fD
    rw [f2, f3]
    exact fl_n (kd := 0) (by omega) hh1 _
theorem R_RS (h : RWn (fun t j => I t 0 j) (rvM I) nW nT dy m mk nb) : RS I nT m := by
  obtain ⟨-, -, -, -, -, ⟨d1, d2, d3, d4⟩, -⟩ := h
  refine ⟨⟨d1, d2, fun i hi => ⟨(d4 i hi).1, (d4 i hi).2.1⟩⟩, ⟨d1, d3, fun i hi => ?_⟩, fun i hi => (d4 i hi).2.2⟩
  obtain ⟨q1, q2, q3, q4, q5⟩ := d4 i hi
  rw [show I 11233 0 i = I 10625 0 i from q3, show I 11265 0 i = I 10657 0 i from q5]
  exact ⟨q1, q2⟩
theorem R_RK (h : RWn (fun t j => I t 0 j) (rvM I) nW nT dy m mk nb) : RK I nW nT mk := by
  obtain ⟨-, -, -, -, -, -, ⟨e1, e2, e3, e4⟩, -⟩ := h
  exact ⟨e1, e2, e3, e4⟩
/-! the asks -/
theorem sm57 (h : R I L w) : Sm I L w 57 154 [vI x, vI y] := by
  obtain ⟨nW, nT, dy, m, mk, nb, q⟩ := h.1
  exact sm_ask h (ask57 (R_RA q h.2.1))
theorem sm70 (h : R I L w) : Sm I L w 70 163 [vI x, vI y] := by
  obtain ⟨nW, nT, dy, m, mk, nb, q⟩ := h.1
  exact sm_ask h (ask70 (R_RA q h.2.1))
theorem sm74 (h : R I L w) : Sm I L w 74 169 [vI x, vI y] := by
  obtain ⟨nW, nT, dy, m, mk, nb, q⟩ := h.1
  exact sm_ask h (ask74 (R_RA q h.2.1))
theorem sm95 (h : R I L w) : Sm I L w 95 198 [vI x, vI y] := by
  obtain ⟨nW, nT, dy, m, mk, nb, q⟩ := h.1
  exact sm_ask h (ask95 (R_RA q h.2.1))
theorem sm79 (h : R I L w) : Sm I L w 79 179 [vI x, vI y] := by
  obtain ⟨nW, nT, dy, m, mk, nb, q⟩ := h.1
  exact sm_ask h (ask79 (R_RA q h.2.1))
theorem sm78 (h : R I L w) : Sm I L w 78 176 [vI x, vI y, vI z] := by
  obtain ⟨nW, nT, dy, m, mk, nb, q⟩ := h.1
  exact sm_ask h (ask78 (R_RA q h.2.1))
theorem sm72 (h : R I L w) : Sm I L w 72 165 [vI x] := by
  obtain ⟨nW, nT, dy, m, mk, nb, q⟩ := h.1
  exact sm_ask h (ask72 (R_RA q h.2.1))
theorem sm71 (h : R I L w) : Sm I L w 71 164 [vI x] := by
  obtain ⟨nW, nT, dy, m, mk, nb, q⟩ := h.1
  exact sm_ask h (ask71 (R_RA q h.2.1))
theorem sm73 (h : R I L w) : Sm I L w 73 168 [vI x] := by
  obtain ⟨nW, nT, dy, m, mk, nb, q⟩ := h.1
  exact sm_ask h (ask73 (R_RA q h.2.1))
theorem sm76 (h : R I L w) : Sm I L w 76 172 [vI x, vI y] := by
  obtain ⟨nW, nT, dy, m, mk, nb, q⟩ := h.1
  exact sm_ask h (ask76 (R_RA q h.2.1) (R_RS q))
theorem sm77 (h : R I L w) : Sm I L w 77 173 [vI x, vI y] := by
  obtain ⟨nW, nT, dy, m, mk, nb, q⟩ := h.1
  exact sm_ask h (ask77 (R_RA q h.2.1) (R_RS q))
theorem sm83 (h : R I L w) : Sm I L w 83 182 [vI x] := by
  obtain ⟨nW, nT, dy, m, mk, nb, q⟩ := h.1
  exact sm_ask h (ask83 (R_RA q h.2.1) (R_RK q))
theorem sm86 (h : R I L w) : Sm I L w 86 185 [vI x, vI y] := by
  obtain ⟨nW, nT, dy, m, mk, nb, q⟩ := h.1
  exact sm_ask h (ask86 (R_RA q h.2.1) h.2.2.2.1)
theorem sm99 (h : R I L w) : Sm I L w 99 204 [vI x, vI y] := sm_ask h (ask99 h.2.2.2.1)
theorem sm98 {v : Int64} (h : R I L w) : Sm I L w 98 203 [vI x, vI y, vL v] := sm_tap h (tap98 h.2.2.2.1)
theorem sm97 (h : R I L w) : Sm I L w 97 201 [vI x, vI y, vI z] := sm_tap h (tap97 h.2.2.2.1)
theorem sm100 {x4 x5 : Int32} (h : R I L w) : Sm I L w 100 205 [vI x, vI y, vI z, vI x4, vI x5] := sm_tap h (tap100 h.2.2.2.1)
end P98k
