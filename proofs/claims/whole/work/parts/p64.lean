set_option maxHeartbeats 400000
/-! how class and reference stand to one another: the world -/
def BD (I : FI) (w : Nat → Nat) (nW : Nat) : Prop := (∀ p, p < nW → (∃ k, k < 7 ∧ I 10481 0 p = c k) ∧ (∃ v, v < 10 ∧ I 10497 0 p = c v) ∧ (∃ h, h < 100 ∧ I 10513 0 p = c h)) ∧ (∃ r, r < 100 ∧ I 6288 (w 0) 0 = c r)
def TA (I : FI) (w : Nat → Nat) : Prop := ∀ w', w' 0 = w 0 → TI I w'
def RA (I : FI) (w : Nat → Nat) (nW nT dy : Nat) : Prop := WV I w 0 nW nT dy ∧ MV I w nW nT dy ∧ wsm I w 0 (mv I) w 0 ∧ dy ≤ 9999 ∧ BD I w nW ∧ TA I w
theorem sc_WV {I I' : FI} {w : Nat → Nat} {nW nT dy : Nat} (h : scM I I') (hv : WV I w 0 nW nT dy) : WV I' w 0 nW nT dy := by
  obtain ⟨h1, h2, h3, h4, h5, h6, h7, n, hn, h8⟩ := hv
  exact ⟨h1, h2, h3, (h _ _ _ (by unfold scb; omega)).trans h4, (h _ _ _ (by unfold scb; omega)).trans h5, (h _ _ _ (by unfold scb; omega)).trans h6, fun t ht => by rw [h 12625 0 t (by unfold scb; omega)]; exact h7 t ht, n, hn, (h _ _ _ (by unfold scb; omega)).trans h8⟩
theorem sc_BD {I I' : FI} {w : Nat → Nat} {nW : Nat} (h : scM I I') (hv : BD I w nW) : BD I' w nW := by
  obtain ⟨h1, h2⟩ := hv
  refine ⟨fun p hp => ?_, ?_⟩
  · rw [h 10481 0 p (by unfold scb; omega), h 10497 0 p (by unfold scb; omega), h 10513 0 p (by unfold scb; omega)]
    exact h1 p hp
  · rw [h 6288 (w 0) 0 (by unfold scb; omega)]
    exact h2
/-- the class's world against the reference's, each in a heap of its own -/
theorem sc_ws {I I1 I2 : FI} {w : Nat → Nat} (hw : wsm I w 0 (mv I) w 0) (h1 : scM I I1) (h2 : scM I I2) : wsm I1 w 0 (mv I2) w 0 := by
  obtain ⟨a1, a2, a3, a4, a5, a6, a7, a8, a9, aA, aB, aC, aD, aE⟩ := hw
  obtain ⟨b1, b2, b3, b4, b5, b6, b7, b8, b9, bA, bB, bC, bD, bE⟩ := ws_sc (w := w) h2
  have T : ∀ t, (t = 204961 ∨ t = 204977 ∨ t = 204993 ∨ t = 205009) → I1 t (w 0) = I t (w 0) := fun t ht => sc_t h1 (fun j => by unfold scb; omega)
  refine ⟨fun j hj => ?_, fun j hj => ?_, fun j hj => ?_, fun j hj => ?_, fun j hj => ?_, fun j hj => ?_, fun j hj => ?_, fun j hj => ?_, rfl, fun j => ?_, ?_, ?_, ?_, ?_⟩
  · rw [b1 j hj, a1 j hj, h1 _ _ _ (by unfold scb; omega)]
  · rw [b2 j hj, a2 j hj, h1 _ _ _ (by unfold scb; omega)]
  · rw [b3 j hj, a3 j hj, h1 _ _ _ (by unfold scb; omega)]
  · rw [b4 j hj, a4 j hj, h1 _ _ _ (by unfold scb; omega)]
  · rw [b5 j hj, a5 j hj, h1 _ _ _ (by unfold scb; omega)]
  · rw [b6 j hj, a6 j hj, h1 _ _ _ (by unfold scb; omega)]
  · rw [b7 j hj, a7 j hj, h1 _ _ _ (by unfold scb; omega)]
  · rw [b8 j hj, a8 j hj, h1 _ _ _ (by unfold scb; omega)]
  · rw [bA j, aA j, h1 _ _ _ (by unfold scb; omega)]
  · rw [bB, aB, T _ (by omega)]
  · rw [bC, aC, T _ (by omega)]
  · rw [bD, aD, T _ (by omega)]
  · rw [bE, aE, T _ (by omega)]
theorem sc_RA {I I' : FI} {w : Nat → Nat} {nW nT dy : Nat} (h : scM I I') (hv : RA I w nW nT dy) : RA I' w nW nT dy := by
  obtain ⟨h1, h2, h3, h4, h5, h6⟩ := hv
  exact ⟨sc_WV h h1, sc_MV h h2, sc_ws h3 h h, h4, sc_BD h h5, fun w' hw => (h6 w' hw).of (sc_dsm h).2.2.2.2.2⟩
theorem w_WV {I : FI} {w w' : Nat → Nat} {nW nT dy : Nat} (hw : w' 0 = w 0) (hv : WV I w 0 nW nT dy) : WV I w' 0 nW nT dy := by
  unfold WV at hv ⊢
  rw [hw]
  exact hv
theorem w_pull {I : FI} {w w' : Nat → Nat} (hw : w' 0 = w 0) : (∀ {p t l dy}, skD I w' 0 p t l dy = skD I w 0 p t l dy) ∧ (∀ {p t}, dayD I w' 0 p t = dayD I w 0 p t) ∧ (∀ {t n dy}, lowB I w' 0 t n dy = lowB I w 0 t n dy) ∧ (∀ {i}, arD I w' 0 i = arD I w 0 i) := by
  refine ⟨?_, ?_, ?_, ?_⟩
  · intro p t l dy; unfold skD; rw [hw]
  · intro p t; funext l dy; unfold dayD skD; rw [hw]
  · intro t n dy; unfold lowB dayD skD; rw [hw]
  · intro i; unfold arD; rw [hw]
/-- RA where another town is scratch's -/
theorem w_RA {I : FI} {w w' : Nat → Nat} {nW nT dy : Nat} (hw : w' 0 = w 0) (hv : RA I w nW nT dy) : RA I w' nW nT dy := by
  obtain ⟨h1, h2, h3, h4, h5, h6⟩ := hv
  refine ⟨w_WV hw h1, ?_, ?_, h4, ?_, fun w2 h2' => h6 w2 (h2'.trans hw)⟩
  · obtain ⟨a1, a2, a3, a4, a5, a6, a7, a8, a9⟩ := h2
    exact ⟨a1, a2, a3, a4, a5, a6, a7, h6 w' hw, a9⟩
  · unfold wsm at h3 ⊢
    rw [hw]
    exact h3
  · unfold BD at h5 ⊢
    rw [hw]
    exact h5
/-- two calls that answer alike and change nothing that is kept -/
def Ask (I : FI) (L : FL) (w : Nat → Nat) (m m' : Nat) (a : List Vl) : Prop := ∃ v I1 I2 w1, w1 0 = w 0 ∧ w1 1 = w 1 ∧ scM I I1 ∧ scM I1 I2 ∧ dn 60 m (vR 12288 0 :: a) (hp I L w) = some (some v, hp I1 L w1) ∧ dn 60 m' (vR 14944 0 :: a) (hp I1 L w1) = some (some v, hp I2 L w1)
theorem ask_of {I : FI} {L : FL} {w : Nat → Nat} {m m' : Nat} {a : List Vl} {v v' : Vl} {I1 : FI} (h1 : scM I I1) (e1 : dn 60 m (vR 12288 0 :: a) (hp I L w) = some (some v, hp I1 L w)) {I2 : FI} (h2 : scM I1 I2) (e2 : dn 60 m' (vR 14944 0 :: a) (hp I1 L w) = some (some v', hp I2 L w)) (e : v = v') : Ask I L w m m' a := ⟨v, I1, I2, w, rfl, rfl, h1, h2, e1, by rw [e]; exact e2⟩
theorem ask_w {I : FI} {L : FL} {w : Nat → Nat} {m m' : Nat} {a : List Vl} {v v' : Vl} {I1 : FI} {w1 : Nat → Nat} (hw : w1 0 = w 0 ∧ w1 1 = w 1) (h1 : scM I I1) (e1 : dn 60 m (vR 12288 0 :: a) (hp I L w) = some (some v, hp I1 L w1)) {I2 : FI} (h2 : scM I1 I2) (e2 : dn 60 m' (vR 14944 0 :: a) (hp I1 L w1) = some (some v', hp I2 L w1)) (e : v = v') : Ask I L w m m' a := ⟨v, I1, I2, w1, hw.1, hw.2, h1, h2, e1, by rw [e]; exact e2⟩
section P64
variable {I : FI} {L : FL} {w : Nat → Nat} {nW nT dy : Nat} {x y z : Int32}
theorem y01 {y : Int32} (h : 0 ≤ y ∧ y ≤ 1) : y = 0 ∨ y = 1 := by grind
theorem ws_pu {I1 I2 : FI} {w' : Nat → Nat} {k k' : Nat} (h : wsm I1 w k I2 w' k') {p t : Nat} (hp5 : p < 5) (ht : t < 6) : pullD I2 (w' k') (fx (c p) (c t) (I2 10481 k' p) (I2 10497 k' p) (I2 12609 k' t) (I2 12641 k' t / 10) nil0) = pullD I1 (w k) (fx (c p) (c t) (I1 10481 k p) (I1 10497 k p) (I1 12609 k t) (I1 12641 k t / 10) nil0) := by
  rw [ws_pull h, h.1 p hp5, h.2.1 p hp5, h.2.2.2.2.2.1 t ht, h.2.2.2.2.2.2.2.1 t ht]
theorem tsm_rf {I : FI} {w : Nat → Nat} {nW nT dy : Nat} (h : MV I w nW nT dy) {d : Nat} {L : FL} {p t : Nat} (hp5 : p < 5) (ht : t < 6) : ∃ b, dn (d + 4) 146 [vR 14944 0, vI (c p), vI (c t)] (hp I L w) = some (some (vI (pullD I (w 0) (fx (c p) (c t) (I 10865 0 p) (I 10881 0 p) (I 12977 0 t) (I 13009 0 t / 10) nil0))), hp (pl I b) L w) := (h.2.2.2.2.2.2.2.1 I tsm.rf).2.2.2.1 d L p t hp5 ht
theorem sc_pl {I : FI} {b : Nat → Int32} : scM I (pl I b) := fun t k j h => by
  unfold scb at h
  rw [pl_p (by omega)]
theorem tq_gt {a b : Nat} (h : a < b) (hb : b < 2147483648) : c a < c b := by rw [c_lt (by omega) hb]; exact h
theorem tq_ng {a b : Nat} (h : b ≤ a) (ha : a < 2147483648) : ¬ c a < c b := by rw [c_lt ha (by omega)]; omega
theorem tq_ne {a b : Nat} (h : a ≠ b) (ha : a < 2147483648) (hb : b < 2147483648) : ¬ c a = c b := fun z => h (c_inj ha hb z)
theorem tq_le {a b : Nat} (h : a ≤ b) (hb : b < 2147483648) : c a ≤ c b := by rw [c_le (by omega) hb]; exact h
/-- what a number asks of a wearer -/
theorem yof (h2 : nT ≤ 6) (y : Int32) : (y = 0 ∨ y = 1 ∨ y = 2 ∨ y = 3 ∨ y = 4 ∨ y = 5) ∨ (∃ t, t < nT ∧ y = c (t + 10)) ∨ (∃ t, t < nT ∧ y = c (t + 20)) ∨ (¬ (y = 0 ∨ y = 1 ∨ y = 2 ∨ y = 3 ∨ y = 4 ∨ y = 5) ∧ (¬ y < 20 → ¬ (0 ≤ y - 20 ∧ y - 20 < c nT)) ∧ (¬ y < 10 → ¬ (0 ≤ y - 10 ∧ y - 10 < c nT)) ∧ ¬ (10 ≤ y ∧ y ≤ 9 + c nT) ∧ ¬ (20 ≤ y ∧ y ≤ 19 + c nT)) := by
  by_cases a : (y = 0 ∨ y = 1 ∨ y = 2 ∨ y = 3 ∨ y = 4 ∨ y = 5)
  · exact Or.inl a
  · refine Or.inr ?_
    have K : ∀ m : Nat, m ≤ 100 → (∃ t, t < nT ∧ y = c (t + m)) ∨ ((¬ y < c m → ¬ (0 ≤ y - c m ∧ y - c m < c nT)) ∧ ¬ (c m ≤ y ∧ y ≤ c (m + nT) - 1)) := by
      intro m hm
      by_cases b : ∃ t, t < nT ∧ y = c (t + m)
      · exact Or.inl b
      · refine Or.inr ⟨fun _ q => ?_, fun q => ?_⟩
        · obtain ⟨t, ht, e⟩ := of_c q.1 (by omega) q.2
          exact b ⟨t, ht, by rw [← cq (rfl : t + m = t + m), ← e]; grind⟩
        · have q0 : 0 ≤ y := by
            have := c_0 (a := m) (by omega)
            grind
          have q1 : c (m + nT) - 1 < c (m + nT) := by
            have h1 := c_0 (a := m + nT) (by omega)
            have h2 : c (m + nT) ≤ c 1000 := tq_le (by omega) (by omega)
            have h3 : c 1000 = 1000 := rfl
            grind
          obtain ⟨u, hu, e⟩ := of_c (x := y) (n := m + nT) q0 (by omega) (by grind)
          rw [e, c_le (by omega) (by omega)] at q
          exact b ⟨u - m, by omega, by rw [e, Nat.sub_add_cancel q.1]⟩
    have e1 : (9 : Int32) + c nT = c (10 + nT) - 1 := by rw [show (1 : Int32) = c 1 from rfl, c_sub (by omega), show (9 : Int32) = c 9 from rfl, cq rfl]; congr 1; omega
    have e2 : (19 : Int32) + c nT = c (20 + nT) - 1 := by rw [show (1 : Int32) = c 1 from rfl, c_sub (by omega), show (19 : Int32) = c 19 from rfl, cq rfl]; congr 1; omega
    rcases K 10 (by omega) with b | ⟨b1, b2⟩
    · exact Or.inl b
    · rcases K 20 (by omega) with e | ⟨e3, e4⟩
      · exact Or.inr (Or.inl e)
      · exact Or.inr (Or.inr ⟨a, e3, b1, by rw [e1]; exact b2, by rw [e2]; exact e4⟩)
end P64
