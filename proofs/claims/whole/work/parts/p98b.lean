set_option maxHeartbeats 400000
section P98b
variable {L : FL} {w : Nat → Nat} {tx : Nat → Int32} {n f ci : Nat} {A : List Tk}
/-- behind what is tested: all is settled -/
theorem sy_e {d : Nat} (hn : n ≤ 100) {H : FI} {p : Nat} {q1 q : List Nat} {l1 l : List Tk} {o : Option Vl} (h : MZ tx n f H p q1 l1) (hP : P24 q1 l1 q l) (hq : top q) (h1 : nxF tx n p ≠ 38) (h2 : nxF tx n p ≠ 124) : ∃ H1, frM f ci H H1 ∧ MZ tx n f H1 p q l ∧ r22 d ci L w 0 o H = rn none (dn (d + 8)) 136 168 [some (vR 14944 0), some (vI (c ci)), some (vI 0), some (vI (nxF tx n p))] [] (hp H1 L w) := by
  obtain ⟨H1, f1, f2, f3⟩ := s133 (ci := ci) (d := d + 6) (L := L) (w := w) hn (Or.inr rfl) q1 H p l1 h
  rw [stl24_P hP hq] at f2
  refine ⟨H1, f1, f2, ?_⟩
  unfold r22
  rw [b136_22, s126 hn h.1 h.2.1 (by have := h.2.2.1; omega), bn_s]
  show rn none _ 136 26 _ [vI _] _ = _
  rw [b136_26, if_pos rfl, if_neg h1, if_neg h2, show dn (d + 8) 133 = dn (d + 7 + 1) 133 from rfl, e133]
  rw [show dn (d + 7) = dn (d + 6 + 1) from rfl, show (124 : Int32) = c 124 from rfl, f3, bn_s]
  rfl
theorem frM_to {H : FI} {x : Int32} : frM f ci H (uI H 123697 0 ci x) := fun t k j _ _ _ a => by
  unfold uI
  rw [if_neg (fun z => a ⟨z.1, z.2.2⟩)]
theorem MZ_to {H : FI} {p : Nat} {q : List Nat} {l : List Tk} {j : Nat} {x : Int32} (h : MZ tx n f H p q l) : MZ tx n f (uI H 123697 0 j x) p q l := by
  obtain ⟨a1, a2, a3, a4, a5, a6, a7, a8, a9⟩ := h
  exact ⟨⟨by rw [uI_t (by omega)]; exact a1.1, fun i hi => by rw [uI_t (by omega)]; exact a1.2 i hi⟩, by rw [uI_t (by omega)]; exact a2, a3, by rw [uI_t (by omega)]; exact a4, stW_p (fun j => uI_t (by omega)) q a5, by rw [uI_t (by omega)]; exact a6, encS_p a7 (uI_t (by omega)) (fun j => uI_t (by omega)), a8, a9⟩
/-- a test, or nothing that begins so -/
theorem sy_t {d p : Nat} (hn : n ≤ 100) {H : FI} {q : List Nat} {cd : List Tk} {o : Option Vl} (h : MZ tx n f H p q (A ++ cd)) (hr : ∀ z, (if nxF tx n p = 33 then (if H 14944 0 26 = 4 then some (some (vI 0), hp H L w) else z) else if nxF tx n p = 40 then (if H 14944 0 26 = 4 then some (some (vI 0), hp H L w) else z) else bn (dn (d + 8) 135 [vR 14944 0] (hp H L w)) (fun v h' => rn none (dn (d + 8)) 136 100 [some (vR 14944 0), some (vI (c ci)), some (vI 1), some (vI (nxF tx n p))] (psh v []) h')) = r22 d ci L w 1 o H) (hc : (nxF tx n p = 33 ∨ nxF tx n p = 40) → opn q = 4) : ((rdT (nxF tx n) p cd).1 = true → ∃ H' o', frM f ci H H' ∧ MZ tx n f H' (rdT (nxF tx n) p cd).2.1 (popB q) ((A ++ (rdT (nxF tx n) p cd).2.2) ++ ntB q) ∧ r22 d ci L w 1 o H = r22 d ci L w 0 o' H') ∧ ((rdT (nxF tx n) p cd).1 = false → FlM f ci (rdT (nxF tx n) p cd).2.1 L w H (r22 d ci L w 1 o H)) := by
  have hlt : (nxF tx n p = 33 ∨ nxF tx n p = 40) → rdT (nxF tx n) p cd = (false, p, []) := by
    intro z
    unfold rdT
    rw [if_pos (by rcases z with z | z <;> rw [z] <;> decide)]
  by_cases a : nxF tx n p = 33 ∨ nxF tx n p = 40
  · have h4 := hc a
    have e26 : H 14944 0 26 = 4 := by rw [h.2.2.2.2.2.1, h4]; rfl
    rw [hlt a]
    refine ⟨fun z => (by cases z), fun _ => ⟨H, frM.rf, h.2.1, ?_⟩⟩
    rw [← hr none]
    rcases a with a | a
    · rw [if_pos a, if_pos e26]
    · rw [if_neg (by rw [a]; decide), if_pos a, if_pos e26]
  · obtain ⟨g1, g2⟩ := s135 (d := d + 2) (ci := ci) (L := L) (w := w) hn h
    have e2 : r22 d ci L w 1 o H = bn (dn (d + 8) 135 [vR 14944 0] (hp H L w)) (fun v h' => rn none (dn (d + 8)) 136 100 [some (vR 14944 0), some (vI (c ci)), some (vI 1), some (vI (nxF tx n p))] (psh v []) h') := by
      rw [← hr none, if_neg (fun z => a (Or.inl z)), if_neg (fun z => a (Or.inr z))]
    refine ⟨fun z => ?_, fun z => ?_⟩
    · obtain ⟨H', k1, k2, k3⟩ := g1 z
      refine ⟨H', some (vI (nxF tx n p)), k1, k2, ?_⟩
      rw [e2, show dn (d + 8) 135 = dn (d + 2 + 6) 135 from rfl, k3, bn_s]
      show rn none _ 136 100 _ [vI _] _ = _
      rw [b136_100, if_neg (by decide)]
    · obtain ⟨H', k1, k2, k3⟩ := g2 z
      refine ⟨H', k1, k2, ?_⟩
      rw [e2, show dn (d + 8) 135 = dn (d + 2 + 6) 135 from rfl, k3, bn_s]
      show rn none _ 136 100 _ [vI _] _ = _
      rw [b136_100, if_pos rfl]
theorem sy_F {d : Nat} (hn : n ≤ 100) (hci : ci < 60) : ∀ k, SyF tx n f ci A d L w k := by
  have R : ∀ H p q cd o, MZ tx n f H p q (A ++ cd) → ∀ y, (if nxF tx n p = 33 then (if H 14944 0 26 = 4 then some (some (vI 0), hp H L w) else ck (vin (H 14944 0 25) 101) (rn none (dn (d + 8)) 136 22 [some (vR 14944 0), some (vI (c ci)), some (vI 1), some (vI (nxF tx n p))] [] (hp (uI (uI (uI (uI H 14944 0 26 (H 14944 0 26 + 1)) 207697 0 (ix (H 14944 0 25)) (nxF tx n p)) 14944 0 25 (H 14944 0 25 + 1)) 14944 0 14 (H 14944 0 14 + 1)) L w))) else if nxF tx n p = 40 then (if H 14944 0 26 = 4 then some (some (vI 0), hp H L w) else ck (vin (H 14944 0 25) 101) (rn none (dn (d + 8)) 136 22 [some (vR 14944 0), some (vI (c ci)), some (vI 1), some (vI (nxF tx n p))] [] (hp (uI (uI (uI (uI H 14944 0 26 (H 14944 0 26 + 1)) 207697 0 (ix (H 14944 0 25)) (nxF tx n p)) 14944 0 25 (H 14944 0 25 + 1)) 14944 0 14 (H 14944 0 14 + 1)) L w))) else bn (dn (d + 8) 135 [vR 14944 0] (hp H L w)) (fun v h' => rn none (dn (d + 8)) 136 100 [some (vR 14944 0), some (vI (c ci)), some (vI 1), some (vI (nxF tx n p))] (psh v []) h')) = y → r22 d ci L w 1 o H = y := by
    intro H p q cd o h y hy
    unfold r22
    rw [b136_22, s126 hn h.1 h.2.1 (by have := h.2.2.1; omega), bn_s]
    show rn none _ 136 26 _ [vI _] _ = _
    rw [b136_26, if_neg (show ¬ (1 : Int32) = 0 from by decide)]
    exact hy
  intro k
  induction k with
  | zero =>
    intro H p q cd o hop h
    refine sy_t hn h (fun z => ?_) (fun _ => by omega)
    have e26 : H 14944 0 26 = 4 := by rw [h.2.2.2.2.2.1, show opn q = 4 by omega]; rfl
    refine (R H p q cd o h _ ?_).symm
    rw [if_pos e26, if_pos e26]
  | succ k ih =>
    intro H p q cd o hop h
    obtain ⟨h1, h2, h3, h4, h5, h6, h7, h8, h9⟩ := id h
    have hEt := sy_E (A := A) (d := d) hn hci ih
    have hgE : Gd n (lvP (nxF tx n) (lvP (nxF tx n) (rdF (nxF tx n) k) 38 2) 124 3) := lvP_g nxF_n (by decide) (lvP_g nxF_n (by decide) (rdF_g (nx := nxF tx n) nxF_n k))
    have e : rdF (nxF tx n) (k + 1) p cd = if nxF tx n p = 33 then (if (rdF (nxF tx n) k (p + 1) cd).1 = true then (true, (rdF (nxF tx n) k (p + 1) cd).2.1, (rdF (nxF tx n) k (p + 1) cd).2.2 ++ [(1, 0, 0, 0)]) else (false, (rdF (nxF tx n) k (p + 1) cd).2.1, [])) else if nxF tx n p = 40 then (if (lvP (nxF tx n) (lvP (nxF tx n) (rdF (nxF tx n) k) 38 2) 124 3 (p + 1) cd).1 = true then (if nxF tx n (lvP (nxF tx n) (lvP (nxF tx n) (rdF (nxF tx n) k) 38 2) 124 3 (p + 1) cd).2.1 = 41 then (true, (lvP (nxF tx n) (lvP (nxF tx n) (rdF (nxF tx n) k) 38 2) 124 3 (p + 1) cd).2.1 + 1, (lvP (nxF tx n) (lvP (nxF tx n) (rdF (nxF tx n) k) 38 2) 124 3 (p + 1) cd).2.2) else (false, (lvP (nxF tx n) (lvP (nxF tx n) (rdF (nxF tx n) k) 38 2) 124 3 (p + 1) cd).2.1, [])) else (false, (lvP (nxF tx n) (lvP (nxF tx n) (rdF (nxF tx n) k) 38 2) 124 3 (p + 1) cd).2.1, [])) else rdT (nxF tx n) p cd := rfl
    generalize lvP (nxF tx n) (lvP (nxF tx n) (rdF (nxF tx n) k) 38 2) 124 3 = fE at hEt hgE e
    have hq3 : opn q ≤ 3 := by omega
    have e26 : ¬ H 14944 0 26 = 4 := by rw [h6]; exact tq_ne (b := 4) (by omega) (by omega) (by omega)
    -- what is pushed
    have push : ∀ a, (a = 33 ∨ a = 40) → nxF tx n p = c a → ∃ H1 o1, frM f ci H H1 ∧ MZ tx n f H1 (p + 1) (a :: q) (A ++ cd) ∧ r22 d ci L w 1 o H = r22 d ci L w 1 o1 H1 := by
      intro a ha hx
      have hne : (c a) ≠ -1 := by rcases ha with rfl | rfl <;> decide
      have hpn := nx_lt (nx := nxF tx n) nxF_n hx hne
      have hopa : opn (a :: q) = opn q + 1 := by
        show opn q + (if a = 33 ∨ a = 40 then 1 else 0) = _
        rw [if_pos ha]
      obtain ⟨g1, g2⟩ := MZ_pu (ci := ci) hn h hpn (show a < 200 by omega) (c (opn q + 1)) (by rw [hopa])
      refine ⟨_, some (vI (c a)), g2, g1, R H p q cd o h _ ?_⟩
      have hl := opn_le q
      rw [hx, h4, h6, h2, c_s, c_s, c_s, ck_t (vin_c (by omega) (by omega)), ix_c (by omega), if_neg (show ¬ c (opn q) = 4 from tq_ne (b := 4) (by omega) (by omega) (by omega))]
      rcases ha with rfl | rfl
      · rw [if_pos (show c 33 = 33 from rfl)]
      · rw [if_neg (show ¬ c 40 = 33 from by decide), if_pos (show c 40 = 40 from rfl)]
    rw [e]
    by_cases a : nxF tx n p = 33
    · obtain ⟨H1, o1, f1, f2, f3⟩ := push 33 (Or.inl rfl) a
      obtain ⟨g1, g2⟩ := ih H1 (p + 1) (33 :: q) cd o1 (by show opn q + 1 + k = 4; omega) f2
      rw [if_pos a]
      by_cases b : (rdF (nxF tx n) k (p + 1) cd).1 = true
      · obtain ⟨H', o', k1, k2, k3⟩ := g1 b
        rw [if_pos b]
        refine ⟨fun _ => ⟨H', o', f1.tr k1, ?_, f3.trans k3⟩, fun z => (by cases z)⟩
        have : (A ++ (rdF (nxF tx n) k (p + 1) cd).2.2) ++ ntB (33 :: q) = (A ++ ((rdF (nxF tx n) k (p + 1) cd).2.2 ++ [(1, 0, 0, 0)])) ++ ntB q := by
          rw [show ntB (33 :: q) = [(1, 0, 0, 0)] ++ ntB q from rfl, ← List.append_assoc, ← List.append_assoc]
        rw [this] at k2
        exact k2
      · rw [if_neg b]
        refine ⟨fun z => (by cases z), fun _ => ?_⟩
        obtain ⟨H', j1, j2, j3⟩ := g2 (by cases hb : (rdF (nxF tx n) k (p + 1) cd).1 with | true => exact absurd hb b | false => rfl)
        exact ⟨H', f1.tr j1, j2, f3.trans j3⟩
    · rw [if_neg a]
      by_cases a2 : nxF tx n p = 40
      · obtain ⟨H1, o1, f1, f2, f3⟩ := push 40 (Or.inr rfl) a2
        obtain ⟨g1, g2⟩ := hEt H1 (p + 1) (40 :: q) cd o1 (by show opn q + 1 + k = 4; omega) (Or.inr ⟨q, rfl⟩) f2
        rw [if_pos a2]
        by_cases b : (fE (p + 1) cd).1 = true
        · obtain ⟨H2, o2, q2, l2, k1, k2, k3, k4, k5, k6⟩ := g1 b
          obtain ⟨H3, m1, m2, m3⟩ := sy_e (d := d) (ci := ci) (L := L) (w := w) (o := o2) hn k2 k3 (Or.inr ⟨q, rfl⟩) k4 k5
          obtain ⟨r1, r2, r3, r4, r5, r6, r7, r8, r9⟩ := id m2
          rw [List.length_cons] at r4 r8
          have e25 : ¬ H3 14944 0 25 = 0 := by rw [r4]; exact tq_ne (b := 0) (by omega) (by omega) (by omega)
          rw [if_pos b]
          by_cases b2 : nxF tx n (fE (p + 1) cd).2.1 = 41
          · have hpn2 := nx_lt (nx := nxF tx n) nxF_n b2 (by decide)
            have hto := MZ_to (j := ci) (x := H3 14944 0 24) m2
            obtain ⟨t1, t2⟩ := MZ_pop (ci := ci) hto
            obtain ⟨u1, u2⟩ := MZ_at (ci := ci) t1 (show (fE (p + 1) cd).2.1 ≤ (fE (p + 1) cd).2.1 + 1 by omega) (by omega)
            obtain ⟨H', v1, v2, v3⟩ := s132 (ci := ci) (d := d + 6) (L := L) (w := w) hn q _ _ _ u1
            rw [if_pos b2]
            refine ⟨fun _ => ⟨H', some (vI (nxF tx n (fE (p + 1) cd).2.1)), ((((f1.tr k1).tr m1).tr frM_to).tr t2).tr (u2.tr v1), v2, ?_⟩, fun z => (by cases z)⟩
            rw [f3, k6, m3]
            have e251 : c (q.length + 1) - 1 = c q.length := by rw [show (1 : Int32) = c 1 from rfl, c_sub (by omega), Nat.add_sub_cancel]
            have e261 : H3 14944 0 26 - 1 = c (opn q) := by
              have := opn_le q
              rw [r6, show opn (40 :: q) = opn q + 1 from rfl, show (1 : Int32) = c 1 from rfl, c_sub (by omega), Nat.add_sub_cancel]
            rw [b136_168, ck_t (vin_c hci (by omega)), if_neg e25, b2, if_pos (show (41 : Int32) = 41 from rfl), r4, e251, e261, r2, c_s, ix_c (by omega), show dn (d + 8) 132 = dn (d + 7 + 1) 132 from rfl, e132, show dn (d + 7) = dn (d + 6 + 1) from rfl, v3, bn_s]
            show rn none _ 136 229 _ [] _ = _
            rw [b136_229]
          · rw [if_neg b2]
            refine ⟨fun z => (by cases z), fun _ => ⟨uI H3 123697 0 ci (H3 14944 0 24), ((f1.tr k1).tr m1).tr frM_to, ?_, ?_⟩⟩
            · rw [uI_t (by omega)]; exact r2
            · rw [f3, k6, m3, b136_168, ck_t (vin_c hci (by omega)), if_neg e25, if_neg b2, ix_c (by omega)]
        · rw [if_neg b]
          refine ⟨fun z => (by cases z), fun _ => ?_⟩
          obtain ⟨H', j1, j2, j3⟩ := g2 (by cases hb : (fE (p + 1) cd).1 with | true => exact absurd hb b | false => rfl)
          exact ⟨H', f1.tr j1, j2, f3.trans j3⟩
      · rw [if_neg a2]
        refine sy_t hn h (fun z => ?_) (fun z => by rcases z with z | z; exact absurd z a; exact absurd z a2)
        refine (R H p q cd o h _ ?_).symm
        rw [if_neg a, if_neg a2, if_neg a, if_neg a2]
end P98b
