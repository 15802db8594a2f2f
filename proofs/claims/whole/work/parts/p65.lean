set_option maxHeartbeats 400000
section P65
variable {I : FI} {L : FL} {w : Nat → Nat} {nW nT dy : Nat} {x y z : Int32}
theorem fx_o {p t kd v wt l : Int32} {o o' : Nat → Int32} {j : Nat} (hj : j < 6) : fx p t kd v wt l o j = fx p t kd v wt l o' j := by
  unfold fx
  match j, hj with
  | 0, _ => rfl
  | 1, _ => rfl
  | 2, _ => rfl
  | 3, _ => rfl
  | 4, _ => rfl
  | 5, _ => rfl
theorem ask57 (h : RA I w nW nT dy) : Ask I L w 57 154 [vI x, vI y] := by
  obtain ⟨hW, hM, hws, hd, hB, hTA⟩ := id h
  obtain ⟨h1, h2, h3, h4, h5, h6, h7, n, hn, h8⟩ := id hW
  obtain ⟨m1, m2, m3, m4, m5, m6, m7, mT, mF⟩ := id hM
  by_cases a : 0 ≤ x ∧ x < c nW
  · obtain ⟨p, hp', hp5, rfl⟩ := of_5 h1 a
    have C : ∀ o, (if y = 0 then some (some (vI (I 10481 0 p)), hp I L w) else if y = 1 then some (some (vI (I 10497 0 p)), hp I L w) else if y = 2 then some (some (vI (I 10513 0 p)), hp I L w) else if y = 3 then (if I 10530 0 p = 0 then some (some (vI 0), hp I L w) else some (some (vI 1), hp I L w)) else if y = 4 then some (some (vI (fD I 0 p)), hp I L w) else if y = 5 then some (some (vI (arD I w 0 p)), hp I L w) else bn (dn 59 58 [vR 12288 0, vI (c p), vI y] (hp I L w)) (fun v h' => rn none (dn 59) 57 128 [some (vR 12288 0), some (vI (c p)), some (vI y)] (psh v []) h')) = o → dn 60 57 [vR 12288 0, vI (c p), vI y] (hp I L w) = o := by
      intro o ho
      rw [e57, b57_0, s31, bn_s, h4]
      show rn none _ 57 8 _ [vI _] _ = _
      rw [b57_8, ib, if_pos a, ck_t (vin_c hp5 (by omega)), ck_t (vin_c hp5 (by omega)), ck_t (vin_c hp5 (by omega)), ck_t (vin_c hp5 (by omega)), ix_c (by omega), s37 hp5, s38 hp5, bn_s, bn_s, ← ho]
      show (if _ then _ else if _ then _ else if _ then _ else if _ then _ else if _ then rn none _ 57 112 _ [vI _] _ else if _ then rn none _ 57 121 _ [vI _] _ else _) = _
      rw [b57_112, b57_121]
      rfl
    have M : ∀ J o, RA J w nW nT dy → (if 10 ≤ y ∧ y ≤ 9 + c nT then bn (dn 59 146 [vR 14944 0, vI (c p), vI (y - 10)] (hp J L w)) (fun v h' => rn none (dn 59) 154 38 [some (vR 14944 0), some (vI (c p)), some (vI y)] (psh v []) h') else if 20 ≤ y ∧ y ≤ 19 + c nT then bn (dn 59 148 [vR 14944 0, vI (c p), vI (y - 20)] (hp J L w)) (fun v h' => rn none (dn 59) 154 65 [some (vR 14944 0), some (vI (c p)), some (vI y)] (psh v []) h') else if y = 0 then some (some (vI (J 10865 0 p)), hp J L w) else if y = 1 then some (some (vI (J 10881 0 p)), hp J L w) else if y = 2 then some (some (vI (J 10897 0 p)), hp J L w) else if y = 3 then (if hs (J 14944 0 1) p = true then some (some (vI 1), hp J L w) else some (some (vI 0), hp J L w)) else if y = 4 then some (some (vI (fD (mv J) 0 p)), hp J L w) else if y = 5 then some (some (vI (arD (mv J) w 0 p)), hp J L w) else some (some (vI (-1001)), hp J L w)) = o → dn 60 154 [vR 14944 0, vI (c p), vI y] (hp J L w) = o := by
      intro J o hJ ho
      have hMJ := hJ.2.1
      rw [e154, b154_0, s110 (by omega) hMJ.2.2.2.1, bn_s]
      show rn none _ 154 5 _ [vI _] _ = _
      rw [b154_5, ib, if_pos a, s106, bn_s, hMJ.2.2.2.2.1]
      show rn none _ 154 26 _ [vI _] _ = _
      rw [b154_26, ib, s106, bn_s]
      show (if _ then _ else rn none _ 154 53 _ [vI _] _) = _
      rw [b154_53, ib, hMJ.2.2.2.2.1, ck_t (vin_c hp5 (by omega)), ck_t (vin_c hp5 (by omega)), ck_t (vin_c hp5 (by omega)), ix_c (by omega), s107, bn_s, s147 hp5, bn_s, s149 hMJ.2.2.2.2.2.2.2.1 hp5, bn_s, ← ho]
      show (if _ then _ else if _ then _ else if _ then _ else if _ then _ else if _ then _ else if _ then rn none _ 154 134 _ [vI _] _ else if _ then rn none _ 154 148 _ [vI _] _ else if _ then rn none _ 154 154 _ [vI _] _ else _) = _
      rw [b154_134, ib, b154_148, b154_154]
    rcases yof h2 y with hy | ⟨t, ht, rfl⟩ | ⟨t, ht, rfl⟩ | ⟨n1, n2, n3, n4, n5⟩
    · have hcn : (0 : Int32) ≤ c nT := c_0 (by omega)
      have q1 : ¬ (10 ≤ y ∧ y ≤ 9 + c nT) := by
        rcases hy with rfl | rfl | rfl | rfl | rfl | rfl <;> exact fun z => absurd z.1 (by decide)
      have q2 : ¬ (20 ≤ y ∧ y ≤ 19 + c nT) := by
        rcases hy with rfl | rfl | rfl | rfl | rfl | rfl <;> exact fun z => absurd z.1 (by decide)
      rcases hy with rfl | rfl | rfl | rfl | rfl | rfl
      · exact ask_of scM.rf (C _ rfl) scM.rf (M I _ h (by rw [if_neg q1, if_neg q2]; rfl)) (congrArg vI (hws.1 p hp5).symm)
      · exact ask_of scM.rf (C _ rfl) scM.rf (M I _ h (by rw [if_neg q1, if_neg q2]; rfl)) (congrArg vI (hws.2.1 p hp5).symm)
      · exact ask_of scM.rf (C _ rfl) scM.rf (M I _ h (by rw [if_neg q1, if_neg q2]; rfl)) (congrArg vI (hws.2.2.1 p hp5).symm)
      · have g := hws.2.2.2.1 p hp5
        rw [mv_gone] at g
        by_cases b : hs (I 14944 0 1) p = true
        · rw [if_pos b] at g
          exact ask_of (v := vI 1) (v' := vI 1) scM.rf (C _ (by rw [if_neg (by decide), if_neg (by decide), if_neg (by decide), if_pos rfl, ← g, if_neg (by decide)])) scM.rf (M I _ h (by rw [if_neg q1, if_neg q2, if_neg (by decide), if_neg (by decide), if_neg (by decide), if_pos rfl, if_pos b])) rfl
        · rw [if_neg b] at g
          exact ask_of (v := vI 0) (v' := vI 0) scM.rf (C _ (by rw [if_neg (by decide), if_neg (by decide), if_neg (by decide), if_pos rfl, ← g, if_pos rfl])) scM.rf (M I _ h (by rw [if_neg q1, if_neg q2, if_neg (by decide), if_neg (by decide), if_neg (by decide), if_pos rfl, if_neg b])) rfl
      · exact ask_of scM.rf (C _ rfl) scM.rf (M I _ h (by rw [if_neg q1, if_neg q2]; rfl)) (congrArg vI (ws_fD hws hp5).symm)
      · exact ask_of scM.rf (C _ rfl) scM.rf (M I _ h (by rw [if_neg q1, if_neg q2]; rfl)) (congrArg vI (ws_ar hws hp5).symm)
    · have e10 : c (t + 10) - 10 = c t := by rw [show (10 : Int32) = c 10 from rfl, c_sub (by omega), Nat.add_sub_cancel]
      have q : ∀ m : Nat, m < 10 → ¬ c (t + 10) = c m := fun m hm => tq_ne (by omega) (by omega) (by omega)
      have a1 : (10 : Int32) ≤ c (t + 10) ∧ c (t + 10) ≤ 9 + c nT := by
        rw [show (10 : Int32) = c 10 from rfl, show (9 : Int32) = c 9 from rfl, cq rfl, c_le (by omega) (by omega), c_le (by omega) (by omega)]
        omega
      have D : dn 59 58 [vR 12288 0, vI (c p), vI (c (t + 10))] (hp I L w) = some (some (vI (pullD I (w 0) (fx (c p) (c t) (I 10481 0 p) (I 10497 0 p) (I 12609 0 t) (I 12641 0 t / 10) nil0))), hp (fct I 0 (fx (c p) (c t) (I 10481 0 p) (I 10497 0 p) (I 12609 0 t) (I 12641 0 t / 10) (I 12849 0))) L w) := by
        rw [e58, b58_0, if_pos (show c (t + 10) < 20 from tq_gt (a := t + 10) (b := 20) (by omega) (by omega)), if_neg (show ¬ c (t + 10) < 10 from tq_ng (b := 10) (by omega) (by omega)), e10, s32, bn_s, h5]
        show rn none _ 58 68 _ [vI _] _ = _
        rw [b58_68, ib, if_pos (show 0 ≤ c t ∧ c t < c nT from ⟨c_0 (by omega), tq_gt ht (by omega)⟩), e10, ck_t (vin_c (by omega) (by omega)), ix_c (by omega), s41 hp5 (by omega), bn_s]
        show rn none _ 58 101 _ [vR _ _, vR _ _] _ = _
        rw [b58_101, s20 hn (by rw [fct_p (by omega)]; exact h8), bn_s]
        show rn none _ 58 104 _ [vI _] _ = _
        rw [b58_104, fct_s, pullD_fct]
        rw [pullD_congr (g := fx (c p) (c t) (I 10481 0 p) (I 10497 0 p) (I 12609 0 t) (I 12641 0 t / 10) nil0) (fun j hj => fx_o hj)]
      generalize fx (c p) (c t) (I 10481 0 p) (I 10497 0 p) (I 12609 0 t) (I 12641 0 t / 10) (I 12849 0) = g at D
      have hJ : RA (fct I 0 g) w nW nT dy := sc_RA sc_fct h
      obtain ⟨b, hb⟩ := tsm_rf (d := 55) (L := L) hJ.2.1 hp5 (show t < 6 by omega)
      have hw := sc_ws hws scM.rf (sc_fct (I := I) (k := 0) (g := g))
      refine ask_of sc_fct (C _ ?_) (sc_pl (b := b)) (M (fct I 0 g) _ hJ ?_) (congrArg vI (ws_pu hw hp5 (show t < 6 by omega)).symm)
      · rw [if_neg (show ¬ c (t + 10) = 0 from q 0 (by omega)), if_neg (show ¬ c (t + 10) = 1 from q 1 (by omega)), if_neg (show ¬ c (t + 10) = 2 from q 2 (by omega)), if_neg (show ¬ c (t + 10) = 3 from q 3 (by omega)), if_neg (show ¬ c (t + 10) = 4 from q 4 (by omega)), if_neg (show ¬ c (t + 10) = 5 from q 5 (by omega)), D, bn_s]
        show rn none _ 57 128 _ [vI _] _ = _
        rw [b57_128]
      · rw [if_pos a1, e10, show dn 59 146 = dn (55 + 4) 146 from rfl, hb, bn_s]
        show rn none _ 154 38 _ [vI _] _ = _
        rw [b154_38, pullD_mv]
        rfl
    · have e20 : c (t + 20) - 20 = c t := by rw [show (20 : Int32) = c 20 from rfl, c_sub (by omega), Nat.add_sub_cancel]
      have q : ∀ m : Nat, m < 10 → ¬ c (t + 20) = c m := fun m hm => tq_ne (by omega) (by omega) (by omega)
      have a0 : ¬ ((10 : Int32) ≤ c (t + 20) ∧ c (t + 20) ≤ 9 + c nT) := by
        rw [show (10 : Int32) = c 10 from rfl, show (9 : Int32) = c 9 from rfl, cq rfl, c_le (by omega) (by omega), c_le (by omega) (by omega)]
        omega
      have a1 : (20 : Int32) ≤ c (t + 20) ∧ c (t + 20) ≤ 19 + c nT := by
        rw [show (20 : Int32) = c 20 from rfl, show (19 : Int32) = c 19 from rfl, cq rfl, c_le (by omega) (by omega), c_le (by omega) (by omega)]
        omega
      obtain ⟨g, hg⟩ := s42 (d := 55) (L := L) (l := I 12641 0 t) hp5 (show t < 6 by omega) (show dy < 2147483648 by omega) hn h8
      have D : dn 59 58 [vR 12288 0, vI (c p), vI (c (t + 20))] (hp I L w) = some (some (vI (skD I w 0 p t (I 12641 0 t) dy)), hp (fct I 0 g) L w) := by
        rw [e58, b58_0, if_neg (show ¬ c (t + 20) < 20 from tq_ng (b := 20) (by omega) (by omega)), e20, s32, bn_s, h5]
        show rn none _ 58 17 _ [vI _] _ = _
        rw [b58_17, ib, if_pos (show 0 ≤ c t ∧ c t < c nT from ⟨c_0 (by omega), tq_gt ht (by omega)⟩), e20, ck_t (vin_c (by omega) (by omega)), ix_c (by omega), h6, show dn 58 42 = dn (55 + 3) 42 from rfl, hg, bn_s]
        show rn none _ 58 50 _ [vI _] _ = _
        rw [b58_50]
      have hJ : RA (fct I 0 g) w nW nT dy := sc_RA sc_fct h
      obtain ⟨b, hb⟩ := s148 (d := 54) (L := L) hJ.2.1.2.2.2.2.2.2.2.1 hp5 (show t < 6 by omega) (show dy < 2147483648 by omega) hJ.2.1.2.2.2.2.2.1
      have hw := sc_ws hws scM.rf (sc_fct (I := I) (k := 0) (g := g))
      have e : skD I w 0 p t (I 12641 0 t) dy = skD (mv (fct I 0 g)) w 0 p t (fct I 0 g 13009 0 t) dy := by
        rw [ws_sk hw hp5 (show t < 6 by omega), show fct I 0 g 13009 0 t = mv (fct I 0 g) 12641 0 t from rfl, hw.2.2.2.2.2.2.2.1 t (by omega)]
      refine ask_of sc_fct (C _ ?_) (sc_pl (b := b)) (M (fct I 0 g) _ hJ ?_) (congrArg vI e)
      · rw [if_neg (show ¬ c (t + 20) = 0 from q 0 (by omega)), if_neg (show ¬ c (t + 20) = 1 from q 1 (by omega)), if_neg (show ¬ c (t + 20) = 2 from q 2 (by omega)), if_neg (show ¬ c (t + 20) = 3 from q 3 (by omega)), if_neg (show ¬ c (t + 20) = 4 from q 4 (by omega)), if_neg (show ¬ c (t + 20) = 5 from q 5 (by omega)), D, bn_s]
        show rn none _ 57 128 _ [vI _] _ = _
        rw [b57_128]
      · rw [if_neg a0, if_pos a1, e20, show dn 59 148 = dn (54 + 5) 148 from rfl, hb, bn_s]
        show rn none _ 154 65 _ [vI _] _ = _
        rw [b154_65]
    · refine ask_of (v := vI (-1001)) (v' := vI (-1001)) scM.rf (C _ ?_) scM.rf (M I _ h ?_) rfl
      · rw [if_neg (fun z => n1 (Or.inl z)), if_neg (fun z => n1 (Or.inr (Or.inl z))), if_neg (fun z => n1 (Or.inr (Or.inr (Or.inl z)))), if_neg (fun z => n1 (Or.inr (Or.inr (Or.inr (Or.inl z))))), if_neg (fun z => n1 (Or.inr (Or.inr (Or.inr (Or.inr (Or.inl z)))))), if_neg (fun z => n1 (Or.inr (Or.inr (Or.inr (Or.inr (Or.inr z))))))]
        have D : dn 59 58 [vR 12288 0, vI (c p), vI y] (hp I L w) = some (some (vI (-1001)), hp I L w) := by
          have T : (if y < 10 then some (some (vI (-1001)), hp I L w) else bn (dn 58 32 [vR 10464 0, vI (y - 10)] (hp I L w)) (fun v h' => rn none (dn 58) 58 68 [some (vR 12288 0), some (vI (c p)), some (vI y), none] (psh v []) h')) = some (some (vI (-1001)), hp I L w) := by
            by_cases b : y < 10
            · rw [if_pos b]
            · rw [if_neg b, s32, bn_s, h5]
              show rn none _ 58 68 _ [vI _] _ = _
              rw [b58_68, ib, if_neg (n3 b)]
          rw [e58, b58_0]
          by_cases b : y < 20
          · rw [if_pos b]; exact T
          · rw [if_neg b, s32, bn_s, h5]
            show rn none _ 58 17 _ [vI _] _ = _
            rw [b58_17, ib, if_neg (n2 b)]
            exact T
        rw [D, bn_s]
        show rn none _ 57 128 _ [vI _] _ = _
        rw [b57_128]
      · rw [if_neg n4, if_neg n5, if_neg (fun z => n1 (Or.inl z)), if_neg (fun z => n1 (Or.inr (Or.inl z))), if_neg (fun z => n1 (Or.inr (Or.inr (Or.inl z)))), if_neg (fun z => n1 (Or.inr (Or.inr (Or.inr (Or.inl z))))), if_neg (fun z => n1 (Or.inr (Or.inr (Or.inr (Or.inr (Or.inl z)))))), if_neg (fun z => n1 (Or.inr (Or.inr (Or.inr (Or.inr (Or.inr z))))))]
  · refine ask_of (v := vI (-1001)) (v' := vI (-1001)) scM.rf ?_ scM.rf ?_ rfl
    · rw [e57, b57_0, s31, bn_s, h4]
      show rn none _ 57 8 _ [vI _] _ = _
      rw [b57_8, ib, if_neg a]
    · rw [e154, b154_0, s110 (by omega) m4, bn_s]
      show rn none _ 154 5 _ [vI _] _ = _
      rw [b154_5, ib, if_neg a]
end P65
