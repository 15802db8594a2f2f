section SND
variable {p : Program} {l : Launch} {e : Env} {R : Room} {s : State} {m0 : MethodId} {args : Array Value} {below : List Frame} {meth : Method} {c0 : Code} {Q : State → Prop} {A : Nat → Prop} {dC : Nat → ClassId} {dI : Nat → Nat → Nat} {dA : Nat → ClassId} {ad0 : Nat → Nat → Nat} {sc : Sc} {m n0 s0 pc : Nat} {L : List (Option Vl)} {st r : List Vl} {h : Hp}
theorem vin_lt {i : Int32} {n : Nat} (h : vin i n = true) : ix i < n := by
  unfold vin at h
  simp only [Bool.and_eq_true, decide_eq_true_eq] at h
  exact h.2
theorem sn_iald (C : Fx p s m0 args c0 A m) {t k : Nat} {i : Int32} (hd : decode (mB m) pc = .ok (.iaload, 1)) (hk : tK t = 1) (hi : vin i (tN t) = true) (T : Tm p l e R s m0 args below meth c0 Q A dC dI dA ad0 sc m n0 s0 (pc + 1) L (.inl (hI h t k (ix i)) :: r) h) : Tm p l e R s m0 args below meth c0 Q A dC dI dA ad0 sc m n0 s0 pc L (.inl i :: .inr (.inr (some (t, k))) :: r) h := by
  intro ad H locs ls ha hn hs hS hL ho
  obtain ⟨q, hq, hnm⟩ := okr.at (h := h) ho.tl.hd.r (by show tK t ≤ 5; omega)
  have he := wl_at (dA := dA) (ad := ad) hq hnm
  rw [cE_1 hk] at he
  exact va_iald C.1 C.2.1 hS.2.2.2.2.1.1 hS.1 q 0 he rfl (vp_of hi) hd (T ad H locs ls ha hn hs hS hL (ho.tl.tl.cons okv_i))
theorem sn_iald8 (C : Fx p s m0 args c0 A m) {n : Nat} {xs : Nat → Int32} {i : Int32} (hd : decode (mB m) pc = .ok (.iaload, 1)) (hsc : sc = some (n, xs)) (hi : vin i n = true) (T : Tm p l e R s m0 args below meth c0 Q A dC dI dA ad0 sc m n0 s0 (pc + 1) L (.inl (xs (ix i)) :: r) h) : Tm p l e R s m0 args below meth c0 Q A dC dI dA ad0 sc m n0 s0 pc L (.inl i :: .inr (.inr (some (tagX, 0))) :: r) h := by
  intro ad H locs ls ha hn hs hS hL ho
  obtain ⟨x1, x2, x3⟩ := hS.2.2.2.2.2 n xs hsc
  exact va_sld C.1 C.2.1 x1 x2 x3 hS.2.2.1 (vp_of hi) hd (T ad H locs ls ha hn hs hS hL (ho.tl.tl.cons okv_i))
theorem sn_iald10 (C : Fx p s m0 args c0 A m) {i : Int32} (hd : decode (mB m) pc = .ok (.iaload, 1)) (hi : vin i 7 = true) (T : Tm p l e R s m0 args below meth c0 Q A dC dI dA ad0 sc m n0 s0 (pc + 1) L (.inl (kAb (ix i)) :: r) h) : Tm p l e R s m0 args below meth c0 Q A dC dI dA ad0 sc m n0 s0 pc L (.inl i :: .inr (.inr (some (tagA, 0))) :: r) h := by
  intro ad H locs ls ha hn hs hS hL ho
  exact va_ti (v := .int (kAb (ix i))) C.1 C.2.1 hS.2.2.2.2.1.2.2.2.2.2.2.2.1 hS.2.2.1 (vp_of hi) rfl hd (T ad H locs ls ha hn hs hS hL (ho.tl.tl.cons okv_i))
theorem sn_zald (C : Fx p s m0 args c0 A m) {t k : Nat} {i : Int32} (hd : decode (mB m) pc = .ok (.baload, 1)) (hk : tK t = 2) (hi : vin i (tN t) = true) (T : Tm p l e R s m0 args below meth c0 Q A dC dI dA ad0 sc m n0 s0 (pc + 1) L (.inl (hI h t k (ix i)) :: r) h) : Tm p l e R s m0 args below meth c0 Q A dC dI dA ad0 sc m n0 s0 pc L (.inl i :: .inr (.inr (some (t, k))) :: r) h := by
  intro ad H locs ls ha hn hs hS hL ho
  obtain ⟨q, hq, hnm⟩ := okr.at (h := h) ho.tl.hd.r (by show tK t ≤ 5; omega)
  have he := wl_at (dA := dA) (ad := ad) hq hnm
  rw [cE_2 hk] at he
  exact va_zald C.1 C.2.1 hS.2.2.2.2.1.1 hS.1 q 1 he rfl (vp_of hi) hd (T ad H locs ls ha hn hs hS hL (ho.tl.tl.cons okv_i))
theorem sn_bald (C : Fx p s m0 args c0 A m) {k : Nat} {i : Int32} (hd : decode (mB m) pc = .ok (.baload, 1)) (hk : k < 7) (hi : vin i (sLen k) = true) (T : Tm p l e R s m0 args below meth c0 Q A dC dI dA ad0 sc m n0 s0 (pc + 1) L (.inl (sByt k (ix i)) :: r) h) : Tm p l e R s m0 args below meth c0 Q A dC dI dA ad0 sc m n0 s0 pc L (.inl i :: .inr (.inr (some (tagB, k))) :: r) h := by
  intro ad H locs ls ha hn hs hS hL ho
  exact va_tb (v := .int (sByt k (ix i))) C.1 C.2.1 (hS.2.2.2.2.1.2.2.1 k hk).2.2.2 hS.2.2.1 (vp_of hi) rfl hd (T ad H locs ls ha hn hs hS hL (ho.tl.tl.cons okv_i))
theorem sn_lald (C : Fx p s m0 args c0 A m) {t k : Nat} {i : Int32} (hd : decode (mB m) pc = .ok (.laload, 1)) (hk : tK t = 3) (hi : vin i (tN t) = true) (T : Tm p l e R s m0 args below meth c0 Q A dC dI dA ad0 sc m n0 s0 (pc + 1) L (.inr (.inl (hL h t k (ix i))) :: r) h) : Tm p l e R s m0 args below meth c0 Q A dC dI dA ad0 sc m n0 s0 pc L (.inl i :: .inr (.inr (some (t, k))) :: r) h := by
  intro ad H locs ls ha hn hs hS hLh ho
  obtain ⟨q, hq, hnm⟩ := okr.at (h := h) ho.tl.hd.r (by show tK t ≤ 5; omega)
  have he := wl_at (dA := dA) (ad := ad) hq hnm
  rw [cE_3 hk] at he
  exact va_lald C.1 C.2.1 hS.2.2.2.2.1.1 hS.1 q 2 he rfl (vp_of hi) hd (T ad H locs ls ha hn hs hS hLh (ho.tl.tl.cons okv_l))
theorem sn_aald (C : Fx p s m0 args c0 A m) {t k : Nat} {i : Int32} {q : Nat × Nat} (hd : decode (mB m) pc = .ok (.aaload, 1)) (hk : tK t = 4 ∨ tK t = 5) (hi : vin i (tN t) = true) (hq : hR h t k (ix i) = some q) (T : Tm p l e R s m0 args below meth c0 Q A dC dI dA ad0 sc m n0 s0 (pc + 1) L (.inr (.inr (some q)) :: r) h) : Tm p l e R s m0 args below meth c0 Q A dC dI dA ad0 sc m n0 s0 pc L (.inl i :: .inr (.inr (some (t, k))) :: r) h := by
  intro ad H locs ls ha hn hs hS hL ho
  obtain ⟨z, hz, hnm⟩ := okr.at (h := h) ho.tl.hd.r (by show tK t ≤ 5; rcases hk with e | e <;> omega)
  have he := wl_at (dA := dA) (ad := ad) hz hnm
  have hlt := vin_lt hi
  have hb : Nat.blt (ix i) (tN t) = true := by rw [Nat.blt_eq]; exact hlt
  have hok : okr h.1 q.1 q.2 := hS.2.2.2.1.2 z hz (ix i) q (by rw [hnm]; unfold bd; rcases hk with e | e <;> rw [e] <;> exact hlt) (by rw [hnm]; exact hq)
  have T' := T ad H locs ls ha hn hs hS hL (ho.tl.tl.cons (okv_r hok))
  have e2 : va_rf ((fun j => bif Nat.blt j (tN t) then (hR h t k j).map (fun q => ad q.1 q.2) else none) (i.toNatClampNeg)) = .ref (ad q.1 q.2) := by
    show va_rf (bif Nat.blt (ix i) (tN t) then (hR h t k (ix i)).map (fun q => ad q.1 q.2) else none) = _
    rw [hb, hq]
    rfl
  rcases hk with hk | hk
  · rw [cE_4 hk] at he
    exact va_aldq (C := "DeepWearer$Town") C.1 C.2.1 hS.2.2.2.2.1.1 hS.1 z 3 he rfl (vp_of hi) hd (by rw [e2]; exact T')
  · rw [cE_5 hk] at he
    exact va_aldq (C := "DeepWearer$Tape") C.1 C.2.1 hS.2.2.2.2.1.1 hS.1 z 4 he rfl (vp_of hi) hd (by rw [e2]; exact T')
theorem sn_iast (C : Fx p s m0 args c0 A m) {t k : Nat} {i x : Int32} (hd : decode (mB m) pc = .ok (.iastore, 1)) (hk : tK t = 1) (hi : vin i (tN t) = true) (T : Tm p l e R s m0 args below meth c0 Q A dC dI dA ad0 sc m n0 s0 (pc + 1) L r (hUI h t k (ix i) x)) : Tm p l e R s m0 args below meth c0 Q A dC dI dA ad0 sc m n0 s0 pc L (.inl x :: .inl i :: .inr (.inr (some (t, k))) :: r) h := by
  intro ad H locs ls ha hn hs hS hL ho
  obtain ⟨hP, hD, hSS, hok, hG, hX⟩ := hS
  obtain ⟨q, hq, hnm⟩ := okr.at (h := h) ho.tl.tl.hd.r (by show tK t ≤ 5; omega)
  have he := wl_at (dA := dA) (ad := ad) hq hnm
  rw [cE_1 hk] at he
  refine va_iast C.1 C.2.1 hG.1 hP hD hSS q 0 he rfl (vp_of hi) hd (fun H1 locs1 hP1 hD1 hS1 => ?_)
  have e1 : (Sum.inl (dA 1, tN t, Sum.inl (upd (hI h t k) i.toNatClampNeg x)) : va_E) = cE dA ad (hUI h t k (ix i) x) t k := by
    rw [cE_1 hk]
    show _ = (Sum.inl (dA 1, tN t, Sum.inl (uI (hI h) t k (ix i) x t k)) : va_E)
    rw [uI_s]
    rfl
  rw [e1, wl_set (h' := hUI h t k (ix i) x) hq hnm rfl hok.1 (fun t' k' hne => cE_cg (uI_o hne) rfl rfl)] at hP1 hD1
  exact T ad H1 locs1 ls ha hn hs ⟨hP1, hD1, hS1, ⟨hok.1, hok.2⟩, hG, hX⟩ hL ho.tl.tl.tl
theorem sn_zast (C : Fx p s m0 args c0 A m) {t k : Nat} {i x : Int32} (hd : decode (mB m) pc = .ok (.bastore, 1)) (hk : tK t = 2) (hi : vin i (tN t) = true) (T : Tm p l e R s m0 args below meth c0 Q A dC dI dA ad0 sc m n0 s0 (pc + 1) L r (hUI h t k (ix i) (x &&& 1))) : Tm p l e R s m0 args below meth c0 Q A dC dI dA ad0 sc m n0 s0 pc L (.inl x :: .inl i :: .inr (.inr (some (t, k))) :: r) h := by
  intro ad H locs ls ha hn hs hS hL ho
  obtain ⟨hP, hD, hSS, hok, hG, hX⟩ := hS
  obtain ⟨q, hq, hnm⟩ := okr.at (h := h) ho.tl.tl.hd.r (by show tK t ≤ 5; omega)
  have he := wl_at (dA := dA) (ad := ad) hq hnm
  rw [cE_2 hk] at he
  refine va_zast C.1 C.2.1 hG.1 hP hD hSS q 1 he rfl (vp_of hi) hd (fun H1 locs1 hP1 hD1 hS1 => ?_)
  have e1 : (Sum.inl (dA 2, tN t, Sum.inl (upd (hI h t k) i.toNatClampNeg (vp_nar .boolean x))) : va_E) = cE dA ad (hUI h t k (ix i) (x &&& 1)) t k := by
    rw [cE_2 hk]
    show _ = (Sum.inl (dA 2, tN t, Sum.inl (uI (hI h) t k (ix i) (x &&& 1) t k)) : va_E)
    rw [uI_s]
    rfl
  rw [e1, wl_set (h' := hUI h t k (ix i) (x &&& 1)) hq hnm rfl hok.1 (fun t' k' hne => cE_cg (uI_o hne) rfl rfl)] at hP1 hD1
  exact T ad H1 locs1 ls ha hn hs ⟨hP1, hD1, hS1, ⟨hok.1, hok.2⟩, hG, hX⟩ hL ho.tl.tl.tl
theorem sn_last (C : Fx p s m0 args c0 A m) {t k : Nat} {i : Int32} {x : Int64} (hd : decode (mB m) pc = .ok (.lastore, 1)) (hk : tK t = 3) (hi : vin i (tN t) = true) (T : Tm p l e R s m0 args below meth c0 Q A dC dI dA ad0 sc m n0 s0 (pc + 1) L r (hUL h t k (ix i) x)) : Tm p l e R s m0 args below meth c0 Q A dC dI dA ad0 sc m n0 s0 pc L (.inr (.inl x) :: .inl i :: .inr (.inr (some (t, k))) :: r) h := by
  intro ad H locs ls ha hn hs hS hLh ho
  obtain ⟨hP, hD, hSS, hok, hG, hX⟩ := hS
  obtain ⟨q, hq, hnm⟩ := okr.at (h := h) ho.tl.tl.hd.r (by show tK t ≤ 5; omega)
  have he := wl_at (dA := dA) (ad := ad) hq hnm
  rw [cE_3 hk] at he
  refine va_last C.1 C.2.1 hG.1 hP hD hSS q 2 he rfl (vp_of hi) hd (fun H1 locs1 hP1 hD1 hS1 => ?_)
  have e1 : (Sum.inl (dA 3, tN t, Sum.inr (Sum.inl (vp_updL (hL h t k) i.toNatClampNeg x))) : va_E) = cE dA ad (hUL h t k (ix i) x) t k := by
    rw [cE_3 hk]
    show _ = (Sum.inl (dA 3, tN t, Sum.inr (Sum.inl (uL (hL h) t k (ix i) x t k))) : va_E)
    rw [uL_s]
    rfl
  rw [e1, wl_set (h' := hUL h t k (ix i) x) hq hnm rfl hok.1 (fun t' k' hne => cE_cg rfl (uL_o hne) rfl)] at hP1 hD1
  exact T ad H1 locs1 ls ha hn hs ⟨hP1, hD1, hS1, ⟨hok.1, hok.2⟩, hG, hX⟩ hLh ho.tl.tl.tl
theorem sn_aast (C : Fx p s m0 args c0 A m) {t k t' k' : Nat} {i : Int32} (hd : decode (mB m) pc = .ok (.aastore, 1)) (hk : (tK t = 4 ∧ tN t' = 3) ∨ (tK t = 5 ∧ tN t' = 2)) (hk' : tK t' = 0) (hi : vin i (tN t) = true) (T : Tm p l e R s m0 args below meth c0 Q A dC dI dA ad0 sc m n0 s0 (pc + 1) L r (hUR h t k (ix i) (some (t', k')))) : Tm p l e R s m0 args below meth c0 Q A dC dI dA ad0 sc m n0 s0 pc L (.inr (.inr (some (t', k'))) :: .inl i :: .inr (.inr (some (t, k))) :: r) h := by
  intro ad H locs ls ha hn hs hS hL ho
  obtain ⟨hP, hD, hSS, hok, hG, hX⟩ := hS
  obtain ⟨q, hq, hnm⟩ := okr.at (h := h) ho.tl.tl.hd.r (by show tK t ≤ 5; rcases hk with e | e <;> omega)
  obtain ⟨q', hq', hnm'⟩ := okr.at (h := h) ho.hd.r (by show tK t' ≤ 5; omega)
  have hlt := vin_lt hi
  have hb : Nat.blt (ix i) (tN t) = true := by rw [Nat.blt_eq]; exact hlt
  have he := wl_at (dA := dA) (ad := ad) hq hnm
  have he' := wl_at (dA := dA) (ad := ad) hq' hnm'
  rw [cE_0 hk'] at he'
  have e0 : (va_up (fun j => bif Nat.blt j (tN t) then (hR h t k j).map (fun q => ad q.1 q.2) else none) i.toNatClampNeg (some (ad t' k'))) = fun j => bif Nat.blt j (tN t) then (hR (hUR h t k (ix i) (some (t', k'))) t k j).map (fun q => ad q.1 q.2) else none := by
    funext j
    show (if j = ix i then some (ad t' k') else (bif Nat.blt j (tN t) then (hR h t k j).map (fun q => ad q.1 q.2) else none)) = bif Nat.blt j (tN t) then (uR (hR h) t k (ix i) (some (t', k')) t k j).map (fun q => ad q.1 q.2) else none
    unfold uR
    by_cases e : j = ix i
    · subst e
      rw [if_pos rfl, if_pos ⟨rfl, rfl, rfl⟩, hb]
      rfl
    · rw [if_neg e, if_neg (fun z => e z.2.2)]
  have hok' : okH (hUR h t k (ix i) (some (t', k'))) := ⟨hok.1, fun z hz j y hj hy => by
    have hy2 : uR (hR h) t k (ix i) (some (t', k')) (nm z).1 (nm z).2 j = some y := hy
    unfold uR at hy2
    split at hy2
    · cases hy2
      exact ho.hd.r
    · exact hok.2 z hz j y hj hy2⟩
  have oth : ∀ t2 k2, ¬ (t2 = t ∧ k2 = k) → cE dA ad (hUR h t k (ix i) (some (t', k'))) t2 k2 = cE dA ad h t2 k2 := fun t2 k2 hne => cE_cg rfl rfl (uR_o hne)
  rcases hk with ⟨hk, hc⟩ | ⟨hk, hc⟩
  · rw [cE_4 hk] at he
    rw [hc] at he'
    refine va_astq (qk := q') (ci := 3) (r := (cN 3, fT 3, nF 3)) C.1 C.2.1 hG.1 hP hD hSS q 3 he rfl he' (vwA_at (by decide)) (vp_of hi) hd (fun H1 locs1 hP1 hD1 hS1 => ?_)
    rw [e0, ← cE_4 (h := hUR h t k (ix i) (some (t', k'))) (k := k) (ad := ad) (dA := dA) hk, wl_set (h' := hUR h t k (ix i) (some (t', k'))) hq hnm rfl hok.1 oth] at hP1 hD1
    exact T ad H1 locs1 ls ha hn hs ⟨hP1, hD1, hS1, hok', hG, hX⟩ hL ho.tl.tl.tl
  · rw [cE_5 hk] at he
    rw [hc] at he'
    refine va_astq (qk := q') (ci := 2) (r := (cN 2, fT 2, nF 2)) C.1 C.2.1 hG.1 hP hD hSS q 4 he rfl he' (vwA_at (by decide)) (vp_of hi) hd (fun H1 locs1 hP1 hD1 hS1 => ?_)
    rw [e0, ← cE_5 (h := hUR h t k (ix i) (some (t', k'))) (k := k) (ad := ad) (dA := dA) hk, wl_set (h' := hUR h t k (ix i) (some (t', k'))) hq hnm rfl hok.1 oth] at hP1 hD1
    exact T ad H1 locs1 ls ha hn hs ⟨hP1, hD1, hS1, hok', hG, hX⟩ hL ho.tl.tl.tl
theorem sn_alen (C : Fx p s m0 args c0 A m) {t k : Nat} (hd : decode (mB m) pc = .ok (.arraylength, 1)) (hk : tK t = 1 ∨ tK t = 2 ∨ tK t = 3 ∨ tK t = 4 ∨ tK t = 5) (T : Tm p l e R s m0 args below meth c0 Q A dC dI dA ad0 sc m n0 s0 (pc + 1) L (.inl (Int32.ofNat (tN t)) :: r) h) : Tm p l e R s m0 args below meth c0 Q A dC dI dA ad0 sc m n0 s0 pc L (.inr (.inr (some (t, k))) :: r) h := by
  intro ad H locs ls ha hn hs hS hL ho
  obtain ⟨q, hq, hnm⟩ := okr.at (h := h) ho.hd.r (by show tK t ≤ 5; omega)
  have he := wl_at (dA := dA) (ad := ad) hq hnm
  have T' := T ad H locs ls ha hn hs hS hL (ho.tl.cons okv_i)
  rcases hk with hk | hk | hk | hk | hk
  · rw [cE_1 hk] at he; exact va_alen C.1 C.2.1 hS.2.2.2.2.1.1 hS.1 q 0 he rfl rfl hd T'
  · rw [cE_2 hk] at he; exact va_alen C.1 C.2.1 hS.2.2.2.2.1.1 hS.1 q 1 he rfl rfl hd T'
  · rw [cE_3 hk] at he; exact va_alen C.1 C.2.1 hS.2.2.2.2.1.1 hS.1 q 2 he rfl rfl hd T'
  · rw [cE_4 hk] at he; exact va_alen C.1 C.2.1 hS.2.2.2.2.1.1 hS.1 q 3 he rfl rfl hd T'
  · rw [cE_5 hk] at he; exact va_alen C.1 C.2.1 hS.2.2.2.2.1.1 hS.1 q 4 he rfl rfl hd T'
theorem sn_alen7 (C : Fx p s m0 args c0 A m) {k : Nat} (hd : decode (mB m) pc = .ok (.arraylength, 1)) (hk : k < 7) (T : Tm p l e R s m0 args below meth c0 Q A dC dI dA ad0 sc m n0 s0 (pc + 1) L (.inl (Int32.ofNat (sLen k)) :: r) h) : Tm p l e R s m0 args below meth c0 Q A dC dI dA ad0 sc m n0 s0 pc L (.inr (.inr (some (tagB, k))) :: r) h := by
  intro ad H locs ls ha hn hs hS hL ho
  exact va_tlen C.1 C.2.1 (hS.2.2.2.2.1.2.2.1 k hk).2.2.2 hS.2.2.1 rfl hd (T ad H locs ls ha hn hs hS hL (ho.tl.cons okv_i))
theorem sn_alen8 (C : Fx p s m0 args c0 A m) {n : Nat} {xs : Nat → Int32} (hd : decode (mB m) pc = .ok (.arraylength, 1)) (hsc : sc = some (n, xs)) (T : Tm p l e R s m0 args below meth c0 Q A dC dI dA ad0 sc m n0 s0 (pc + 1) L (.inl (Int32.ofNat n) :: r) h) : Tm p l e R s m0 args below meth c0 Q A dC dI dA ad0 sc m n0 s0 pc L (.inr (.inr (some (tagX, 0))) :: r) h := by
  intro ad H locs ls ha hn hs hS hL ho
  obtain ⟨x1, x2, x3⟩ := hS.2.2.2.2.2 n xs hsc
  exact va_slen C.1 C.2.1 x1 x2 x3 hS.2.2.1 hd (T ad H locs ls ha hn hs hS hL (ho.tl.cons okv_i))
theorem sn_alen10 (C : Fx p s m0 args c0 A m) (hd : decode (mB m) pc = .ok (.arraylength, 1)) (T : Tm p l e R s m0 args below meth c0 Q A dC dI dA ad0 sc m n0 s0 (pc + 1) L (.inl (Int32.ofNat 7) :: r) h) : Tm p l e R s m0 args below meth c0 Q A dC dI dA ad0 sc m n0 s0 pc L (.inr (.inr (some (tagA, 0))) :: r) h := by
  intro ad H locs ls ha hn hs hS hL ho
  exact va_tlen C.1 C.2.1 hS.2.2.2.2.1.2.2.2.2.2.2.2.1 hS.2.2.1 rfl hd (T ad H locs ls ha hn hs hS hL (ho.tl.cons okv_i))
theorem sn_table (C : Fx p s m0 args c0 A m) {d lo hi : Int} {offs : Array Int} {ln a : Nat} {x : Int32} {sw : List (Int32 × Nat)} (hd : decode (mB m) pc = .ok (.tableswitch d lo hi offs, ln)) (hdf : (pc : Int) + d = (a : Int)) (hsw : tsw pc lo offs.toList sw = true) (hhi : hi = lo + (offs.size : Int) - 1) (T : Tm p l e R s m0 args below meth c0 Q A dC dI dA ad0 sc m n0 s0 (swF x a sw) L r h) : Tm p l e R s m0 args below meth c0 Q A dC dI dA ad0 sc m n0 s0 pc L (.inl x :: r) h := by
  intro ad H locs ls ha hn hs hS hL ho
  have T' := T ad H locs ls ha hn hs hS hL ho.tl
  have hsz : (offs.toList.length : Int) = offs.size := by simp
  by_cases h1 : x.toInt < lo ∨ hi < x.toInt
  · rw [tsw_out (x := x) (d := a) offs.toList lo sw hsw (by omega)] at T'
    exact lv_tableOut C.1 C.2.1 hd h1 hdf T'
  · obtain ⟨off, o1, o2⟩ := tsw_in (x := x) (d := a) offs.toList lo sw hsw (by omega) (by omega)
    rw [Array.getElem?_toList] at o1
    exact lv_tableIn C.1 C.2.1 hd (by omega) (by omega) o1 o2 T'
theorem sn_lookup (C : Fx p s m0 args c0 A m) {d : Int} {ps : Array (Int × Int)} {ln a : Nat} {x : Int32} {sw : List (Int32 × Nat)} (hd : decode (mB m) pc = .ok (.lookupswitch d ps, ln)) (hdf : (pc : Int) + d = (a : Int)) (hsw : lsw pc ps.toList sw = true) (hp : (ps.toList.zip (ps.toList.drop 1)).all (fun (a, next) => a.1 < next.1) = true) (T : Tm p l e R s m0 args below meth c0 Q A dC dI dA ad0 sc m n0 s0 (swF x a sw) L r h) : Tm p l e R s m0 args below meth c0 Q A dC dI dA ad0 sc m n0 s0 pc L (.inl x :: r) h := by
  intro ad H locs ls ha hn hs hS hL ho
  exact lv_lookup C.1 C.2.1 hd hp rfl (lsw_of hdf ps.toList sw hsw) (T ad H locs ls ha hn hs hS hL ho.tl)
end SND
