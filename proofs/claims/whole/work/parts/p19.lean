set_option maxRecDepth 100000 in
theorem nm_out {n : Nat} (h : 172 ≤ n) : nm n = (15, 0) := by
  have hl : nmL.length = 172 := by decide +kernel
  unfold nm
  rw [List.getD_eq_getElem?_getD, List.getElem?_eq_none (by omega)]
  rfl
set_option maxRecDepth 100000 in
theorem nm_len : ∀ i, i < 172 → tN (nm i).1 ≤ 1000 := by decide +kernel
set_option maxRecDepth 100000 in
theorem fTy_kd : ∀ c, c < 8 → ∀ k, k < nF c → (isRf (fTy c k) || fTy c k == .int || fTy c k == .boolean) = true := by decide +kernel
theorem zI_o {I : FI} {t k t' k' : Nat} (h : ¬ (t' = t ∧ k' = k)) : zI I t k t' k' = I t' k' := by
  funext c
  unfold zI
  rw [if_neg h]
theorem zL_o {I : FL} {t k t' k' : Nat} (h : ¬ (t' = t ∧ k' = k)) : zL I t k t' k' = I t' k' := by
  funext c
  unfold zL
  rw [if_neg h]
theorem zR_o {I : FR} {t k t' k' : Nat} (h : ¬ (t' = t ∧ k' = k)) : zR I t k t' k' = I t' k' := by
  funext c
  unfold zR
  rw [if_neg h]
theorem zI_s {I : FI} {t k : Nat} : zI I t k t k = fun _ => 0 := by
  funext c
  unfold zI
  rw [if_pos ⟨rfl, rfl⟩]
theorem zL_s {I : FL} {t k : Nat} : zL I t k t k = fun _ => 0 := by
  funext c
  unfold zL
  rw [if_pos ⟨rfl, rfl⟩]
theorem zR_s {I : FR} {t k : Nat} : zR I t k t k = fun _ => none := by
  funext c
  unfold zR
  rw [if_pos ⟨rfl, rfl⟩]
theorem cE_ad {h : Hp} {t k : Nat} {ad ad' : Nat → Nat → Nat} {dA : Nat → ClassId} (ha : ∀ (j : Nat) (q : Nat × Nat), j < bd t → hR h t k j = some q → ad' q.1 q.2 = ad q.1 q.2) : cE dA ad' h t k = cE dA ad h t k := by
  have hrow : 0 < tK t → (fun j => bif Nat.blt j (tN t) then (hR h t k j).map (fun q => ad' q.1 q.2) else none) = (fun j => bif Nat.blt j (tN t) then (hR h t k j).map (fun q => ad q.1 q.2) else none) := by
    intro h0
    funext j
    cases hb : Nat.blt j (tN t) with
    | false => rfl
    | true =>
      show (hR h t k j).map (fun q => ad' q.1 q.2) = (hR h t k j).map (fun q => ad q.1 q.2)
      cases hq : hR h t k j with
      | none => rfl
      | some q =>
        exact congrArg some (ha j q (by unfold bd; split <;> first | omega | exact blt_t hb) hq)
  have hobj : tK t = 0 → (List.range (nF (tN t))).map (fv ad' h t k) = (List.range (nF (tN t))).map (fv ad h t k) := by
    intro h0
    refine List.map_congr_left fun j hj => ?_
    have hj := List.mem_range.mp hj
    unfold fv
    split
    · cases hq : hR h t k j with
      | none => rfl
      | some q =>
        exact congrArg Value.ref (ha j q (by unfold bd; rw [h0]; exact hj) hq)
    · rfl
  unfold cE
  split
  · rename_i h0; rw [hobj h0]
  · rfl
  · rfl
  · rfl
  · rename_i h0; rw [hrow (by omega)]
  · have h0 : 0 < tK t := by
      rcases Nat.eq_zero_or_pos (tK t) with z | z
      · exact absurd z (by assumption)
      · exact z
    rw [hrow h0]
theorem nm_fresh {h : Hp} {t k : Nat} (hn : nm h.1 = (t, k)) (hle : h.1 < 172) (ht : tK t ≤ 5) {t' k' : Nat} (ho : okr h.1 t' k') : ¬ (t' = t ∧ k' = k) := by
  rintro ⟨rfl, rfl⟩
  rcases ho with ⟨i, hi, e⟩ | ho
  · have := nm_inj' i (by omega) h.1 hle (by rw [e, hn])
    omega
  · omega
theorem wl_new {h : Hp} {t k b : Nat} {ad ad' : Nat → Nat → Nat} {dA : Nat → ClassId} (hok : okH h) (hn : nm h.1 = (t, k)) (hle : h.1 < 172) (ht : tK t ≤ 5) (ha : agr h.1 ad ad') : wl dA ad' (hNew h t k b) = wl dA ad h ++ [(ad' t k, cE dA ad' (hNew h t k b) t k)] := by
  unfold wl
  show (List.range (h.1 + 1)).map _ = _
  rw [List.range_succ, List.map_append]
  congr 1
  · refine List.map_congr_left fun i hi => ?_
    have hi := List.mem_range.mp hi
    have hok1 : okr h.1 (nm i).1 (nm i).2 := Or.inl ⟨i, hi, rfl⟩
    have hne := nm_fresh hn hle ht hok1
    rw [ha _ _ hok1]
    rw [cE_cg (h' := hNew h t k b) (h := h) (zI_o hne) (zL_o hne) (zR_o hne)]
    rw [cE_ad (fun j q hj hq => ha _ _ (hok.2 i hi j q hj hq))]
  · show [(ad' (nm h.1).1 (nm h.1).2, cE dA ad' (hNew h t k b) (nm h.1).1 (nm h.1).2)] = _
    rw [hn]
section SND
variable {p : Program} {l : Launch} {e : Env} {R : Room} {s : State} {m0 : MethodId} {args : Array Value} {below : List Frame} {meth : Method} {c0 : Code} {Q : State → Prop} {A : Nat → Prop} {dC : Nat → ClassId} {dI : Nat → Nat → Nat} {dA : Nat → ClassId} {ad0 : Nat → Nat → Nat} {sc : Sc} {m n0 s0 pc : Nat} {L : List (Option Vl)} {st r : List Vl} {h : Hp}
theorem al_ok {ad : Nat → Nat → Nat} {H H1 : Heap} {locs locs1 : List Loc} {t k b q : Nat} {e' : va_E} (hs : Sat dC dI dA ad A s sc h H locs) (hn : nm h.1 = (t, k)) (hle : h.1 < 172) (ht : tK t ≤ 5) (he : ∀ ad', cE dA ad' (hNew h t k b) t k = e')
    (hP1 : va_P (dC, dI) vwA (wl dA ad h ++ [(q, e')]) H1) (hD1 : va_D A (wl dA ad h ++ [(q, e')])) (hS1 : va_S A s.heap H1 locs1) : ∃ ad', agr h.1 ad ad' ∧ ad' t k = q ∧ Sat dC dI dA ad' A s sc (hNew h t k b) H1 locs1 := by
  obtain ⟨hP, hD, hSS, hok, hG, hX⟩ := hs
  have hag : agr h.1 ad (fun t' k' => if t' = t ∧ k' = k then q else ad t' k') := fun t' k' ho => if_neg (nm_fresh hn hle ht ho)
  have hw := wl_new (b := b) (dA := dA) hok hn hle ht hag
  rw [he] at hw
  have e1 : (fun t' k' => if t' = t ∧ k' = k then q else ad t' k') t k = q := if_pos ⟨rfl, rfl⟩
  rw [if_pos ⟨rfl, rfl⟩] at hw
  refine ⟨_, hag, e1, by rw [hw]; exact hP1, by rw [hw]; exact hD1, hS1, ⟨by show h.1 + 1 ≤ 172; omega, fun i hi j q' hj hq => ?_⟩, hG.ad hag, fun n xs hsc => ?_⟩
  · have hi : i < h.1 + 1 := hi
    by_cases hil : i < h.1
    · have hne := nm_fresh hn hle ht (Or.inl ⟨i, hil, rfl⟩ : okr h.1 (nm i).1 (nm i).2)
      have hq2 : zR (hR h) t k (nm i).1 (nm i).2 j = some q' := hq
      rw [zR_o hne] at hq2
      exact (hok.2 i hil j q' hj hq2).mono (Nat.le_succ _)
    · have hie : i = h.1 := by omega
      subst hie
      have hq2 : zR (hR h) t k (nm h.1).1 (nm h.1).2 j = some q' := hq
      rw [hn, zR_s] at hq2
      cases hq2
  · have ex : (fun t' k' => if t' = t ∧ k' = k then q else ad t' k') tagX 0 = ad tagX 0 := hag _ _ (Or.inr (by decide))
    rw [ex]
    exact hX n xs hsc
theorem sn_alT {ad ad' : Nat → Nat → Nat} {H1 : Heap} {locs1 : List Loc} {ls : Array Slot} {t k b q pc' : Nat} (ha : agr n0 ad0 ad) (hn0 : n0 ≤ h.1) (hs0 : s0 ≤ h.2.1) (hL : Lh ad ls m h.1 L) (ho : okS h.1 st) (hag : agr h.1 ad ad') (hq : ad' t k = q) (hn : nm h.1 = (t, k)) (hSat : Sat dC dI dA ad' A s sc (hNew h t k b) H1 locs1) (T : Tm p l e R s m0 args below meth c0 Q A dC dI dA ad0 sc m n0 s0 pc' L (.inr (.inr (some (t, k))) :: st) (hNew h t k b)) :
    W p l e R s m0 args below meth c0 H1 locs1 (h.1 - n0 + 1) (h.2.1 - s0 + b) Q (F0 m0 pc' ls (.ref q :: st.map (re ad))) := by
  have T' := T ad' H1 locs1 ls (ha.tr hag hn0) (by show n0 ≤ h.1 + 1; omega) (by show s0 ≤ h.2.1 + b; omega) hSat (hL.agr hag (Nat.le_succ _)) ((ho.mono (Nat.le_succ _)).cons (okv_r (Or.inl ⟨h.1, Nat.lt_succ_self _, hn⟩)))
  have e1 : (hNew h t k b).1 - n0 = h.1 - n0 + 1 := by show h.1 + 1 - n0 = _; omega
  have e2 : (hNew h t k b).2.1 - s0 = h.2.1 - s0 + b := by show h.2.1 + b - s0 = _; omega
  rw [e1, e2] at T'
  have e3 : (Sum.inr (Sum.inr (some (t, k))) :: st : List Vl).map (re ad') = .ref q :: st.map (re ad) := by
    rw [List.map_cons, reS_agr hag ho]
    show Value.ref (ad' t k) :: _ = _
    rw [hq]
  rw [e3] at T'
  exact T'
theorem sn_new (C : Fx p s m0 args c0 A m) {idx t k pl : Nat} (hd : decode (mB m) pc = .ok (.new idx, 3)) (hx : idx < 2048) (hcl : clk (mC m * 2048 + idx) = some (tN t, pl)) (ha8 : tN t < 8) (hn : nm h.1 = (t, k)) (hk : tK t = 0) (hRm : h.1 + 1 ≤ n0 + R.cells ∧ h.2.1 + nF (tN t) ≤ s0 + R.slots)
    (T : Tm p l e R s m0 args below meth c0 Q A dC dI dA ad0 sc m n0 s0 (pc + 3) L (.inr (.inr (some (t, k))) :: st) (hNew h t k (nF (tN t)))) : Tm p l e R s m0 args below meth c0 Q A dC dI dA ad0 sc m n0 s0 pc L st h := by
  intro ad H locs ls ha hn0 hs0 hS hL ho
  have hle : h.1 < 172 := by
    rcases Nat.lt_or_ge h.1 172 with z | z
    · exact z
    · rw [nm_out z] at hn
      cases hn
      exact absurd hk (by decide)
  have hlk := clk_ok hcl
  rw [(lk_div hx).1, (lk_div hx).2] at hlk
  have hfv : ∀ ad' j, fv ad' (hNew h t k (nF (tN t))) t k j = match isRf (fTy (tN t) j) with | true => Value.null | false => Value.int 0 := by
    intro ad' j
    have r1 : hR (hNew h t k (nF (tN t))) t k j = none := by show zR (hR h) t k t k j = none; rw [zR_s]
    have r2 : hI (hNew h t k (nF (tN t))) t k j = 0 := by show zI (hI h) t k t k j = 0; rw [zI_s]
    unfold fv
    rw [r1, r2]
    first | done | rfl | (cases isRf (fTy (tN t) j) <;> rfl)
  have he : ∀ ad', cE dA ad' (hNew h t k (nF (tN t))) t k = .inr (tN t, (List.range (nF (tN t))).map (fun j => match isRf (fTy (tN t) j) with | true => Value.null | false => Value.int 0)) := by
    intro ad'
    rw [cE_0 hk, show fv ad' (hNew h t k (nF (tN t))) t k = _ from funext (hfv ad')]
  refine va_new (ci := tN t) (C := cN (tN t)) (T := fT (tN t)) (N := nF (tN t)) (fs := (List.range (nF (tN t))).map (fun j => match isRf (fTy (tN t) j) with | true => Value.null | false => Value.int 0)) C.1 C.2.1 C.2.2.2.2.1 (u_in ha8) (fTy (tN t)) (fTy_ok _ ha8) C.2.2.2.1 (C.2.2.2.2.1 _ (gw_of hlk rfl)) (C.2.2.2.2.1 _ (ins_in ha8).1) (C.2.2.2.2.1 _ (ins_in ha8).2) hS.2.2.2.2.1.1 hS.1 hS.2.1 hS.2.2.1 C.2.2.2.2.2 (vwA_at ha8) (fun j hj => ?_) (by omega) (by omega) hd (fun q H1 hP1 hD1 hS1 => ?_)
  · have hg := fTy_kd _ ha8 j hj
    have ev : vp_V ((List.range (nF (tN t))).map (fun j => match isRf (fTy (tN t) j) with | true => Value.null | false => Value.int 0)) j = match isRf (fTy (tN t) j) with | true => Value.null | false => Value.int 0 := by
      unfold vp_V
      rw [List.getD_eq_getElem?_getD, map_at hj]
      rfl
    rw [ev]
    revert hg
    generalize fTy (tN t) j = ty
    cases ty <;> intro hg <;> first | rfl | (exact absurd hg (by decide))
  · obtain ⟨ad', g1, g2, g3⟩ := al_ok hS hn hle (by omega) he hP1 hD1 hS1
    exact sn_alT ha hn0 hs0 hL ho g1 g2 hn g3 T
theorem i_len {n : Nat} (h : n ≤ 1000) : ¬ Int32.ofNat n < 0 ∧ (Int32.ofNat n).toNatClampNeg = n := ⟨nI_pos (n := n) (by omega), nI_clamp (n := n) (by omega)⟩
theorem ra_uniq {cA cB : ClassId} {ty : FieldType} (h1 : va_RA s cA ty) (h2 : va_RA s cB ty) : cA = cB := by
  cases ty with
  | object C =>
    obtain ⟨_, _, -, -, -, a⟩ := h1
    obtain ⟨_, _, -, -, -, b⟩ := h2
    exact Option.some.inj (a.symm.trans b)
  | _ => exact Option.some.inj ((show s.vm.findClass _ = some cA from h1).symm.trans (show s.vm.findClass _ = some cB from h2))
theorem nm_lt {t k : Nat} (hn : nm h.1 = (t, k)) (hk : tK t ≤ 5) : h.1 < 172 ∧ tN t ≤ 1000 := by
  have hle : h.1 < 172 := by
    rcases Nat.lt_or_ge h.1 172 with z | z
    · exact z
    · rw [nm_out z] at hn
      cases hn
      exact absurd hk (by decide)
  have h2 := nm_len h.1 hle
  rw [hn] at h2
  exact ⟨hle, h2⟩
theorem sn_newa (C : Fx p s m0 args c0 A m) {aty : ArrayType} {ty : FieldType} {t k j : Nat} {a0 : vp_A} (hd : decode (mB m) pc = .ok (.newarray aty, 2)) (hty : newarray.typeOf aty = ty) (hw : Cond.arrayClass ty ∈ gWords) (hcb : componentBytes ty ≤ 8) (hn : nm h.1 = (t, k)) (hk : tK t ≤ 5) (hj : (tysA dA)[j]? = some (dA (tK t), ty)) (ha0 : ∀ cA : ClassId, vp_cell cA a0 = arrV cA (tN t) (fun _ => defaultValue ty))
    (he : ∀ ad', cE dA ad' (hNew h t k (tN t)) t k = .inl (dA (tK t), a0)) (hRm : h.1 + 1 ≤ n0 + R.cells ∧ h.2.1 + tN t ≤ s0 + R.slots)
    (T : Tm p l e R s m0 args below meth c0 Q A dC dI dA ad0 sc m n0 s0 (pc + 2) L (.inr (.inr (some (t, k))) :: r) (hNew h t k (tN t))) : Tm p l e R s m0 args below meth c0 Q A dC dI dA ad0 sc m n0 s0 pc L (.inl (Int32.ofNat (tN t)) :: r) h := by
  intro ad H locs ls ha hn0 hs0 hS hL ho
  obtain ⟨hle, hlen⟩ := nm_lt hn hk
  have hb : tN t * componentBytes ty ≤ 1000 * 8 := Nat.mul_le_mul hlen hcb
  refine va_newa (atype := aty) (ty := ty) C.1 C.2.1 (by rw [hty]; exact C.2.2.2.2.1 _ hw) hty hS.2.2.2.2.1.1 hS.1 hS.2.1 hS.2.2.1 C.2.2.2.2.2 ha0 (i_len hlen).1 (i_len hlen).2 (by omega) (by omega) (by omega) hd (fun q cA H1 hK1 hP1 hD1 hS1 => ?_)
  have e : cA = dA (tK t) := ra_uniq (hK1.2 (tysA dA).length (cA, ty) (by simp)).2 (hS.2.2.2.2.1.1.2 j _ hj).2
  subst e
  obtain ⟨ad', g1, g2, g3⟩ := al_ok hS hn hle hk he hP1 hD1 hS1
  exact sn_alT ha hn0 hs0 hL ho.tl g1 g2 hn g3 T
theorem sn_anew (C : Fx p s m0 args c0 A m) {idx t k j pl cc : Nat} {S : String} (hd : decode (mB m) pc = .ok (.anewarray idx, 3)) (hx : idx < 2048) (hcl : clk (mC m * 2048 + idx) = some (cc, pl)) (hS' : cN cc = S) (hAO : ∀ {ad : Nat → Nat → Nat}, Glob dC dI dA ad A s → va_AO S s) (hn : nm h.1 = (t, k)) (hk : tK t = 4 ∨ tK t = 5) (hj : (tysA dA)[j]? = some (dA (tK t), .object S)) (hRm : h.1 + 1 ≤ n0 + R.cells ∧ h.2.1 + tN t ≤ s0 + R.slots)
    (T : Tm p l e R s m0 args below meth c0 Q A dC dI dA ad0 sc m n0 s0 (pc + 3) L (.inr (.inr (some (t, k))) :: r) (hNew h t k (tN t))) : Tm p l e R s m0 args below meth c0 Q A dC dI dA ad0 sc m n0 s0 pc L (.inl (Int32.ofNat (tN t)) :: r) h := by
  intro ad H locs ls ha hn0 hs0 hS hL ho
  have hk5 : tK t ≤ 5 := by omega
  obtain ⟨hle, hlen⟩ := nm_lt hn hk5
  have hlk := clk_ok hcl
  rw [(lk_div hx).1, (lk_div hx).2, hS'] at hlk
  refine va_newq (C := S) C.1 C.2.1 C.2.2.2.1 (C.2.2.2.2.1 _ (gw_of hlk rfl)) (hAO hS.2.2.2.2.1) hS.2.2.2.2.1.1 hS.1 hS.2.1 hS.2.2.1 C.2.2.2.2.2 (i_len hlen).1 (i_len hlen).2 (by omega) (by omega) (by omega) hd (fun q cA H1 hK1 hP1 hD1 hS1 => ?_)
  have e : cA = dA (tK t) := ra_uniq (hK1.2 (tysA dA).length (cA, .object S) (by simp)).2 (hS.2.2.2.2.1.1.2 j _ hj).2
  subst e
  have hrow : ∀ ad' : Nat → Nat → Nat, (fun j => bif Nat.blt j (tN t) then (hR (hNew h t k (tN t)) t k j).map (fun q => ad' q.1 q.2) else none) = fun _ => none := by
    intro ad'
    funext j
    have r1 : hR (hNew h t k (tN t)) t k j = none := by show zR (hR h) t k t k j = none; rw [zR_s]
    rw [r1]
    cases Nat.blt j (tN t) <;> rfl
  have he : ∀ ad', cE dA ad' (hNew h t k (tN t)) t k = .inl (dA (tK t), tN t, .inr (.inr (.inr (.inr (fun _ => none))))) := by
    intro ad'
    rcases hk with z | z
    · rw [cE_4 z, hrow, z]
    · rw [cE_5 z, hrow, z]
  obtain ⟨ad', g1, g2, g3⟩ := al_ok hS hn hle hk5 he hP1 hD1 hS1
  exact sn_alT ha hn0 hs0 hL ho.tl g1 g2 hn g3 T
end SND
