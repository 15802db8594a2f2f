def mthB (x : Nat) : Bool := match mlk x with | some (y, nest, _) => !(nest && (Nat.beq y 223 || Nat.beq y 224)) | none => true
set_option maxRecDepth 100000 in
theorem mth_all : (List.range 32768).all mthB = true := by decide +kernel
theorem mlk_math {x y pl : Nat} {nest : Bool} (h : mlk x = some (y, nest, pl)) (hy : (Nat.beq y 223 || Nat.beq y 224) = true) : nest = false := by
  have hx : x < 32768 := by
    rcases Nat.lt_or_ge x 32768 with q | q
    · exact q
    · have e : Nat.blt x 32768 = false := blt_f q
      unfold mlk at h
      rw [e] at h
      cases h
  have h1 := List.all_eq_true.mp mth_all x (List.mem_range.mpr hx)
  unfold mthB at h1
  rw [h] at h1
  dsimp only at h1
  rw [hy] at h1
  cases nest with
  | false => rfl
  | true => cases h1
set_option maxRecDepth 100000 in
theorem mR_init : ∀ m, m < 226 → (mP m).2.1 = 2 → mR m = none := by decide +kernel
theorem cI_s {I : FI} {t k t' k' sp dp n : Nat} : cI I t k t' k' sp dp n t' k' = va_cpy (I t k) (I t' k') sp dp n := by
  funext c
  unfold cI va_cpy
  simp
theorem cL_s {I : FL} {t k t' k' sp dp n : Nat} : cL I t k t' k' sp dp n t' k' = va_cpy (I t k) (I t' k') sp dp n := by
  funext c
  unfold cL va_cpy
  simp
theorem allB_at {f : Nat → Int32} : ∀ n : Nat, allB f n = true → ∀ j, j < n → isB (f j) = true
  | 0, _, j, hj => absurd hj (Nat.not_lt_zero _)
  | n + 1, h, j, hj => by
    obtain ⟨h1, h2⟩ := Bool.and_eq_true_iff.mp (show (isB (f n) && allB f n) = true from h)
    by_cases e : j = n
    · subst e; exact h1
    · exact allB_at n h2 j (by omega)
section SND
variable {p : Program} {l : Launch} {e : Env} {R : Room} {s : State} {m0 : MethodId} {args : Array Value} {below : List Frame} {meth : Method} {c0 : Code} {Q : State → Prop} {A : Nat → Prop} {dC : Nat → ClassId} {dI : Nat → Nat → Nat} {dA : Nat → ClassId} {ad0 : Nat → Nat → Nat} {sc : Sc} {m n0 s0 pc : Nat} {L : List (Option Vl)} {st r : List Vl} {h : Hp}
theorem sn_obj (C : Fx p s m0 args c0 A m) {idx : Nat} {q0 : Nat × Nat} (hd : decode (mB m) pc = .ok (.invokespecial idx, 3)) (hx : idx < 2048) (ho' : ocl (mC m * 2048 + idx) = true) (hw : wsum r ≤ 8) (hR : 1 ≤ R.frames ∧ 40 ≤ R.locals) (T : Tm p l e R s m0 args below meth c0 Q A dC dI dA ad0 sc m n0 s0 (pc + 3) L r h) : Tm p l e R s m0 args below meth c0 Q A dC dI dA ad0 sc m n0 s0 pc L (.inr (.inr (some q0)) :: r) h := by
  intro ad H locs ls ha hn0 hs0 hS hL ho
  have hlk := ocl_ok ho'
  rw [(lk_div hx).1, (lk_div hx).2] at hlk
  refine W.objInit (own := cN (mC m)) (idx := idx) C.1 C.2.1 C.2.2.2.1 (C.2.2.2.2.1 _ hlk) (C.2.2.2.2.1 _ ob_in.1) (C.2.2.2.2.1 _ ob_in.2) rfl (by rw [C.2.2.1]; exact hL.1) rfl hd hR.1 ?_ ?_
  · rw [wsum_re]
    show 2 * 0 + wsum r + 12 ≤ R.locals
    omega
  · exact T ad H locs ls ha hn0 hs0 hS hL ho.tl
theorem sn_copy (C : Fx p s m0 args c0 A m) {idx t k t' k' : Nat} {n dp sp : Int32} (hd : decode (mB m) pc = .ok (.invokestatic idx, 3)) (hx : idx < 2048) (hac : acl (mC m * 2048 + idx) = true) (hkk : tK t = tK t') (h1 : 0 ≤ sp ∧ 0 ≤ dp ∧ 0 ≤ n) (h2 : ix sp + ix n ≤ tN t ∧ ix dp + ix n ≤ tN t') (hw : wsum r ≤ 8) (hR : 1 ≤ R.frames ∧ 40 ≤ R.locals)
    (T : (tK t = 1 ∧ Tm p l e R s m0 args below meth c0 Q A dC dI dA ad0 sc m n0 s0 (pc + 3) L r (hCI h t k t' k' (ix sp) (ix dp) (ix n))) ∨ (tK t = 2 ∧ allB (hI h t k) (tN t) = true ∧ Tm p l e R s m0 args below meth c0 Q A dC dI dA ad0 sc m n0 s0 (pc + 3) L r (hCI h t k t' k' (ix sp) (ix dp) (ix n))) ∨ (tK t = 3 ∧ Tm p l e R s m0 args below meth c0 Q A dC dI dA ad0 sc m n0 s0 (pc + 3) L r (hCL h t k t' k' (ix sp) (ix dp) (ix n)))) :
    Tm p l e R s m0 args below meth c0 Q A dC dI dA ad0 sc m n0 s0 pc L (.inl n :: .inl dp :: .inr (.inr (some (t', k'))) :: .inl sp :: .inr (.inr (some (t, k))) :: r) h := by
  intro ad H locs ls ha hn0 hs0 hS hLh ho
  obtain ⟨hP, hD, hSS, hok, hG, hX⟩ := hS
  have ht5 : tK t ≤ 5 := by rcases T with ⟨z, -⟩ | ⟨z, -⟩ | ⟨z, -⟩ <;> omega
  obtain ⟨i, hi, hnm⟩ := okr.at (h := h) ho.tl.tl.tl.tl.hd.r ht5
  obtain ⟨i', hi', hnm'⟩ := okr.at (h := h) ho.tl.tl.hd.r (by show tK t' ≤ 5; omega)
  have hlk := acl_ok hac
  rw [(lk_div hx).1, (lk_div hx).2] at hlk
  have he := wl_at (dA := dA) (ad := ad) hi hnm
  have he' := wl_at (dA := dA) (ad := ad) hi' hnm'
  have hor : okS h.1 r := ho.tl.tl.tl.tl.tl
  have B9 := C.2.2.2.2.1
  have nat7 : nativeFrameWords "java/lang/System" "arraycopy" 5 + 11 = 18 := by decide
  have hlocals : ((r.map (re ad)).map fun v => v.category).sum + (nativeFrameWords "java/lang/System" "arraycopy" 5 + 11) ≤ R.locals := by rw [wsum_re, nat7]; omega
  rcases T with ⟨z, T⟩ | ⟨z, hb, T⟩ | ⟨z, T⟩
  · rw [cE_1 z] at he
    have z' : tK t' = 1 := hkk.symm.trans z
    rw [cE_1 z'] at he'
    refine va_copyi (ty := .int) C.1 C.2.1 (by rw [C.2.2.1]; exact hLh.1.symm) C.2.2.2.1 (B9 _ hlk) (B9 _ cp_in.1) (B9 _ cp_in.2.1) (B9 _ cp_in.2.2) hG.1 hP hD hSS i i' 0 0 he he' rfl rfl rfl (Int32.not_lt.mpr h1.1) (Int32.not_lt.mpr h1.2.1) (Int32.not_lt.mpr h1.2.2) h2.1 h2.2 (fun _ _ => rfl) hR.1 hlocals hd (fun H1 locs1 hP1 hD1 hS1 => ?_)
    have e1 : (Sum.inl (dA 1, tN t', Sum.inl (va_cpy (hI h t k) (hI h t' k') sp.toNatClampNeg dp.toNatClampNeg n.toNatClampNeg)) : va_E) = cE dA ad (hCI h t k t' k' (ix sp) (ix dp) (ix n)) t' k' := by
      rw [cE_1 z']
      show _ = (Sum.inl (dA 1, tN t', Sum.inl (cI (hI h) t k t' k' (ix sp) (ix dp) (ix n) t' k')) : va_E)
      rw [cI_s]
      rfl
    rw [e1, wl_set (h' := hCI h t k t' k' (ix sp) (ix dp) (ix n)) hi' hnm' rfl hok.1 (fun a b hne => cE_cg (cI_o hne) rfl rfl)] at hP1 hD1
    exact T ad H1 locs1 ls ha hn0 hs0 ⟨hP1, hD1, hS1, ⟨hok.1, hok.2⟩, hG, hX⟩ hLh hor
  · rw [cE_2 z] at he
    have z' : tK t' = 2 := hkk.symm.trans z
    rw [cE_2 z'] at he'
    refine va_copyi (ty := .boolean) C.1 C.2.1 (by rw [C.2.2.1]; exact hLh.1.symm) C.2.2.2.1 (B9 _ hlk) (B9 _ cp_in.1) (B9 _ cp_in.2.1) (B9 _ cp_in.2.2) hG.1 hP hD hSS i i' 1 1 he he' rfl rfl rfl (Int32.not_lt.mpr h1.1) (Int32.not_lt.mpr h1.2.1) (Int32.not_lt.mpr h1.2.2) h2.1 h2.2 (fun j hj => allB_at _ hb (ix sp + j) (by have := h2.1; show ix sp + j < tN t; have hj' : j < ix n := hj; omega)) hR.1 hlocals hd (fun H1 locs1 hP1 hD1 hS1 => ?_)
    have e1 : (Sum.inl (dA 2, tN t', Sum.inl (va_cpy (hI h t k) (hI h t' k') sp.toNatClampNeg dp.toNatClampNeg n.toNatClampNeg)) : va_E) = cE dA ad (hCI h t k t' k' (ix sp) (ix dp) (ix n)) t' k' := by
      rw [cE_2 z']
      show _ = (Sum.inl (dA 2, tN t', Sum.inl (cI (hI h) t k t' k' (ix sp) (ix dp) (ix n) t' k')) : va_E)
      rw [cI_s]
      rfl
    rw [e1, wl_set (h' := hCI h t k t' k' (ix sp) (ix dp) (ix n)) hi' hnm' rfl hok.1 (fun a b hne => cE_cg (cI_o hne) rfl rfl)] at hP1 hD1
    exact T ad H1 locs1 ls ha hn0 hs0 ⟨hP1, hD1, hS1, ⟨hok.1, hok.2⟩, hG, hX⟩ hLh hor
  · rw [cE_3 z] at he
    have z' : tK t' = 3 := hkk.symm.trans z
    rw [cE_3 z'] at he'
    refine va_copyl (ty := .long) C.1 C.2.1 (by rw [C.2.2.1]; exact hLh.1.symm) C.2.2.2.1 (B9 _ hlk) (B9 _ cp_in.1) (B9 _ cp_in.2.1) (B9 _ cp_in.2.2) hG.1 hP hD hSS i i' 2 2 he he' rfl rfl rfl (Int32.not_lt.mpr h1.1) (Int32.not_lt.mpr h1.2.1) (Int32.not_lt.mpr h1.2.2) h2.1 h2.2 (fun _ _ => rfl) hR.1 hlocals hd (fun H1 locs1 hP1 hD1 hS1 => ?_)
    have e1 : (Sum.inl (dA 3, tN t', Sum.inr (Sum.inl (va_cpy (hL h t k) (hL h t' k') sp.toNatClampNeg dp.toNatClampNeg n.toNatClampNeg))) : va_E) = cE dA ad (hCL h t k t' k' (ix sp) (ix dp) (ix n)) t' k' := by
      rw [cE_3 z']
      show _ = (Sum.inl (dA 3, tN t', Sum.inr (Sum.inl (cL (hL h) t k t' k' (ix sp) (ix dp) (ix n) t' k'))) : va_E)
      rw [cL_s]
      rfl
    rw [e1, wl_set (h' := hCL h t k t' k' (ix sp) (ix dp) (ix n)) hi' hnm' rfl hok.1 (fun a b hne => cE_cg rfl (cL_o hne) rfl)] at hP1 hD1
    exact T ad H1 locs1 ls ha hn0 hs0 ⟨hP1, hD1, hS1, ⟨hok.1, hok.2⟩, hG, hX⟩ hLh hor
theorem sn_max (C : Fx p s m0 args c0 A m) {idx pl : Nat} {nest : Bool} {x y : Int32} (hd : decode (mB m) pc = .ok (.invokestatic idx, 3)) (hx : idx < 2048) (hf : mlk (mC m * 2048 + idx) = some (223, nest, pl)) (hw : wsum r ≤ 8) (hR : 1 ≤ R.frames ∧ 40 ≤ R.locals) (hCE : h.1 ≤ n0 + R.cells ∧ h.2.1 ≤ s0 + R.slots) (T : Tm p l e R s m0 args below meth c0 Q A dC dI dA ad0 sc m n0 s0 (pc + 3) L (.inl (if x < y then y else x) :: r) h) : Tm p l e R s m0 args below meth c0 Q A dC dI dA ad0 sc m n0 s0 pc L (.inl y :: .inl x :: r) h := by
  intro ad H locs ls ha hn0 hs0 hS hL ho
  obtain ⟨y1, y2, y3, -⟩ := wy_all 223 (by decide) (by decide)
  have hn := mlk_math hf (by decide)
  subst hn
  have hl := link_call C hx hf
  exact va_mmax (own := cN (mC m)) (index := idx) C.1 C.2.1 (by rw [C.2.2.1]; exact hL.1.symm) C.2.2.2.1 (hl.1 rfl) (C.2.2.2.2.1 _ (gw_of y2 rfl)) (C.2.2.2.2.1 _ (gw_of y3 rfl)) (C.2.2.2.2.1 _ (gw_of y1 rfl)) hR.1 (by rw [wsum_re]; omega) (by omega) (by omega) hd (T ad H locs ls ha hn0 hs0 hS hL (ho.tl.tl.cons okv_i))
theorem sn_min (C : Fx p s m0 args c0 A m) {idx pl : Nat} {nest : Bool} {x y : Int32} (hd : decode (mB m) pc = .ok (.invokestatic idx, 3)) (hx : idx < 2048) (hf : mlk (mC m * 2048 + idx) = some (224, nest, pl)) (hw : wsum r ≤ 8) (hR : 1 ≤ R.frames ∧ 40 ≤ R.locals) (hCE : h.1 ≤ n0 + R.cells ∧ h.2.1 ≤ s0 + R.slots) (T : Tm p l e R s m0 args below meth c0 Q A dC dI dA ad0 sc m n0 s0 (pc + 3) L (.inl (if y < x then y else x) :: r) h) : Tm p l e R s m0 args below meth c0 Q A dC dI dA ad0 sc m n0 s0 pc L (.inl y :: .inl x :: r) h := by
  intro ad H locs ls ha hn0 hs0 hS hL ho
  obtain ⟨y1, y2, y3, -⟩ := wy_all 224 (by decide) (by decide)
  have hn := mlk_math hf (by decide)
  subst hn
  have hl := link_call C hx hf
  exact va_mmin (own := cN (mC m)) (index := idx) C.1 C.2.1 (by rw [C.2.2.1]; exact hL.1.symm) C.2.2.2.1 (hl.1 rfl) (C.2.2.2.2.1 _ (gw_of y2 rfl)) (C.2.2.2.2.1 _ (gw_of y3 rfl)) (C.2.2.2.2.1 _ (gw_of y1 rfl)) hR.1 (by rw [wsum_re]; omega) (by omega) (by omega) hd (T ad H locs ls ha hn0 hs0 hS hL (ho.tl.tl.cons okv_i))
end SND
