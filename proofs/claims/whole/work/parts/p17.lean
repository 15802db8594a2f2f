section SND
variable {p : Program} {l : Launch} {e : Env} {R : Room} {s : State} {m0 : MethodId} {args : Array Value} {below : List Frame} {meth : Method} {c0 : Code} {Q : State → Prop} {A : Nat → Prop} {dC : Nat → ClassId} {dI : Nat → Nat → Nat} {dA : Nat → ClassId} {ad0 : Nat → Nat → Nat} {sc : Sc} {m n0 s0 pc : Nat} {L : List (Option Vl)} {st r : List Vl} {h : Hp}
theorem link_get (C : Fx p s m0 args c0 A m) {idx ci j pl : Nat} {nest : Bool} (hx : idx < 2048) (hf : flk (mC m * 2048 + idx) = some (ci, j, nest, pl)) : ci < 8 ∧ j < nF ci ∧ (nest = true → mC m ≠ ci) ∧ (nest = false → (Cond.fieldLink (cN (mC m)) idx (cN ci) (fT ci j).2.1 (fT ci j).2.2.1).before args s = true) ∧ (nest = true → (Cond.fieldLinkNest (cN (mC m)) idx (cN ci) (fT ci j).2.1 (fT ci j).2.2.1 "DeepWearer") ∈ nWords) := by
  obtain ⟨h1, h2, h3, h4⟩ := flk_ok hf
  rw [(lk_div hx).1] at h4
  unfold flW at h1
  rw [(lk_div hx).1, (lk_div hx).2] at h1
  refine ⟨h2, h3, h4, fun e => ?_, fun e => ?_⟩
  · subst e
    exact C.2.2.2.2.1 _ (gw_of h1 rfl)
  · subst e
    exact nw_of h1 rfl
theorem sn_getF (C : Fx p s m0 args c0 A m) {idx t k b pl : Nat} {nest : Bool} (hd : decode (mB m) pc = .ok (.getfield idx, 3)) (hx : idx < 2048) (hf : flk (mC m * 2048 + idx) = some (tN t, b, nest, pl)) (hk : tK t = 0)
    (T : ∀ (ad : Nat → Nat → Nat) (H : Heap) (locs : List Loc) (ls : Array Slot), agr n0 ad0 ad → n0 ≤ h.1 → s0 ≤ h.2.1 → Sat dC dI dA ad A s sc h H locs → Lh ad ls m h.1 L → okS h.1 (.inr (.inr (some (t, k))) :: r) → W p l e R s m0 args below meth c0 H locs (h.1 - n0) (h.2.1 - s0) Q (F0 m0 (pc + 3) ls (fv ad h t k b :: r.map (re ad)))) : Tm p l e R s m0 args below meth c0 Q A dC dI dA ad0 sc m n0 s0 pc L (.inr (.inr (some (t, k))) :: r) h := by
  intro ad H locs ls ha hn hs hS hL ho
  have T' := T ad H locs ls ha hn hs hS hL ho
  obtain ⟨hP, hD, hSS, hok, hG, hX⟩ := hS
  obtain ⟨i, hi, hnm⟩ := okr.at (h := h) ho.hd.r (by show tK t ≤ 5; omega)
  obtain ⟨hc, hb, -, hl1, hl2⟩ := link_get C hx hf
  have he := wl_at (dA := dA) (ad := ad) hi hnm
  rw [cE_0 hk] at he
  cases nest with
  | false => exact va_get (D := (dC, dI)) (ref := cN (tN t)) C.1 C.2.1 C.2.2.2.2.1 (u_in hc) C.2.2.2.1 hG.1 hP i he (vwA_at hc) b hb (hl1 rfl) (fun x hxx => by rw [fT_own _ hc _ hb] at hxx; exact hxx) (map_at hb) hd T'
  | true => exact va_getN (D := (dC, dI)) (ref := cN (tN t)) (host := "DeepWearer") C.1 C.2.1 C.2.2.2.2.1 (u_in hc) C.2.2.2.1 hG.1 hP i he (vwA_at hc) b hb (va_Nw.use rfl (hG.2.1 _ (hl2 rfl))) (fun x hxx => by rw [fT_own _ hc _ hb] at hxx; exact hxx) (map_at hb) hd T'
theorem sn_getI (C : Fx p s m0 args c0 A m) {idx t k b pl : Nat} {nest : Bool} (hd : decode (mB m) pc = .ok (.getfield idx, 3)) (hx : idx < 2048) (hf : flk (mC m * 2048 + idx) = some (tN t, b, nest, pl)) (hk : tK t = 0) (hty : isRf (fTy (tN t) b) = false) (T : Tm p l e R s m0 args below meth c0 Q A dC dI dA ad0 sc m n0 s0 (pc + 3) L (.inl (hI h t k b) :: r) h) : Tm p l e R s m0 args below meth c0 Q A dC dI dA ad0 sc m n0 s0 pc L (.inr (.inr (some (t, k))) :: r) h := by
  refine sn_getF C hd hx hf hk fun ad H locs ls ha hn hs hS hL ho => ?_
  have e : fv ad h t k b = .int (hI h t k b) := by unfold fv; rw [hty]; first | done | rfl
  rw [e]
  exact T ad H locs ls ha hn hs hS hL (ho.tl.cons okv_i)
theorem sn_getR (C : Fx p s m0 args c0 A m) {idx t k b pl : Nat} {nest : Bool} {q : Nat × Nat} (hd : decode (mB m) pc = .ok (.getfield idx, 3)) (hx : idx < 2048) (hf : flk (mC m * 2048 + idx) = some (tN t, b, nest, pl)) (hk : tK t = 0) (hty : isRf (fTy (tN t) b) = true) (hq : hR h t k b = some q) (T : Tm p l e R s m0 args below meth c0 Q A dC dI dA ad0 sc m n0 s0 (pc + 3) L (.inr (.inr (some q)) :: r) h) : Tm p l e R s m0 args below meth c0 Q A dC dI dA ad0 sc m n0 s0 pc L (.inr (.inr (some (t, k))) :: r) h := by
  refine sn_getF C hd hx hf hk fun ad H locs ls ha hn hs hS hL ho => ?_
  have e : fv ad h t k b = .ref (ad q.1 q.2) := by unfold fv; rw [hty, hq]; first | done | rfl
  rw [e]
  obtain ⟨i, hi, hnm⟩ := okr.at (h := h) ho.hd.r (by show tK t ≤ 5; omega)
  have hb := (link_get C hx hf).2.1
  have h1 := hS.2.2.2.1.2 i hi b q (by rw [hnm]; unfold bd; rw [hk]; exact hb) (by rw [hnm]; exact hq)
  exact T ad H locs ls ha hn hs hS hL (ho.tl.cons (okv_r h1))
theorem sn_put (C : Fx p s m0 args c0 A m) {idx t k b pl : Nat} {nest : Bool} {v : Vl} {h' : Hp} (hd : decode (mB m) pc = .ok (.putfield idx, 3)) (hx : idx < 2048) (hf : flk (mC m * 2048 + idx) = some (tN t, b, nest, pl)) (hk : tK t = 0) (hfin : (!(fT (tN t) b).2.2.2 || ((mY m).name == "<init>" && Nat.beq (mC m) (tN t))) = true) (hin : (mY m).name = "<init>" → meth.name = "<init>")
    (h1 : h'.1 = h.1) (h2 : h'.2.1 = h.2.1) (hv : ∀ ad, narrow (fTy (tN t) b) (re ad v) = re ad v ∧ fits (fTy (tN t) b) (re ad v) = true) (hc1 : ∀ ad, fv ad h' t k b = re ad v) (hc2 : ∀ ad j, j ≠ b → fv ad h' t k j = fv ad h t k j) (hc3 : ∀ ad t' k', ¬ (t' = t ∧ k' = k) → cE dA ad h' t' k' = cE dA ad h t' k') (hok' : okH h → okv h.1 v → okH h')
    (T : Tm p l e R s m0 args below meth c0 Q A dC dI dA ad0 sc m n0 s0 (pc + 3) L r h') : Tm p l e R s m0 args below meth c0 Q A dC dI dA ad0 sc m n0 s0 pc L (v :: .inr (.inr (some (t, k))) :: r) h := by
  intro ad H locs ls ha hn hs hS hL ho
  obtain ⟨hP, hD, hSS, hok, hG, hX⟩ := hS
  obtain ⟨i, hi, hnm⟩ := okr.at (h := h) ho.tl.hd.r (by show tK t ≤ 5; omega)
  obtain ⟨hc, hb, hne, hl1, hl2⟩ := link_get C hx hf
  have he := wl_at (dA := dA) (ad := ad) hi hnm
  rw [cE_0 hk] at he
  have e1 : (Sum.inr (tN t, ((List.range (nF (tN t))).map (fv ad h t k)).set b (re ad v)) : va_E) = cE dA ad h' t k := by
    rw [cE_0 hk, map_set hb (hc1 ad) (hc2 ad)]
  have key : ∀ (H1 : Heap) (locs1 : List Loc), va_P (dC, dI) vwA ((wl dA ad h).set i (ad t k, .inr (tN t, ((List.range (nF (tN t))).map (fv ad h t k)).set b (re ad v)))) H1 → va_D A ((wl dA ad h).set i (ad t k, .inr (tN t, ((List.range (nF (tN t))).map (fv ad h t k)).set b (re ad v)))) → va_S A s.heap H1 locs1 → W p l e R s m0 args below meth c0 H1 locs1 (h.1 - n0) (h.2.1 - s0) Q (F0 m0 (pc + 3) ls (r.map (re ad))) := by
    intro H1 locs1 hP1 hD1 hS1
    rw [e1, wl_set hi hnm h1 hok.1 (hc3 ad)] at hP1 hD1
    have T' := T ad H1 locs1 ls ha (by rw [h1]; exact hn) (by rw [h2]; exact hs) ⟨hP1, hD1, hS1, hok' hok ho.hd, hG, hX⟩ (by rw [h1]; exact hL) (by rw [h1]; exact ho.tl.tl)
    rw [h1, h2] at T'
    exact T'
  have hd' := fTy_ok _ hc _ hb
  have hsame : ∀ x, s.fieldFound? (fT (tN t) b).1 (fT (tN t) b).2.1 (fT (tN t) b).2.2.1 = some x → s.fieldFound? (cN (tN t)) (fT (tN t) b).2.1 (fT (tN t) b).2.2.1 = some x := fun x hxx => by rw [fT_own _ hc _ hb] at hxx; exact hxx
  have hlen : b < ((List.range (nF (tN t))).map (fv ad h t k)).length := by rw [map_len]; exact hb
  cases hfn : (fT (tN t) b).2.2.2 with
  | false =>
    cases nest with
    | false => exact va_put (D := (dC, dI)) (ref := cN (tN t)) C.1 C.2.1 C.2.2.2.2.1 (u_in hc) (fTy (tN t)) (fTy_ok _ hc) (fT_nm _ hc) C.2.2.2.1 hG.1 hP hD hSS i he (vwA_at hc) b hb (hl1 rfl) hsame hfn hd' (hv ad).1 (hv ad).2 hlen hd key
    | true => exact va_putN (D := (dC, dI)) (ref := cN (tN t)) (host := "DeepWearer") C.1 C.2.1 C.2.2.2.2.1 (u_in hc) (fTy (tN t)) (fTy_ok _ hc) (fT_nm _ hc) C.2.2.2.1 hG.1 hP hD hSS i he (vwA_at hc) b hb (va_Nw.use rfl (hG.2.1 _ (hl2 rfl))) hsame hfn hd' (hv ad).1 (hv ad).2 hlen hd key
  | true =>
    rw [hfn] at hfin
    simp only [Bool.not_true, Bool.false_or, Bool.and_eq_true, beq_iff_eq] at hfin
    have hm := beq_t hfin.2
    cases nest with
    | true => exact absurd hm (hne rfl)
    | false => exact va_putF (D := (dC, dI)) (ref := cN (tN t)) C.1 C.2.1 C.2.2.2.2.1 (u_in hc) (fTy (tN t)) (fTy_ok _ hc) (fT_nm _ hc) C.2.2.2.1 hG.1 hP hD hSS i he (vwA_at hc) b hb (hl1 rfl) hsame hfn (hin hfin.1) (by rw [fT_own _ hc _ hb, hm]) hd' (hv ad).1 (hv ad).2 hlen hd key
theorem sn_putI (C : Fx p s m0 args c0 A m) {idx t k b pl : Nat} {nest : Bool} {x : Int32} (hd : decode (mB m) pc = .ok (.putfield idx, 3)) (hx : idx < 2048) (hf : flk (mC m * 2048 + idx) = some (tN t, b, nest, pl)) (hk : tK t = 0) (hfin : (!(fT (tN t) b).2.2.2 || ((mY m).name == "<init>" && Nat.beq (mC m) (tN t))) = true) (hin : (mY m).name = "<init>" → meth.name = "<init>")
    (hty : fTy (tN t) b = .int ∨ (fTy (tN t) b = .boolean ∧ isB x = true)) (T : Tm p l e R s m0 args below meth c0 Q A dC dI dA ad0 sc m n0 s0 (pc + 3) L r (hUI h t k b x)) : Tm p l e R s m0 args below meth c0 Q A dC dI dA ad0 sc m n0 s0 pc L (.inl x :: .inr (.inr (some (t, k))) :: r) h := by
  have hrf : isRf (fTy (tN t) b) = false := by rcases hty with e | ⟨e, -⟩ <;> rw [e] <;> rfl
  refine sn_put (h' := hUI h t k b x) C hd hx hf hk hfin hin rfl rfl (fun ad => ?_) (fun ad => ?_) (fun ad j hj => ?_) (fun ad t' k' hne => ?_) (fun hok _ => ⟨hok.1, hok.2⟩) T
  · rcases hty with e | ⟨e, hb⟩
    · rw [e]; exact ⟨rfl, rfl⟩
    · rw [e]
      refine ⟨?_, ?_⟩
      · show Value.int (x &&& 1) = Value.int x
        rw [isB_of hb]
      · exact hb
  · unfold fv
    rw [hrf]
    show Value.int (uI (hI h) t k b x t k b) = _
    unfold uI
    rw [if_pos ⟨rfl, rfl, rfl⟩]
    rfl
  · unfold fv
    show (match isRf (fTy (tN t) j) with | true => (match hR h t k j with | some q => Value.ref (ad q.1 q.2) | none => Value.null) | false => Value.int (uI (hI h) t k b x t k j)) = _
    unfold uI
    rw [if_neg (fun z => hj z.2.2)]
    first | done | rfl
  · exact cE_cg (uI_o hne) rfl rfl
theorem sn_putR (C : Fx p s m0 args c0 A m) {idx t k b pl : Nat} {nest : Bool} {q : Nat × Nat} (hd : decode (mB m) pc = .ok (.putfield idx, 3)) (hx : idx < 2048) (hf : flk (mC m * 2048 + idx) = some (tN t, b, nest, pl)) (hk : tK t = 0) (hfin : (!(fT (tN t) b).2.2.2 || ((mY m).name == "<init>" && Nat.beq (mC m) (tN t))) = true) (hin : (mY m).name = "<init>" → meth.name = "<init>")
    (hty : isRf (fTy (tN t) b) = true) (T : Tm p l e R s m0 args below meth c0 Q A dC dI dA ad0 sc m n0 s0 (pc + 3) L r (hUR h t k b (some q))) : Tm p l e R s m0 args below meth c0 Q A dC dI dA ad0 sc m n0 s0 pc L (.inr (.inr (some q)) :: .inr (.inr (some (t, k))) :: r) h := by
  refine sn_put (h' := hUR h t k b (some q)) C hd hx hf hk hfin hin rfl rfl (fun ad => isRf_lit hty) (fun ad => ?_) (fun ad j hj => ?_) (fun ad t' k' hne => ?_) (fun hok hv => ⟨hok.1, fun i hi j q' hj hq' => ?_⟩) T
  · have e : hR (hUR h t k b (some q)) t k b = some q := by
      show uR (hR h) t k b (some q) t k b = some q
      unfold uR
      rw [if_pos ⟨rfl, rfl, rfl⟩]
    unfold fv
    rw [hty, e]
    rfl
  · have e : hR (hUR h t k b (some q)) t k j = hR h t k j := by
      show uR (hR h) t k b (some q) t k j = hR h t k j
      unfold uR
      rw [if_neg (fun z => hj z.2.2)]
    unfold fv
    rw [e]
    rfl
  · exact cE_cg rfl rfl (uR_o hne)
  · have hq2 : uR (hR h) t k b (some q) (nm i).1 (nm i).2 j = some q' := hq'
    unfold uR at hq2
    split at hq2
    · cases hq2
      exact hv.r
    · exact hok.2 i hi j q' hj hq2
theorem sn_getSV (C : Fx p s m0 args c0 A m) {k : Nat} (hm : mC m = 9) (hd : decode (mB m) pc = .ok (.getfield 9, 3)) (hk : k < 7) (T : Tm p l e R s m0 args below meth c0 Q A dC dI dA ad0 sc m n0 s0 (pc + 3) L (.inr (.inr (some (tagB, k))) :: r) h) : Tm p l e R s m0 args below meth c0 Q A dC dI dA ad0 sc m n0 s0 pc L (.inr (.inr (some (tagS, k))) :: r) h := by
  intro ad H locs ls ha hn hs hS hL ho
  have ow := C.2.2.2.1
  rw [hm] at ow
  exact vk_getf (o := "java/lang/String") (n := "value") (d := "[B") (ref := "java/lang/String") C.1 C.2.1 (hS.2.2.2.2.1.2.2.1 k hk).2.2.1 hS.2.2.1 ow (C.2.2.2.2.1 _ st_in.2.2.2.1) (fun _ h => h) hd (T ad H locs ls ha hn hs hS hL (ho.tl.cons (okv_r (Or.inr (by decide)))))
theorem sn_getSC (C : Fx p s m0 args c0 A m) {k : Nat} (hm : mC m = 9) (hd : decode (mB m) pc = .ok (.getfield 15, 3)) (hk : k < 7) (T : Tm p l e R s m0 args below meth c0 Q A dC dI dA ad0 sc m n0 s0 (pc + 3) L (.inl 0 :: r) h) : Tm p l e R s m0 args below meth c0 Q A dC dI dA ad0 sc m n0 s0 pc L (.inr (.inr (some (tagS, k))) :: r) h := by
  intro ad H locs ls ha hn hs hS hL ho
  have ow := C.2.2.2.1
  rw [hm] at ow
  exact vk_getf (o := "java/lang/String") (n := "coder") (d := "B") (ref := "java/lang/String") C.1 C.2.1 (hS.2.2.2.2.1.2.2.1 k hk).2.1 hS.2.2.1 ow (C.2.2.2.2.1 _ st_in.2.2.2.2) (fun _ h => h) hd (T ad H locs ls ha hn hs hS hL (ho.tl.cons okv_i))
theorem sn_gets0 (C : Fx p s m0 args c0 A m) (hm : mC m = 9) (hd : decode (mB m) pc = .ok (.getstatic 38, 3)) (T : Tm p l e R s m0 args below meth c0 Q A dC dI dA ad0 sc m n0 s0 (pc + 3) L (.inl 1 :: st) h) : Tm p l e R s m0 args below meth c0 Q A dC dI dA ad0 sc m n0 s0 pc L st h := by
  intro ad H locs ls ha hn hs hS hL ho
  have ow := C.2.2.2.1
  rw [hm] at ow
  exact va_gets (ref := "java/lang/String") C.1 C.2.1 hS.2.2.2.2.1.2.2.2.2.1 hS.2.2.1 ow (C.2.2.2.2.1 _ st_in.1) (fun _ h => h) hd (T ad H locs ls ha hn hs hS hL (ho.cons okv_i))
theorem sn_gets1 (C : Fx p s m0 args c0 A m) (hm : mC m = 9) (hd : decode (mB m) pc = .ok (.getstatic 1053, 3)) (T : Tm p l e R s m0 args below meth c0 Q A dC dI dA ad0 sc m n0 s0 (pc + 3) L (.inr (.inr none) :: st) h) : Tm p l e R s m0 args below meth c0 Q A dC dI dA ad0 sc m n0 s0 pc L st h := by
  intro ad H locs ls ha hn hs hS hL ho
  have ow := C.2.2.2.1
  rw [hm] at ow
  exact va_gets (ref := "jdk/internal/util/Preconditions") C.1 C.2.1 hS.2.2.2.2.1.2.2.2.2.2.1 hS.2.2.1 ow (C.2.2.2.2.1 _ st_in.2.1) (fun _ h => h) hd (T ad H locs ls ha hn hs hS hL (ho.cons (fun _ _ z => by cases z)))
theorem sn_gets2 (C : Fx p s m0 args c0 A m) (hm : mC m = 6) (hd : decode (mB m) pc = .ok (.getstatic 305, 3)) (T : Tm p l e R s m0 args below meth c0 Q A dC dI dA ad0 sc m n0 s0 (pc + 3) L (.inr (.inr (some (tagA, 0))) :: st) h) : Tm p l e R s m0 args below meth c0 Q A dC dI dA ad0 sc m n0 s0 pc L st h := by
  intro ad H locs ls ha hn hs hS hL ho
  have ow := C.2.2.2.1
  rw [hm] at ow
  exact va_gets (ref := "DeepWearer") C.1 C.2.1 hS.2.2.2.2.1.2.2.2.2.2.2.1 hS.2.2.1 ow (C.2.2.2.2.1 _ st_in.2.2.1) (fun _ h => h) hd (T ad H locs ls ha hn hs hS hL (ho.cons (okv_r (Or.inr (by decide)))))
end SND
