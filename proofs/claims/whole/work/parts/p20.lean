def GW (c : Nat) : List Cond := .code (mY c) (mB c) (mL c) (mR c) :: gWords
def rmD (d k n : Nat) : Room := { frames := d, cells := k, slots := n, locals := 40 * d }
def gQ (B : Option Value → State → Prop) (A : Nat → Prop) : Array Value → State → Outcome → State → Prop := fun _ st oc t => (∃ rv, oc = .returned rv ∧ B rv t) ∧ va_F A st t
/-- where a method starts -/
def cP (dC : Nat → ClassId) (dI : Nat → Nat → Nat) (dA : Nat → ClassId) (ad : Nat → Nat → Nat) (args : List Vl) (h : Hp) (sz : Nat) : Array Value → State → Prop :=
  va_Pc (args.map (re ad)) (fun U => U.heap.size = sz ∧ va_P (dC, dI) vwA (wl dA ad h) U.heap ∧ va_D (fun _ => True) (wl dA ad h) ∧ Glob dC dI dA ad (va_A (wl dA ad h) sz) U)
/-- where it ends -/
def cQ (dC : Nat → ClassId) (dI : Nat → Nat → Nat) (dA : Nat → ClassId) (ad : Nat → Nat → Nat) (h : Hp) (sz : Nat) (v : Option Vl) (h' : Hp) : Option Value → State → Prop :=
  fun rv t => ∃ ad', agr h.1 ad ad' ∧ rv = v.map (re ad') ∧ va_P (dC, dI) vwA (wl dA ad' h') t.heap ∧ va_D (va_A (wl dA ad h) sz) (wl dA ad' h') ∧ okH h' ∧ ∀ x, v = some x → okv h'.1 x
def MetD (l : Launch) (dC : Nat → ClassId) (dI : Nat → Nat → Nat) (dA : Nat → ClassId) (d c : Nat) (args : List Vl) (h : Hp) (v : Option Vl) (h' : Hp) : Prop :=
  ∀ (ad : Nat → Nat → Nat) (sz : Nat), Met l (mY c) (GW c) (rmD d (h'.1 - h.1) (h'.2.1 - h.2.1)) (cP dC dI dA ad args h sz) (gQ (cQ dC dI dA ad h sz v h') (va_A (wl dA ad h) sz)) (h'.1 - h.1) (h'.2.1 - h.2.1) (va_A (wl dA ad h) sz)
theorem cP_blind {dC : Nat → ClassId} {dI : Nat → Nat → Nat} {dA : Nat → ClassId} {ad : Nat → Nat → Nat} {args : List Vl} {h : Hp} {sz : Nat} : FrameBlind (cP dC dI dA ad args h sz) := by
  intro a U g mk q
  obtain ⟨q1, q2, q3, q4, q5⟩ := q
  exact ⟨q1, q2, q3, q4, q5.blind a g mk⟩
section CG
variable {p : Program} {l : Launch} {e : Env} {R : Room} {s : State} {m : MethodId} {args : Array Value} {below : List Frame} {meth : Method} {c : Code} {H : Heap} {locs : List Loc} {cells slots : Nat} {Q : State → Prop}
variable {pc : Nat} {ls : Array Slot} {rest st0 : List Value} {a : Array Value} {A0 A1 : Nat → Prop} {H0 : Heap} {mc ms : Nat} {free : Addr → Prop}
theorem va_callg {B : Option Value → State → Prop} (hr : va_Run p l e R s m args below meth c H locs cells slots mc ms (F0 m pc ls st0) rest (gQ B A1 a) free) (hS : va_S A0 H0 H locs) (hA : ∀ q, q < H.size → A1 q → A0 q) (hf : ∀ q, free q → A0 q)
    (kk : ∀ (rv : Option Value) (t : State) (H1 : Heap) (locs1 : List Loc), t.heap = H1 → B rv t → va_S A0 H0 H1 locs1 → W p l e R s m args below meth c H1 locs1 (cells + mc) (slots + ms) Q (F0 m (pc + 3) ls (rv.toList ++ rest))) : W p l e R s m args below meth c H locs cells slots Q (F0 m pc ls st0) := by
  intro T hT X
  obtain ⟨v, st₀, t, T', L, h0, X', hL, e1, e2, ⟨⟨rv, hv, hb⟩, hz, hk⟩, st⟩ := hr T hT X
  cases hv
  rw [h0] at hz hk
  obtain ⟨t2, a1, b1⟩ := kk v t T'.heap (locs ++ L) e1.symm hb
    ⟨Nat.le_trans hS.1 (by rw [e1]; exact hz), fun q h1 h2 => by rw [e1, hk q (Nat.lt_of_lt_of_le h1 hS.1) (fun z => h2 (hA q (Nat.lt_of_lt_of_le h1 hS.1) z))]; exact hS.2.1 q h1 h2, fun q hq => by
      rcases List.mem_append.mp hq with h | h
      · exact hS.2.2 q h
      · exact hf _ (hL q h)⟩ T' rfl X'
  exact ⟨t2, st t2 a1, b1⟩
end CG
theorem wsum_re {ad : Nat → Nat → Nat} : ∀ st : List Vl, ((st.map (re ad)).map fun v => v.category).sum = wsum st
  | [] => rfl
  | v :: r => by
    have ih := wsum_re (ad := ad) r
    rw [List.map_cons, List.map_cons, List.sum_cons, ih]
    show (re ad v).category + wsum r = (match isL v with | true => 2 | false => 1) + wsum r
    match v with
    | .inl x => rfl
    | .inr (.inl x) => rfl
    | .inr (.inr none) => rw [show (re ad (.inr (.inr none))).category = 1 from nz_cat _]; rfl
    | .inr (.inr (some q)) => rfl
theorem ble_t {a b : Nat} (h : Nat.ble a b = true) : a ≤ b := Nat.le_of_ble_eq_true h
section SND
variable {p : Program} {l : Launch} {e : Env} {R : Room} {s : State} {m0 : MethodId} {args : Array Value} {below : List Frame} {meth : Method} {c0 : Code} {Q : State → Prop} {A : Nat → Prop} {dC : Nat → ClassId} {dI : Nat → Nat → Nat} {dA : Nat → ClassId} {ad0 : Nat → Nat → Nat} {sc : Sc} {m n0 s0 pc : Nat} {L : List (Option Vl)} {st r : List Vl} {h : Hp}
theorem A_in {ad : Nat → Nat → Nat} {H : Heap} {locs : List Loc} (C : Fx p s m0 args c0 A m) (hS : Sat dC dI dA ad A s sc h H locs) : ∀ q, va_A (wl dA ad h) H.size q → A q := by
  intro q hq
  rcases hq with ⟨k, e', hk⟩ | hq
  · exact hS.2.1.2 k (q, e') hk
  · exact C.2.2.2.2.2 q (Nat.le_trans hS.2.2.1.1 hq)
theorem cP_at {ad : Nat → Nat → Nat} {H : Heap} {locs : List Loc} {av : List Vl} (C : Fx p s m0 args c0 A m) (hS : Sat dC dI dA ad A s sc h H locs) {U : State} (hU : U.heap = H) (hW : s.WarmedH U.vm) : cP dC dI dA ad av h H.size (av.map (re ad)).toArray U := by
  refine ⟨rfl, by rw [hU], by rw [hU]; exact hS.1, hS.2.1.weaken (fun _ _ _ _ => trivial), ?_⟩
  exact hS.2.2.2.2.1.call hS.2.2.1 hU hW (A_in C hS)
/-- behind a call -/
theorem call_k {ad : Nat → Nat → Nat} {H H1 : Heap} {locs locs1 : List Loc} {ls : Array Slot} {v : Option Vl} {h' : Hp} {rv : Option Value} {t : State} (C : Fx p s m0 args c0 A m) (hSat : Sat dC dI dA ad A s sc h H locs) (ha : agr n0 ad0 ad) (hn0 : n0 ≤ h.1) (hs0 : s0 ≤ h.2.1) (hL : Lh ad ls m h.1 L) (ho : okS h.1 r) (h1 : h.1 ≤ h'.1) (h2 : h.2.1 ≤ h'.2.1) (ht : t.heap = H1) (hB : cQ dC dI dA ad h H.size v h' rv t) (hS1 : va_S A s.heap H1 locs1) (T : Tm p l e R s m0 args below meth c0 Q A dC dI dA ad0 sc m n0 s0 (pc + 3) L (psh v r) h') :
    W p l e R s m0 args below meth c0 H1 locs1 (h.1 - n0 + (h'.1 - h.1)) (h.2.1 - s0 + (h'.2.1 - h.2.1)) Q (F0 m0 (pc + 3) ls (rv.toList ++ r.map (re ad))) := by
  obtain ⟨ad', g1, rfl, g3, g4, g5, g6⟩ := hB
  rw [ht] at g3
  have T' := T ad' H1 locs1 ls (ha.tr g1 hn0) (by omega) (by omega) ⟨g3, g4.weaken (fun k q _ hq => A_in C hSat _ hq), hS1, g5, hSat.2.2.2.2.1.ad g1, fun n xs hsc => by
      have ex : ad' tagX 0 = ad tagX 0 := g1 _ _ (Or.inr (by decide))
      rw [ex]
      exact hSat.2.2.2.2.2 n xs hsc⟩ (hL.agr g1 h1) (by
      cases v with
      | none => exact ho.mono h1
      | some x => exact (ho.mono h1).cons (g6 x rfl))
  rw [show h'.1 - n0 = h.1 - n0 + (h'.1 - h.1) by omega, show h'.2.1 - s0 = h.2.1 - s0 + (h'.2.1 - h.2.1) by omega] at T'
  have e3 : (psh v r).map (re ad') = (v.map (re ad')).toList ++ r.map (re ad) := by
    cases v with
    | none => exact reS_agr g1 ho
    | some x =>
      show re ad' x :: r.map (re ad') = re ad' x :: r.map (re ad)
      rw [reS_agr g1 ho]
  rw [e3] at T'
  exact T'
theorem link_call (C : Fx p s m0 args c0 A m) {idx y pl : Nat} {nest : Bool} (hx : idx < 2048) (hf : mlk (mC m * 2048 + idx) = some (y, nest, pl)) : (nest = false → (Cond.methodLink (cN (mC m)) idx (mY y)).before args s = true) ∧ (nest = true → (Cond.methodLinkNest (cN (mC m)) idx (mY y) "DeepWearer") ∈ nWords) := by
  have h1 := mlk_ok hf
  unfold mlW at h1
  rw [(lk_div hx).1, (lk_div hx).2] at h1
  refine ⟨fun e => ?_, fun e => ?_⟩
  · subst e
    exact C.2.2.2.2.1 _ (gw_of h1 rfl)
  · subst e
    exact nw_of h1 rfl
theorem call_w (C : Fx p s m0 args c0 A m) {d y k n : Nat} (hy : y < 226) (hy6 : y ≠ 206) (hy7 : y ≠ 223 ∧ y ≠ 224) (hR : d + 1 ≤ R.frames ∧ 40 * (d + 1) ≤ R.locals) : (rmD d k n).cells = k ∧ (rmD d k n).slots = n ∧ (rmD d k n).frames + 1 ≤ R.frames ∧ 8 + (mL y + 11) + (rmD d k n).locals ≤ R.locals ∧ (∀ w ∈ GW y, ∀ (a' : Array Value) (U : State), s.WarmedH U.vm → w.before a' U = true) ∧ Cond.code (mY y) (mB y) (mL y) (mR y) ∈ GW y := by
  obtain ⟨g1, -, -, -, -, -, -, -, -, -, g11⟩ := mY_ok hy hy6 hy7
  refine ⟨rfl, rfl, hR.1, by show 8 + (mL y + 11) + 40 * d ≤ R.locals; omega, fun w hw a' U hW => ?_, List.mem_cons_self⟩
  have hg : w ∈ gWords := by
    rcases List.mem_cons.mp hw with rfl | hw
    · exact g1
    · exact hw
  exact word_at hW (gw_good hg) (C.2.2.2.2.1 _ hg)
theorem sn_callS (C : Fx p s m0 args c0 A m) {d idx y pl : Nat} {nest : Bool} {As : List Vl} {v : Option Vl} {h' : Hp} (hd : decode (mB m) pc = .ok (.invokestatic idx, 3)) (hx : idx < 2048) (hf : mlk (mC m * 2048 + idx) = some (y, nest, pl)) (hy : y < 226) (hy6 : y ≠ 206) (hy7 : y ≠ 223 ∧ y ≠ 224) (hk : (mP y).2.1 = 1) (hAs : As.length = mN y) (hw : wsum r ≤ 8) (hR : d + 1 ≤ R.frames ∧ 40 * (d + 1) ≤ R.locals) (h1 : h.1 ≤ h'.1 ∧ h'.1 ≤ n0 + R.cells) (h2 : h.2.1 ≤ h'.2.1 ∧ h'.2.1 ≤ s0 + R.slots)
    (hM : okH h → okS h.1 As → MetD l dC dI dA d y As h v h') (T : Tm p l e R s m0 args below meth c0 Q A dC dI dA ad0 sc m n0 s0 (pc + 3) L (psh v r) h') : Tm p l e R s m0 args below meth c0 Q A dC dI dA ad0 sc m n0 s0 pc L (As.reverse ++ r) h := by
  intro ad H locs ls ha hn0 hs0 hS hL ho
  have hoA : okS h.1 As := fun x hx => ho x (List.mem_append_left _ (List.mem_reverse.mpr hx))
  have hor : okS h.1 r := fun x hx => ho x (List.mem_append_right _ hx)
  have hMet := hM hS.2.2.2.1 hoA ad H.size
  obtain ⟨g1, g2, g3, g4, g5, g6, g7, g8, g9, g10, g11⟩ := mY_ok hy hy6 hy7
  obtain ⟨w1, w2, w3, w4, w5, w6⟩ := call_w (k := h'.1 - h.1) (n := h'.2.1 - h.2.1) C hy hy6 hy7 hR
  have B9 := C.2.2.2.2.1
  have hp : PreS s H (cP dC dI dA ad As h H.size) (As.map (re ad)) := ⟨cP_blind, fun U hU hW => cP_at C hS hU hW⟩
  have hst : (As.reverse ++ r).map (re ad) = (As.map (re ad)).reverse ++ r.map (re ad) := by rw [List.map_append, List.map_reverse]
  rw [hst]
  have hroom : 2 * (F0 m0 pc ls ((As.map (re ad)).reverse ++ r.map (re ad))).monitorRoom + ((r.map (re ad)).map fun v => v.category).sum ≤ 8 := lv_room (by rw [wsum_re]; exact hw)
  have hfit : (h.1 - n0) + (h'.1 - h.1) ≤ R.cells ∧ (h.2.1 - s0) + (h'.2.1 - h.2.1) ≤ R.slots := by omega
  have hn : (As.map (re ad)).length = mN y := by rw [List.length_map]; exact hAs
  have S : CallFix p m0 c0 (mB m) (mL m) s args gWords (cN (mC m)) := ⟨C.1, C.2.1, C.2.2.1, C.2.2.2.1, B9⟩
  have kk : ∀ (rv : Option Value) (t : State) (H1 : Heap) (locs1 : List Loc), t.heap = H1 → cQ dC dI dA ad h H.size v h' rv t → va_S A s.heap H1 locs1 → W p l e R s m0 args below meth c0 H1 locs1 (h.1 - n0 + (h'.1 - h.1)) (h.2.1 - s0 + (h'.2.1 - h.2.1)) Q (F0 m0 (pc + 3) ls (rv.toList ++ r.map (re ad))) :=
    fun rv t H1 locs1 ht hB hS1 => call_k C hS ha hn0 hs0 hL hor h1.1 h2.1 ht hB hS1 T
  cases nest with
  | false => exact va_callg (va_runS (own := cN (mC m)) (bytes := mB y) (maxL := mL y) (ret := mR y) (rest := r.map (re ad)) S hMet ⟨⟨w1, w2, w3, w4, w5, w6, B9 _ g1, B9 _ g6, g9, g10, (link_call C hx hf).1 rfl⟩, B9 _ (g2 hk)⟩ hp rfl hn hL.1 rfl hroom hd hfit) hS.2.2.1 (fun q _ hq => A_in C hS q hq) (A_in C hS) kk
  | true => exact va_callg (va_runSN (own := cN (mC m)) (host := "DeepWearer") (bytes := mB y) (maxL := mL y) (ret := mR y) (rest := r.map (re ad)) S hMet ⟨⟨⟨w1, w2, w3, w4, w5, w6⟩, B9 _ g1, B9 _ g6, g9, g10, va_Nw.use rfl (hS.2.2.2.2.1.2.1 _ ((link_call C hx hf).2 rfl))⟩, B9 _ (g2 hk), trivial⟩ hp rfl hn hL.1 rfl hroom hd hfit) hS.2.2.1 (fun q _ hq => A_in C hS q hq) (A_in C hS) kk
theorem sn_callI (C : Fx p s m0 args c0 A m) {d idx y pl : Nat} {nest : Bool} {As : List Vl} {q0 : Nat × Nat} {v : Option Vl} {h' : Hp} (hd : decode (mB m) pc = .ok (.invokespecial idx, 3)) (hx : idx < 2048) (hf : mlk (mC m * 2048 + idx) = some (y, nest, pl)) (hy : y < 226) (hy6 : y ≠ 206) (hy7 : y ≠ 223 ∧ y ≠ 224) (hk : (mP y).2.1 = 2) (hret : mR y = none) (hAs : As.length = mN y) (hw : wsum r ≤ 8) (hR : d + 1 ≤ R.frames ∧ 40 * (d + 1) ≤ R.locals) (h1 : h.1 ≤ h'.1 ∧ h'.1 ≤ n0 + R.cells) (h2 : h.2.1 ≤ h'.2.1 ∧ h'.2.1 ≤ s0 + R.slots)
    (hM : okH h → okS h.1 (.inr (.inr (some q0)) :: As) → MetD l dC dI dA d y (.inr (.inr (some q0)) :: As) h v h') (T : Tm p l e R s m0 args below meth c0 Q A dC dI dA ad0 sc m n0 s0 (pc + 3) L (psh v r) h') : Tm p l e R s m0 args below meth c0 Q A dC dI dA ad0 sc m n0 s0 pc L (As.reverse ++ .inr (.inr (some q0)) :: r) h := by
  intro ad H locs ls ha hn0 hs0 hS hL ho
  have hoA : okS h.1 (.inr (.inr (some q0)) :: As) := fun x hx => by
    rcases List.mem_cons.mp hx with rfl | hx
    · exact ho _ (List.mem_append_right _ List.mem_cons_self)
    · exact ho x (List.mem_append_left _ (List.mem_reverse.mpr hx))
  have hor : okS h.1 r := fun x hx => ho x (List.mem_append_right _ (List.mem_cons_of_mem _ hx))
  have hMet := hM hS.2.2.2.1 hoA ad H.size
  obtain ⟨g1, g2, g3, g4, g5, g6, g7, g8, g9, g10, g11⟩ := mY_ok hy hy6 hy7
  obtain ⟨w1, w2, w3, w4, w5, w6⟩ := call_w (k := h'.1 - h.1) (n := h'.2.1 - h.2.1) C hy hy6 hy7 hR
  have B9 := C.2.2.2.2.1
  rw [hret] at g1 w6
  have hp : PreS s H (cP dC dI dA ad (.inr (.inr (some q0)) :: As) h H.size) (.ref (ad q0.1 q0.2) :: As.map (re ad)) := ⟨cP_blind, fun U hU hW => cP_at C hS hU hW⟩
  have hst : (As.reverse ++ .inr (.inr (some q0)) :: r).map (re ad) = (As.map (re ad)).reverse ++ .ref (ad q0.1 q0.2) :: r.map (re ad) := by rw [List.map_append, List.map_reverse]; rfl
  rw [hst]
  have hroom : 2 * (F0 m0 pc ls ((As.map (re ad)).reverse ++ .ref (ad q0.1 q0.2) :: r.map (re ad))).monitorRoom + ((r.map (re ad)).map fun v => v.category).sum ≤ 8 := lv_room (by rw [wsum_re]; exact hw)
  have hfit : (h.1 - n0) + (h'.1 - h.1) ≤ R.cells ∧ (h.2.1 - s0) + (h'.2.1 - h.2.1) ≤ R.slots := by omega
  have hn : (As.map (re ad)).length = mN y := by rw [List.length_map]; exact hAs
  have S : CallFix p m0 c0 (mB m) (mL m) s args gWords (cN (mC m)) := ⟨C.1, C.2.1, C.2.2.1, C.2.2.2.1, B9⟩
  have kk : ∀ (rv : Option Value) (t : State) (H1 : Heap) (locs1 : List Loc), t.heap = H1 → cQ dC dI dA ad h H.size v h' rv t → va_S A s.heap H1 locs1 → W p l e R s m0 args below meth c0 H1 locs1 (h.1 - n0 + (h'.1 - h.1)) (h.2.1 - s0 + (h'.2.1 - h.2.1)) Q (F0 m0 (pc + 3) ls (rv.toList ++ r.map (re ad))) :=
    fun rv t H1 locs1 ht hB hS1 => call_k C hS ha hn0 hs0 hL hor h1.1 h2.1 ht hB hS1 T
  cases nest with
  | false => exact va_callg (va_runI (own := cN (mC m)) (bytes := mB y) (maxL := mL y) (rest := r.map (re ad)) S hMet ⟨⟨w1, w2, w3, w4, w5, w6, B9 _ g1, B9 _ g6, g9, g10, (link_call C hx hf).1 rfl⟩, g4 hk, B9 _ (g3 (by omega))⟩ hp rfl hn hL.1 rfl hroom hd hfit) hS.2.2.1 (fun q _ hq => A_in C hS q hq) (A_in C hS) kk
  | true => exact va_callg (va_runIN (own := cN (mC m)) (host := "DeepWearer") (bytes := mB y) (maxL := mL y) (rest := r.map (re ad)) S hMet ⟨⟨⟨w1, w2, w3, w4, w5, w6⟩, B9 _ g1, B9 _ g6, g9, g10, va_Nw.use rfl (hS.2.2.2.2.1.2.1 _ ((link_call C hx hf).2 rfl))⟩, g4 hk, B9 _ (g3 (by omega))⟩ hp rfl hn hL.1 rfl hroom hd hfit) hS.2.2.1 (fun q _ hq => A_in C hS q hq) (A_in C hS) kk
theorem sn_callV (C : Fx p s m0 args c0 A m) {d idx y pl : Nat} {nest : Bool} {As : List Vl} {q0 : Nat × Nat} {v : Option Vl} {h' : Hp} (hd : decode (mB m) pc = .ok (.invokevirtual idx, 3)) (hx : idx < 2048) (hf : mlk (mC m * 2048 + idx) = some (y, nest, pl)) (hy : y < 226) (hy6 : y ≠ 206) (hy7 : y ≠ 223 ∧ y ≠ 224) (hk : (mP y).2.1 = 0) (hrc : (tK q0.1 = 0 ∧ tN q0.1 = mC y ∧ mC y < 8) ∨ (q0.1 = tagS ∧ q0.2 < 7 ∧ mC y = 9)) (hAs : As.length = mN y) (hw : wsum r ≤ 8) (hR : d + 1 ≤ R.frames ∧ 40 * (d + 1) ≤ R.locals) (h1 : h.1 ≤ h'.1 ∧ h'.1 ≤ n0 + R.cells) (h2 : h.2.1 ≤ h'.2.1 ∧ h'.2.1 ≤ s0 + R.slots)
    (hM : okH h → okS h.1 (.inr (.inr (some q0)) :: As) → MetD l dC dI dA d y (.inr (.inr (some q0)) :: As) h v h') (T : Tm p l e R s m0 args below meth c0 Q A dC dI dA ad0 sc m n0 s0 (pc + 3) L (psh v r) h') : Tm p l e R s m0 args below meth c0 Q A dC dI dA ad0 sc m n0 s0 pc L (As.reverse ++ .inr (.inr (some q0)) :: r) h := by
  intro ad H locs ls ha hn0 hs0 hS hL ho
  have hoA : okS h.1 (.inr (.inr (some q0)) :: As) := fun x hx => by
    rcases List.mem_cons.mp hx with rfl | hx
    · exact ho _ (List.mem_append_right _ List.mem_cons_self)
    · exact ho x (List.mem_append_left _ (List.mem_reverse.mpr hx))
  have hor : okS h.1 r := fun x hx => ho x (List.mem_append_right _ (List.mem_cons_of_mem _ hx))
  have hMet := hM hS.2.2.2.1 hoA ad H.size
  obtain ⟨g1, g2, g3, g4, g5, g6, g7, g8, g9, g10, g11⟩ := mY_ok hy hy6 hy7
  obtain ⟨w1, w2, w3, w4, w5, w6⟩ := call_w (k := h'.1 - h.1) (n := h'.2.1 - h.2.1) C hy hy6 hy7 hR
  have B9 := C.2.2.2.2.1
  have hrecv : ∃ cellB : Cell, H[ad q0.1 q0.2]? = some cellB ∧ cellB.vm.isStatics = false ∧ s.vm.findClass (mY y).cls = some cellB.cls := by
    rw [g7]
    rcases hrc with ⟨z1, z2, z3⟩ | ⟨z1, z2, z3⟩
    · obtain ⟨i, hi, hnm⟩ := okr.at (h := h) (hoA.hd.r) (by omega)
      have he := wl_at (dA := dA) (ad := ad) hi hnm
      rw [cE_0 z1, z2] at he
      exact va_recv hS.2.2.2.2.1.1 hS.1 (vwA_at z3) he
    · obtain ⟨cell, c1, c2, c3, -⟩ := (hS.2.2.2.2.1.2.2.1 q0.2 z2).1.kept hS.2.2.1.2.1
      rw [z1, z3]
      exact ⟨cell, c1, c2, c3⟩
  have hp : PreV s H (mY y).cls (ad q0.1 q0.2) (cP dC dI dA ad (.inr (.inr (some q0)) :: As) h H.size) (As.map (re ad)) := ⟨cP_blind, hrecv, fun U hU hW => cP_at C hS hU hW⟩
  have hst : (As.reverse ++ .inr (.inr (some q0)) :: r).map (re ad) = (As.map (re ad)).reverse ++ .ref (ad q0.1 q0.2) :: r.map (re ad) := by rw [List.map_append, List.map_reverse]; rfl
  rw [hst]
  have hroom : 2 * (F0 m0 pc ls ((As.map (re ad)).reverse ++ .ref (ad q0.1 q0.2) :: r.map (re ad))).monitorRoom + ((r.map (re ad)).map fun v => v.category).sum ≤ 8 := lv_room (by rw [wsum_re]; exact hw)
  have hfit : (h.1 - n0) + (h'.1 - h.1) ≤ R.cells ∧ (h.2.1 - s0) + (h'.2.1 - h.2.1) ≤ R.slots := by omega
  have hn : (As.map (re ad)).length = mN y := by rw [List.length_map]; exact hAs
  have S : CallFix p m0 c0 (mB m) (mL m) s args gWords (cN (mC m)) := ⟨C.1, C.2.1, C.2.2.1, C.2.2.2.1, B9⟩
  have kk : ∀ (rv : Option Value) (t : State) (H1 : Heap) (locs1 : List Loc), t.heap = H1 → cQ dC dI dA ad h H.size v h' rv t → va_S A s.heap H1 locs1 → W p l e R s m0 args below meth c0 H1 locs1 (h.1 - n0 + (h'.1 - h.1)) (h.2.1 - s0 + (h'.2.1 - h.2.1)) Q (F0 m0 (pc + 3) ls (rv.toList ++ r.map (re ad))) :=
    fun rv t H1 locs1 ht hB hS1 => call_k C hS ha hn0 hs0 hL hor h1.1 h2.1 ht hB hS1 T
  cases nest with
  | false => exact va_callg (va_runV (own := cN (mC m)) (C := (mY y).cls) (bytes := mB y) (maxL := mL y) (ret := mR y) (rest := r.map (re ad)) S hMet ⟨⟨w1, w2, w3, w4, w5, w6, B9 _ g1, B9 _ g6, g9, g10, (link_call C hx hf).1 rfl⟩, B9 _ (g3 (by omega)), B9 _ (g5 hk)⟩ hp rfl hn hL.1 rfl hroom hd hfit) hS.2.2.1 (fun q _ hq => A_in C hS q hq) (A_in C hS) kk
  | true => exact va_callg (va_runVN (own := cN (mC m)) (host := "DeepWearer") (C := (mY y).cls) (bytes := mB y) (maxL := mL y) (ret := mR y) (rest := r.map (re ad)) S hMet ⟨⟨⟨w1, w2, w3, w4, w5, w6⟩, B9 _ g1, B9 _ g6, g9, g10, va_Nw.use rfl (hS.2.2.2.2.1.2.1 _ ((link_call C hx hf).2 rfl))⟩, B9 _ (g3 (by omega)), B9 _ (g5 hk)⟩ hp rfl hn hL.1 rfl hroom hd hfit) hS.2.2.1 (fun q _ hq => A_in C hS q hq) (A_in C hS) kk
end SND
