section SND
variable {p : Program} {l : Launch} {e : Env} {R : Room} {s : State} {m0 : MethodId} {args : Array Value} {below : List Frame} {meth : Method} {c0 : Code} {Q : State → Prop} {A : Nat → Prop} {dC : Nat → ClassId} {dI : Nat → Nat → Nat} {dA : Nat → ClassId} {ad0 : Nat → Nat → Nat} {sc : Sc} {m n0 s0 pc : Nat} {L : List (Option Vl)} {st r : List Vl} {h : Hp}
theorem run_snd {d : Nat} {rr : Rs} (C : Fx p s m0 args c0 A m) (hin : (mY m).name = "<init>" → meth.name = "<init>") (hR : d + 1 ≤ R.frames ∧ 40 * (d + 1) ≤ R.locals) (hCE : rr.2.1 ≤ n0 + R.cells ∧ rr.2.2.1 ≤ s0 + R.slots)
    (hE : ∀ c args h v h', c < 226 → c ≠ 206 → (c ≠ 223 ∧ c ≠ 224) → dn d c args h = some (v, h') → h.1 ≤ h'.1 ∧ h.2.1 ≤ h'.2.1 ∧ (okH h → okS h.1 args → MetD l dC dI dA d c args h v h'))
    (hret : RetOK p l e R s m0 args below meth c0 Q A dC dI dA ad0 sc m n0 s0 rr) : ∀ (n pc : Nat) (L : List (Option Vl)) (st : List Vl) (h : Hp), run sc (dn d) m n pc L st h = some rr → Tm p l e R s m0 args below meth c0 Q A dC dI dA ad0 sc m n0 s0 pc L st h := by
  intro n
  induction n with
  | zero => intro pc L st h hh; cases hh
  | succ n ih =>
    intro pc L st h hh
    exact stp_snd (K := run sc (dn d) m n) C hin hR hCE (fun pc L st h q => run_n (dn_n d) n pc L st h q) ih hE hret hh
end SND
set_option maxHeartbeats 1000000 in
/-- what the small machine answers, the JVM answers -/
theorem dn_snd {l : Launch} {dC : Nat → ClassId} {dI : Nat → Nat → Nat} {dA : Nat → ClassId} : ∀ (d c : Nat) (args : List Vl) (h : Hp) (v : Option Vl) (h' : Hp), c < 226 → c ≠ 206 → (c ≠ 223 ∧ c ≠ 224) → dn d c args h = some (v, h') → h.1 ≤ h'.1 ∧ h.2.1 ≤ h'.2.1 ∧ (okH h → okS h.1 args → MetD l dC dI dA d c args h v h') := by
  intro d
  induction d with
  | zero => intro c args h v h' _ _ _ hh; cases hh
  | succ d ih =>
    intro c args h v h' hc hc6 hc7 hh
    have hmono := dn_n _ _ _ _ _ _ hh
    refine ⟨hmono.1, hmono.2, fun hok hoa ad sz => ?_⟩
    obtain ⟨k1, k2⟩ := ck_some hh
    obtain ⟨k3, k4⟩ := Bool.and_eq_true_iff.mp k1
    obtain ⟨n, hn⟩ := rn_inv k2
    obtain ⟨-, -, -, -, -, -, g7, g8, -, -, -⟩ := mY_ok hc hc6 hc7
    refine Met.ofW (cc := mB c) (maxL := mL c) (ret := mR c) g8 rfl ?_
    intro p e s m0 av below meth c0 s₁ B hml hv
    obtain ⟨rfl, hsz, hP, hD0, hG⟩ := hv
    subst hsz
    have hD := hD0.self (sz := s.heap.size)
    have hts : ∀ w ∈ GW c, w.before ((args.map (re ad)).toArray) s = true := atoms_spec (ws := GW c) B.pre
    have hown : s.vm.findClass (cN (mC c)) = some m0.cls := by rw [← g7]; exact findClass_of_methodNamed B.named
    have hname : meth.name = (mY c).name := (name_of_methodNamed B.named B.method).1
    have hlocks := B.notSynchronized
    have hr := B.returns
    have C : Fx p s m0 (args.map (re ad)).toArray c0 (va_A (wl dA ad h) s.heap.size) c := ⟨B.exec, B.bytes, hml, hown, fun w hw => hts w (List.mem_cons_of_mem _ hw), fun q hq => Or.inr hq⟩
    have hl := lv_entry (args.map (re ad)) (n := mL c) (by rw [lcl_sl]; exact ble_t k3)
    rw [lg_entry_eq]
    generalize (lg_sl (args.map (re ad)) ++ List.replicate (mL c - (lg_sl (args.map (re ad))).length) Slot.unset).toArray = ls at hl ⊢
    have hLh : Lh ad ls c h.1 (ent (mL c) args) := ent_Lh hl hoa (ble_t k3) (leq_eq _ _ k4)
    have hSat : Sat dC dI dA ad (va_A (wl dA ad h) s.heap.size) s none h s.heap [] := ⟨hP, hD, va_S.rf, hok, hG, fun _ _ z => by cases z⟩
    have hret : RetOK p l e (headSpec (GW c) (rmD (d + 1) (h'.1 - h.1) (h'.2.1 - h.2.1))).room s m0 (args.map (re ad)).toArray below meth c0 (MQ below (gQ (cQ dC dI dA ad h s.heap.size v h') (va_A (wl dA ad h) s.heap.size)) (args.map (re ad)).toArray s (h'.1 - h.1) (h'.2.1 - h.2.1) (va_A (wl dA ad h) s.heap.size)) (va_A (wl dA ad h) s.heap.size) dC dI dA ad none c h.1 h.2.1 (v, h') := by
      intro pc L h2
      refine ⟨fun x ty hd hty hnar hrr => ?_, fun x hd hty hrr => ?_, fun q ty hd hty hrf hrr => ?_, fun hd hty hrr => ?_⟩
      · cases hrr
        intro ad' H locs ls' ha hn' hs' hS hL' ho
        exact W.zret (ty := ty) C.1 C.2.1 (by rw [hr]; exact hty) hnar (fun t ht hW => ⟨⟨_, rfl, ad', ha, rfl, by rw [ht]; exact hS.1, hS.2.1, hS.2.2.2.1, fun y hy => by cases hy; exact ho.hd⟩, hS.2.2.1.F ht⟩) hS.2.2.1.2.2 hd hlocks
      · cases hrr
        intro ad' H locs ls' ha hn' hs' hS hL' ho
        exact W.lret C.1 C.2.1 (by rw [hr]; exact hty) (fun t ht hW => ⟨⟨_, rfl, ad', ha, rfl, by rw [ht]; exact hS.1, hS.2.1, hS.2.2.2.1, fun y hy => by cases hy; exact ho.hd⟩, hS.2.2.1.F ht⟩) hS.2.2.1.2.2 hd hlocks
      · cases hrr
        intro ad' H locs ls' ha hn' hs' hS hL' ho
        exact W.aret (rt := ty) C.1 C.2.1 (by rw [hr]; exact hty) (by cases ty <;> first | (cases hrf; done) | exact Or.inl ⟨_, rfl⟩ | exact Or.inr ⟨_, rfl⟩) (Or.inr ⟨_, rfl⟩) (fun t ht hW => ⟨⟨_, rfl, ad', ha, rfl, by rw [ht]; exact hS.1, hS.2.1, hS.2.2.2.1, fun y hy => by cases hy; exact ho.hd⟩, hS.2.2.1.F ht⟩) hS.2.2.1.2.2 hd hlocks
      · cases hrr
        intro ad' H locs ls' ha hn' hs' hS hL' ho
        exact W.vret C.1 C.2.1 (by rw [hr]; exact hty) (fun t ht hW => ⟨⟨_, rfl, ad', ha, rfl, by rw [ht]; exact hS.1, hS.2.1, hS.2.2.2.1, fun y hy => by cases hy⟩, hS.2.2.1.F ht⟩) hS.2.2.1.2.2 hd hlocks
    have T := run_snd (R := (headSpec (GW c) (rmD (d + 1) (h'.1 - h.1) (h'.2.1 - h.2.1))).room) (n0 := h.1) (s0 := h.2.1) C (fun z => by rw [hname]; exact z) ⟨Nat.le_refl (d + 1), Nat.le_refl (40 * (d + 1))⟩ ⟨by show h'.1 ≤ h.1 + (h'.1 - h.1); omega, by show h'.2.1 ≤ h.2.1 + (h'.2.1 - h.2.1); omega⟩ ih hret n 0 _ [] h hn
    have K := T ad s.heap [] ls agr.rf (Nat.le_refl _) (Nat.le_refl _) hSat hLh (fun _ q => by cases q)
    rw [Nat.sub_self, Nat.sub_self] at K
    exact K
