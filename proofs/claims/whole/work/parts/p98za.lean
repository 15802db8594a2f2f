set_option maxHeartbeats 400000
section P98z
variable {I : FI} {L : FL} {T : FR} {dA : Nat → ClassId} {ad : Nat → Nat → Nat}
theorem okH_hp : okH (hp I L w00) := by
  refine ⟨Nat.le_refl 172, fun i hi j q hj hq => ?_⟩
  have h1 := List.all_eq_true.mp okB_t i (List.mem_range.mpr hi)
  have h2 := List.all_eq_true.mp h1 j (List.mem_range.mpr hj)
  have hq : SR w00 (nm i).1 (nm i).2 j = some q := hq
  rw [hq] at h2
  have h2 : (nmL.any fun p => Nat.beq p.1 q.1 && Nat.beq p.2 q.2) = true := h2
  obtain ⟨p, hp1, hp2⟩ := List.any_eq_true.mp h2
  obtain ⟨k, hk, e⟩ := List.getElem_of_mem hp1
  obtain ⟨e1, e2⟩ := Bool.and_eq_true_iff.mp hp2
  refine Or.inl ⟨k, hk, ?_⟩
  unfold nm
  rw [List.getD_eq_getElem?_getD, List.getElem?_eq_getElem hk, Option.getD_some, e]
  exact Prod.ext (beq_t e1) (beq_t e2)
theorem cE_eq {i : Nat} (hag : agR (172, 5908, I, L, T) = true) (hi : i < 172) : cE dA ad (172, 5908, I, L, T) (nm i).1 (nm i).2 = cE dA ad (hp I L w00) (nm i).1 (nm i).2 := by
  have hk := nm_kinds i hi
  have hq := List.all_eq_true.mp hag i (List.mem_range.mpr hi)
  revert hk hq
  generalize (nm i).1 = t
  generalize (nm i).2 = k
  intro hk hq
  have hR' : ∀ j, (tK t ≠ 1 ∧ tK t ≠ 2 ∧ tK t ≠ 3) → j < bd t → T t k j = SR w00 t k j := by
    intro j hn hj
    have hq : ((List.range (bd t)).all fun j => decide (T t k j = SR w00 t k j)) = true := by
      rw [← hq]
      generalize tK t = z at hn
      match z, hn with
      | 0, _ => rfl
      | z + 4, _ => rfl
    exact of_decide_eq_true (List.all_eq_true.mp hq j (List.mem_range.mpr hj))
  have hc : tK t = 0 ∨ tK t = 1 ∨ tK t = 2 ∨ tK t = 3 ∨ tK t = 4 ∨ tK t = 5 := by omega
  unfold cE
  rcases hc with e | e | e | e | e | e
  · rw [e]
    refine congrArg (fun z => (Sum.inr (tN t, z) : va_E)) (List.map_congr_left fun j hj => ?_)
    have h1 : T t k j = SR w00 t k j := hR' j (by omega) (by unfold bd; rw [e]; exact List.mem_range.mp hj)
    unfold fv
    rw [show hR (172, 5908, I, L, T) t k j = hR (hp I L w00) t k j from h1]
    rfl
  · rw [e]; rfl
  · rw [e]; rfl
  · rw [e]; rfl
  · rw [e]
    refine congrArg (fun f => (Sum.inl (dA 4, tN t, Sum.inr (Sum.inr (Sum.inr (Sum.inr f)))) : va_E)) (funext fun j => ?_)
    cases hb : Nat.blt j (tN t) with
    | false => rfl
    | true => rw [show hR (172, 5908, I, L, T) t k j = hR (hp I L w00) t k j from hR' j (by omega) (by unfold bd; rw [e]; exact blt_t hb)]
  · rw [e]
    refine congrArg (fun f => (Sum.inl (dA 5, tN t, Sum.inr (Sum.inr (Sum.inr (Sum.inr f)))) : va_E)) (funext fun j => ?_)
    cases hb : Nat.blt j (tN t) with
    | false => rfl
    | true => rw [show hR (172, 5908, I, L, T) t k j = hR (hp I L w00) t k j from hR' j (by omega) (by unfold bd; rw [e]; exact blt_t hb)]
theorem wl_eq (hag : agR (172, 5908, I, L, T) = true) : wl dA ad (172, 5908, I, L, T) = wl dA ad (hp I L w00) := by
  unfold wl
  refine List.map_congr_left fun i hi => ?_
  rw [cE_eq hag (List.mem_range.mp hi)]
theorem R_00 (h1 : ptO I = true) (h2 : smO I = true) (h3 : rtO I L = true) (h4 : hlO I = true) : R I L w00 := by
  have P : ∀ t k j v, (t, k, j, v) ∈ ptI → I t k j = v := fun t k j v hm => of_decide_eq_true (List.all_eq_true.mp h1 _ hm)
  have S : ∀ t j, (t, j) ∈ smL → rvM I t j = I t 0 j := fun t j hm => of_decide_eq_true (List.all_eq_true.mp h2 _ hm)
  refine ⟨⟨0, 0, 0, 0, 0, 0, ⟨by omega, by omega, by omega⟩, ⟨P 10464 0 0 0 (by decide), P 14944 0 0 0 (by decide), P 10464 0 6 0 (by decide), P 14944 0 2 0 (by decide), P 10464 0 10 0 (by decide), P 14944 0 3 0 (by decide)⟩, fun t j hs => ?_, fun t ht => absurd ht (by omega), fun p hp => absurd hp (by omega), ⟨by omega, P 2416 0 0 0 (by decide), P 14944 0 38 0 (by decide), fun i hi => absurd hi (by omega)⟩, ⟨by omega, P 2480 0 0 0 (by decide), P 14944 0 42 0 (by decide), fun i hi => absurd hi (by omega)⟩, ⟨by omega, P 2544 0 0 0 (by decide), P 14944 0 43 0 (by decide), fun i hi => absurd hi (by omega)⟩⟩, ⟨0, ⟨by omega, P 12288 0 1 0 (by decide), P 14944 0 11 0 (by decide), ⟨P 6288 0 0 10 (by decide), P 6288 0 1 0 (by decide), P 6288 0 2 5 (by decide), P 6288 0 3 0 (by decide)⟩, fun f hf => absurd hf (by omega)⟩, Nat.le_refl 0, P 14944 0 12 (-1) (by decide), Or.inl ⟨P 12288 0 6 0 (by decide), P 14944 0 48 0 (by decide)⟩⟩, ⟨0, by omega, P 32 0 1 0 (by decide), P 14944 0 13 0 (by decide), fun i hi => absurd hi (by omega)⟩, fun t ht => ?_, ⟨0, by omega, P 12288 0 9 0 (by decide), P 14944 0 71 0 (by decide), fun i hi => absurd hi (by omega)⟩, fun i hi => of_decide_eq_true (List.all_eq_true.mp h4 i (List.mem_range.mpr hi))⟩
  · rcases hs with ⟨h | h | h | h, hj⟩ | ⟨h, hj⟩ | ⟨h | h | h, hj⟩ <;> subst h
    · exact S _ _ ((by decide : ∀ j, j < 5 → (10481, j) ∈ smL) j hj)
    · exact S _ _ ((by decide : ∀ j, j < 5 → (10497, j) ∈ smL) j hj)
    · exact S _ _ ((by decide : ∀ j, j < 5 → (10513, j) ∈ smL) j hj)
    · exact S _ _ ((by decide : ∀ j, j < 5 → (10530, j) ∈ smL) j hj)
    · exact S _ _ ((by decide : ∀ j, j < 20 → (41265, j) ∈ smL) j hj)
    · exact S _ _ ((by decide : ∀ j, j < 6 → (12609, j) ∈ smL) j hj)
    · exact S _ _ ((by decide : ∀ j, j < 6 → (12625, j) ∈ smL) j hj)
    · exact S _ _ ((by decide : ∀ j, j < 6 → (12641, j) ∈ smL) j hj)
  · have h5 := List.all_eq_true.mp h3 t (List.mem_range.mpr ht)
    simp only [Bool.and_eq_true, decide_eq_true_eq] at h5
    obtain ⟨⟨⟨⟨a1, a2⟩, a3⟩, a4⟩, a5⟩ := h5
    exact ⟨0, -1, by omega, by decide, by decide, a1, a2, a3, a4, fun _ => rfl, fun i hi => of_decide_eq_true (List.all_eq_true.mp a5 i (List.mem_range.mpr hi))⟩
theorem ok18_s {x : Option St} (h : ok18 x = true) : ∃ I L T, x = some (18, [some (vR 1960 0), some (vR 12288 0), some (vR 14944 0), some (vI 0)], [], (172, 5908, I, L, T)) ∧ agR (172, 5908, I, L, T) = true ∧ R I L w00 := by
  cases x with
  | none => cases h
  | some x =>
    obtain ⟨pc, L0, st, n, s, I, L, T⟩ := x
    obtain ⟨s1, h⟩ := Bool.and_eq_true_iff.mp h
    obtain ⟨s2, h⟩ := Bool.and_eq_true_iff.mp h
    obtain ⟨s3, h⟩ := Bool.and_eq_true_iff.mp h
    obtain ⟨s4, h⟩ := Bool.and_eq_true_iff.mp h
    obtain ⟨s5, h⟩ := Bool.and_eq_true_iff.mp h
    obtain ⟨s6, h⟩ := Bool.and_eq_true_iff.mp h
    obtain ⟨s7, h⟩ := Bool.and_eq_true_iff.mp h
    obtain ⟨s8, h⟩ := Bool.and_eq_true_iff.mp h
    obtain ⟨s9, s10⟩ := Bool.and_eq_true_iff.mp h
    have e1 := beq_t s1
    have e2 := of_decide_eq_true s2
    have e3 := List.isEmpty_iff.mp s3
    have e4 : n = 172 := beq_t s4
    have e5 : s = 5908 := beq_t s5
    subst e1 e2 e3 e4 e5
    exact ⟨I, L, T, rfl, s6, R_00 s7 s8 s9 s10⟩
end P98z
set_option maxHeartbeats 1000000 in
/-- the law's walk -/
theorem whole_start {p : Program} {e : Env} {s : State} {m : MethodId} {below : List Frame} {meth : Method} {c : Code} (l : Launch) (_hflags : l.flags = flags0) {b n : Nat} {xs : Nat → Int32} (hn : n ≤ 3072) (C0 : lw_At p s m meth c b n xs) : W p l e room_1 s m #[Value.ref b] below meth c s.heap [] 0 0 (lw_Z below #[Value.ref b] s) (entryFrame m ([Value.ref b] : List Value).toArray 4) := by
  obtain ⟨I0, L0, T0, hx, hag, hR0⟩ := ok18_s start_ok
  obtain ⟨I1, L1, w1, hrun⟩ := law_loop (xs := xs) hn 600 0 I0 L0 w00 (by omega) (by omega) hR0
  have hx1 := rs_up (sc := some (n, xs)) (E' := dn 60) (fun m a h x z => dn_mono (by omega : 6 ≤ 60) (dnF_dn 6 m a h x z)) 10 0 _ _ _ hx
  obtain ⟨hx, hb, hr, hml, hown, hts, hX, hbl, hlocks, hgv⟩ := id C0
  obtain ⟨dC, dI, dA, ad, hadX, hG⟩ := law_glob (b := b) hts hgv
  have hA : ∀ q : Nat, s.heap.size ≤ q → (fun q : Nat => s.heap.size ≤ q) q := fun _ h => h
  have hbA : ¬ (fun q : Nat => s.heap.size ≤ q) b := Nat.not_le.mpr hbl
  have C : Fx p s m #[Value.ref b] c (fun q : Nat => s.heap.size ≤ q) 206 := ⟨hx, by rw [law_code.1]; exact hb, by rw [law_code.2.2.1]; exact hml, by rw [law_code.2.1]; exact hown, fun w hw => hts w (List.mem_filter.mp hw).1, hA⟩
  obtain ⟨k, hk⟩ := rn_inv hrun
  have hl := lv_entry ([.ref b]) (n := 4) (Nat.le_of_ble_eq_true rfl)
  rw [lg_entry_eq]
  generalize (lg_sl ([.ref b]) ++ List.replicate (4 - (lg_sl ([.ref b])).length) Slot.unset).toArray = ls at hl ⊢
  have hl : lv_has ls 4 [(0, .ref b)] := hl
  have hLh : Lh ad ls 206 h00.1 [some (vR tagX 0), none, none, none] := by
    refine ⟨hl.1, hl.2.1, rfl, fun i v hi => ?_⟩
    match i, hi with
    | 0, hi =>
      have hi : some (some (vR tagX 0)) = some (some v) := hi
      cases hi
      refine ⟨?_, okv_r (Or.inr (by decide)), fun z => by cases z⟩
      show ls[0]? = some (.val (.ref (ad tagX 0)))
      rw [hadX]
      exact hl.2.2 (0, .ref b) List.mem_cons_self
    | 1, hi => cases (show some none = some (some v) from hi)
    | 2, hi => cases (show some none = some (some v) from hi)
    | 3, hi => cases (show some none = some (some v) from hi)
    | i + 4, hi => cases (show none = some (some v) from hi)
  have hSat : Sat dC dI dA ad (fun q : Nat => s.heap.size ≤ q) s (some (n, xs)) h00 s.heap [] := by
    refine ⟨fun k q hk => ?_, ⟨fun i j p q hi => ?_, fun k q hk => ?_⟩, va_S.rf, ⟨Nat.zero_le _, fun i hi => absurd hi (Nat.not_lt_zero i)⟩, hG, fun n' xs' hsc => ?_⟩
    · cases (show none = some q from hk)
    · cases (show none = some p from hi)
    · cases (show none = some q from hk)
    · cases hsc
      rw [hadX]
      exact ⟨hX, hbl, hbA⟩
  have hret : RetOK p l e room_1 s m #[Value.ref b] below meth c (lw_Z below #[Value.ref b] s) (fun q : Nat => s.heap.size ≤ q) dC dI dA ad (some (n, xs)) 206 0 0 (some (vI 1), hp I1 L1 w1) := by
    intro pc L' h2
    refine ⟨fun x ty hd hty hnar hrr => ?_, fun x hd hty hrr => ?_, fun q ty hd hty hrf hrr => ?_, fun hd hty hrr => ?_⟩
    · cases hrr
      intro ad' H locs ls' ha hn' hs' hS hL' ho
      refine va_forget (fun q hq => hS.2.2.1.2.2 q hq) ?_
      refine W.widen (k := 600000) (n := 7302250) (by show 172 - 0 ≤ 600000; omega) (by show 5908 - 0 ≤ 7302250; omega) ?_
      exact lw_ret hx hb hr hlocks (by rw [← law_code.1]; exact hd)
    · cases hrr
    · cases hrr
    · cases hrr
  have hCE : (172 : Nat) ≤ 0 + 600000 ∧ (5908 : Nat) ≤ 0 + 7302250 := by omega
  have hin : (mY 206).name = "<init>" → meth.name = "<init>" := fun z => absurd z (by decide)
  have hfr : 60 + 1 ≤ room_1.frames ∧ 40 * (60 + 1) ≤ room_1.locals := ⟨by show 60 + 1 ≤ 2048; omega, by show 40 * (60 + 1) ≤ 84000; omega⟩
  have T18 := run_snd (R := room_1) (n0 := 0) (s0 := 0) (ad0 := ad) (rr := (some (vI 1), hp I1 L1 w1)) C hin hfr hCE (fun c args h v h' hc hc6 hc7 hh => dn_snd 60 c args h v h' hc hc6 hc7 hh) hret k 18 _ [] _ hk
  have T19 := tm_eq (h := (172, 5908, I0, L0, T0)) (h' := hp I0 L0 w00) rfl rfl (fun ad => wl_eq hag) okH_hp T18
  have T := (tm_rs (R := room_1) (x := (18, [some (vR 1960 0), some (vR 12288 0), some (vR 14944 0), some (vI 0)], [], (172, 5908, I0, L0, T0))) C hin hfr hCE (fun c args h v h' hc hc6 hc7 hh => dn_snd 60 c args h v h' hc hc6 hc7 hh) hret T19 ⟨Nat.le_refl 172, Nat.le_refl 5908⟩ 10 0 _ _ _ hx1).2
  exact T ad s.heap [] ls agr.rf (Nat.le_refl _) (Nat.le_refl _) hSat hLh (fun _ q => by cases q)
