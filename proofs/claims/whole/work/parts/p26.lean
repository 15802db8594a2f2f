def h00 : Hp := (0, 0, fun _ _ _ => 0, fun _ _ _ => 0, fun _ _ _ => none)
-- the law's own words (kit/laws/SKELETON.whole: what follows PART A)
/-! THE CLAIM OUT OF ONE WALK OF THE LAW'S BODY. Your part is whole_start (and what it stands on); all else here is the same for every law, but numbers. -/
def R_law : String := "DeepWearerLaw"
def lw_P (b : Addr) (xs : List Int32) (args : Array Value) (s : State) : Prop := args = #[.ref b] ∧ s.IntsAt b xs ∧ xs.length ≤ 3072 ∧ (Jvm.Cond.and given_1 narrow_1).before args s = true
def lw_Q (_ : Array Value) (s : State) (o : Outcome) (t : State) : Prop := o = .returned (some (.int 1)) ∧ Framed s o t [] 600000 7302250
def lw_Z (below : List Frame) (a : Array Value) (s : State) : State → Prop := fun t => ∃ o, t.status = .running ∧ Ended t below o ∧ lw_Q a s o t
/-- the law's own end, with 1 on the stack, nothing written that was there before, its room as the claim has it -/
theorem lw_ret {p : Program} {l : Launch} {e : Env} {s : State} {m : MethodId} {below : List Frame} {meth : Method} {c : Code} {b : Nat} (hx : p.tables.exec = Jvm.exec) (hb : c.code = code) (hr : meth.sig.returnType = ret) (hlocks : meth.locks = false) {pc : Nat} {H : Heap} {ls : Array Slot} (hdg : decode code pc = .ok (.ireturn, 1)) : W p l e room_1 s m #[Value.ref b] below meth c H [] 600000 7302250 (lw_Z below #[Value.ref b] s) (F0 m pc ls [.int 1]) := by
  intro T hT X
  obtain ⟨fs, hret, hrun, hended, hW, hframe⟩ := X.leave (v := some (.int 1)) (hlocks := hlocks) (fun h => by rw [hr] at h; cases h)
  have hmeth' : T.vm.method? m = some meth := X.method'
  refine ⟨T.setFrames fs, ?_, .returned (some (.int 1)), hrun, hended, rfl, ⟨_, rfl⟩, hW, hframe⟩
  jvm_step X.here [X.here.top, hx, hb, hdg, hmeth', hr, ret, narrow_b1]
  (try refine ⟨rfl, ?_⟩); (try refine ⟨rfl, ?_⟩)
  first | (intro acts; rw [hret _ acts rfl rfl rfl]) | rw [hret _ _ rfl rfl rfl]
  exact Steps.refl _
/-- what holds at the law's entry: the machine, the code, the tables' words (any of lw_tbl by 'hts w (by decide +kernel)'), the script of L ints xs at the cell b, what the Statement gives of the start (any of its parts by flat_of_before) -/
def lw_At (p : Program) (s : State) (m : MethodId) (meth : Method) (c : Code) (b L : Nat) (xs : Nat → Int32) : Prop :=
  p.tables.exec = Jvm.exec ∧ c.code = code ∧ meth.sig.returnType = ret ∧ c.maxLocals = 4 ∧ s.vm.findClass R_law = some m.cls ∧ (∀ w ∈ lw_tbl, w.before #[Value.ref b] s = true) ∧ va_X b L xs s s.heap ∧ b < s.heap.size ∧ meth.locks = false ∧ (Jvm.Cond.and given_1 narrow_1).before #[Value.ref b] s = true
set_option maxRecDepth 100000 in
theorem law_code : mB 206 = code ∧ mC 206 = 8 ∧ mL 206 = 4 ∧ mR 206 = some .boolean := ⟨rfl, rfl, rfl, rfl⟩
set_option maxHeartbeats 1000000 in
/-- the law's walk, out of the small machine's -/
theorem law_snd {p : Program} {e : Env} {s : State} {m : MethodId} {below : List Frame} {meth : Method} {c : Code} (l : Launch) {b L : Nat} {xs : Nat → Int32} (C0 : lw_At p s m meth c b L xs) {d : Nat} (hd : d ≤ 2000) {h' : Hp} (hfit : h'.1 ≤ 600000 ∧ h'.2.1 ≤ 7302250)
    (hrun : rn (some (L, xs)) (dn d) 206 0 [some (vR tagX 0), none, none, none] [] h00 = some (some (vI 1), h')) : W p l e room_1 s m #[Value.ref b] below meth c s.heap [] 0 0 (lw_Z below #[Value.ref b] s) (entryFrame m ([Value.ref b] : List Value).toArray 4) := by
  obtain ⟨hx, hb, hr, hml, hown, hts, hX, hbl, hlocks, hgv⟩ := id C0
  obtain ⟨dC, dI, dA, ad, hadX, hG⟩ := law_glob (b := b) hts hgv
  have hA : ∀ q : Nat, s.heap.size ≤ q → (fun q : Nat => s.heap.size ≤ q) q := fun _ h => h
  have hbA : ¬ (fun q : Nat => s.heap.size ≤ q) b := Nat.not_le.mpr hbl
  have C : Fx p s m #[Value.ref b] c (fun q : Nat => s.heap.size ≤ q) 206 := ⟨hx, by rw [law_code.1]; exact hb, by rw [law_code.2.2.1]; exact hml, by rw [law_code.2.1]; exact hown, fun w hw => hts w (List.mem_filter.mp hw).1, hA⟩
  obtain ⟨n, hn⟩ := rn_inv hrun
  have hl := lv_entry ([.ref b]) (n := 4) (Nat.le_of_ble_eq_true rfl)
  rw [lg_entry_eq]
  generalize (lg_sl ([.ref b]) ++ List.replicate (4 - (lg_sl ([.ref b])).length) Slot.unset).toArray = ls at hl ⊢
  have hl : lv_has ls 4 [(0, .ref b)] := hl
  have hLh : Lh ad ls 206 h00.1 [some (vR tagX 0), none, none, none] := by
    refine ⟨hl.1, hl.2.1, rfl, fun i v hi => ?_⟩
    match i, hi with
    | 0, hi =>
      have hi : some (some (vR tagX 0)) = some (some v) := hi
      cases hi
      refine ⟨?_, okv_r (Or.inr (by decide)), fun z => by cases z⟩
      show ls[0]? = some (.val (.ref (ad tagX 0)))
      rw [hadX]
      exact hl.2.2 (0, .ref b) List.mem_cons_self
    | 1, hi => cases (show some none = some (some v) from hi)
    | 2, hi => cases (show some none = some (some v) from hi)
    | 3, hi => cases (show some none = some (some v) from hi)
    | i + 4, hi => cases (show none = some (some v) from hi)
  have hSat : Sat dC dI dA ad (fun q : Nat => s.heap.size ≤ q) s (some (L, xs)) h00 s.heap [] := by
    refine ⟨fun k q hk => ?_, ⟨fun i j p q hi => ?_, fun k q hk => ?_⟩, va_S.rf, ⟨Nat.zero_le _, fun i hi => absurd hi (Nat.not_lt_zero i)⟩, hG, fun n' xs' hsc => ?_⟩
    · cases (show none = some q from hk)
    · cases (show none = some p from hi)
    · cases (show none = some q from hk)
    · cases hsc
      rw [hadX]
      exact ⟨hX, hbl, hbA⟩
  have hret : RetOK p l e room_1 s m #[Value.ref b] below meth c (lw_Z below #[Value.ref b] s) (fun q : Nat => s.heap.size ≤ q) dC dI dA ad (some (L, xs)) 206 0 0 (some (vI 1), h') := by
    intro pc L' h2
    refine ⟨fun x ty hd hty hnar hrr => ?_, fun x hd hty hrr => ?_, fun q ty hd hty hrf hrr => ?_, fun hd hty hrr => ?_⟩
    · cases hrr
      intro ad' H locs ls' ha hn' hs' hS hL' ho
      refine va_forget (fun q hq => hS.2.2.1.2.2 q hq) ?_
      refine W.widen (k := 600000) (n := 7302250) (by rw [Nat.sub_zero]; exact hfit.1) (by rw [Nat.sub_zero]; exact hfit.2) ?_
      exact lw_ret hx hb hr hlocks (by rw [← law_code.1]; exact hd)
    · cases hrr
    · cases hrr
    · cases hrr
  have T := run_snd (R := room_1) (n0 := 0) (s0 := 0) (ad0 := ad) (rr := (some (vI 1), h')) C (fun z => absurd z (by decide)) ⟨by show d + 1 ≤ 2048; omega, by show 40 * (d + 1) ≤ 84000; omega⟩ ⟨by show h'.1 ≤ 0 + 600000; omega, by show h'.2.1 ≤ 0 + 7302250; omega⟩ (fun c args h v h' hc hc6 hc7 hh => dn_snd d c args h v h' hc hc6 hc7 hh) hret n 0 _ [] h00 hn
  exact T ad s.heap [] ls agr.rf (Nat.le_refl _) (Nat.le_refl _) hSat hLh (fun _ q => by cases q)
