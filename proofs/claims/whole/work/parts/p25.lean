/-! THE LAW'S START -/
def tmL : List (String × Nat) := [("DeepWearer$World", 64), ("DeepWearer$Reader", 50), ("DeepWearer$Reader", 52), ("DeepWearer$Reader", 54), ("DeepWearer$Reader", 56), ("DeepWearer$Reader", 58), ("DeepWearer$Reader", 96)]
def tmO (k : Nat) : String := (tmL.getD k ("", 0)).1
def tmI (k : Nat) : Nat := (tmL.getD k ("", 0)).2
def nwF : List Cond := flatC (Jvm.Cond.and given_1 narrow_1)
set_option maxRecDepth 100000 in
theorem nw_ex : ∀ k, k < 7 → Cond.exactly (Term.string (tmO k) (tmI k)) "java/lang/String" ∈ nwF := by decide +kernel
set_option maxRecDepth 100000 in
theorem nw_co : ∀ k, k < 7 → Cond.eq (.field (Term.string (tmO k) (tmI k)) "java/lang/String" "coder" "B") (.int 0) ∈ nwF := by decide +kernel
set_option maxRecDepth 100000 in
theorem nw_ar : ∀ k, k < 7 → Cond.arrayOf (.field (Term.string (tmO k) (tmI k)) "java/lang/String" "value" "[B") .byte ∈ nwF := by decide +kernel
set_option maxRecDepth 100000 in
theorem nw_le : ∀ k, k < 7 → Cond.eq (.length (.field (Term.string (tmO k) (tmI k)) "java/lang/String" "value" "[B")) (.int (Int32.ofNat (sLen k))) ∈ nwF := by decide +kernel
set_option maxRecDepth 100000 in
theorem nw_el : ∀ k, k < 7 → ∀ j, j < sLen k → Cond.eq (.elem (.field (Term.string (tmO k) (tmI k)) "java/lang/String" "value" "[B") (.int (Int32.ofNat j))) (.int (sByt k j)) ∈ nwF := by decide +kernel
set_option maxRecDepth 100000 in
theorem nw_ka : (Cond.arrayOf (.static "DeepWearer" "KIND_ABOVE" "[I") .int ∈ nwF ∧ Cond.eq (.length (.static "DeepWearer" "KIND_ABOVE" "[I")) (.int 7) ∈ nwF) ∧ ∀ j, j < 7 → Cond.eq (.elem (.static "DeepWearer" "KIND_ABOVE" "[I") (.int (Int32.ofNat j))) (.int (kAb j)) ∈ nwF := by decide +kernel
set_option maxRecDepth 100000 in
theorem nw_st : Cond.eq (.static "java/lang/String" "COMPACT_STRINGS" "Z") (.int 1) ∈ nwF ∧ Cond.isRef (.static "jdk/internal/util/Preconditions" "SIOOBE_FORMATTER" "Ljava/util/function/BiFunction;") ∈ nwF := by decide +kernel
set_option maxRecDepth 100000 in
theorem tb_st : (Cond.laysStatic "java/lang/String" "COMPACT_STRINGS" "Z" ∈ lw_tbl ∧ Cond.initialized "java/lang/String" ∈ lw_tbl) ∧ (Cond.laysStatic "jdk/internal/util/Preconditions" "SIOOBE_FORMATTER" "Ljava/util/function/BiFunction;" ∈ lw_tbl ∧ Cond.initialized "jdk/internal/util/Preconditions" ∈ lw_tbl) ∧ (Cond.laysStatic "DeepWearer" "KIND_ABOVE" "[I" ∈ lw_tbl ∧ Cond.initialized "DeepWearer" ∈ lw_tbl) ∧ Cond.arrayOver (.object "DeepWearer$Town") ∈ lw_tbl ∧ Cond.arrayOver (.object "DeepWearer$Tape") ∈ lw_tbl := by decide +kernel
theorem sByt_7 : ∀ k, k < 7 → sLen k < 100 := by decide +kernel
def slkB (x : Nat) : Bool := match slk x with | none => true | some (s, _) => Nat.blt s 7 && decide (cN (x / 2048) = tmO s) && Nat.beq (x % 2048) (tmI s)
set_option maxRecDepth 100000 in
theorem slk_all : (List.range 32768).all slkB = true := by decide +kernel
theorem slk_tm {x k p : Nat} (h : slk x = some (k, p)) : k < 7 ∧ cN (x / 2048) = tmO k ∧ x % 2048 = tmI k := by
  have hx : x < 32768 := by
    rcases Nat.lt_or_ge x 32768 with q | q
    · exact q
    · have e : Nat.blt x 32768 = false := blt_f q
      unfold slk at h
      rw [e] at h
      cases h
  have h1 := List.all_eq_true.mp slk_all x (List.mem_range.mpr hx)
  unfold slkB at h1
  rw [h] at h1
  obtain ⟨h1, h3⟩ := Bool.and_eq_true_iff.mp h1
  obtain ⟨h1, h2⟩ := Bool.and_eq_true_iff.mp h1
  exact ⟨blt_t h1, of_decide_eq_true h2, beq_t h3⟩
set_option maxHeartbeats 1000000 in
theorem law_glob {s : State} {av : Array Value} {b : Nat} (hts : ∀ w ∈ lw_tbl, w.before av s = true) (hgv : (Jvm.Cond.and given_1 narrow_1).before av s = true) : ∃ (dC : Nat → ClassId) (dI : Nat → Nat → Nat) (dA : Nat → ClassId) (ad : Nat → Nat → Nat), ad tagX 0 = b ∧ Glob dC dI dA ad (fun q : Nat => s.heap.size ≤ q) s := by
  have hf : ∀ c ∈ nwF, c.before av s = true := flat_of_before _ hgv
  have hg : ∀ w ∈ gWords, w.before av s = true := fun w hw => hts w (List.mem_filter.mp hw).1
  have hA : ∀ a : Nat, a < s.heap.size → ¬ (fun q : Nat => s.heap.size ≤ q) a := fun a h1 h2 => by have h2 : s.heap.size ≤ a := h2; omega
  -- classes
  have hcl : ∀ c : Nat, ∃ q : ClassId × (Nat → Nat), c < 8 → u_Kn s (cN c) (fT c) (nF c) q.1 q.2 := by
    intro c
    by_cases hc : c < 8
    · obtain ⟨c0, i0, hk⟩ := u_known (C := cN c) (T := fT c) (N := nF c) (n := nF c) hg (u_in hc) (hg _ (ins_in hc).1)
      exact ⟨(c0, i0), fun _ => hk⟩
    · exact ⟨(0, fun _ => 0), fun z => absurd z hc⟩
  obtain ⟨fC, hfC⟩ := Classical.axiomOfChoice hcl
  -- rows' classes
  have prim : ∀ ty : FieldType, (∀ C, ty ≠ .object C) → Cond.arrayClass ty ∈ gWords → ∃ cA, ArrOfT s cA ty ∧ va_RA s cA ty := by
    intro ty hty hw
    obtain ⟨cA, kA, comp, h1, h2, h3⟩ := Cond.arrayClass_spec (hg _ hw)
    refine ⟨cA, fun n z => ⟨fun k h => (by cases h), kA, h2, comp, h3⟩, ?_⟩
    cases ty with
    | object C => exact absurd rfl (hty C)
    | _ => exact h1
  have objs : ∀ C : String, Cond.arrayOver (.object C) ∈ lw_tbl → ∃ cA, ArrOfT s cA (.object C) ∧ va_RA s cA (.object C) := by
    intro C hw
    obtain ⟨comp, cA, kA, h1, -, h2, h3, h4⟩ := Cond.arrayOver_spec (hts _ hw)
    exact ⟨cA, fun n z => ⟨fun k h => (by cases h), kA, h2, comp, h3⟩, kA, comp, h2, h3, h1, h4⟩
  obtain ⟨c1, a1⟩ := prim .int (fun C h => by cases h) aw_in.1
  obtain ⟨c2, a2⟩ := prim .boolean (fun C h => by cases h) aw_in.2.1
  obtain ⟨c3, a3⟩ := prim .long (fun C h => by cases h) aw_in.2.2
  obtain ⟨c4, a4⟩ := objs "DeepWearer$Town" tb_st.2.2.2.1
  obtain ⟨c5, a5⟩ := objs "DeepWearer$Tape" tb_st.2.2.2.2
  -- texts
  have hstr : ∀ k : Nat, ∃ q : Nat × Nat, k < 7 → (Term.string (tmO k) (tmI k)).eval av s none [] s = some (.ref q.1) ∧ va_O "java/lang/String" q.1 (fun q : Nat => s.heap.size ≤ q) s s.heap ∧ va_OF "java/lang/String" "coder" "B" (.int 0) q.1 (fun q : Nat => s.heap.size ≤ q) s s.heap ∧ va_OF "java/lang/String" "value" "[B" (.ref q.2) q.1 (fun q : Nat => s.heap.size ≤ q) s s.heap ∧ va_T .byte q.2 (sLen k) (fun j => .int (sByt k j)) (fun q : Nat => s.heap.size ≤ q) s s.heap := by
    intro k
    by_cases hk : k < 7
    · obtain ⟨a, c, cA, kA, q1, q2, q3, q4, q5, q6, -⟩ := Cond.exactly_spec (args := av) (first := s) (o := none) (s := s) (idx := []) (t := Term.string (tmO k) (tmI k)) (cls := "java/lang/String") (hf _ (nw_ex k hk))
      obtain ⟨t, ht, hT⟩ := va_Tof (f := fun j => .int (sByt k j)) (A := fun q : Nat => s.heap.size ≤ q) (by have := sByt_7 k hk; omega : sLen k < 2 ^ 31) (hf _ (nw_ar k hk)) (va_eqt (hf _ (nw_le k hk))) (fun j hj => va_eqt (hf _ (nw_el k hk j hj))) hA
      exact ⟨(a, t), fun _ => ⟨q1, ⟨cA, q3, q5, by rw [q6]; exact q2, hA a (Array.getElem?_eq_some_iff.mp q3).1⟩, vk_OFof q1 (va_eqt (hf _ (nw_co k hk))) hA, vk_OFof q1 ht hA, hT⟩⟩
    · exact ⟨(0, 0), fun z => absurd z hk⟩
  obtain ⟨fS, hfS⟩ := Classical.axiomOfChoice hstr
  -- statics
  have z1 := va_Zof (A := fun q : Nat => s.heap.size ≤ q) (hts _ tb_st.1.1) (hts _ tb_st.1.2) (va_eqi (hf _ nw_st.1)) hA
  obtain ⟨aF, hF⟩ : ∃ a, (Term.static "jdk/internal/util/Preconditions" "SIOOBE_FORMATTER" "Ljava/util/function/BiFunction;").eval av s none [] s = some (nz a) := by
    have h1 := hf _ nw_st.2
    cases hv : (Term.static "jdk/internal/util/Preconditions" "SIOOBE_FORMATTER" "Ljava/util/function/BiFunction;").eval av s none [] s with
    | none => simp [Cond.before, Cond.holds, Cond.value, hv] at h1
    | some w =>
      cases w with
      | ref a => exact ⟨a + 1, rfl⟩
      | null => exact ⟨0, rfl⟩
      | _ => simp [Cond.before, Cond.holds, Cond.value, hv] at h1
  have z2 := va_Zof (A := fun q : Nat => s.heap.size ≤ q) (hts _ tb_st.2.1.1) (hts _ tb_st.2.1.2) hF hA
  obtain ⟨aK, hK, hTK⟩ := va_Tof (f := fun j => .int (kAb j)) (A := fun q : Nat => s.heap.size ≤ q) (by decide : 7 < 2 ^ 31) (hf _ nw_ka.1.1) (va_eqt (hf _ nw_ka.1.2)) (fun j hj => va_eqt (hf _ (nw_ka.2 j hj))) hA
  have z3 := va_Zof (A := fun q : Nat => s.heap.size ≤ q) (hts _ tb_st.2.2.1.1) (hts _ tb_st.2.2.1.2) hK hA
  refine ⟨fun c => (fC c).1, fun c => (fC c).2, fun k => match k with | 1 => c1 | 2 => c2 | 3 => c3 | 4 => c4 | _ => c5, fun t k => if t = tagS then (fS k).1 else if t = tagB then (fS k).2 else if t = tagF then aF else if t = tagA then aK else b, rfl, ⟨fun c q hq => ?_, fun k q hq => ?_⟩, fun w hw => ?_, fun k hk => ?_, fun x k pl hx => ?_, z1, z2, z3, hTK, va_AO.of (hts _ tb_st.2.2.2.1), va_AO.of (hts _ tb_st.2.2.2.2)⟩
  · by_cases hc : c < 8
    · rw [vwA_at hc] at hq
      cases hq
      exact hfC c hc
    · rw [List.getElem?_eq_none (by unfold vwA; rw [List.length_map, List.length_range]; omega)] at hq
      cases hq
  · match k, hq with
    | 0, hq => cases hq; exact a1
    | 1, hq => cases hq; exact a2
    | 2, hq => cases hq; exact a3
    | 3, hq => cases hq; exact a4
    | 4, hq => cases hq; exact a5
    | k + 5, hq => simp [tysA] at hq
  · obtain ⟨w1, w2⟩ := List.mem_filter.mp hw
    exact va_Nw.of (nest_on w2) (hts w w1)
  · exact (hfS k hk).2
  · obtain ⟨t1, t2, t3⟩ := slk_tm hx
    have h1 := slk_ok hx
    have h2 := hts _ (List.mem_of_getElem? h1.1)
    refine vk_R.of (A := av) h2 ?_
    rw [t2, t3]
    have h3 := (hfS k t1).1
    rw [Term.string_eval_of_vm (args := #[]) (args' := av) rfl]
    exact h3
