theorem flk_ok {x ci j : Nat} {nest : Bool} {p : Nat} (h : flk x = some (ci, j, nest, p)) : lw_tbl[p]? = some (flW x ci j nest) ∧ ci < 8 ∧ j < nF ci ∧ (nest = true → x / 2048 ≠ ci) := by
  have hx : x < 32768 := by
    rcases Nat.lt_or_ge x 32768 with q | q
    · exact q
    · have e : Nat.blt x 32768 = false := blt_f q
      unfold flk at h
      rw [e] at h
      cases h
  have h1 := List.all_eq_true.mp chF_ok x (List.mem_range.mpr hx)
  unfold chF at h1
  rw [h] at h1
  simp only [Bool.and_eq_true, decide_eq_true_eq, Nat.blt_eq] at h1
  refine ⟨h1.1.1.1, h1.1.1.2, h1.1.2, fun e z => ?_⟩
  have h2 := h1.2
  rw [e, z] at h2
  simp at h2
theorem mlk_ok {x y : Nat} {nest : Bool} {p : Nat} (h : mlk x = some (y, nest, p)) : lw_tbl[p]? = some (mlW x y nest) := by
  have hx : x < 32768 := by
    rcases Nat.lt_or_ge x 32768 with q | q
    · exact q
    · have e : Nat.blt x 32768 = false := blt_f q
      unfold mlk at h
      rw [e] at h
      cases h
  have h1 := List.all_eq_true.mp chL_ok x (List.mem_range.mpr hx)
  unfold chL at h1
  rw [h] at h1
  simpa using h1
theorem clk_ok {x c p : Nat} (h : clk x = some (c, p)) : lw_tbl[p]? = some (.classLink (cN (x / 2048)) (x % 2048) (cN c)) := by
  have hx : x < 32768 := by
    rcases Nat.lt_or_ge x 32768 with q | q
    · exact q
    · have e : Nat.blt x 32768 = false := blt_f q
      unfold clk at h
      rw [e] at h
      cases h
  have h1 := List.all_eq_true.mp chC_ok x (List.mem_range.mpr hx)
  unfold chC at h1
  rw [h] at h1
  simp only [Bool.and_eq_true, decide_eq_true_eq] at h1
  exact h1.1.1.1
theorem slk_ok {x s p : Nat} (h : slk x = some (s, p)) : lw_tbl[p]? = some (.stringRef (cN (x / 2048)) (x % 2048) (STX.getD s "")) ∧ s < 7 := by
  have hx : x < 32768 := by
    rcases Nat.lt_or_ge x 32768 with q | q
    · exact q
    · have e : Nat.blt x 32768 = false := blt_f q
      unfold slk at h
      rw [e] at h
      cases h
  have h1 := List.all_eq_true.mp chC_ok x (List.mem_range.mpr hx)
  unfold chC at h1
  rw [h] at h1
  simp only [Bool.and_eq_true, decide_eq_true_eq, Nat.blt_eq] at h1
  exact h1.1.1.2
theorem kck_ok {x p : Nat} {v : Int32} (h : kck x = some (v, p)) : lw_tbl[p]? = some (.constant (cN (x / 2048)) (x % 2048) v) := by
  have hx : x < 32768 := by
    rcases Nat.lt_or_ge x 32768 with q | q
    · exact q
    · have e : Nat.blt x 32768 = false := blt_f q
      unfold kck at h
      rw [e] at h
      cases h
  have h1 := List.all_eq_true.mp chC_ok x (List.mem_range.mpr hx)
  unfold chC at h1
  rw [h] at h1
  simp only [Bool.and_eq_true, decide_eq_true_eq] at h1
  exact h1.1.2
theorem klk_ok {x p : Nat} {v : Int64} (h : klk x = some (v, p)) : lw_tbl[p]? = some (.constantLong (cN (x / 2048)) (x % 2048) v) := by
  have hx : x < 32768 := by
    rcases Nat.lt_or_ge x 32768 with q | q
    · exact q
    · have e : Nat.blt x 32768 = false := blt_f q
      unfold klk at h
      rw [e] at h
      cases h
  have h1 := List.all_eq_true.mp chC_ok x (List.mem_range.mpr hx)
  unfold chC at h1
  rw [h] at h1
  simp only [Bool.and_eq_true, decide_eq_true_eq] at h1
  exact h1.2
/-- the words of a called method, in one -/
theorem mY_ok {m : Nat} (hm : m < 226) (h6 : m ≠ 206) (h7 : m ≠ 223 ∧ m ≠ 224) : Cond.code (mY m) (mB m) (mL m) (mR m) ∈ gWords ∧ ((mP m).2.1 = 1 → Cond.static (mY m) ∈ gWords) ∧ ((mP m).2.1 ≠ 1 → Cond.instanceMethod (mY m) ∈ gWords) ∧ ((mP m).2.1 = 2 → (mY m).name = "<init>") ∧ ((mP m).2.1 = 0 → Cond.selects (mY m).cls (mY m) (mY m) ∈ gWords) ∧
    Cond.initialized (mY m).cls ∈ gWords ∧ (mY m).cls = cN (mC m) ∧ plainName (mY m).cls = true ∧ ((mY m).cls ≠ "java/lang/invoke/MethodHandle" ∧ (mY m).cls ≠ "java/lang/invoke/VarHandle") ∧ (∀ sig, parseMethodDescriptor (mY m).desc = some sig → mN m = sig.parameters.length) ∧ mL m ≤ 20 := by
  have h := chY_at hm h6 h7
  obtain ⟨h1, h2, h4, h3⟩ := wy_all m hm h6
  unfold chY at h
  simp only [Bool.and_eq_true, Bool.or_eq_true, decide_eq_true_eq, beq_iff_eq] at h
  obtain ⟨⟨⟨h0, ⟨⟨h5, h7'⟩, h8⟩⟩, h9⟩, h10⟩ := h
  refine ⟨gw_of h1 rfl, fun e => gw_of (w := .static (mY m)) (by rw [h2]; unfold kdW; rw [e]; rfl) rfl, fun e => gw_of (w := .instanceMethod (mY m)) (by rw [h2]; unfold kdW; split <;> first | contradiction | rfl) rfl, fun e => ?_, fun e => gw_of (h3 e) rfl, gw_of h4 rfl, h5, h7', h8, fun sig hs => ?_, Nat.le_of_ble_eq_true h10⟩
  · rcases h0 with z | z
    · rw [e] at z; simp at z
    · exact z
  · rw [hs] at h9
    exact (Option.some.inj h9).symm
