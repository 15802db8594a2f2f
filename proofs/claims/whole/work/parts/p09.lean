/-- a class's own words -/
def chK (c : Nat) : Bool := decide (u_ws (cN c) (fT c) (nF c) = (lysP.getD c []).filterMap (fun i => lw_tbl[i]?)) && decide (lw_tbl[(inP.getD c (0, 0)).1]? = some (.instantiable (cN c) (nF c))) && decide (lw_tbl[(inP.getD c (0, 0)).2]? = some (.initialized (cN c)))
set_option maxRecDepth 100000 in
theorem chK_ok : (List.range 8).all chK = true := by decide +kernel
set_option maxRecDepth 100000 in
theorem fTy_ok : ∀ c, c < 8 → ∀ k, k < nF c → parseFieldDescriptor (fT c k).2.2.1 = some (fTy c k) := by decide +kernel
set_option maxRecDepth 100000 in
theorem fT_nm : ∀ c, c < 8 → ∀ a, a < nF c → ∀ b, b < nF c → a ≠ b → (fT c a).2.1 ≠ (fT c b).2.1 := by decide +kernel
set_option maxRecDepth 100000 in
theorem fT_own : ∀ c, c < 8 → ∀ k, k < nF c → (fT c k).1 = cN c := by decide +kernel
theorem u_in {c : Nat} (hc : c < 8) : ∀ w ∈ u_ws (cN c) (fT c) (nF c), w ∈ gWords := by
  intro w hw
  have h := List.all_eq_true.mp chK_ok c (List.mem_range.mpr hc)
  unfold chK at h
  simp only [Bool.and_eq_true, decide_eq_true_eq] at h
  have hg : goodWord w = true := by
    obtain ⟨k, -, rfl⟩ := List.mem_map.mp hw
    unfold u_lay
    split <;> rfl
  rw [h.1.1] at hw
  obtain ⟨i, -, hi⟩ := List.mem_filterMap.mp hw
  exact gw_of hi hg
theorem ins_in {c : Nat} (hc : c < 8) : Cond.instantiable (cN c) (nF c) ∈ gWords ∧ Cond.initialized (cN c) ∈ gWords := by
  have h := List.all_eq_true.mp chK_ok c (List.mem_range.mpr hc)
  unfold chK at h
  simp only [Bool.and_eq_true, decide_eq_true_eq] at h
  exact ⟨gw_of h.1.2 rfl, gw_of h.2 rfl⟩
theorem aw_in : Cond.arrayClass .int ∈ gWords ∧ Cond.arrayClass .boolean ∈ gWords ∧ Cond.arrayClass .long ∈ gWords := by
  refine ⟨?_, ?_, ?_⟩
  · exact List.mem_filter.mpr ⟨List.mem_of_getElem? (i := 163) (by decide +kernel), rfl⟩
  · exact List.mem_filter.mpr ⟨List.mem_of_getElem? (i := 258) (by decide +kernel), rfl⟩
  · exact List.mem_filter.mpr ⟨List.mem_of_getElem? (i := 354) (by decide +kernel), rfl⟩
theorem cp_in : Cond.native arraycopyName ∈ gWords ∧ Cond.static arraycopyName ∈ gWords ∧ Cond.initialized "java/lang/System" ∈ gWords := by
  refine ⟨?_, ?_, ?_⟩
  · exact gw_of (p := 782) (by decide +kernel) rfl
  · exact gw_of (p := 781) (by decide +kernel) rfl
  · exact gw_of (p := 130) (by decide +kernel) rfl
theorem ob_in : Cond.instanceMethod objectInit ∈ gWords ∧ Cond.code objectInit ⟨#[0xb1]⟩ 1 none ∈ gWords := by
  refine ⟨?_, ?_⟩
  · exact gw_of (p := 137) (by decide +kernel) rfl
  · exact gw_of (p := 138) (by decide +kernel) rfl
theorem acl_ok {x : Nat} (h : acl x = true) : Cond.methodLink (cN (x / 2048)) (x % 2048) arraycopyName ∈ gWords := by
  unfold acl at h
  simp only [Bool.or_eq_true] at h
  rcases h with (h | h) | h
  · rw [Nat.eq_of_beq_eq_true h]; exact gw_of (p := 780) (by decide +kernel) rfl
  · rw [Nat.eq_of_beq_eq_true h]; exact gw_of (p := 787) (by decide +kernel) rfl
  · rw [Nat.eq_of_beq_eq_true h]; exact gw_of (p := 924) (by decide +kernel) rfl
theorem ocl_ok {x : Nat} (h : ocl x = true) : Cond.methodLink (cN (x / 2048)) (x % 2048) objectInit ∈ gWords := by
  unfold ocl at h
  simp only [Bool.or_eq_true] at h
  rcases h with ((((((h | h) | h) | h) | h) | h) | h) | h <;> rw [Nat.eq_of_beq_eq_true h]
  · exact gw_of (p := 136) (by decide +kernel) rfl
  · exact gw_of (p := 146) (by decide +kernel) rfl
  · exact gw_of (p := 169) (by decide +kernel) rfl
  · exact gw_of (p := 187) (by decide +kernel) rfl
  · exact gw_of (p := 231) (by decide +kernel) rfl
  · exact gw_of (p := 237) (by decide +kernel) rfl
  · exact gw_of (p := 340) (by decide +kernel) rfl
  · exact gw_of (p := 930) (by decide +kernel) rfl
theorem st_in : Cond.fieldLink "java/lang/String" 38 "java/lang/String" "COMPACT_STRINGS" "Z" ∈ gWords ∧ Cond.fieldLink "java/lang/String" 1053 "jdk/internal/util/Preconditions" "SIOOBE_FORMATTER" "Ljava/util/function/BiFunction;" ∈ gWords ∧ Cond.fieldLink "DeepWearer" 305 "DeepWearer" "KIND_ABOVE" "[I" ∈ gWords ∧ Cond.fieldLink "java/lang/String" 9 "java/lang/String" "value" "[B" ∈ gWords ∧ Cond.fieldLink "java/lang/String" 15 "java/lang/String" "coder" "B" ∈ gWords := by
  refine ⟨?_, ?_, ?_, ?_, ?_⟩
  · exact gw_of (p := 268) (by decide +kernel) rfl
  · exact gw_of (p := 556) (by decide +kernel) rfl
  · exact gw_of (p := 876) (by decide +kernel) rfl
  · exact gw_of (p := 1565) (by decide +kernel) rfl
  · exact gw_of (p := 1566) (by decide +kernel) rfl
