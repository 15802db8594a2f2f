set_option maxHeartbeats 400000
section P69
/-! bits of those who are gone -/
theorem one_b {b : Int32} : ((b &&& 1) = 1) ↔ b.toBitVec.getLsbD 0 = true := by
  rw [← Int32.toBitVec_inj, Int32.toBitVec_and, show (1 : Int32).toBitVec = 1#32 from rfl, BitVec.and_one_eq_setWidth_ofBool_getLsbD]
  cases b.toBitVec.getLsbD 0 <;> decide
theorem shr_b {g : Int32} : ∀ i, i < 31 → (g >>> (c i &&& 31)).toBitVec = g.toBitVec.sshiftRight i := by
  intro i hi
  rw [Int32.toBitVec_shiftRight, BitVec.sshiftRight_eq']
  have : ∀ i, i < 31 → ((c i &&& 31).toBitVec.smod 32).toNat = i := by decide
  rw [this i hi]
theorem hs_b {g : Int32} {i : Nat} (hi : i < 31) : hs g i = g.toBitVec.getLsbD i := by
  have : ((g >>> (c i &&& 31)) &&& 1 = 1) ↔ g.toBitVec.getLsbD i = true := by
    rw [one_b, shr_b i hi, BitVec.getLsbD_sshiftRight, if_pos (show i + 0 < 32 by omega)]
    simp
  unfold hs
  cases h : g.toBitVec.getLsbD i with
  | true => exact decide_eq_true (this.mpr h)
  | false => exact decide_eq_false (fun z => by rw [this.mp z] at h; cases h)
theorem hs_or {a b : Int32} {i : Nat} (hi : i < 31) : hs (a ||| b) i = (hs a i || hs b i) := by
  rw [hs_b hi, hs_b hi, hs_b hi, Int32.toBitVec_or, BitVec.getLsbD_or]
theorem hs_and {a b : Int32} {i : Nat} (hi : i < 31) : hs (a &&& b) i = (hs a i && hs b i) := by
  rw [hs_b hi, hs_b hi, hs_b hi, Int32.toBitVec_and, BitVec.getLsbD_and]
theorem hs_1 : ∀ p, p < 5 → ∀ i, i < 5 → hs (1 <<< (c p &&& 31)) i = decide (i = p) := by decide
theorem hs_n1 : ∀ p, p < 5 → ∀ i, i < 5 → hs ((1 <<< (c p &&& 31)) ^^^ (-1)) i = !decide (i = p) := by decide
theorem hs_gl {g y : Int32} {p i : Nat} (hp5 : p < 5) (hi : i < 5) : hs (gl g (c p) y) i = if i = p then !decide (y = 0) else hs g i := by
  unfold gl
  by_cases y0 : y = 0
  · rw [if_pos y0, hs_and (by omega), hs_n1 p hp5 i hi, decide_eq_true y0]
    by_cases q : i = p
    · rw [if_pos q, decide_eq_true q]; simp
    · rw [if_neg q, decide_eq_false q]; simp
  · rw [if_neg y0, hs_or (by omega), hs_1 p hp5 i hi, decide_eq_false y0]
    by_cases q : i = p
    · rw [if_pos q, decide_eq_true q]; simp
    · rw [if_neg q, decide_eq_false q]; simp
theorem hs_cl {g : Int32} {p i : Nat} (hp5 : p < 5) (hi : i < 5) : hs (g &&& ((1 <<< (c p &&& 31)) ^^^ (-1))) i = if i = p then false else hs g i := by
  have := hs_gl (g := g) (y := 0) hp5 hi
  unfold gl at this
  rw [if_pos rfl] at this
  rw [this]
  simp
/-- a sum without one -/
theorem allA_wo {f f' : Nat → Int32} {p : Nat} (h0 : f' p = 0) (h1 : ∀ i, i ≠ p → f' i = f i) : ∀ n, allA f' n = allA f n - (if p < n then f p else 0) := by
  intro n
  induction n with
  | zero => show (0 : Int32) = 0 - _; rw [if_neg (Nat.not_lt_zero _)]; rfl
  | succ n ih =>
    show allA f' n + f' n = allA f n + f n - _
    rw [ih]
    by_cases q : n = p
    · subst q
      rw [if_neg (Nat.lt_irrefl _), if_pos (Nat.lt_succ_self _), h0]
      grind
    · rw [h1 n q]
      by_cases r : p < n
      · rw [if_pos r, if_pos (by omega)]; grind
      · rw [if_neg r, if_neg (by omega)]; grind
end P69
