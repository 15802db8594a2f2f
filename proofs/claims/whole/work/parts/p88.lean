set_option maxHeartbeats 400000
/-! reading a town: what both read -/
abbrev Tk : Type := Nat × Nat × Nat × Nat
abbrev RsP : Type := Bool × Nat × List Tk
def ltr (x : Int32) : Int32 := if x = 112 then 0 else if x = 116 then 1 else if x = 107 then 2 else if x = 118 then 3 else if x = 119 then 4 else if x = 108 then 5 else -1
def isD (x : Int32) : Bool := decide (48 ≤ x) && decide (x ≤ 57)
def dvl (x : Int32) : Nat := ix x - 48
theorem isD_c {x : Int32} (h : isD x = true) : dvl x < 10 ∧ x = c (dvl x + 48) := by
  unfold isD at h
  simp only [Bool.and_eq_true, decide_eq_true_eq] at h
  obtain ⟨k, hk, rfl⟩ := of_c (x := x) (n := 58) (by grind) (by omega) (by have := h.2; show x < 58; grind)
  have h1 := h.1
  rw [show (48 : Int32) = c 48 from rfl, c_le (by omega) (by omega)] at h1
  unfold dvl
  rw [ix_c (by omega)]
  exact ⟨by omega, by rw [Nat.sub_add_cancel h1]⟩
section RD
variable (nx : Nat → Int32)
/-- a number: read or not, the place behind it, the number -/
def rdN (p : Nat) : Bool × Nat × Nat := if isD (nx p) = true then (if isD (nx (p + 1)) = true then (true, p + 2, 10 * dvl (nx p) + dvl (nx (p + 1))) else (true, p + 1, dvl (nx p))) else (false, p, 0)
/-- is it a sign of a test -/
def isS (x : Int32) : Bool := decide (60 ≤ x) && decide (x ≤ 62)
def rdT (p : Nat) (cd : List Tk) : RsP := if ltr (nx p) < 0 then (false, p, []) else if isS (nx (p + 1)) = true then (if (rdN nx (p + 2)).1 = true then (true, (rdN nx (p + 2)).2.1, cd ++ [(0, ix (ltr (nx p)), ix (nx (p + 1)), (rdN nx (p + 2)).2.2)]) else (false, (rdN nx (p + 2)).2.1, [])) else (false, p + 1, [])
/-- what follows, one by one, between signs ch -/
def lpP (f : Nat → List Tk → RsP) (ch : Int32) (d : Nat) : Nat → Nat → List Tk → RsP
  | 0, p, cd => (true, p, cd)
  | r + 1, p, cd => if nx p = ch then (if (f (p + 1) cd).1 = true then lpP f ch d r (f (p + 1) cd).2.1 ((f (p + 1) cd).2.2 ++ [(d, 0, 0, 0)]) else (false, (f (p + 1) cd).2.1, [])) else (true, p, cd)
def lvP (f : Nat → List Tk → RsP) (ch : Int32) (d : Nat) (p : Nat) (cd : List Tk) : RsP := if (f p cd).1 = true then lpP nx f ch d 100 (f p cd).2.1 (f p cd).2.2 else (false, (f p cd).2.1, [])
def rdF : Nat → Nat → List Tk → RsP
  | 0 => rdT nx
  | k + 1 => fun p cd => if nx p = 33 then (if (rdF k (p + 1) cd).1 = true then (true, (rdF k (p + 1) cd).2.1, (rdF k (p + 1) cd).2.2 ++ [(1, 0, 0, 0)]) else (false, (rdF k (p + 1) cd).2.1, [])) else if nx p = 40 then (if (lvP nx (lvP nx (rdF k) 38 2) 124 3 (p + 1) cd).1 = true then (if nx (lvP nx (lvP nx (rdF k) 38 2) 124 3 (p + 1) cd).2.1 = 41 then (true, (lvP nx (lvP nx (rdF k) 38 2) 124 3 (p + 1) cd).2.1 + 1, (lvP nx (lvP nx (rdF k) 38 2) 124 3 (p + 1) cd).2.2) else (false, (lvP nx (lvP nx (rdF k) 38 2) 124 3 (p + 1) cd).2.1, [])) else (false, (lvP nx (lvP nx (rdF k) 38 2) 124 3 (p + 1) cd).2.1, [])) else rdT nx p cd
def rdE (k : Nat) : Nat → List Tk → RsP := lvP nx (lvP nx (rdF nx k) 38 2) 124 3
/-- a reader that takes no more steps than bytes, and goes not beyond n -/
def Gd (n : Nat) (f : Nat → List Tk → RsP) : Prop := ∀ p cd, p ≤ n → p ≤ (f p cd).2.1 ∧ (f p cd).2.1 ≤ n ∧ ((f p cd).1 = true → p < (f p cd).2.1 ∧ ∀ m, cd.length + m ≤ p → (f p cd).2.2.length + m ≤ (f p cd).2.1)
variable {nx}
theorem nx_lt {n p : Nat} (hn : ∀ p, n ≤ p → nx p = -1) {x : Int32} (h : nx p = x) (hx : x ≠ -1) : p < n := by
  apply Classical.byContradiction
  intro z
  exact hx (by rw [← h]; exact hn p (by omega))
theorem isD_lt {n p : Nat} (hn : ∀ p, n ≤ p → nx p = -1) (h : isD (nx p) = true) : p < n := by
  apply Classical.byContradiction
  intro z
  rw [hn p (by omega)] at h
  exact absurd h (by decide)
theorem rdN_b {n p : Nat} (hn : ∀ p, n ≤ p → nx p = -1) (hp' : p ≤ n) : p ≤ (rdN nx p).2.1 ∧ (rdN nx p).2.1 ≤ n ∧ ((rdN nx p).1 = true → p < (rdN nx p).2.1 ∧ (rdN nx p).2.2 < 100) := by
  unfold rdN
  by_cases a : isD (nx p) = true
  · have := isD_lt hn a
    have d1 := (isD_c a).1
    rw [if_pos a]
    by_cases b : isD (nx (p + 1)) = true
    · have := isD_lt hn b
      have d2 := (isD_c b).1
      rw [if_pos b]
      exact ⟨by simp only; omega, by simp only; omega, fun _ => ⟨by simp only; omega, by simp only; omega⟩⟩
    · rw [if_neg b]
      exact ⟨by simp only; omega, by simp only; omega, fun _ => ⟨by simp only; omega, by simp only; omega⟩⟩
  · rw [if_neg a]
    exact ⟨Nat.le_refl _, hp', fun z => by cases z⟩
theorem rdT_g {n : Nat} (hn : ∀ p, n ≤ p → nx p = -1) : Gd n (rdT nx) := by
  intro p cd hp'
  unfold rdT
  by_cases a : ltr (nx p) < 0
  · rw [if_pos a]; exact ⟨Nat.le_refl _, hp', fun z => by cases z⟩
  · have hpn : p < n := by
      apply Classical.byContradiction
      intro z
      rw [hn p (by omega)] at a
      exact a (by decide)
    rw [if_neg a]
    by_cases b : isS (nx (p + 1)) = true
    · have hpn2 : p + 1 < n := by
        apply Classical.byContradiction
        intro z
        rw [hn (p + 1) (by omega)] at b
        exact absurd b (by decide)
      rw [if_pos b]
      obtain ⟨c1, c2, c3⟩ := rdN_b hn (show p + 2 ≤ n by omega)
      by_cases e : (rdN nx (p + 2)).1 = true
      · obtain ⟨c4, c5⟩ := c3 e
        rw [if_pos e]
        refine ⟨by simp only; omega, c2, fun _ => ⟨by simp only; omega, fun m hm => ?_⟩⟩
        simp only [List.length_append, List.length_cons, List.length_nil]
        omega
      · rw [if_neg e]; exact ⟨by simp only; omega, c2, fun z => by cases z⟩
    · rw [if_neg b]; exact ⟨by simp only; omega, by simp only; omega, fun z => by cases z⟩
theorem lpP_g {n : Nat} {f : Nat → List Tk → RsP} {ch : Int32} {d : Nat} (hn : ∀ p, n ≤ p → nx p = -1) (hc : ch ≠ -1) (hf : Gd n f) : ∀ r p cd, p ≤ n → p ≤ (lpP nx f ch d r p cd).2.1 ∧ (lpP nx f ch d r p cd).2.1 ≤ n ∧ ((lpP nx f ch d r p cd).1 = true → ∀ m, cd.length + m ≤ p → (lpP nx f ch d r p cd).2.2.length + m ≤ (lpP nx f ch d r p cd).2.1) := by
  intro r
  induction r with
  | zero => intro p cd hp'; exact ⟨Nat.le_refl _, hp', fun _ m hm => hm⟩
  | succ r ih =>
    intro p cd hp'
    have e : lpP nx f ch d (r + 1) p cd = if nx p = ch then (if (f (p + 1) cd).1 = true then lpP nx f ch d r (f (p + 1) cd).2.1 ((f (p + 1) cd).2.2 ++ [(d, 0, 0, 0)]) else (false, (f (p + 1) cd).2.1, [])) else (true, p, cd) := rfl
    rw [e]
    by_cases a : nx p = ch
    · have hpn := nx_lt hn a hc
      obtain ⟨f1, f2, f3⟩ := hf (p + 1) cd (by omega)
      rw [if_pos a]
      by_cases b : (f (p + 1) cd).1 = true
      · obtain ⟨f4, f5⟩ := f3 b
        obtain ⟨i1, i2, i3⟩ := ih (f (p + 1) cd).2.1 ((f (p + 1) cd).2.2 ++ [(d, 0, 0, 0)]) f2
        rw [if_pos b]
        refine ⟨by omega, i2, fun z m hm => i3 z m ?_⟩
        have := f5 (m + 1) (by omega)
        rw [List.length_append, List.length_cons, List.length_nil]
        omega
      · rw [if_neg b]; exact ⟨by simp only; omega, f2, fun z => by cases z⟩
    · rw [if_neg a]; exact ⟨Nat.le_refl _, hp', fun _ m hm => hm⟩
theorem lvP_g {n : Nat} {f : Nat → List Tk → RsP} {ch : Int32} {d : Nat} (hn : ∀ p, n ≤ p → nx p = -1) (hc : ch ≠ -1) (hf : Gd n f) : Gd n (lvP nx f ch d) := by
  intro p cd hp'
  obtain ⟨f1, f2, f3⟩ := hf p cd hp'
  unfold lvP
  by_cases b : (f p cd).1 = true
  · obtain ⟨f4, f5⟩ := f3 b
    obtain ⟨i1, i2, i3⟩ := lpP_g (d := d) hn hc hf 100 (f p cd).2.1 (f p cd).2.2 f2
    rw [if_pos b]
    exact ⟨by omega, i2, fun z => ⟨by omega, fun m hm => i3 z m (f5 m hm)⟩⟩
  · rw [if_neg b]; exact ⟨f1, f2, fun z => by cases z⟩
theorem rdF_g {n : Nat} (hn : ∀ p, n ≤ p → nx p = -1) : ∀ k, Gd n (rdF nx k) := by
  intro k
  induction k with
  | zero => exact rdT_g hn
  | succ k ih =>
    intro p cd hp'
    have hE : Gd n (lvP nx (lvP nx (rdF nx k) 38 2) 124 3) := lvP_g hn (by decide) (lvP_g hn (by decide) ih)
    have e : rdF nx (k + 1) p cd = if nx p = 33 then (if (rdF nx k (p + 1) cd).1 = true then (true, (rdF nx k (p + 1) cd).2.1, (rdF nx k (p + 1) cd).2.2 ++ [(1, 0, 0, 0)]) else (false, (rdF nx k (p + 1) cd).2.1, [])) else if nx p = 40 then (if (lvP nx (lvP nx (rdF nx k) 38 2) 124 3 (p + 1) cd).1 = true then (if nx (lvP nx (lvP nx (rdF nx k) 38 2) 124 3 (p + 1) cd).2.1 = 41 then (true, (lvP nx (lvP nx (rdF nx k) 38 2) 124 3 (p + 1) cd).2.1 + 1, (lvP nx (lvP nx (rdF nx k) 38 2) 124 3 (p + 1) cd).2.2) else (false, (lvP nx (lvP nx (rdF nx k) 38 2) 124 3 (p + 1) cd).2.1, [])) else (false, (lvP nx (lvP nx (rdF nx k) 38 2) 124 3 (p + 1) cd).2.1, [])) else rdT nx p cd := rfl
    rw [e]
    by_cases a : nx p = 33
    · have hpn := nx_lt hn a (by decide)
      obtain ⟨f1, f2, f3⟩ := ih (p + 1) cd (by omega)
      rw [if_pos a]
      by_cases b : (rdF nx k (p + 1) cd).1 = true
      · obtain ⟨f4, f5⟩ := f3 b
        rw [if_pos b]
        refine ⟨by simp only; omega, f2, fun _ => ⟨by simp only; omega, fun m hm => ?_⟩⟩
        have := f5 (m + 1) (by omega)
        simp only [List.length_append, List.length_cons, List.length_nil]
        omega
      · rw [if_neg b]; exact ⟨by simp only; omega, f2, fun z => by cases z⟩
    · rw [if_neg a]
      by_cases a2 : nx p = 40
      · have hpn := nx_lt hn a2 (by decide)
        obtain ⟨f1, f2, f3⟩ := hE (p + 1) cd (by omega)
        rw [if_pos a2]
        by_cases b : (lvP nx (lvP nx (rdF nx k) 38 2) 124 3 (p + 1) cd).1 = true
        · obtain ⟨f4, f5⟩ := f3 b
          rw [if_pos b]
          by_cases b2 : nx (lvP nx (lvP nx (rdF nx k) 38 2) 124 3 (p + 1) cd).2.1 = 41
          · have hpn2 := nx_lt hn b2 (by decide)
            rw [if_pos b2]
            refine ⟨by simp only; omega, by simp only; omega, fun _ => ⟨by simp only; omega, fun m hm => ?_⟩⟩
            have := f5 m (by omega)
            simp only
            omega
          · rw [if_neg b2]; exact ⟨by simp only; omega, f2, fun z => by cases z⟩
        · rw [if_neg b]; exact ⟨by simp only; omega, f2, fun z => by cases z⟩
      · rw [if_neg a2]
        exact rdT_g hn p cd hp'
end RD
