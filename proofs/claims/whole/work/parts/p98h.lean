set_option maxHeartbeats 400000
/-! a town's code, as the reference runs it -/
def upB (b : Nat → Int32) (j : Nat) (x : Int32) : Nat → Int32 := fun i => if i = j then x else b i
def plR (b : Nat → Int32) : List Bool → Prop
  | [] => True
  | x :: r => b r.length = (if x = true then 1 else 0) ∧ plR b r
section P98h
variable {L : FL} {w : Nat → Nat}
theorem plR_u {b : Nat → Int32} {x : Int32} {j : Nat} : ∀ st, st.length ≤ j → plR b st → plR (upB b j x) st := by
  intro st
  induction st with
  | nil => intro _ _; trivial
  | cons y r ih =>
    intro h ⟨h1, h2⟩
    rw [List.length_cons] at h
    refine ⟨?_, ih (by omega) h2⟩
    unfold upB
    rw [if_neg (by omega)]; exact h1
theorem pl_upd {I : FI} {b : Nat → Int32} {j : Nat} {x : Int32} : uI (pl I b) 205682 0 j x = pl I (upB b j x) := by
  funext t k i
  unfold uI pl upB
  by_cases h : t = 205682 ∧ k = 0
  · obtain ⟨rfl, rfl⟩ := h
    by_cases q : i = j
    · rw [if_pos ⟨rfl, rfl, q⟩, if_pos ⟨rfl, rfl⟩, if_pos q]
    · rw [if_neg (fun z => q z.2.2), if_pos ⟨rfl, rfl⟩, if_pos ⟨rfl, rfl⟩, if_neg q]
  · rw [if_neg (fun z => h ⟨z.1, z.2.1⟩), if_neg h, if_neg h]
theorem pl_at {I : FI} {b : Nat → Int32} {j : Nat} : pl I b 205682 0 j = b j := by unfold pl; rw [if_pos ⟨rfl, rfl⟩]
def F145 (I : FI) (p t : Nat) : Nat → Int32 := fx (c p) (c t) (I 10865 0 p) (I 10881 0 p) (I 12977 0 t) (I 13009 0 t / 10) nil0
theorem s144 {d l p t : Nat} {I : FI} (hl : l < 6) (hp5 : p < 5) (ht : t < 6) : dn (d + 1) 144 [vR 14944 0, vI (c l), vI (c p), vI (c t)] (hp I L w) = some (some (vI (F145 I p t l)), hp I L w) := by
  have hl6 : l = 0 ∨ l = 1 ∨ l = 2 ∨ l = 3 ∨ l = 4 ∨ l = 5 := by omega
  rw [e144, b144_0]
  simp only [vin_c hp5 (by omega : 5 < 2147483648), vin_c ht (by omega : 6 < 2147483648), ck_tt, ix_c (show p < 2147483648 by omega), ix_c (show t < 2147483648 by omega)]
  rcases hl6 with rfl | rfl | rfl | rfl | rfl | rfl <;> rfl
noncomputable def r11 (d : Nat) (L : FL) (w : Nat → Nat) (ci p t n k : Nat) (o6 o7 o8 : Option Vl) (I : FI) (b : Nat → Int32) : Option (Option Vl × Hp) := rn none (dn (d + 1)) 145 11 [some (vR 14944 0), some (vI (c ci)), some (vI (c p)), some (vI (c t)), some (vI (c n)), some (vI (c k)), o6, o7, o8] [] (hp (pl I b) L w)
theorem tk145 {d ci p t k ke : Nat} {I : FI} {a : Tk} {st st' : List Bool} (hci : ci < 60) (hp5 : p < 5) (ht : t < 6) (hk : k < ke) (hke : ke ≤ 600) (he : I 123697 0 ci = c ke) (hs : I 1229633 0 k = sg a) (h : stS (vF (F145 I p t)) 100 a st = some st') (hl : st.length ≤ 100) {b : Nat → Int32} (hb : plR b st) {o6 o7 o8 : Option Vl} : ∃ b' o6' o7' o8', plR b' st' ∧ st'.length ≤ 100 ∧ r11 d L w ci p t st.length k o6 o7 o8 I b = r11 d L w ci p t st'.length (k + 1) o6' o7' o8' I b' := by
  have K : ∀ t' j, t' ≠ 205682 → pl I b t' 0 j = I t' 0 j := fun t' j h => by rw [pl_p h]
  unfold stS at h
  unfold r11
  rw [b145_11, ck_t (vin_c hci (by omega)), ix_c (by omega), K _ _ (by omega), he, if_pos (tq_gt hk (by omega)), ck_t (vin_c (by omega) (by omega)), ix_c (by omega), K _ _ (by omega), hs]
  by_cases a0 : a.1 = 0
  · rw [if_pos a0] at h
    by_cases q : st.length < 100 ∧ tkO a
    · rw [if_pos q] at h
      obtain ⟨q0, q1, q2, q3, q4⟩ := q
      rw [← Option.some.inj h]
      have e0 : sg a = c (1000 * a.2.1 + 100 * (a.2.2.1 - 60) + a.2.2.2) := by unfold sg; rw [if_pos a0]
      have hX : 1000 * a.2.1 + 100 * (a.2.2.1 - 60) + a.2.2.2 < 10000 := by omega
      have e1 : sg a / 1000 = c a.2.1 := by
        rw [e0, show (1000 : Int32) = c 1000 from rfl, ← Int32.ofNat_div (by omega) (by omega), show (1000 * a.2.1 + 100 * (a.2.2.1 - 60) + a.2.2.2) / 1000 = a.2.1 by omega]
      have e2 : sg a / 100 % 10 = c (a.2.2.1 - 60) := by
        rw [e0, show (100 : Int32) = c 100 from rfl, ← Int32.ofNat_div (by omega) (by omega), show (10 : Int32) = c 10 from rfl, ← Int32.ofNat_mod (by omega) (by omega), show (1000 * a.2.1 + 100 * (a.2.2.1 - 60) + a.2.2.2) / 100 % 10 = a.2.2.1 - 60 by omega]
      have e3 : sg a % 100 = c a.2.2.2 := by
        rw [e0, show (100 : Int32) = c 100 from rfl, ← Int32.ofNat_mod (by omega) (by omega), show (1000 * a.2.1 + 100 * (a.2.2.1 - 60) + a.2.2.2) % 100 = a.2.2.2 by omega]
      have e4 : ¬ sg a = -33 := by
        rw [e0]; intro z
        have := c_0 (a := 1000 * a.2.1 + 100 * (a.2.2.1 - 60) + a.2.2.2) (by omega)
        rw [z] at this; exact absurd this (by decide)
      have e5 : ¬ sg a < 0 := by
        rw [e0]; exact tq_ng (a := 1000 * a.2.1 + 100 * (a.2.2.1 - 60) + a.2.2.2) (b := 0) (Nat.zero_le _) (by omega)
      rw [if_neg e4, b145_67, if_neg e5, b145_151, b145_157, ck_t (by decide), e1, s144 q1 hp5 ht, bn_s]
      show ∃ b' o6' o7' o8', _ ∧ _ ∧ rn none _ 145 163 _ [vI _] _ = _
      have eF : F145 (pl I b) p t = F145 I p t := by unfold F145; rw [pl_p (by omega), pl_p (by omega), pl_p (by omega), pl_p (by omega)]
      rw [b145_163, e2, e3, eF]
      have key : ∀ x : Bool, ∃ b', plR b' (x :: st) ∧ rn none (dn (d + 1)) 145 243 [some (vR 14944 0), some (vI (c ci)), some (vI (c p)), some (vI (c t)), some (vI (c st.length)), some (vI (c k)), some (vI (sg a)), some (vI (F145 I p t a.2.1)), some (vI (c (a.2.2.1 - 60)))] [vI (if x = true then 1 else 0), vI (c st.length), vR 205682 0] (hp (pl I b) L w) = rn none (dn (d + 1)) 145 11 [some (vR 14944 0), some (vI (c ci)), some (vI (c p)), some (vI (c t)), some (vI (c (st.length + 1))), some (vI (c (k + 1))), some (vI (sg a)), some (vI (F145 I p t a.2.1)), some (vI (c (a.2.2.1 - 60)))] [] (hp (pl I b') L w) := by
        intro x
        refine ⟨upB b st.length (if x = true then 1 else 0), ⟨?_, plR_u _ (Nat.le_refl _) hb⟩, ?_⟩
        · unfold upB; rw [if_pos rfl]
        · rw [b145_243, ck_t (vin_c (by omega) (by omega)), ix_c (by omega), pl_upd, b145_247, c_s, c_s, show (if x = true then (1 : Int32) else 0) &&& 1 = (if x = true then 1 else 0) from by cases x <;> rfl]
      obtain ⟨b', k1, k2⟩ := key (vF (F145 I p t) a)
      refine ⟨b', some (vI (sg a)), some (vI (F145 I p t a.2.1)), some (vI (c (a.2.2.1 - 60))), k1, by rw [List.length_cons]; omega, ?_⟩
      rw [List.length_cons, ← k2]
      have hv : vF (F145 I p t) a = (if a.2.2.1 - 60 = 0 then decide (F145 I p t a.2.1 < c a.2.2.2) else if a.2.2.1 - 60 = 1 then decide (F145 I p t a.2.1 = c a.2.2.2) else decide (c a.2.2.2 < F145 I p t a.2.1)) := by
        unfold vF tst
        rw [if_neg (show ¬ c a.2.1 < 0 from tq_ng (a := a.2.1) (b := 0) (Nat.zero_le _) (by omega)), if_pos (show c a.2.1 < 6 from tq_gt (b := 6) q1 (by omega)), ix_c (by omega)]
        have h3 : a.2.2.1 = 60 ∨ a.2.2.1 = 61 ∨ a.2.2.1 = 62 := by omega
        rcases h3 with h3 | h3 | h3 <;> rw [h3] <;> rfl
      have h3 : a.2.2.1 - 60 = 0 ∨ a.2.2.1 - 60 = 1 ∨ a.2.2.1 - 60 = 2 := by omega
      rw [hv]
      rcases h3 with h3 | h3 | h3
      · rw [h3, if_pos (show c 0 = 0 from rfl), if_pos rfl]
        by_cases y : F145 I p t a.2.1 < c a.2.2.2
        · rw [if_pos y, decide_eq_true y, if_pos rfl]
        · rw [if_neg y, decide_eq_false y, if_neg (by decide)]
      · rw [h3, if_neg (show ¬ c 1 = 0 by decide), if_neg (show ¬ 1 = 0 by decide), if_pos (show c 1 = 1 from rfl), if_pos rfl]
        by_cases y : F145 I p t a.2.1 = c a.2.2.2
        · rw [if_pos y, decide_eq_true y, if_pos rfl]
        · rw [if_neg y, decide_eq_false y, if_neg (by decide)]
      · rw [h3, if_neg (show ¬ c 2 = 0 by decide), if_neg (show ¬ 2 = 0 by decide), if_neg (show ¬ c 2 = 1 by decide), if_neg (show ¬ 2 = 1 by decide)]
        by_cases y : c a.2.2.2 < F145 I p t a.2.1
        · rw [if_pos y, decide_eq_true y, if_pos rfl]
        · rw [if_neg y, decide_eq_false y, if_neg (by decide)]
    · rw [if_neg q] at h; cases h
  · rw [if_neg a0] at h
    by_cases a1 : a.1 = 1
    · rw [if_pos a1] at h
      have e0 : sg a = -33 := by unfold sg; rw [if_neg a0, if_pos a1]
      cases st with
      | nil => cases h
      | cons x r =>
        have h : some ((!x) :: r) = some st' := h
        rw [← Option.some.inj h, List.length_cons, List.length_cons, e0, if_pos rfl, show c (r.length + 1) - 1 = c r.length from by rw [show (1 : Int32) = c 1 from rfl, c_sub (by omega), Nat.add_sub_cancel]]
        rw [List.length_cons] at hl
        obtain ⟨hb1, hb2⟩ := hb
        rw [ck_t (vin_c (by omega) (by omega)), ck_t (vin_c (by omega) (by omega)), ix_c (by omega), pl_at, hb1, pl_upd, pl_upd]
        refine ⟨upB b r.length (if (!x) = true then 1 else 0), some (vI (-33)), o7, o8, ⟨?_, plR_u _ (Nat.le_refl _) hb2⟩, by omega, ?_⟩
        · unfold upB; rw [if_pos rfl]
        · cases x with
          | true =>
            rw [if_pos rfl, if_neg (show ¬ (1 : Int32) = 0 from by decide), ck_t (vin_c (by omega) (by omega)), b145_247, c_s]
            rfl
          | false =>
            rw [if_neg (show ¬ false = true by decide), if_pos rfl, b145_247, c_s]
            rfl
    · rw [if_neg a1] at h
      have two : ∀ (x y z : Bool) (r : List Bool), st = x :: y :: r → plR b (x :: y :: r) → plR (upB b r.length (if z = true then 1 else 0)) (z :: r) := by
        intro x y z r _ h
        refine ⟨?_, plR_u _ (Nat.le_refl _) h.2.2⟩
        unfold upB; rw [if_pos rfl]
      have fin : ∀ (r : List Bool) (z : Bool), r.length + 2 ≤ 100 → rn none (dn (d + 1)) 145 147 [some (vR 14944 0), some (vI (c ci)), some (vI (c p)), some (vI (c t)), some (vI (c (r.length + 1))), some (vI (c k)), some (vI (sg a)), o7, o8] [vI (if z = true then 1 else 0), vI (c r.length), vR 205682 0] (hp (pl I b) L w) = rn none (dn (d + 1)) 145 11 [some (vR 14944 0), some (vI (c ci)), some (vI (c p)), some (vI (c t)), some (vI (c (r.length + 1))), some (vI (c (k + 1))), some (vI (sg a)), o7, o8] [] (hp (pl I (upB b r.length (if z = true then 1 else 0))) L w) := by
        intro r z hr
        rw [b145_147, ck_t (vin_c (by omega) (by omega)), ix_c (by omega), pl_upd, b145_247, c_s, show (if z = true then (1 : Int32) else 0) &&& 1 = (if z = true then 1 else 0) from by cases z <;> rfl]
      by_cases a2 : a.1 = 2
      · rw [if_pos a2] at h
        have e0 : sg a = -38 := by unfold sg; rw [if_neg a0, if_neg a1, if_pos a2]
        cases st with
        | nil => cases h
        | cons x r =>
          cases r with
          | nil => cases h
          | cons y r =>
            have h : some ((y && x) :: r) = some st' := h
            rw [← Option.some.inj h]
            refine ⟨_, some (vI (sg a)), o7, o8, two x y (y && x) r rfl hb, by simp only [List.length_cons] at hl ⊢; omega, ?_⟩
            simp only [List.length_cons] at hl ⊢
            obtain ⟨hb1, hb2, hb3⟩ := hb
            rw [List.length_cons] at hb1
            rw [← fin r (y && x) (by omega), if_neg (by rw [e0]; decide), b145_67, if_pos (by rw [e0]; decide), b145_72]
            have s1 : c (r.length + 1 + 1) + (-1) = c (r.length + 1) := by
              have : ∀ z : Int32, z + (-1) = z - 1 := fun z => (Int32.sub_eq_add_neg z 1).symm
              rw [this, show (1 : Int32) = c 1 from rfl, c_sub (by omega), Nat.add_sub_cancel]
            have s2 : c (r.length + 1) - 1 = c r.length := by rw [show (1 : Int32) = c 1 from rfl, c_sub (by omega), Nat.add_sub_cancel]
            rw [s1, s2, b145_83, s2, if_pos e0, ck_t (vin_c (by omega) (by omega)), ix_c (by omega), pl_at, hb2]
            cases y with
            | false => rw [if_neg (show ¬ false = true by decide), if_pos rfl, Bool.false_and, if_neg (show ¬ false = true by decide)]
            | true =>
              rw [if_pos rfl, if_neg (show ¬ (1 : Int32) = 0 from by decide), b145_102, ck_t (vin_c (by omega) (by omega)), ix_c (by omega), pl_at, hb1, Bool.true_and]
              cases x with
              | true => rw [if_pos rfl, if_neg (show ¬ (1 : Int32) = 0 from by decide)]
              | false => rw [if_neg (show ¬ false = true by decide), if_pos rfl]
      · rw [if_neg a2] at h
        by_cases a3 : a.1 = 3
        · rw [if_pos a3] at h
          have e0 : sg a = -124 := by unfold sg; rw [if_neg a0, if_neg a1, if_neg a2]
          cases st with
          | nil => cases h
          | cons x r =>
            cases r with
            | nil => cases h
            | cons y r =>
              have h : some ((y || x) :: r) = some st' := h
              rw [← Option.some.inj h]
              refine ⟨_, some (vI (sg a)), o7, o8, two x y (y || x) r rfl hb, by simp only [List.length_cons] at hl ⊢; omega, ?_⟩
              simp only [List.length_cons] at hl ⊢
              obtain ⟨hb1, hb2, hb3⟩ := hb
              rw [List.length_cons] at hb1
              rw [← fin r (y || x) (by omega), if_neg (by rw [e0]; decide), b145_67, if_pos (by rw [e0]; decide), b145_72]
              have s1 : c (r.length + 1 + 1) + (-1) = c (r.length + 1) := by
                have : ∀ z : Int32, z + (-1) = z - 1 := fun z => (Int32.sub_eq_add_neg z 1).symm
                rw [this, show (1 : Int32) = c 1 from rfl, c_sub (by omega), Nat.add_sub_cancel]
              have s2 : c (r.length + 1) - 1 = c r.length := by rw [show (1 : Int32) = c 1 from rfl, c_sub (by omega), Nat.add_sub_cancel]
              rw [s1, s2, b145_83, if_neg (by rw [e0]; decide), b145_120, s2, ck_t (vin_c (by omega) (by omega)), ix_c (by omega), pl_at, hb2]
              cases y with
              | true => rw [if_pos rfl, if_neg (show ¬ (1 : Int32) = 0 from by decide), Bool.true_or, if_pos rfl]
              | false =>
                rw [if_neg (show ¬ false = true by decide), if_pos rfl, ck_t (vin_c (by omega) (by omega)), ix_c (by omega), pl_at, hb1, Bool.false_or]
                cases x with
                | true => rw [if_pos rfl, if_neg (show ¬ (1 : Int32) = 0 from by decide)]
                | false => rw [if_neg (show ¬ false = true by decide), if_pos rfl]
        · rw [if_neg a3] at h; cases h
end P98h
