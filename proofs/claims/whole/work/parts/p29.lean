/-- world a holds town e -/
def sW (w : Nat → Nat) (a e : Nat) : Nat → Nat := fun k => if k = a then e else w k
set_option maxRecDepth 100000 in
theorem uR_sW {w : Nat → Nat} {a e : Nat} : uR (SR w) 10464 a 11 (some (6288, e)) = SR (sW w a e) := by
  funext t k j
  unfold uR
  by_cases h : t = 10464 ∧ k = a ∧ j = 11
  · obtain ⟨rfl, rfl, rfl⟩ := h
    rw [if_pos ⟨rfl, rfl, rfl⟩]
    show some (6288, e) = some (6288, sW w k e k)
    unfold sW
    rw [if_pos rfl]
  · rw [if_neg h]
    unfold SR
    by_cases h1 : t = 10464
    · subst h1
      by_cases h2 : j = 11
      · subst h2
        have h3 : k ≠ a := fun z => h ⟨rfl, z, rfl⟩
        show some (6288, w k) = some (6288, sW w a e k)
        unfold sW
        rw [if_neg h3]
      · have h3 : Nat.beq j 11 = false := by
          cases hb : Nat.beq j 11 with
          | true => exact absurd (Nat.eq_of_beq_eq_true hb) h2
          | false => rfl
        simp only [h3, cond_false]
    · have h3 : Nat.beq t 10464 = false := by
        cases hb : Nat.beq t 10464 with
        | true => exact absurd (Nat.eq_of_beq_eq_true hb) h1
        | false => rfl
      simp only [h3, cond_false]
theorem hUR_sW {I : FI} {L : FL} {w : Nat → Nat} {a e : Nat} : hUR (hp I L w) 10464 a 11 (some (6288, e)) = hp I L (sW w a e) := by
  unfold hUR hp
  rw [show hR (172, 5908, I, L, SR w) = SR w from rfl, uR_sW]
  rfl
