/-- world a holds town e -/
def sW (w : Nat → Nat) (a e : Nat) : Nat → Nat := fun k => if k = a then e else w k
set_option maxRecDepth 100000 in
theorem uR_sW {w : Nat → Nat} {a e : Nat} : uR (SR w) 10464 a 11 (some (6288, e)) = SR (sW w a e) := by
  funext t k j
  unfold uR
  by_cases h : t = 10464 ∧ k = a ∧ j = 11
  · obtain ⟨rfl, rfl, rfl⟩ := h
    rw [if_pos ⟨rfl, rfl, rfl⟩]
    show some (6288, e) = some (6288, sW w k e k)
    unfold sW
    rw [if_pos rfl]
  · rw [if_neg h]
    unfold SR
    by_cases h1 : t = 10464
    · subst h1
      by_cases h2 : j = 11
      · subst h2
        have h3 : k ≠ a := fun z => h ⟨rfl, z, rfl⟩
        show some (6288, w k) = some (6288, sW w a e k)
        unfold sW
        rw [if_neg h3]
      · have h3 : Nat.beq j 11 = false := by
          cases hb : Nat.beq j 11 with
          | true => exact absurd (Nat.eq_of_beq_eq_true hb) h2
          | false => rfl
        simp only [h3, cond_false]
    · have h3 : Nat.beq t 10464 = false := by
        cases hb : Nat.beq t 10464 with
        | true => exact absurd (Nat.eq_of_beq_eq_true hb) h1
        | false => rfl
      simp only [h3, cond_false]
theorem hUR_sW {I : FI} {L : FL} {w : Nat → Nat} {a e : Nat} : hUR (hp I L w) 10464 a 11 (some (6288, e)) = hp I L (sW w a e) := by
  unfold hUR hp
  rw [show hR (172, 5908, I, L, SR w) = SR w from rfl, uR_sW]
def bn {β : Type} (x : Option Rs) (f : Option Vl → Hp → Option β) : Option β := match x with | some (v, h') => f v h' | none => none
theorem bn_s {β : Type} {v : Option Vl} {h : Hp} {f : Option Vl → Hp → Option β} : bn (some (v, h)) f = f v h := rfl
def ldr (pc : Nat) : List Nat → Bool
  | [] => false
  | a :: r => bif Nat.beq pc a then true else ldr pc r
/-- n instructions, and K at the next place of the list -/
def rl {β : Type} (sc : Sc) (E : Ev) (m : Nat) (ld : List Nat) (rt : Rs → Option β) (K : Nat → List (Option Vl) → List Vl → Hp → Option β) : Nat → Nat → List (Option Vl) → List Vl → Hp → Option β
  | 0 => K
  | n + 1 => fun pc L st h => bif ldr pc ld then K pc L st h else stp sc E m rt (rl sc E m ld rt K n) pc L st h
theorem rl_rn {sc : Sc} {E : Ev} {m : Nat} {ld : List Nat} : ∀ (n pc : Nat) (L : List (Option Vl)) (st : List Vl) (h : Hp), rl sc E m ld some (rn sc E m) n pc L st h = rn sc E m pc L st h := by
  intro n
  induction n with
  | zero => intro pc L st h; rfl
  | succ n ih =>
    intro pc L st h
    show (bif ldr pc ld then rn sc E m pc L st h else stp sc E m some (rl sc E m ld some (rn sc E m) n) pc L st h) = _
    cases ldr pc ld with
    | true => rfl
    | false =>
      show stp sc E m some (rl sc E m ld some (rn sc E m) n) pc L st h = _
      rw [show rl sc E m ld some (rn sc E m) n = rn sc E m from funext fun pc => funext fun L => funext fun st => funext fun h => ih pc L st h]
      exact rn_fix.symm
theorem rn_il {sc : Sc} {E : Ev} {m : Nat} (ld : List Nat) (n pc : Nat) (L : List (Option Vl)) (st : List Vl) (h : Hp) : rn sc E m pc L st h = stp sc E m some (rl sc E m ld some (rn sc E m) n) pc L st h := by
  rw [show rl sc E m ld some (rn sc E m) n = rn sc E m from funext fun pc => funext fun L => funext fun st => funext fun h => rl_rn n pc L st h]
  exact rn_fix
