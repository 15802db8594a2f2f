theorem elm_ivk {β : Type} {rt : Rs → Option β} {K : Nat → List (Option Vl) → List Vl → Hp → Option β} {E : Ev} {c a b pc : Nat} {L : List (Option Vl)} {st : List Vl} {h : Hp} : elm rt K (ivk E c a b pc L st h (fun pc L st h => some (Sum.inl (pc, L, st, h)))) = ivk E c a b pc L st h K := by
  unfold ivk
  repeat' split
  all_goals (try simp only [elm_ck])
  all_goals (first | rfl | ((repeat' split) <;> (try simp only [elm_ck]) <;> rfl))
set_option maxHeartbeats 4000000 in
set_option maxRecDepth 100000 in
theorem stp_nat {β : Type} {sc : Sc} {E : Ev} {m : Nat} {rt : Rs → Option β} {K : Nat → List (Option Vl) → List Vl → Hp → Option β} {pc : Nat} {L : List (Option Vl)} {st : List Vl} {h : Hp} : stp sc E m rt K pc L st h = elm rt K (fr sc E m pc L st h) := by
  unfold fr stp
  cases kode m pc with
  | none => rfl
  | some e =>
    obtain ⟨i, ln, cv, cl, a, b, c, sw⟩ := e
    cases i <;> (dsimp only) <;> (first | rfl | exact elm_ivk.symm | (rename_i cnd _; cases cnd <;> dsimp only <;> (repeat' split) <;> rfl) | (repeat' split) <;> (try simp only [elm_ck, elm_sw, elm_ite]) <;> (first | rfl | ((repeat' split) <;> rfl)))
theorem ivk_E {E E' : Ev} (hE : ∀ m a h x, E m a h = some x → E' m a h = some x) {c a b pc : Nat} {L : List (Option Vl)} {st : List Vl} {h : Hp} {y : St ⊕ Rs} (hh : ivk E c a b pc L st h (fun pc L st h => some (Sum.inl (pc, L, st, h))) = some y) : ivk E' c a b pc L st h (fun pc L st h => some (Sum.inl (pc, L, st, h))) = some y := by
  unfold ivk at hh ⊢
  cases hb : Nat.beq c 9999 with
  | true => rw [hb] at hh; exact hh
  | false =>
    rw [hb] at hh
    cases hb2 : Nat.beq c 9998 with
    | true => rw [hb2] at hh; exact hh
    | false =>
      rw [hb2] at hh
      cases hb3 : Nat.beq c 223 with
      | true => rw [hb3] at hh; exact hh
      | false =>
        rw [hb3] at hh
        cases hb4 : Nat.beq c 224 with
        | true => rw [hb4] at hh; exact hh
        | false =>
          rw [hb4] at hh
          dsimp only at hh ⊢
          obtain ⟨h1, h2⟩ := ck_some hh
          rw [ck_t h1]
          cases he : E c (st.take a).reverse h with
          | none => rw [he] at h2; cases h2
          | some z => rw [he] at h2; rw [hE _ _ _ _ he]; exact h2
set_option maxHeartbeats 4000000 in
theorem fr_E {sc : Sc} {E E' : Ev} (hE : ∀ m a h x, E m a h = some x → E' m a h = some x) {m pc : Nat} {L : List (Option Vl)} {st : List Vl} {h : Hp} {y : St ⊕ Rs} : fr sc E m pc L st h = some y → fr sc E' m pc L st h = some y := by
  unfold fr stp
  cases kode m pc with
  | none => exact id
  | some e =>
    obtain ⟨i, ln, cv, cl, a, b, c, sw⟩ := e
    cases i <;> (dsimp only) <;> first | exact id | exact ivk_E hE | (rename_i cnd _; cases cnd <;> exact id)
def run (sc : Sc) (E : Ev) (m n pc : Nat) (L : List (Option Vl)) (st : List Vl) (h : Hp) : Option Rs := rk sc E m some (fun _ _ _ _ => none) n pc L st h
theorem run_s {sc : Sc} {E : Ev} {m n pc : Nat} {L : List (Option Vl)} {st : List Vl} {h : Hp} : run sc E m (n + 1) pc L st h = elm some (run sc E m n) (fr sc E m pc L st h) := by
  show stp sc E m some (rk sc E m some (fun _ _ _ _ => none) n) pc L st h = _
  rw [stp_nat]
  rfl
theorem run_mono {sc : Sc} {E E' : Ev} (hE : ∀ m a h x, E m a h = some x → E' m a h = some x) {m : Nat} {x : Rs} : ∀ (n k : Nat) (pc : Nat) (L : List (Option Vl)) (st : List Vl) (h : Hp), run sc E m n pc L st h = some x → run sc E' m (n + k) pc L st h = some x := by
  intro n
  induction n with
  | zero => intro k pc L st h hh; cases hh
  | succ n ih =>
    intro k pc L st h hh
    rw [show n + 1 + k = (n + k) + 1 by omega, run_s]
    rw [run_s] at hh
    cases hf : fr sc E m pc L st h with
    | none => rw [hf] at hh; cases hh
    | some y =>
      rw [fr_E hE hf]
      rw [hf] at hh
      cases y with
      | inl s => exact ih k _ _ _ _ hh
      | inr r => exact hh
/-- the machine, as long as it takes -/
noncomputable def rn (sc : Sc) (E : Ev) (m pc : Nat) (L : List (Option Vl)) (st : List Vl) (h : Hp) : Option Rs :=
  @dite _ (∃ x n, run sc E m n pc L st h = some x) (Classical.propDecidable _) (fun hx => some (Classical.choose hx)) (fun _ => none)
theorem rn_of {sc : Sc} {E : Ev} {m n pc : Nat} {L : List (Option Vl)} {st : List Vl} {h : Hp} {x : Rs} (hh : run sc E m n pc L st h = some x) : rn sc E m pc L st h = some x := by
  have hx : ∃ x n, run sc E m n pc L st h = some x := ⟨x, n, hh⟩
  unfold rn
  rw [dif_pos hx]
  obtain ⟨n', h'⟩ := Classical.choose_spec hx
  have a1 := run_mono (E' := E) (fun _ _ _ _ h => h) n n' pc L st h hh
  have a2 := run_mono (E' := E) (fun _ _ _ _ h => h) n' n pc L st h h'
  rw [Nat.add_comm, a1] at a2
  exact a2.symm
theorem rn_inv {sc : Sc} {E : Ev} {m pc : Nat} {L : List (Option Vl)} {st : List Vl} {h : Hp} {x : Rs} (hh : rn sc E m pc L st h = some x) : ∃ n, run sc E m n pc L st h = some x := by
  by_cases hx : ∃ x n, run sc E m n pc L st h = some x
  · obtain ⟨x', n, h'⟩ := hx
    rw [rn_of h'] at hh
    cases hh
    exact ⟨n, h'⟩
  · unfold rn at hh
    rw [dif_neg hx] at hh
    cases hh
theorem rn_fix {sc : Sc} {E : Ev} {m pc : Nat} {L : List (Option Vl)} {st : List Vl} {h : Hp} : rn sc E m pc L st h = stp sc E m some (rn sc E m) pc L st h := by
  rw [stp_nat]
  apply Option.ext
  intro x
  constructor
  · intro hh
    obtain ⟨n, hn⟩ := rn_inv hh
    cases n with
    | zero => cases hn
    | succ n =>
      rw [run_s] at hn
      cases hf : fr sc E m pc L st h with
      | none => rw [hf] at hn; cases hn
      | some y =>
        rw [hf] at hn
        cases y with
        | inl s => exact rn_of hn
        | inr r => exact hn
  · intro hh
    cases hf : fr sc E m pc L st h with
    | none => rw [hf] at hh; cases hh
    | some y =>
      rw [hf] at hh
      cases y with
      | inl s =>
        obtain ⟨n, hn⟩ := rn_inv hh
        exact rn_of (n := n + 1) (by rw [run_s, hf]; exact hn)
      | inr r => exact rn_of (n := 1) (by rw [run_s, hf]; exact hh)
theorem rn_it {sc : Sc} {E : Ev} {m : Nat} : ∀ (n pc : Nat) (L : List (Option Vl)) (st : List Vl) (h : Hp), rn sc E m pc L st h = rk sc E m some (rn sc E m) n pc L st h := by
  intro n
  induction n with
  | zero => intro pc L st h; rfl
  | succ n ih =>
    intro pc L st h
    rw [rn_fix]
    show _ = stp sc E m some (rk sc E m some (rn sc E m) n) pc L st h
    rw [show rk sc E m some (rn sc E m) n = rn sc E m from funext fun pc => funext fun L => funext fun st => funext fun h => (ih pc L st h).symm]
def lcl (args : List Vl) : List (Option Vl) := args.flatMap fun v => match isL v with | true => [some v, none] | false => [some v]
/-- where the longs lie -/
def lps (i : Nat) : List Vl → List Nat
  | [] => []
  | v :: r => match isL v with | true => i :: lps (i + 2) r | false => lps (i + 1) r
def leq : List Nat → List Nat → Bool
  | [], [] => true
  | a :: r, b :: q => Nat.beq a b && leq r q
  | _, _ => false
def ent (n : Nat) (args : List Vl) : List (Option Vl) := lcl args ++ List.replicate (n - (lcl args).length) none
/-- what method m answers, by calls at most d deep -/
noncomputable def dn : Nat → Ev
  | 0 => fun _ _ _ => none
  | d + 1 => fun m args h => ck (Nat.ble (lcl args).length (mL m) && leq (lps 0 args) (lgP m)) (rn none (dn d) m 0 (ent (mL m) args) [] h)
theorem dn_mono1 : ∀ (d m : Nat) (a : List Vl) (h : Hp) (x : Rs), dn d m a h = some x → dn (d + 1) m a h = some x := by
  intro d
  induction d with
  | zero => intro m a h x hh; cases hh
  | succ d ih =>
    intro m a h x hh
    obtain ⟨h1, h2⟩ := ck_some hh
    obtain ⟨n, hn⟩ := rn_inv h2
    show ck _ (rn none (dn (d + 1)) m 0 _ [] h) = some x
    rw [ck_t h1]
    exact rn_of (n := n + 0) (run_mono ih n 0 _ _ _ _ hn)
theorem dn_mono {d e m : Nat} {a : List Vl} {h : Hp} {x : Rs} (hde : d ≤ e) (hh : dn d m a h = some x) : dn e m a h = some x := by
  obtain ⟨k, rfl⟩ := Nat.exists_eq_add_of_le hde
  induction k with
  | zero => exact hh
  | succ k ih => exact dn_mono1 _ _ _ _ _ (ih (Nat.le_add_right _ _))
