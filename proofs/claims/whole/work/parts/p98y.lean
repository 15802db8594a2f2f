set_option maxHeartbeats 400000
/-! what the constructors leave, reckoned -/
def dnF (F : Nat) : Nat → Ev
  | 0 => fun _ _ _ => none
  | d + 1 => fun m args h => ck (Nat.ble (lcl args).length (mL m) && leq (lps 0 args) (lgP m)) (run none (dnF F d) m F 0 (ent (mL m) args) [] h)
theorem dnF_dn {F : Nat} : ∀ (d m : Nat) (a : List Vl) (h : Hp) (x : Rs), dnF F d m a h = some x → dn d m a h = some x := by
  intro d
  induction d with
  | zero => intro m a h x hh; cases hh
  | succ d ih =>
    intro m a h x hh
    obtain ⟨h1, h2⟩ := ck_some hh
    show ck _ (rn none (dn d) m 0 _ [] h) = some x
    rw [ck_t h1]
    exact rn_of (n := F + 0) (run_mono ih F 0 _ _ _ _ h2)
/-- n instructions, to where they lead -/
def rs (sc : Sc) (E : Ev) (m : Nat) : Nat → Nat → List (Option Vl) → List Vl → Hp → Option St := rk sc E m (fun _ => none) (fun pc L st h => some (pc, L, st, h))
theorem rs_s {sc : Sc} {E : Ev} {m n pc : Nat} {L : List (Option Vl)} {st : List Vl} {h : Hp} : rs sc E m (n + 1) pc L st h = elm (fun _ => none) (rs sc E m n) (fr sc E m pc L st h) := by
  show stp sc E m (fun _ => none) (rs sc E m n) pc L st h = _
  exact stp_nat
set_option maxHeartbeats 4000000 in
theorem fr_sc {sc : Sc} {E : Ev} {m pc : Nat} {L : List (Option Vl)} {st : List Vl} {h : Hp} {y : St ⊕ Rs} : fr none E m pc L st h = some y → fr sc E m pc L st h = some y := by
  unfold fr stp
  cases kode m pc with
  | none => exact id
  | some e =>
    obtain ⟨i, ln, cv, cl, a, b, k, sw⟩ := e
    cases i with
    | ifCond cnd _ => cases cnd <;> exact id
    | if_icmp cnd _ => cases cnd <;> exact id
    | iaload =>
      dsimp only
      intro hh
      split at hh
      · revert hh
        generalize tK _ = z
        intro hh
        split at hh
        · exact hh
        · cases hh
        · exact hh
        · cases hh
      · cases hh
    | arraylength =>
      dsimp only
      intro hh
      split at hh
      · revert hh
        generalize tK _ = z
        intro hh
        split at hh <;> first | exact hh | cases hh
      · cases hh
    | _ => exact id
theorem rs_up {sc : Sc} {E E' : Ev} (hE : ∀ m a h x, E m a h = some x → E' m a h = some x) {m : Nat} {x : St} : ∀ (n pc : Nat) (L : List (Option Vl)) (st : List Vl) (h : Hp), rs none E m n pc L st h = some x → rs sc E' m n pc L st h = some x := by
  intro n
  induction n with
  | zero => intro pc L st h hh; exact hh
  | succ n ih =>
    intro pc L st h hh
    rw [rs_s] at hh ⊢
    cases hf : fr none E m pc L st h with
    | none => rw [hf] at hh; cases hh
    | some y =>
      rw [fr_sc (fr_E hE hf)]
      rw [hf] at hh
      cases y with
      | inl s => exact ih _ _ _ _ hh
      | inr r => exact hh
section SND
variable {p : Program} {l : Launch} {e : Env} {R : Room} {s : State} {m0 : MethodId} {args : Array Value} {below : List Frame} {meth : Method} {c0 : Code} {Q : State → Prop} {A : Nat → Prop} {dC : Nat → ClassId} {dI : Nat → Nat → Nat} {dA : Nat → ClassId} {ad0 : Nat → Nat → Nat} {sc : Sc} {m n0 s0 pc : Nat} {L : List (Option Vl)} {st r : List Vl} {h : Hp}
/-- from where they lead, back -/
theorem tm_rs {d : Nat} {rr : Rs} {x : St} (C : Fx p s m0 args c0 A m) (hin : (mY m).name = "<init>" → meth.name = "<init>") (hR : d + 1 ≤ R.frames ∧ 40 * (d + 1) ≤ R.locals) (hCE : rr.2.1 ≤ n0 + R.cells ∧ rr.2.2.1 ≤ s0 + R.slots)
    (hE : ∀ c args h v h', c < 226 → c ≠ 206 → (c ≠ 223 ∧ c ≠ 224) → dn d c args h = some (v, h') → h.1 ≤ h'.1 ∧ h.2.1 ≤ h'.2.1 ∧ (okH h → okS h.1 args → MetD l dC dI dA d c args h v h'))
    (hret : RetOK p l e R s m0 args below meth c0 Q A dC dI dA ad0 sc m n0 s0 rr) (hT : Tm p l e R s m0 args below meth c0 Q A dC dI dA ad0 sc m n0 s0 x.1 x.2.1 x.2.2.1 x.2.2.2) (hx : x.2.2.2.1 ≤ rr.2.1 ∧ x.2.2.2.2.1 ≤ rr.2.2.1) :
    ∀ (n pc : Nat) (L : List (Option Vl)) (st : List Vl) (h : Hp), rs sc (dn d) m n pc L st h = some x → (h.1 ≤ rr.2.1 ∧ h.2.1 ≤ rr.2.2.1) ∧ Tm p l e R s m0 args below meth c0 Q A dC dI dA ad0 sc m n0 s0 pc L st h := by
  intro n
  induction n with
  | zero =>
    intro pc L st h hh
    have hh : some (pc, L, st, h) = some x := hh
    cases hh
    exact ⟨hx, hT⟩
  | succ n ih =>
    intro pc L st h hh
    rw [rs_s] at hh
    cases hf : fr sc (dn d) m pc L st h with
    | none => rw [hf] at hh; cases hh
    | some y =>
      rw [hf] at hh
      cases y with
      | inr r => cases hh
      | inl u =>
        have hh : rs sc (dn d) m n u.1 u.2.1 u.2.2.1 u.2.2.2 = some x := hh
        have hi := (ih _ _ _ _ hh).1
        have h3 : h.1 ≤ u.2.2.2.1 ∧ h.2.1 ≤ u.2.2.2.2.1 := fr_n (dn_n d) hf
        refine ⟨⟨Nat.le_trans h3.1 hi.1, Nat.le_trans h3.2 hi.2⟩, stp_snd (K := fun pc L st h => @ite (Option Rs) (rs sc (dn d) m n pc L st h = some x) (Classical.propDecidable _) (some rr) none) C hin hR hCE (fun pc L st h q => ?_) (fun pc L st h q => ?_) hE hret ?_⟩
        · by_cases z : rs sc (dn d) m n pc L st h = some x
          · exact (ih _ _ _ _ z).1
          · rw [if_neg z] at q; cases q
        · by_cases z : rs sc (dn d) m n pc L st h = some x
          · exact (ih _ _ _ _ z).2
          · rw [if_neg z] at q; cases q
        · rw [stp_nat, hf]
          exact if_pos hh
/-- heaps that the JVM cannot tell apart -/
theorem tm_eq {h' : Hp} (h1 : h.1 = h'.1) (h2 : h.2.1 = h'.2.1) (hw : ∀ ad, wl dA ad h = wl dA ad h') (ho : okH h') (hT : Tm p l e R s m0 args below meth c0 Q A dC dI dA ad0 sc m n0 s0 pc L st h') : Tm p l e R s m0 args below meth c0 Q A dC dI dA ad0 sc m n0 s0 pc L st h := by
  intro ad H locs ls g1 g2 g3 g4 g5 g6
  obtain ⟨q1, q2, q3, q4, q5, q6⟩ := g4
  rw [h1] at g2 g5 g6
  rw [h2] at g3
  rw [hw] at q1 q2
  have := hT ad H locs ls g1 g2 g3 ⟨q1, q2, q3, ho, q5, q6⟩ g5 g6
  rw [h1, h2]
  exact this
end SND
