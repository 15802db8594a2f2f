/-- a method comes to its end with rr -/
def RetOK (p : Program) (l : Launch) (e : Env) (R : Room) (s : State) (m0 : MethodId) (args : Array Value) (below : List Frame) (meth : Method) (c0 : Code) (Q : State → Prop) (A : Nat → Prop) (dC : Nat → ClassId) (dI : Nat → Nat → Nat) (dA : Nat → ClassId) (ad0 : Nat → Nat → Nat) (sc : Sc) (m n0 s0 : Nat) (rr : Rs) : Prop :=
  ∀ (pc : Nat) (L : List (Option Vl)) (h : Hp),
    (∀ (x : Int32) (ty : FieldType), decode (mB m) pc = .ok (.ireturn, 1) → mR m = some ty → narrow ty (.int x) = .int x → rr = (some (.inl x), h) → Tm p l e R s m0 args below meth c0 Q A dC dI dA ad0 sc m n0 s0 pc L [.inl x] h) ∧
    (∀ (x : Int64), decode (mB m) pc = .ok (.lreturn, 1) → mR m = some .long → rr = (some (.inr (.inl x)), h) → Tm p l e R s m0 args below meth c0 Q A dC dI dA ad0 sc m n0 s0 pc L [.inr (.inl x)] h) ∧
    (∀ (q : Nat × Nat) (ty : FieldType), decode (mB m) pc = .ok (.areturn, 1) → mR m = some ty → isRf ty = true → rr = (some (.inr (.inr (some q))), h) → Tm p l e R s m0 args below meth c0 Q A dC dI dA ad0 sc m n0 s0 pc L [.inr (.inr (some q))] h) ∧
    (decode (mB m) pc = .ok (.return_, 1) → mR m = none → rr = (none, h) → Tm p l e R s m0 args below meth c0 Q A dC dI dA ad0 sc m n0 s0 pc L [] h)
theorem rev_last {l : List Vl} {x : Vl} (h : l.getLast? = some x) : ∃ l', l = l' ++ [x] := by
  obtain ⟨l', e⟩ := List.getLast?_eq_some_iff.mp h
  exact ⟨l', e⟩
theorem rok_nar {c : Nat} {x : Int32} {ty : FieldType} (h : rok c x = true) (hc : (c = 0 ∧ ty = .int) ∨ (c = 1 ∧ ty = .boolean) ∨ (c = 2 ∧ ty = .byte) ∨ (c = 3 ∧ ty = .char)) : narrow ty (.int x) = .int x := by
  rcases hc with ⟨rfl, rfl⟩ | ⟨rfl, rfl⟩ | ⟨rfl, rfl⟩ | ⟨rfl, rfl⟩
  · rfl
  · show Value.int (x &&& 1) = Value.int x
    rw [isB_of h]
  · show Value.int x.toInt8.toInt32 = Value.int x
    rw [eq_of_beq (show (x.toInt8.toInt32 == x) = true from h)]
  · show Value.int x.toUInt32.toUInt16.toUInt32.toInt32 = Value.int x
    rw [eq_of_beq (show (x.toUInt32.toUInt16.toUInt32.toInt32 == x) = true from h)]
section SND
variable {p : Program} {l : Launch} {e : Env} {R : Room} {s : State} {m0 : MethodId} {args : Array Value} {below : List Frame} {meth : Method} {c0 : Code} {Q : State → Prop} {A : Nat → Prop} {dC : Nat → ClassId} {dI : Nat → Nat → Nat} {dA : Nat → ClassId} {ad0 : Nat → Nat → Nat} {sc : Sc} {m n0 s0 pc : Nat} {L : List (Option Vl)} {st r : List Vl} {h : Hp}
set_option maxHeartbeats 4000000 in
theorem stp_snd {d : Nat} {rr : Rs} {K : Nat → List (Option Vl) → List Vl → Hp → Option Rs} (C : Fx p s m0 args c0 A m) (hin : (mY m).name = "<init>" → meth.name = "<init>") (hR : d + 1 ≤ R.frames ∧ 40 * (d + 1) ≤ R.locals) (hCE : rr.2.1 ≤ n0 + R.cells ∧ rr.2.2.1 ≤ s0 + R.slots)
    (hKm : ∀ pc L st h, K pc L st h = some rr → h.1 ≤ rr.2.1 ∧ h.2.1 ≤ rr.2.2.1) (hK : ∀ pc L st h, K pc L st h = some rr → Tm p l e R s m0 args below meth c0 Q A dC dI dA ad0 sc m n0 s0 pc L st h)
    (hE : ∀ c args h v h', c < 226 → c ≠ 206 → (c ≠ 223 ∧ c ≠ 224) → dn d c args h = some (v, h') → h.1 ≤ h'.1 ∧ h.2.1 ≤ h'.2.1 ∧ (okH h → okS h.1 args → MetD l dC dI dA d c args h v h'))
    (hret : RetOK p l e R s m0 args below meth c0 Q A dC dI dA ad0 sc m n0 s0 rr) (hstp : stp sc (dn d) m some K pc L st h = some rr) : Tm p l e R s m0 args below meth c0 Q A dC dI dA ad0 sc m n0 s0 pc L st h := by
  have hR1 : 1 ≤ R.frames ∧ 40 ≤ R.locals := by omega
  unfold stp at hstp
  cases hk : kode m pc with
  | none => rw [hk] at hstp; cases hstp
  | some en =>
    obtain ⟨i, ln, cv, cl, a, b, c, sw⟩ := en
    obtain ⟨hm, hpc, hch⟩ := kode_chk hk
    rw [hk] at hstp
    unfold chE at hch
    obtain ⟨hdec, hchI⟩ := Bool.and_eq_true_iff.mp hch
    have hd : decode (mB m) pc = .ok (i, ln) := by
      cases hdq : decode (mB m) pc with
      | error z => rw [hdq] at hdec; cases hdec
      | ok q =>
        obtain ⟨j, n⟩ := q
        rw [hdq] at hdec
        obtain ⟨d1, d2⟩ := Bool.and_eq_true_iff.mp hdec
        rw [of_decide_eq_true d1, beq_t d2]
    clear hdec hch hk
    dsimp only at hstp hchI
    cases i with
    | iconst n =>
      dsimp only at hstp
      obtain ⟨c1, c2⟩ := Bool.and_eq_true_iff.mp (show (_ && _) = true from hchI)
      have hl := beq_t c2
      subst hl
      exact sn_iconst C hd (eq_of_beq c1) (hK _ _ _ _ hstp)
    | bipush n =>
      dsimp only at hstp
      obtain ⟨c1, c2⟩ := Bool.and_eq_true_iff.mp (show (_ && _) = true from hchI)
      have hl := beq_t c2
      subst hl
      exact sn_bipush C hd (eq_of_beq c1) (hK _ _ _ _ hstp)
    | sipush n =>
      dsimp only at hstp
      obtain ⟨c1, c2⟩ := Bool.and_eq_true_iff.mp (show (_ && _) = true from hchI)
      have hl := beq_t c2
      subst hl
      exact sn_sipush C hd (eq_of_beq c1) (hK _ _ _ _ hstp)
    | lconst n =>
      dsimp only at hstp
      obtain ⟨c1, c2⟩ := Bool.and_eq_true_iff.mp (show (_ && _) = true from hchI)
      have hl := beq_t c2
      subst hl
      exact sn_lconst C hd (eq_of_beq c1) (hK _ _ _ _ hstp)
    | ldc x =>
      dsimp only at hstp
      obtain ⟨c1, c2⟩ := Bool.and_eq_true_iff.mp (show (_ && _) = true from hchI)
      obtain ⟨c1, c3⟩ := Bool.and_eq_true_iff.mp c1
      have hl := beq_t c1
      subst hl
      cases hs : slk (mC m * 2048 + x) with
      | none => rw [hs] at c2; cases c2
      | some z =>
        obtain ⟨k, pl⟩ := z
        rw [hs] at c2
        have hk := beq_t c2
        subst hk
        exact sn_ldcS C hd (blt_t c3) hs (hK _ _ _ _ hstp)
    | ldc_w x =>
      dsimp only at hstp
      obtain ⟨c1, c2⟩ := Bool.and_eq_true_iff.mp (show (_ && _) = true from hchI)
      obtain ⟨c1, c3⟩ := Bool.and_eq_true_iff.mp c1
      have hl := beq_t c1
      subst hl
      cases hs : kck (mC m * 2048 + x) with
      | none => rw [hs] at c2; cases c2
      | some z =>
        obtain ⟨k, pl⟩ := z
        rw [hs] at c2
        have hk := eq_of_beq c2
        subst hk
        exact sn_ldcw C hd (blt_t c3) hs (hK _ _ _ _ hstp)
    | ldc2_w x =>
      dsimp only at hstp
      obtain ⟨c1, c2⟩ := Bool.and_eq_true_iff.mp (show (_ && _) = true from hchI)
      obtain ⟨c1, c3⟩ := Bool.and_eq_true_iff.mp c1
      have hl := beq_t c1
      subst hl
      cases hs : klk (mC m * 2048 + x) with
      | none => rw [hs] at c2; cases c2
      | some z =>
        obtain ⟨k, pl⟩ := z
        rw [hs] at c2
        have hk := eq_of_beq c2
        subst hk
        exact sn_ldc2 C hd (blt_t c3) hs (hK _ _ _ _ hstp)
    | iload_n k =>
      dsimp only at hstp
      obtain ⟨c1, c2⟩ := Bool.and_eq_true_iff.mp (show (_ && _) = true from hchI)
      have hl := beq_t c2
      subst hl
      split at hstp
      · rename_i hl
        exact sn_iload_n C hd (beq_t c1).symm hl (hK _ _ _ _ hstp)
      · cases hstp
    | lload_n k =>
      dsimp only at hstp
      obtain ⟨c1, c2⟩ := Bool.and_eq_true_iff.mp (show (_ && _) = true from hchI)
      have hl := beq_t c2
      subst hl
      split at hstp
      · rename_i hl
        exact sn_lload_n C hd (beq_t c1).symm hl (hK _ _ _ _ hstp)
      · cases hstp
    | aload_n k =>
      dsimp only at hstp
      obtain ⟨c1, c2⟩ := Bool.and_eq_true_iff.mp (show (_ && _) = true from hchI)
      have hl := beq_t c2
      subst hl
      split at hstp
      · rename_i hl
        exact sn_aload_n C hd (beq_t c1).symm hl (hK _ _ _ _ hstp)
      · cases hstp
    | iload k =>
      dsimp only at hstp
      obtain ⟨c1, c2⟩ := Bool.and_eq_true_iff.mp (show (_ && _) = true from hchI)
      have hl := beq_t c2
      subst hl
      have hk := beq_t c1
      subst hk
      split at hstp
      · rename_i hl
        exact sn_iload C hd hl (hK _ _ _ _ hstp)
      · cases hstp
    | aload k =>
      dsimp only at hstp
      obtain ⟨c1, c2⟩ := Bool.and_eq_true_iff.mp (show (_ && _) = true from hchI)
      have hl := beq_t c2
      subst hl
      have hk := beq_t c1
      subst hk
      split at hstp
      · rename_i hl
        exact sn_aload C hd hl (hK _ _ _ _ hstp)
      · cases hstp
    | istore_n k =>
      dsimp only at hstp
      obtain ⟨c1, c2⟩ := Bool.and_eq_true_iff.mp (show (_ && _) = true from hchI)
      obtain ⟨c1, c3⟩ := Bool.and_eq_true_iff.mp c1
      have hl := beq_t c2
      subst hl
      split at hstp
      · exact sn_istore_n C hd (beq_t c1).symm c3 (hK _ _ _ _ hstp)
      · cases hstp
    | astore_n k =>
      dsimp only at hstp
      obtain ⟨c1, c2⟩ := Bool.and_eq_true_iff.mp (show (_ && _) = true from hchI)
      obtain ⟨c1, c3⟩ := Bool.and_eq_true_iff.mp c1
      have hl := beq_t c2
      subst hl
      split at hstp
      · exact sn_astore_n C hd (beq_t c1).symm c3 (hK _ _ _ _ hstp)
      · cases hstp
    | istore k =>
      dsimp only at hstp
      obtain ⟨c1, c2⟩ := Bool.and_eq_true_iff.mp (show (_ && _) = true from hchI)
      obtain ⟨c1, c3⟩ := Bool.and_eq_true_iff.mp c1
      have hl := beq_t c2
      subst hl
      have hk := beq_t c1
      subst hk
      split at hstp
      · exact sn_istore C hd c3 (hK _ _ _ _ hstp)
      · cases hstp
    | astore k =>
      dsimp only at hstp
      obtain ⟨c1, c2⟩ := Bool.and_eq_true_iff.mp (show (_ && _) = true from hchI)
      obtain ⟨c1, c3⟩ := Bool.and_eq_true_iff.mp c1
      have hl := beq_t c2
      subst hl
      have hk := beq_t c1
      subst hk
      split at hstp
      · exact sn_astore C hd c3 (hK _ _ _ _ hstp)
      · cases hstp
    | iinc k n =>
      dsimp only at hstp
      obtain ⟨c1, c2⟩ := Bool.and_eq_true_iff.mp (show (_ && _) = true from hchI)
      obtain ⟨c1, c3⟩ := Bool.and_eq_true_iff.mp c1
      obtain ⟨c1, c4⟩ := Bool.and_eq_true_iff.mp c1
      have hl := beq_t c2
      subst hl
      have hk := beq_t c1
      subst hk
      split at hstp
      · rename_i hl
        exact sn_iinc C hd hl (eq_of_beq c4) c3 (hK _ _ _ _ hstp)
      · cases hstp
    | iadd =>
      dsimp only at hstp
      have hl := beq_t (show Nat.beq ln 1 = true from hchI)
      subst hl
      split at hstp
      · exact sn_iadd C hd (hK _ _ _ _ hstp)
      · cases hstp
    | isub =>
      dsimp only at hstp
      have hl := beq_t (show Nat.beq ln 1 = true from hchI)
      subst hl
      split at hstp
      · exact sn_isub C hd (hK _ _ _ _ hstp)
      · cases hstp
    | imul =>
      dsimp only at hstp
      have hl := beq_t (show Nat.beq ln 1 = true from hchI)
      subst hl
      split at hstp
      · exact sn_imul C hd (hK _ _ _ _ hstp)
      · cases hstp
    | ineg =>
      dsimp only at hstp
      have hl := beq_t (show Nat.beq ln 1 = true from hchI)
      subst hl
      split at hstp
      · exact sn_ineg C hd (hK _ _ _ _ hstp)
      · cases hstp
    | iand =>
      dsimp only at hstp
      have hl := beq_t (show Nat.beq ln 1 = true from hchI)
      subst hl
      split at hstp
      · exact sn_iand C hd (hK _ _ _ _ hstp)
      · cases hstp
    | ior =>
      dsimp only at hstp
      have hl := beq_t (show Nat.beq ln 1 = true from hchI)
      subst hl
      split at hstp
      · exact sn_ior C hd (hK _ _ _ _ hstp)
      · cases hstp
    | ixor =>
      dsimp only at hstp
      have hl := beq_t (show Nat.beq ln 1 = true from hchI)
      subst hl
      split at hstp
      · exact sn_ixor C hd (hK _ _ _ _ hstp)
      · cases hstp
    | ishl =>
      dsimp only at hstp
      have hl := beq_t (show Nat.beq ln 1 = true from hchI)
      subst hl
      split at hstp
      · exact sn_ishl C hd (hK _ _ _ _ hstp)
      · cases hstp
    | ishr =>
      dsimp only at hstp
      have hl := beq_t (show Nat.beq ln 1 = true from hchI)
      subst hl
      split at hstp
      · exact sn_ishr C hd (hK _ _ _ _ hstp)
      · cases hstp
    | iushr =>
      dsimp only at hstp
      have hl := beq_t (show Nat.beq ln 1 = true from hchI)
      subst hl
      split at hstp
      · exact sn_iushr C hd (hK _ _ _ _ hstp)
      · cases hstp
    | i2l =>
      dsimp only at hstp
      have hl := beq_t (show Nat.beq ln 1 = true from hchI)
      subst hl
      split at hstp
      · exact sn_i2l C hd (hK _ _ _ _ hstp)
      · cases hstp
    | l2i =>
      dsimp only at hstp
      have hl := beq_t (show Nat.beq ln 1 = true from hchI)
      subst hl
      split at hstp
      · exact sn_l2i C hd (hK _ _ _ _ hstp)
      · cases hstp
    | i2b =>
      dsimp only at hstp
      have hl := beq_t (show Nat.beq ln 1 = true from hchI)
      subst hl
      split at hstp
      · exact sn_i2b C hd (hK _ _ _ _ hstp)
      · cases hstp
    | i2s =>
      dsimp only at hstp
      have hl := beq_t (show Nat.beq ln 1 = true from hchI)
      subst hl
      split at hstp
      · exact sn_i2s C hd (hK _ _ _ _ hstp)
      · cases hstp
    | i2c =>
      dsimp only at hstp
      have hl := beq_t (show Nat.beq ln 1 = true from hchI)
      subst hl
      split at hstp
      · exact sn_i2c C hd (hK _ _ _ _ hstp)
      · cases hstp
    | land =>
      dsimp only at hstp
      have hl := beq_t (show Nat.beq ln 1 = true from hchI)
      subst hl
      split at hstp
      · exact sn_land C hd (hK _ _ _ _ hstp)
      · cases hstp
    | lor =>
      dsimp only at hstp
      have hl := beq_t (show Nat.beq ln 1 = true from hchI)
      subst hl
      split at hstp
      · exact sn_lor C hd (hK _ _ _ _ hstp)
      · cases hstp
    | lshl =>
      dsimp only at hstp
      have hl := beq_t (show Nat.beq ln 1 = true from hchI)
      subst hl
      split at hstp
      · exact sn_lshl C hd (hK _ _ _ _ hstp)
      · cases hstp
    | lcmp =>
      dsimp only at hstp
      have hl := beq_t (show Nat.beq ln 1 = true from hchI)
      subst hl
      split at hstp
      · exact sn_lcmp C hd (hK _ _ _ _ hstp)
      · cases hstp
    | idiv =>
      dsimp only at hstp
      have hl := beq_t (show Nat.beq ln 1 = true from hchI)
      subst hl
      split at hstp
      · obtain ⟨k1, k2⟩ := ck_some hstp
        exact sn_idiv C hd k1 (hK _ _ _ _ k2)
      · cases hstp
    | irem =>
      dsimp only at hstp
      have hl := beq_t (show Nat.beq ln 1 = true from hchI)
      subst hl
      split at hstp
      · obtain ⟨k1, k2⟩ := ck_some hstp
        exact sn_irem C hd k1 (hK _ _ _ _ k2)
      · cases hstp
    | dup =>
      dsimp only at hstp
      have hl := beq_t (show Nat.beq ln 1 = true from hchI)
      subst hl
      split at hstp
      · obtain ⟨k1, k2⟩ := ck_some hstp
        exact sn_dup C hd k1 (hK _ _ _ _ k2)
      · cases hstp
    | dup2 =>
      dsimp only at hstp
      have hl := beq_t (show Nat.beq ln 1 = true from hchI)
      subst hl
      split at hstp
      · obtain ⟨k1, k2⟩ := ck_some hstp
        exact sn_dup2 C hd k1 (hK _ _ _ _ k2)
      · cases hstp
    | pop =>
      dsimp only at hstp
      have hl := beq_t (show Nat.beq ln 1 = true from hchI)
      subst hl
      split at hstp
      · obtain ⟨k1, k2⟩ := ck_some hstp
        exact sn_pop C hd k1 (hK _ _ _ _ k2)
      · cases hstp
    | ifCond cnd off =>
      obtain ⟨c1, c2⟩ := Bool.and_eq_true_iff.mp (show (_ && _) = true from hchI)
      have hl := beq_t c2
      subst hl
      have ht := eq_of_beq c1
      cases cnd with
      | eq =>
        dsimp only at hstp
        split at hstp
        · refine sn_ifeq C hd ht (fun q => ?_) (fun q => ?_)
          · rw [if_pos q] at hstp
            exact hK _ _ _ _ hstp
          · rw [if_neg q] at hstp
            exact hK _ _ _ _ hstp
        · cases hstp
      | ne =>
        dsimp only at hstp
        split at hstp
        · refine sn_ifne C hd ht (fun q => ?_) (fun q => ?_)
          · rw [if_pos q] at hstp
            exact hK _ _ _ _ hstp
          · rw [if_neg q] at hstp
            exact hK _ _ _ _ hstp
        · cases hstp
      | lt =>
        dsimp only at hstp
        split at hstp
        · refine sn_iflt C hd ht (fun q => ?_) (fun q => ?_)
          · rw [if_pos q] at hstp
            exact hK _ _ _ _ hstp
          · rw [if_neg q] at hstp
            exact hK _ _ _ _ hstp
        · cases hstp
      | ge =>
        dsimp only at hstp
        split at hstp
        · refine sn_ifge C hd ht (fun q => ?_) (fun q => ?_)
          · rw [if_pos q] at hstp
            exact hK _ _ _ _ hstp
          · rw [if_neg q] at hstp
            exact hK _ _ _ _ hstp
        · cases hstp
      | gt =>
        dsimp only at hstp
        split at hstp
        · refine sn_ifgt C hd ht (fun q => ?_) (fun q => ?_)
          · rw [if_pos q] at hstp
            exact hK _ _ _ _ hstp
          · rw [if_neg q] at hstp
            exact hK _ _ _ _ hstp
        · cases hstp
      | le =>
        dsimp only at hstp
        split at hstp
        · refine sn_ifle C hd ht (fun q => ?_) (fun q => ?_)
          · rw [if_pos q] at hstp
            exact hK _ _ _ _ hstp
          · rw [if_neg q] at hstp
            exact hK _ _ _ _ hstp
        · cases hstp
    | if_icmp cnd off =>
      obtain ⟨c1, c2⟩ := Bool.and_eq_true_iff.mp (show (_ && _) = true from hchI)
      have hl := beq_t c2
      subst hl
      have ht := eq_of_beq c1
      cases cnd with
      | eq =>
        dsimp only at hstp
        split at hstp
        · refine sn_icmpeq C hd ht (fun q => ?_) (fun q => ?_)
          · rw [if_pos q] at hstp
            exact hK _ _ _ _ hstp
          · rw [if_neg q] at hstp
            exact hK _ _ _ _ hstp
        · cases hstp
      | ne =>
        dsimp only at hstp
        split at hstp
        · refine sn_icmpne C hd ht (fun q => ?_) (fun q => ?_)
          · rw [if_pos q] at hstp
            exact hK _ _ _ _ hstp
          · rw [if_neg q] at hstp
            exact hK _ _ _ _ hstp
        · cases hstp
      | lt =>
        dsimp only at hstp
        split at hstp
        · refine sn_icmplt C hd ht (fun q => ?_) (fun q => ?_)
          · rw [if_pos q] at hstp
            exact hK _ _ _ _ hstp
          · rw [if_neg q] at hstp
            exact hK _ _ _ _ hstp
        · cases hstp
      | ge =>
        dsimp only at hstp
        split at hstp
        · refine sn_icmpge C hd ht (fun q => ?_) (fun q => ?_)
          · rw [if_pos q] at hstp
            exact hK _ _ _ _ hstp
          · rw [if_neg q] at hstp
            exact hK _ _ _ _ hstp
        · cases hstp
      | gt =>
        dsimp only at hstp
        split at hstp
        · refine sn_icmpgt C hd ht (fun q => ?_) (fun q => ?_)
          · rw [if_pos q] at hstp
            exact hK _ _ _ _ hstp
          · rw [if_neg q] at hstp
            exact hK _ _ _ _ hstp
        · cases hstp
      | le =>
        dsimp only at hstp
        split at hstp
        · refine sn_icmple C hd ht (fun q => ?_) (fun q => ?_)
          · rw [if_pos q] at hstp
            exact hK _ _ _ _ hstp
          · rw [if_neg q] at hstp
            exact hK _ _ _ _ hstp
        · cases hstp
    | goto off =>
      dsimp only at hstp
      obtain ⟨c1, c2⟩ := Bool.and_eq_true_iff.mp (show (_ && _) = true from hchI)
      have hl := beq_t c2
      subst hl
      exact sn_goto C hd (eq_of_beq c1) (hK _ _ _ _ hstp)
    | tableswitch dd lo hi offs =>
      dsimp only at hstp
      obtain ⟨c1, c2⟩ := Bool.and_eq_true_iff.mp (show (_ && _) = true from hchI)
      obtain ⟨c1, c3⟩ := Bool.and_eq_true_iff.mp c1
      split at hstp
      · rw [swK_eq] at hstp
        exact sn_table C hd (eq_of_beq c1) c3 (eq_of_beq c2) (hK _ _ _ _ hstp)
      · cases hstp
    | lookupswitch dd ps =>
      dsimp only at hstp
      obtain ⟨c1, c2⟩ := Bool.and_eq_true_iff.mp (show (_ && _) = true from hchI)
      obtain ⟨c1, c3⟩ := Bool.and_eq_true_iff.mp c1
      split at hstp
      · rw [swK_eq] at hstp
        exact sn_lookup C hd (eq_of_beq c1) c3 c2 (hK _ _ _ _ hstp)
      · cases hstp
    | getfield x =>
      dsimp only at hstp
      obtain ⟨c1, c2⟩ := Bool.and_eq_true_iff.mp (show (_ && _) = true from hchI)
      obtain ⟨c1, c3⟩ := Bool.and_eq_true_iff.mp c1
      have hl := beq_t c1
      subst hl
      have hx := blt_t c3
      split at hstp
      · rename_i st' t k r
        split at hstp
        · obtain ⟨k1, k2⟩ := ck_some hstp
          obtain ⟨k3, k4⟩ := Bool.and_eq_true_iff.mp k1
          cases hf : flk (mC m * 2048 + x) with
          | none => rw [hf] at c2; cases c2
          | some z =>
            obtain ⟨ci, j, nest, pl⟩ := z
            rw [hf] at c2
            obtain ⟨c4, c5⟩ := Bool.and_eq_true_iff.mp (show (_ && _) = true from c2)
            obtain ⟨c4, c6⟩ := Bool.and_eq_true_iff.mp c4
            have e1 := beq_t c4
            have e2 := beq_t c6
            have e3 := beq_t k4
            subst e1 e2 e3
            exact sn_getI C hd hx hf (beq_t k3) (eq_of_beq c5) (hK _ _ _ _ k2)
        · obtain ⟨k1, k2⟩ := ck_some hstp
          obtain ⟨k3, k4⟩ := Bool.and_eq_true_iff.mp k1
          cases hf : flk (mC m * 2048 + x) with
          | none => rw [hf] at c2; cases c2
          | some z =>
            obtain ⟨ci, j, nest, pl⟩ := z
            rw [hf] at c2
            obtain ⟨c4, c5⟩ := Bool.and_eq_true_iff.mp (show (_ && _) = true from c2)
            obtain ⟨c4, c6⟩ := Bool.and_eq_true_iff.mp c4
            have e1 := beq_t c4
            have e2 := beq_t c6
            have e3 := beq_t k4
            subst e1 e2 e3
            split at k2
            · rename_i q hq
              exact sn_getR C hd hx hf (beq_t k3) (eq_of_beq c5) hq (hK _ _ _ _ k2)
            · cases k2
        · obtain ⟨k1, k2⟩ := ck_some hstp
          obtain ⟨k3, k4⟩ := Bool.and_eq_true_iff.mp k1
          obtain ⟨c4, c5⟩ := Bool.and_eq_true_iff.mp (show (_ && _) = true from c2)
          have e1 := beq_t k3
          have e2 := beq_t c5
          subst e1 e2
          exact sn_getSV C (beq_t c4) hd (blt_t k4) (hK _ _ _ _ k2)
        · obtain ⟨k1, k2⟩ := ck_some hstp
          obtain ⟨k3, k4⟩ := Bool.and_eq_true_iff.mp k1
          obtain ⟨c4, c5⟩ := Bool.and_eq_true_iff.mp (show (_ && _) = true from c2)
          have e1 := beq_t k3
          have e2 := beq_t c5
          subst e1 e2
          exact sn_getSC C (beq_t c4) hd (blt_t k4) (hK _ _ _ _ k2)
        · cases hstp
      · cases hstp
    | putfield x =>
      dsimp only at hstp
      obtain ⟨c1, c2⟩ := Bool.and_eq_true_iff.mp (show (_ && _) = true from hchI)
      obtain ⟨c1, c3⟩ := Bool.and_eq_true_iff.mp c1
      have hl := beq_t c1
      subst hl
      have hx := blt_t c3
      split at hstp
      · rename_i st' v t k r
        obtain ⟨k1, k2⟩ := ck_some hstp
        obtain ⟨k3, k4⟩ := Bool.and_eq_true_iff.mp k1
        cases hf : flk (mC m * 2048 + x) with
        | none => rw [hf] at c2; cases c2
        | some z =>
          obtain ⟨ci, j, nest, pl⟩ := z
          rw [hf] at c2
          obtain ⟨c4, c5⟩ := Bool.and_eq_true_iff.mp (show (_ && _) = true from c2)
          obtain ⟨c4, c7⟩ := Bool.and_eq_true_iff.mp c4
          obtain ⟨c4, c6⟩ := Bool.and_eq_true_iff.mp c4
          have e1 := beq_t c4
          have e2 := beq_t c6
          have e3 := beq_t k4
          subst e1 e2 e3
          split at k2
          · split at k2
            · exact sn_putI C hd hx hf (beq_t k3) c5 hin (Or.inl (eq_of_beq c7)) (hK _ _ _ _ k2)
            · cases k2
          · split at k2
            · exact sn_putR C hd hx hf (beq_t k3) c5 hin c7 (hK _ _ _ _ k2)
            · cases k2
          · split at k2
            · obtain ⟨k5, k6⟩ := ck_some k2
              exact sn_putI C hd hx hf (beq_t k3) c5 hin (Or.inr ⟨eq_of_beq c7, k5⟩) (hK _ _ _ _ k6)
            · cases k2
          · cases k2
      · cases hstp
    | getstatic x =>
      dsimp only at hstp
      obtain ⟨c1, c2⟩ := Bool.and_eq_true_iff.mp (show (_ && _) = true from hchI)
      have hl := beq_t c1
      subst hl
      split at hstp
      · obtain ⟨c3, c4⟩ := Bool.and_eq_true_iff.mp (show (_ && _) = true from c2)
        have e := beq_t c4
        subst e
        exact sn_gets0 C (beq_t c3) hd (hK _ _ _ _ hstp)
      · obtain ⟨c3, c4⟩ := Bool.and_eq_true_iff.mp (show (_ && _) = true from c2)
        have e := beq_t c4
        subst e
        exact sn_gets1 C (beq_t c3) hd (hK _ _ _ _ hstp)
      · obtain ⟨c3, c4⟩ := Bool.and_eq_true_iff.mp (show (_ && _) = true from c2)
        have e := beq_t c4
        subst e
        exact sn_gets2 C (beq_t c3) hd (hK _ _ _ _ hstp)
      · cases hstp
    | iaload =>
      dsimp only at hstp
      have hl := beq_t (show Nat.beq ln 1 = true from hchI)
      subst hl
      split at hstp
      · split at hstp
        · rename_i hk
          obtain ⟨k1, k2⟩ := ck_some hstp
          exact sn_iald C hd hk k1 (hK _ _ _ _ k2)
        · split at hstp
          · obtain ⟨k1, k2⟩ := ck_some hstp
            obtain ⟨k1a, k3⟩ := Bool.and_eq_true_iff.mp k1
            obtain ⟨k1b, k4⟩ := Bool.and_eq_true_iff.mp k1a
            have e1 := beq_t k3
            have e2 := beq_t k4
            subst e1 e2
            exact sn_iald8 C hd rfl k1b (hK _ _ _ _ k2)
          · cases hstp
        · obtain ⟨k1, k2⟩ := ck_some hstp
          obtain ⟨k1a, k3⟩ := Bool.and_eq_true_iff.mp k1
          obtain ⟨k1b, k4⟩ := Bool.and_eq_true_iff.mp k1a
          have e1 := beq_t k3
          have e2 := beq_t k4
          subst e1 e2
          exact sn_iald10 C hd k1b (hK _ _ _ _ k2)
        · cases hstp
      · cases hstp
    | baload =>
      dsimp only at hstp
      have hl := beq_t (show Nat.beq ln 1 = true from hchI)
      subst hl
      split at hstp
      · split at hstp
        · rename_i hk
          obtain ⟨k1, k2⟩ := ck_some hstp
          exact sn_zald C hd hk k1 (hK _ _ _ _ k2)
        · obtain ⟨k1, k2⟩ := ck_some hstp
          obtain ⟨k1a, k3⟩ := Bool.and_eq_true_iff.mp k1
          obtain ⟨k1b, k4⟩ := Bool.and_eq_true_iff.mp k1a
          have e1 := beq_t k3
          subst e1
          exact sn_bald C hd (blt_t k4) k1b (hK _ _ _ _ k2)
        · cases hstp
      · cases hstp
    | laload =>
      dsimp only at hstp
      have hl := beq_t (show Nat.beq ln 1 = true from hchI)
      subst hl
      split at hstp
      · obtain ⟨k1, k2⟩ := ck_some hstp
        obtain ⟨k1a, k3⟩ := Bool.and_eq_true_iff.mp k1
        exact sn_lald C hd (beq_t k1a) k3 (hK _ _ _ _ k2)
      · cases hstp
    | aaload =>
      dsimp only at hstp
      have hl := beq_t (show Nat.beq ln 1 = true from hchI)
      subst hl
      split at hstp
      · obtain ⟨k1, k2⟩ := ck_some hstp
        obtain ⟨k1a, k3⟩ := Bool.and_eq_true_iff.mp k1
        split at k2
        · rename_i q hq
          exact sn_aald C hd (((Bool.or_eq_true _ _).mp k1a).imp beq_t beq_t) k3 hq (hK _ _ _ _ k2)
        · cases k2
      · cases hstp
    | iastore =>
      dsimp only at hstp
      have hl := beq_t (show Nat.beq ln 1 = true from hchI)
      subst hl
      split at hstp
      · obtain ⟨k1, k2⟩ := ck_some hstp
        obtain ⟨k1a, k3⟩ := Bool.and_eq_true_iff.mp k1
        exact sn_iast C hd (beq_t k1a) k3 (hK _ _ _ _ k2)
      · cases hstp
    | bastore =>
      dsimp only at hstp
      have hl := beq_t (show Nat.beq ln 1 = true from hchI)
      subst hl
      split at hstp
      · obtain ⟨k1, k2⟩ := ck_some hstp
        obtain ⟨k1a, k3⟩ := Bool.and_eq_true_iff.mp k1
        exact sn_zast C hd (beq_t k1a) k3 (hK _ _ _ _ k2)
      · cases hstp
    | lastore =>
      dsimp only at hstp
      have hl := beq_t (show Nat.beq ln 1 = true from hchI)
      subst hl
      split at hstp
      · obtain ⟨k1, k2⟩ := ck_some hstp
        obtain ⟨k1a, k3⟩ := Bool.and_eq_true_iff.mp k1
        exact sn_last C hd (beq_t k1a) k3 (hK _ _ _ _ k2)
      · cases hstp
    | aastore =>
      dsimp only at hstp
      have hl := beq_t (show Nat.beq ln 1 = true from hchI)
      subst hl
      split at hstp
      · obtain ⟨k1, k2⟩ := ck_some hstp
        obtain ⟨k1a, k3⟩ := Bool.and_eq_true_iff.mp k1
        obtain ⟨k1b, k4⟩ := Bool.and_eq_true_iff.mp k1a
        refine sn_aast C hd ?_ (beq_t k4) k3 (hK _ _ _ _ k2)
        rcases (Bool.or_eq_true _ _).mp k1b with z | z
        · obtain ⟨z1, z2⟩ := Bool.and_eq_true_iff.mp z
          exact Or.inl ⟨beq_t z1, beq_t z2⟩
        · obtain ⟨z1, z2⟩ := Bool.and_eq_true_iff.mp z
          exact Or.inr ⟨beq_t z1, beq_t z2⟩
      · cases hstp
    | arraylength =>
      dsimp only at hstp
      have hl := beq_t (show Nat.beq ln 1 = true from hchI)
      subst hl
      split at hstp
      · split at hstp
        · rename_i hk; exact sn_alen C hd (Or.inl hk) (hK _ _ _ _ hstp)
        · rename_i hk; exact sn_alen C hd (Or.inr (Or.inl hk)) (hK _ _ _ _ hstp)
        · rename_i hk; exact sn_alen C hd (Or.inr (Or.inr (Or.inl hk))) (hK _ _ _ _ hstp)
        · rename_i hk; exact sn_alen C hd (Or.inr (Or.inr (Or.inr (Or.inl hk)))) (hK _ _ _ _ hstp)
        · rename_i hk; exact sn_alen C hd (Or.inr (Or.inr (Or.inr (Or.inr hk)))) (hK _ _ _ _ hstp)
        · obtain ⟨k1, k2⟩ := ck_some hstp
          obtain ⟨k1a, k3⟩ := Bool.and_eq_true_iff.mp k1
          have e1 := beq_t k3
          subst e1
          exact sn_alen7 C hd (blt_t k1a) (hK _ _ _ _ k2)
        · split at hstp
          · obtain ⟨k1, k2⟩ := ck_some hstp
            obtain ⟨k1a, k3⟩ := Bool.and_eq_true_iff.mp k1
            have e1 := beq_t k3
            have e2 := beq_t k1a
            subst e1 e2
            exact sn_alen8 C hd rfl (hK _ _ _ _ k2)
          · cases hstp
        · obtain ⟨k1, k2⟩ := ck_some hstp
          obtain ⟨k1a, k3⟩ := Bool.and_eq_true_iff.mp k1
          have e1 := beq_t k3
          have e2 := beq_t k1a
          subst e1 e2
          exact sn_alen10 C hd (hK _ _ _ _ k2)
        · cases hstp
      · cases hstp
    | new x =>
      dsimp only at hstp
      obtain ⟨c1, c2⟩ := Bool.and_eq_true_iff.mp (show (_ && _) = true from hchI)
      obtain ⟨c1, c3⟩ := Bool.and_eq_true_iff.mp c1
      have hl := beq_t c1
      subst hl
      obtain ⟨t, k, hn⟩ : ∃ t k, nm h.1 = (t, k) := ⟨_, _, rfl⟩
      rw [hn] at hstp
      obtain ⟨k1, k2⟩ := ck_some hstp
      obtain ⟨k1a, k3⟩ := Bool.and_eq_true_iff.mp k1
      cases hf : clk (mC m * 2048 + x) with
      | none => rw [hf] at c2; cases c2
      | some z =>
        obtain ⟨ci, pl⟩ := z
        rw [hf] at c2
        obtain ⟨c4, c5⟩ := Bool.and_eq_true_iff.mp (show (_ && _) = true from c2)
        obtain ⟨c4, c6⟩ := Bool.and_eq_true_iff.mp c4
        have e1 := beq_t c4
        have e2 := beq_t c6
        have e3 := beq_t k3
        subst e1 e2 e3
        have hm1 := hKm _ _ _ _ k2
        exact sn_new C hd (blt_t c3) hf (blt_t c5) hn (beq_t k1a) ⟨Nat.le_trans hm1.1 hCE.1, Nat.le_trans hm1.2 hCE.2⟩ (hK _ _ _ _ k2)
    | newarray ty =>
      dsimp only at hstp
      obtain ⟨c1, c2⟩ := Bool.and_eq_true_iff.mp (show (_ && _) = true from hchI)
      have hl := beq_t c1
      subst hl
      split at hstp
      · obtain ⟨t, k, hn⟩ : ∃ t k, nm h.1 = (t, k) := ⟨_, _, rfl⟩
        rw [hn] at hstp
        obtain ⟨k1, k2⟩ := ck_some hstp
        obtain ⟨k1a, k3⟩ := Bool.and_eq_true_iff.mp k1
        have e3 := eq_of_beq k3
        subst e3
        have hm1 := hKm _ _ _ _ k2
        have hfit : h.1 + 1 ≤ n0 + R.cells ∧ h.2.1 + tN t ≤ s0 + R.slots := ⟨Nat.le_trans hm1.1 hCE.1, Nat.le_trans hm1.2 hCE.2⟩
        have r1 : hI (hNew h t k (tN t)) t k = fun _ => 0 := zI_s
        have r2 : hL (hNew h t k (tN t)) t k = fun _ => 0 := zL_s
        cases ty <;> first | (cases c2; done) | skip
        · have ea := beq_t c2
          subst ea
          have hk := beq_t k1a
          exact sn_newa (j := 1) (a0 := (tN t, .inl fun _ => 0)) C hd rfl aw_in.2.1 (by decide) hn (by omega) (by rw [hk]; rfl) (fun _ => rfl) (fun ad' => by rw [cE_2 hk, r1, hk]) hfit (hK _ _ _ _ k2)
        · have ea := beq_t c2
          subst ea
          have hk := beq_t k1a
          exact sn_newa (j := 0) (a0 := (tN t, .inl fun _ => 0)) C hd rfl aw_in.1 (by decide) hn (by omega) (by rw [hk]; rfl) (fun _ => rfl) (fun ad' => by rw [cE_1 hk, r1, hk]) hfit (hK _ _ _ _ k2)
        · have ea := beq_t c2
          subst ea
          have hk := beq_t k1a
          exact sn_newa (j := 2) (a0 := (tN t, .inr (.inl fun _ => 0))) C hd rfl aw_in.2.2 (by decide) hn (by omega) (by rw [hk]; rfl) (fun _ => rfl) (fun ad' => by rw [cE_3 hk, r2, hk]) hfit (hK _ _ _ _ k2)
      · cases hstp
    | anewarray x =>
      dsimp only at hstp
      obtain ⟨c1, c2⟩ := Bool.and_eq_true_iff.mp (show (_ && _) = true from hchI)
      obtain ⟨c1, c3⟩ := Bool.and_eq_true_iff.mp c1
      have hl := beq_t c1
      subst hl
      split at hstp
      · obtain ⟨t, k, hn⟩ : ∃ t k, nm h.1 = (t, k) := ⟨_, _, rfl⟩
        rw [hn] at hstp
        obtain ⟨k1, k2⟩ := ck_some hstp
        obtain ⟨k1a, k3⟩ := Bool.and_eq_true_iff.mp k1
        have e3 := eq_of_beq k3
        subst e3
        have hm1 := hKm _ _ _ _ k2
        have hfit : h.1 + 1 ≤ n0 + R.cells ∧ h.2.1 + tN t ≤ s0 + R.slots := ⟨Nat.le_trans hm1.1 hCE.1, Nat.le_trans hm1.2 hCE.2⟩
        cases hf : clk (mC m * 2048 + x) with
        | none => rw [hf] at c2; cases c2
        | some z =>
          obtain ⟨ci, pl⟩ := z
          rw [hf] at c2
          rcases (Bool.or_eq_true _ _).mp (show (_ || _) = true from c2) with z | z
          · obtain ⟨z1, z2⟩ := Bool.and_eq_true_iff.mp z
            have e1 := beq_t z1
            have e2 := beq_t z2
            subst e1 e2
            have hk := beq_t k1a
            exact sn_anew (j := 3) (S := "DeepWearer$Town") C hd (blt_t c3) hf rfl (fun g => g.2.2.2.2.2.2.2.2.1) hn (Or.inl hk) (by rw [hk]; rfl) hfit (hK _ _ _ _ k2)
          · obtain ⟨z1, z2⟩ := Bool.and_eq_true_iff.mp z
            have e1 := beq_t z1
            have e2 := beq_t z2
            subst e1 e2
            have hk := beq_t k1a
            exact sn_anew (j := 4) (S := "DeepWearer$Tape") C hd (blt_t c3) hf rfl (fun g => g.2.2.2.2.2.2.2.2.2) hn (Or.inr hk) (by rw [hk]; rfl) hfit (hK _ _ _ _ k2)
      · cases hstp
    | invokestatic x =>
      dsimp only at hstp
      obtain ⟨c1, c2⟩ := Bool.and_eq_true_iff.mp (show (_ && _) = true from hchI)
      obtain ⟨c1, c3⟩ := Bool.and_eq_true_iff.mp c1
      have hl := beq_t c1
      subst hl
      have hx := blt_t c3
      unfold ivk at hstp
      by_cases h9 : Nat.beq c 9999 = true
      · rw [h9] at hstp
        have hc := beq_t h9
        subst hc
        have hac : acl (mC m * 2048 + x) = true := by
          rcases (Bool.or_eq_true _ _).mp c2 with z | z
          · exact (Bool.and_eq_true_iff.mp z).2
          · exact absurd (blt_t (Bool.and_eq_true_iff.mp z).1) (by decide)
        dsimp only at hstp
        split at hstp
        · obtain ⟨k1, k2⟩ := ck_some hstp
          obtain ⟨k1a, k3⟩ := Bool.and_eq_true_iff.mp k1
          obtain ⟨k1b, k4⟩ := Bool.and_eq_true_iff.mp k1a
          obtain ⟨k1c, k5⟩ := Bool.and_eq_true_iff.mp k1b
          obtain ⟨k5, k6⟩ := Bool.and_eq_true_iff.mp k5
          obtain ⟨k5, k7⟩ := Bool.and_eq_true_iff.mp k5
          obtain ⟨k4, k8⟩ := Bool.and_eq_true_iff.mp k4
          refine sn_copy C hd hx hac (beq_t k1c) ⟨of_decide_eq_true k5, of_decide_eq_true k7, of_decide_eq_true k6⟩ ⟨ble_t k4, ble_t k8⟩ (ble_t k3) hR1 ?_
          split at k2
          · rename_i hk
            exact Or.inl ⟨hk, hK _ _ _ _ k2⟩
          · rename_i hk
            obtain ⟨k9, k10⟩ := ck_some k2
            exact Or.inr (Or.inl ⟨hk, k9, hK _ _ _ _ k10⟩)
          · rename_i hk
            exact Or.inr (Or.inr ⟨hk, hK _ _ _ _ k2⟩)
          · cases k2
        · cases hstp
      have h9 : Nat.beq c 9999 = false := Bool.eq_false_iff.mpr h9
      rw [h9] at hstp
      by_cases h8 : Nat.beq c 9998 = true
      · rw [h8] at hstp
        have hc := beq_t h8
        subst hc
        exfalso
        rcases (Bool.or_eq_true _ _).mp c2 with z | z
        · exact absurd (beq_t (Bool.and_eq_true_iff.mp z).1) (by decide)
        · exact absurd (blt_t (Bool.and_eq_true_iff.mp z).1) (by decide)
      have h8 : Nat.beq c 9998 = false := Bool.eq_false_iff.mpr h8
      rw [h8] at hstp
      by_cases h3 : Nat.beq c 223 = true
      · rw [h3] at hstp
        have hc := beq_t h3
        subst hc
        dsimp only at hstp
        split at hstp
        · obtain ⟨k1, k2⟩ := ck_some hstp
          have hm1 := hKm _ _ _ _ k2
          cases hmk : mlk (mC m * 2048 + x) with
          | none =>
            rw [hmk] at c2
            rcases (Bool.or_eq_true _ _).mp c2 with z | z
            · exact absurd (beq_t (Bool.and_eq_true_iff.mp z).1) (by decide)
            · cases (Bool.and_eq_true_iff.mp z).2
          | some z =>
            obtain ⟨y, nest, pl⟩ := z
            rw [hmk] at c2
            have ey : y = 223 := by
              rcases (Bool.or_eq_true _ _).mp c2 with z | z
              · exact absurd (beq_t (Bool.and_eq_true_iff.mp z).1) (by decide)
              · have z2 := (Bool.and_eq_true_iff.mp z).2
                exact beq_t (Bool.and_eq_true_iff.mp (Bool.and_eq_true_iff.mp (Bool.and_eq_true_iff.mp (show (_ && _) = true from z2)).1).1).1
            subst ey
            exact sn_max C hd hx hmk (ble_t k1) hR1 ⟨Nat.le_trans hm1.1 hCE.1, Nat.le_trans hm1.2 hCE.2⟩ (hK _ _ _ _ k2)
        · cases hstp
      have h3 : Nat.beq c 223 = false := Bool.eq_false_iff.mpr h3
      rw [h3] at hstp
      by_cases h4 : Nat.beq c 224 = true
      · rw [h4] at hstp
        have hc := beq_t h4
        subst hc
        dsimp only at hstp
        split at hstp
        · obtain ⟨k1, k2⟩ := ck_some hstp
          have hm1 := hKm _ _ _ _ k2
          cases hmk : mlk (mC m * 2048 + x) with
          | none =>
            rw [hmk] at c2
            rcases (Bool.or_eq_true _ _).mp c2 with z | z
            · exact absurd (beq_t (Bool.and_eq_true_iff.mp z).1) (by decide)
            · cases (Bool.and_eq_true_iff.mp z).2
          | some z =>
            obtain ⟨y, nest, pl⟩ := z
            rw [hmk] at c2
            have ey : y = 224 := by
              rcases (Bool.or_eq_true _ _).mp c2 with z | z
              · exact absurd (beq_t (Bool.and_eq_true_iff.mp z).1) (by decide)
              · have z2 := (Bool.and_eq_true_iff.mp z).2
                exact beq_t (Bool.and_eq_true_iff.mp (Bool.and_eq_true_iff.mp (Bool.and_eq_true_iff.mp (show (_ && _) = true from z2)).1).1).1
            subst ey
            exact sn_min C hd hx hmk (ble_t k1) hR1 ⟨Nat.le_trans hm1.1 hCE.1, Nat.le_trans hm1.2 hCE.2⟩ (hK _ _ _ _ k2)
        · cases hstp
      have h4 : Nat.beq c 224 = false := Bool.eq_false_iff.mpr h4
      rw [h4] at hstp
      dsimp only at hstp
      obtain ⟨k1, k2⟩ := ck_some hstp
      obtain ⟨k1a, k3⟩ := Bool.and_eq_true_iff.mp k1
      obtain ⟨k1b, k4⟩ := Bool.and_eq_true_iff.mp k1a
      have hlen := ble_t k4
      have hy7 : c ≠ 223 ∧ c ≠ 224 := ⟨fun z => (by rw [z] at h3; exact absurd h3 (by decide)), fun z => (by rw [z] at h4; exact absurd h4 (by decide))⟩
      have c4 : Nat.blt c NM = true ∧ (match mlk (mC m * 2048 + x) with | some (y, _, _) => Nat.beq y c && Nat.beq (mP c).2.1 1 && Nat.beq a (mN c) && Nat.beq b 50 | none => false) = true := by
        rcases (Bool.or_eq_true _ _).mp c2 with z | z
        · have := (Bool.and_eq_true_iff.mp z).1
          rw [h9] at this
          cases this
        · exact Bool.and_eq_true_iff.mp z
      obtain ⟨hy', c2⟩ := c4
      cases hmk : mlk (mC m * 2048 + x) with
      | none => rw [hmk] at c2; cases c2
      | some z =>
        obtain ⟨y, nest, pl⟩ := z
        rw [hmk] at c2
        obtain ⟨c2, c5⟩ := Bool.and_eq_true_iff.mp (show (_ && _) = true from c2)
        obtain ⟨c2, c6⟩ := Bool.and_eq_true_iff.mp c2
        obtain ⟨c2, c7⟩ := Bool.and_eq_true_iff.mp c2
        have ey := beq_t c2
        subst ey
        have hy : y < 226 := blt_t hy'
        have hy6 : y ≠ 206 := fun z => by rw [z] at c7; exact absurd c7 (by decide)
        have hst : st.take a ++ st.drop a = st := List.take_append_drop a st
        cases he : dn d y (st.take a).reverse h with
        | none => rw [he] at k2; cases k2
        | some q =>
          obtain ⟨v, h'⟩ := q
          rw [he] at k2
          obtain ⟨e1, e2, e3⟩ := hE y _ h v h' hy hy6 hy7 he
          have hm1 := hKm _ _ _ _ k2
          have T := sn_callS (As := (st.take a).reverse) (r := st.drop a) C hd hx hmk hy hy6 hy7 (beq_t c7) (by rw [List.length_reverse, List.length_take, Nat.min_eq_left hlen]; exact beq_t c6) (ble_t k3) hR ⟨e1, Nat.le_trans hm1.1 hCE.1⟩ ⟨e2, Nat.le_trans hm1.2 hCE.2⟩ e3 (hK _ _ _ _ k2)
          rw [List.reverse_reverse, hst] at T
          exact T
    | invokevirtual x =>
      dsimp only at hstp
      obtain ⟨c1, c2⟩ := Bool.and_eq_true_iff.mp (show (_ && _) = true from hchI)
      obtain ⟨c1, c3⟩ := Bool.and_eq_true_iff.mp c1
      have hl := beq_t c1
      subst hl
      have hx := blt_t c3
      obtain ⟨hy', c2⟩ := Bool.and_eq_true_iff.mp c2
      unfold ivk at hstp
      by_cases h9 : Nat.beq c 9999 = true
      · rw [h9] at hstp
        have hc := beq_t h9
        subst hc
        exact absurd (blt_t hy') (by decide)
      have h9 : Nat.beq c 9999 = false := Bool.eq_false_iff.mpr h9
      rw [h9] at hstp
      by_cases h8 : Nat.beq c 9998 = true
      · rw [h8] at hstp
        have hc := beq_t h8
        subst hc
        exact absurd (blt_t hy') (by decide)
      have h8 : Nat.beq c 9998 = false := Bool.eq_false_iff.mpr h8
      rw [h8] at hstp
      by_cases h3 : Nat.beq c 223 = true
      · rw [h3] at hstp
        have hc := beq_t h3
        subst hc
        exfalso
        cases hmk : mlk (mC m * 2048 + x) with
        | none => rw [hmk] at c2; cases c2
        | some z =>
          obtain ⟨y, nest, pl⟩ := z
          rw [hmk] at c2
          obtain ⟨c2, -⟩ := Bool.and_eq_true_iff.mp (show (_ && _) = true from c2)
          obtain ⟨c2, -⟩ := Bool.and_eq_true_iff.mp c2
          obtain ⟨c2, -⟩ := Bool.and_eq_true_iff.mp c2
          obtain ⟨c2, -⟩ := Bool.and_eq_true_iff.mp c2
          obtain ⟨-, c7⟩ := Bool.and_eq_true_iff.mp c2
          exact absurd c7 (by decide)
      have h3 : Nat.beq c 223 = false := Bool.eq_false_iff.mpr h3
      rw [h3] at hstp
      by_cases h4 : Nat.beq c 224 = true
      · rw [h4] at hstp
        have hc := beq_t h4
        subst hc
        exfalso
        cases hmk : mlk (mC m * 2048 + x) with
        | none => rw [hmk] at c2; cases c2
        | some z =>
          obtain ⟨y, nest, pl⟩ := z
          rw [hmk] at c2
          obtain ⟨c2, -⟩ := Bool.and_eq_true_iff.mp (show (_ && _) = true from c2)
          obtain ⟨c2, -⟩ := Bool.and_eq_true_iff.mp c2
          obtain ⟨c2, -⟩ := Bool.and_eq_true_iff.mp c2
          obtain ⟨c2, -⟩ := Bool.and_eq_true_iff.mp c2
          obtain ⟨-, c7⟩ := Bool.and_eq_true_iff.mp c2
          exact absurd c7 (by decide)
      have h4 : Nat.beq c 224 = false := Bool.eq_false_iff.mpr h4
      rw [h4] at hstp
      dsimp only at hstp
      obtain ⟨k1, k2⟩ := ck_some hstp
      obtain ⟨k1a, k3⟩ := Bool.and_eq_true_iff.mp k1
      obtain ⟨k1b, k4⟩ := Bool.and_eq_true_iff.mp k1a
      have hlen := ble_t k4
      have hy7 : c ≠ 223 ∧ c ≠ 224 := ⟨fun z => (by rw [z] at h3; exact absurd h3 (by decide)), fun z => (by rw [z] at h4; exact absurd h4 (by decide))⟩
      cases hmk : mlk (mC m * 2048 + x) with
      | none => rw [hmk] at c2; cases c2
      | some z =>
        obtain ⟨y, nest, pl⟩ := z
        rw [hmk] at c2
        obtain ⟨c2, c10⟩ := Bool.and_eq_true_iff.mp (show (_ && _) = true from c2)
        obtain ⟨c2, c9⟩ := Bool.and_eq_true_iff.mp c2
        obtain ⟨c2, c5⟩ := Bool.and_eq_true_iff.mp c2
        obtain ⟨c2, c6⟩ := Bool.and_eq_true_iff.mp c2
        obtain ⟨c2, c7⟩ := Bool.and_eq_true_iff.mp c2
        have ey := beq_t c2
        subst ey
        have hy : y < 226 := blt_t hy'
        have eb := beq_t c5
        subst eb
        have hy6 : y ≠ 206 := fun z => by rw [z] at c10; exact absurd c10 (by decide)
        obtain ⟨q0, hlast, hrc⟩ : ∃ q0 : Nat × Nat, (st.take a).getLast? = some (.inr (.inr (some q0))) ∧ ((tK q0.1 = 0 ∧ tN q0.1 = mC y ∧ mC y < 8) ∨ (q0.1 = tagS ∧ q0.2 < 7 ∧ mC y = 9)) := by
          have hb10 := blt_t c9
          have hb8 : mC y ≠ 8 := fun z => by rw [z] at c10; exact absurd c10 (by decide)
          unfold rcv at k1b
          split at k1b
          · omega
          · omega
          · rename_i hb9
            split at k1b
            · rename_i t k hz
              obtain ⟨z1, z2⟩ := Bool.and_eq_true_iff.mp k1b
              refine ⟨(t, k), hz, Or.inr ⟨?_, ?_, hb9⟩⟩
              · first | exact beq_t z1 | exact beq_t z2
              · first | exact blt_t z2 | exact blt_t z1
            · cases k1b
          · rename_i n1 n2 n3
            split at k1b
            · rename_i t k hz
              obtain ⟨z1, z2⟩ := Bool.and_eq_true_iff.mp k1b
              refine ⟨(t, k), hz, Or.inl ⟨beq_t z1, beq_t z2, ?_⟩⟩
              rcases Nat.lt_or_ge (mC y) 8 with q | q
              · exact q
              · have z9 : mC y = 9 := by omega
                exact absurd z9 (by assumption)
            · cases k1b
        have hst : st.take a ++ st.drop a = st := List.take_append_drop a st
        cases he : dn d y (st.take a).reverse h with
        | none => rw [he] at k2; cases k2
        | some q =>
          obtain ⟨v, h'⟩ := q
          rw [he] at k2
          obtain ⟨e1, e2, e3⟩ := hE y _ h v h' hy hy6 hy7 he
          have hm1 := hKm _ _ _ _ k2
          obtain ⟨l', hl'⟩ : ∃ l', st.take a = l' ++ [.inr (.inr (some q0))] := rev_last hlast
          have hln : l'.length = mN y := by
            have := congrArg List.length hl'
            rw [List.length_take, Nat.min_eq_left hlen, List.length_append] at this
            simp at this
            have := beq_t c6
            omega
          rw [hl', List.reverse_append] at e3
          have T := sn_callV (As := l'.reverse) (r := st.drop a) (q0 := q0) C hd hx hmk hy hy6 hy7 (beq_t c7) hrc (by rw [List.length_reverse]; exact hln) (ble_t k3) hR ⟨e1, Nat.le_trans hm1.1 hCE.1⟩ ⟨e2, Nat.le_trans hm1.2 hCE.2⟩ e3 (hK _ _ _ _ k2)
          rw [List.reverse_reverse] at T
          have est : l' ++ .inr (.inr (some q0)) :: st.drop a = st := by
            have e9 := hst
            rw [hl', List.append_assoc] at e9
            exact e9
          rw [est] at T
          exact T
    | invokespecial x =>
      dsimp only at hstp
      obtain ⟨c1, c2⟩ := Bool.and_eq_true_iff.mp (show (_ && _) = true from hchI)
      obtain ⟨c1, c3⟩ := Bool.and_eq_true_iff.mp c1
      have hl := beq_t c1
      subst hl
      have hx := blt_t c3
      unfold ivk at hstp
      by_cases h9 : Nat.beq c 9999 = true
      · rw [h9] at hstp
        have hc := beq_t h9
        subst hc
        exfalso
        rcases (Bool.or_eq_true _ _).mp c2 with z | z
        · exact absurd (beq_t (Bool.and_eq_true_iff.mp z).1) (by decide)
        · exact absurd (blt_t (Bool.and_eq_true_iff.mp z).1) (by decide)
      have h9 : Nat.beq c 9999 = false := Bool.eq_false_iff.mpr h9
      rw [h9] at hstp
      by_cases h8 : Nat.beq c 9998 = true
      · rw [h8] at hstp
        have hc := beq_t h8
        subst hc
        have hoc : ocl (mC m * 2048 + x) = true := by
          rcases (Bool.or_eq_true _ _).mp c2 with z | z
          · exact (Bool.and_eq_true_iff.mp z).2
          · exact absurd (blt_t (Bool.and_eq_true_iff.mp z).1) (by decide)
        dsimp only at hstp
        split at hstp
        · obtain ⟨k1, k2⟩ := ck_some hstp
          exact sn_obj C hd hx hoc (ble_t k1) hR1 (hK _ _ _ _ k2)
        · cases hstp
      have h8 : Nat.beq c 9998 = false := Bool.eq_false_iff.mpr h8
      rw [h8] at hstp
      by_cases h3 : Nat.beq c 223 = true
      · rw [h3] at hstp
        have hc := beq_t h3
        subst hc
        exfalso
        rcases (Bool.or_eq_true _ _).mp c2 with z | z
        · exact absurd (beq_t (Bool.and_eq_true_iff.mp z).1) (by decide)
        have c2 := (Bool.and_eq_true_iff.mp z).2
        cases hmk : mlk (mC m * 2048 + x) with
        | none => rw [hmk] at c2; cases c2
        | some z =>
          obtain ⟨y, nest, pl⟩ := z
          rw [hmk] at c2
          obtain ⟨c2, -⟩ := Bool.and_eq_true_iff.mp (show (_ && _) = true from c2)
          obtain ⟨c2, -⟩ := Bool.and_eq_true_iff.mp c2
          obtain ⟨-, c7⟩ := Bool.and_eq_true_iff.mp c2
          exact absurd c7 (by decide)
      have h3 : Nat.beq c 223 = false := Bool.eq_false_iff.mpr h3
      rw [h3] at hstp
      by_cases h4 : Nat.beq c 224 = true
      · rw [h4] at hstp
        have hc := beq_t h4
        subst hc
        exfalso
        rcases (Bool.or_eq_true _ _).mp c2 with z | z
        · exact absurd (beq_t (Bool.and_eq_true_iff.mp z).1) (by decide)
        have c2 := (Bool.and_eq_true_iff.mp z).2
        cases hmk : mlk (mC m * 2048 + x) with
        | none => rw [hmk] at c2; cases c2
        | some z =>
          obtain ⟨y, nest, pl⟩ := z
          rw [hmk] at c2
          obtain ⟨c2, -⟩ := Bool.and_eq_true_iff.mp (show (_ && _) = true from c2)
          obtain ⟨c2, -⟩ := Bool.and_eq_true_iff.mp c2
          obtain ⟨-, c7⟩ := Bool.and_eq_true_iff.mp c2
          exact absurd c7 (by decide)
      have h4 : Nat.beq c 224 = false := Bool.eq_false_iff.mpr h4
      rw [h4] at hstp
      dsimp only at hstp
      obtain ⟨k1, k2⟩ := ck_some hstp
      obtain ⟨k1a, k3⟩ := Bool.and_eq_true_iff.mp k1
      obtain ⟨k1b, k4⟩ := Bool.and_eq_true_iff.mp k1a
      have hlen := ble_t k4
      have hy7 : c ≠ 223 ∧ c ≠ 224 := ⟨fun z => (by rw [z] at h3; exact absurd h3 (by decide)), fun z => (by rw [z] at h4; exact absurd h4 (by decide))⟩
      have c4 : Nat.blt c NM = true ∧ (match mlk (mC m * 2048 + x) with | some (y, _, _) => Nat.beq y c && Nat.beq (mP c).2.1 2 && Nat.beq a (mN c + 1) && Nat.beq b 51 | none => false) = true := by
        rcases (Bool.or_eq_true _ _).mp c2 with z | z
        · have := (Bool.and_eq_true_iff.mp z).1
          rw [h8] at this
          cases this
        · exact Bool.and_eq_true_iff.mp z
      obtain ⟨hy', c2⟩ := c4
      cases hmk : mlk (mC m * 2048 + x) with
      | none => rw [hmk] at c2; cases c2
      | some z =>
        obtain ⟨y, nest, pl⟩ := z
        rw [hmk] at c2
        obtain ⟨c2, c5⟩ := Bool.and_eq_true_iff.mp (show (_ && _) = true from c2)
        obtain ⟨c2, c6⟩ := Bool.and_eq_true_iff.mp c2
        obtain ⟨c2, c7⟩ := Bool.and_eq_true_iff.mp c2
        have ey := beq_t c2
        subst ey
        have hy : y < 226 := blt_t hy'
        have eb := beq_t c5
        subst eb
        have hy6 : y ≠ 206 := fun z => by rw [z] at c7; exact absurd c7 (by decide)
        obtain ⟨q0, hlast⟩ : ∃ q0 : Nat × Nat, (st.take a).getLast? = some (.inr (.inr (some q0))) := by
          have k1' : (match (st.take a).getLast? with | some (.inr (.inr (some _))) => true | _ => false) = true := k1b
          split at k1'
          · rename_i q hz
            exact ⟨q, hz⟩
          · cases k1' 
        have hst : st.take a ++ st.drop a = st := List.take_append_drop a st
        cases he : dn d y (st.take a).reverse h with
        | none => rw [he] at k2; cases k2
        | some q =>
          obtain ⟨v, h'⟩ := q
          rw [he] at k2
          obtain ⟨e1, e2, e3⟩ := hE y _ h v h' hy hy6 hy7 he
          have hm1 := hKm _ _ _ _ k2
          obtain ⟨l', hl'⟩ : ∃ l', st.take a = l' ++ [.inr (.inr (some q0))] := rev_last hlast
          have hln : l'.length = mN y := by
            have := congrArg List.length hl'
            rw [List.length_take, Nat.min_eq_left hlen, List.length_append] at this
            simp at this
            have := beq_t c6
            omega
          rw [hl', List.reverse_append] at e3
          have T := sn_callI (As := l'.reverse) (r := st.drop a) (q0 := q0) C hd hx hmk hy hy6 hy7 (beq_t c7) (mR_init y hy (beq_t c7)) (by rw [List.length_reverse]; exact hln) (ble_t k3) hR ⟨e1, Nat.le_trans hm1.1 hCE.1⟩ ⟨e2, Nat.le_trans hm1.2 hCE.2⟩ e3 (hK _ _ _ _ k2)
          rw [List.reverse_reverse] at T
          have est : l' ++ .inr (.inr (some q0)) :: st.drop a = st := by
            have e9 := hst
            rw [hl', List.append_assoc] at e9
            exact e9
          rw [est] at T
          exact T
    | ireturn =>
      dsimp only at hstp
      obtain ⟨c1, c2⟩ := Bool.and_eq_true_iff.mp (show (_ && _) = true from hchI)
      have hl := beq_t c1
      subst hl
      split at hstp
      · rename_i x
        obtain ⟨k1, k2⟩ := ck_some hstp
        have hrr := Option.some.inj k2
        have hty : ∃ ty, mR m = some ty ∧ ((c = 0 ∧ ty = .int) ∨ (c = 1 ∧ ty = .boolean) ∨ (c = 2 ∧ ty = .byte) ∨ (c = 3 ∧ ty = .char)) := by
          split at c2
          · exact ⟨_, eq_of_beq c2, Or.inl ⟨rfl, rfl⟩⟩
          · exact ⟨_, eq_of_beq c2, Or.inr (Or.inl ⟨rfl, rfl⟩)⟩
          · exact ⟨_, eq_of_beq c2, Or.inr (Or.inr (Or.inl ⟨rfl, rfl⟩))⟩
          · exact ⟨_, eq_of_beq c2, Or.inr (Or.inr (Or.inr ⟨rfl, rfl⟩))⟩
          · cases c2
        obtain ⟨ty, t1, t2⟩ := hty
        exact (hret pc L h).1 x ty hd t1 (rok_nar k1 t2) hrr.symm
      · cases hstp
    | lreturn =>
      dsimp only at hstp
      obtain ⟨c1, c2⟩ := Bool.and_eq_true_iff.mp (show (_ && _) = true from hchI)
      have hl := beq_t c1
      subst hl
      split at hstp
      · exact (hret pc L h).2.1 _ hd (eq_of_beq c2) (Option.some.inj hstp).symm
      · cases hstp
    | areturn =>
      dsimp only at hstp
      obtain ⟨c1, c2⟩ := Bool.and_eq_true_iff.mp (show (_ && _) = true from hchI)
      have hl := beq_t c1
      subst hl
      split at hstp
      · cases hty : mR m with
        | none => rw [hty] at c2; cases c2
        | some ty =>
          rw [hty] at c2
          exact (hret pc L h).2.2.1 _ ty hd hty c2 (Option.some.inj hstp).symm
      · cases hstp
    | return_ =>
      dsimp only at hstp
      obtain ⟨c1, c2⟩ := Bool.and_eq_true_iff.mp (show (_ && _) = true from hchI)
      have hl := beq_t c1
      subst hl
      split at hstp
      · exact (hret pc L h).2.2.2 hd (eq_of_beq c2) (Option.some.inj hstp).symm
      · cases hstp
    | _ => cases hstp
end SND
