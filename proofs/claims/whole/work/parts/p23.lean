def okN (h : Hp) (y : St ⊕ Rs) : Prop := match y with
  | .inl s' => h.1 ≤ s'.2.2.2.1 ∧ h.2.1 ≤ s'.2.2.2.2.1
  | .inr r => r.2 = h
theorem ivk_n {E : Ev} (hE : ∀ c a h v h', E c a h = some (v, h') → h.1 ≤ h'.1 ∧ h.2.1 ≤ h'.2.1) {c a b pc : Nat} {L : List (Option Vl)} {st : List Vl} {h : Hp} {y : St ⊕ Rs} (hh : ivk E c a b pc L st h (fun pc L st h => some (Sum.inl (pc, L, st, h))) = some y) : okN h y := by
  unfold ivk at hh
  split at hh
  · split at hh
    · obtain ⟨-, hh⟩ := ck_some hh
      split at hh
      · cases hh; exact ⟨Nat.le_refl _, Nat.le_refl _⟩
      · obtain ⟨-, hh⟩ := ck_some hh
        cases hh; exact ⟨Nat.le_refl _, Nat.le_refl _⟩
      · cases hh; exact ⟨Nat.le_refl _, Nat.le_refl _⟩
      · cases hh
    · cases hh
  · split at hh
    · split at hh
      · obtain ⟨-, hh⟩ := ck_some hh
        cases hh; exact ⟨Nat.le_refl _, Nat.le_refl _⟩
      · cases hh
    · split at hh
      · split at hh
        · obtain ⟨-, hh⟩ := ck_some hh
          cases hh; exact ⟨Nat.le_refl _, Nat.le_refl _⟩
        · cases hh
      · split at hh
        · split at hh
          · obtain ⟨-, hh⟩ := ck_some hh
            cases hh; exact ⟨Nat.le_refl _, Nat.le_refl _⟩
          · cases hh
        · obtain ⟨-, hh⟩ := ck_some hh
          split at hh
          · rename_i v h' he
            cases hh
            exact hE _ _ _ _ _ he
          · cases hh
theorem ck_iff {β : Type} {b : Bool} {x : Option β} {y : β} : ck b x = some y ↔ b = true ∧ x = some y := ⟨ck_some, fun h => by rw [ck_t h.1]; exact h.2⟩
set_option maxHeartbeats 4000000 in
theorem fr_n {sc : Sc} {E : Ev} (hE : ∀ c a h v h', E c a h = some (v, h') → h.1 ≤ h'.1 ∧ h.2.1 ≤ h'.2.1) {m pc : Nat} {L : List (Option Vl)} {st : List Vl} {h : Hp} {y : St ⊕ Rs} (hh : fr sc E m pc L st h = some y) : okN h y := by
  unfold fr stp at hh
  cases hk : kode m pc with
  | none => rw [hk] at hh; cases hh
  | some e =>
    obtain ⟨i, ln, cv, cl, a, b, c, sw⟩ := e
    rw [hk] at hh
    clear hk
    cases i with
    | new x =>
      dsimp only at hh
      obtain ⟨t, k, hn⟩ : ∃ t k, nm h.1 = (t, k) := ⟨_, _, rfl⟩
      rw [hn] at hh
      have hh := (ck_some hh).2
      cases hh
      exact ⟨Nat.le_succ _, Nat.le_add_right _ _⟩
    | newarray x =>
      dsimp only at hh
      split at hh
      · obtain ⟨t, k, hn⟩ : ∃ t k, nm h.1 = (t, k) := ⟨_, _, rfl⟩
        rw [hn] at hh
        have hh := (ck_some hh).2
        cases hh
        exact ⟨Nat.le_succ _, Nat.le_add_right _ _⟩
      · cases hh
    | anewarray x =>
      dsimp only at hh
      split at hh
      · obtain ⟨t, k, hn⟩ : ∃ t k, nm h.1 = (t, k) := ⟨_, _, rfl⟩
        rw [hn] at hh
        have hh := (ck_some hh).2
        cases hh
        exact ⟨Nat.le_succ _, Nat.le_add_right _ _⟩
      · cases hh
    | tableswitch _ _ _ _ =>
      dsimp only at hh
      split at hh
      · rw [swK_eq] at hh
        cases hh
        exact ⟨Nat.le_refl _, Nat.le_refl _⟩
      · cases hh
    | lookupswitch _ _ =>
      dsimp only at hh
      split at hh
      · rw [swK_eq] at hh
        cases hh
        exact ⟨Nat.le_refl _, Nat.le_refl _⟩
      · cases hh
    | ifCond cnd _ => cases cnd <;> dsimp only at hh <;> (repeat' split at hh) <;> (first | (cases hh; done) | (cases hh; rfl) | (cases hh; exact ⟨Nat.le_refl _, Nat.le_refl _⟩) | (cases hh; exact ⟨Nat.le_succ _, Nat.le_add_right _ _⟩))
    | if_icmp cnd _ => cases cnd <;> dsimp only at hh <;> (repeat' split at hh) <;> (first | (cases hh; done) | (cases hh; rfl) | (cases hh; exact ⟨Nat.le_refl _, Nat.le_refl _⟩) | (cases hh; exact ⟨Nat.le_succ _, Nat.le_add_right _ _⟩))
    | invokestatic _ => exact ivk_n hE hh
    | invokevirtual _ => exact ivk_n hE hh
    | invokespecial _ => exact ivk_n hE hh
    | _ => first | (cases hh; done) | (dsimp only at hh; (repeat' (first | split at hh | (simp only [ck_iff] at hh; replace hh := hh.2) | (replace hh := And.right hh))) <;> (first | (cases hh; done) | (cases hh; rfl) | (cases hh; exact ⟨Nat.le_refl _, Nat.le_refl _⟩) | skip))
theorem run_n {sc : Sc} {E : Ev} (hE : ∀ c a h v h', E c a h = some (v, h') → h.1 ≤ h'.1 ∧ h.2.1 ≤ h'.2.1) {m : Nat} {rr : Rs} : ∀ (n pc : Nat) (L : List (Option Vl)) (st : List Vl) (h : Hp), run sc E m n pc L st h = some rr → h.1 ≤ rr.2.1 ∧ h.2.1 ≤ rr.2.2.1 := by
  intro n
  induction n with
  | zero => intro pc L st h hh; cases hh
  | succ n ih =>
    intro pc L st h hh
    rw [run_s] at hh
    cases hf : fr sc E m pc L st h with
    | none => rw [hf] at hh; cases hh
    | some y =>
      have h1 := fr_n hE hf
      rw [hf] at hh
      cases y with
      | inl s =>
        have h2 := ih _ _ _ _ hh
        exact ⟨Nat.le_trans h1.1 h2.1, Nat.le_trans h1.2 h2.2⟩
      | inr r =>
        have h1 : r.2 = h := h1
        have hh : some r = some rr := hh
        cases hh
        rw [h1]
        exact ⟨Nat.le_refl _, Nat.le_refl _⟩
theorem dn_n : ∀ (d c : Nat) (a : List Vl) (h : Hp) (v : Option Vl) (h' : Hp), dn d c a h = some (v, h') → h.1 ≤ h'.1 ∧ h.2.1 ≤ h'.2.1 := by
  intro d
  induction d with
  | zero => intro c a h v h' hh; cases hh
  | succ d ih =>
    intro c a h v h' hh
    obtain ⟨-, h2⟩ := ck_some hh
    obtain ⟨n, hn⟩ := rn_inv h2
    exact run_n ih n _ _ _ _ hn
theorem leq_eq : ∀ (a b : List Nat), leq a b = true → a = b
  | [], [], _ => rfl
  | [], _ :: _, h => by cases h
  | _ :: _, [], h => by cases h
  | a :: r, b :: q, h => by
    obtain ⟨h1, h2⟩ := Bool.and_eq_true_iff.mp (show (Nat.beq a b && leq r q) = true from h)
    rw [beq_t h1, leq_eq r q h2]
theorem lcl_c {v : Vl} {r : List Vl} : lcl (v :: r) = (match isL v with | true => [some v, none] | false => [some v]) ++ lcl r := rfl
theorem lcl_sl {ad : Nat → Nat → Nat} : ∀ vs : List Vl, (lg_sl (vs.map (re ad))).length = (lcl vs).length
  | [] => rfl
  | v :: r => by
    have ih := lcl_sl (ad := ad) r
    have e : lg_sl ((v :: r).map (re ad)) = (if (re ad v).category = 2 then [.val (re ad v), .second] else [.val (re ad v)]) ++ lg_sl (r.map (re ad)) := rfl
    rw [e, lcl_c, List.length_append, List.length_append, ih]
    congr 1
    match v with
    | .inl x => rfl
    | .inr (.inl x) => rfl
    | .inr (.inr none) => rw [if_neg (by rw [show (re ad (.inr (.inr none))).category = 1 from nz_cat _]; decide)]; rfl
    | .inr (.inr (some q)) => rfl
theorem lcl_at {ad : Nat → Nat → Nat} {v : Vl} : ∀ (vs : List Vl) (o i : Nat), (lcl vs)[i]? = some (some v) → (o + i, re ad v) ∈ lv_args o (vs.map (re ad)) ∧ v ∈ vs ∧ (isL v = true → o + i ∈ lps o vs)
  | [], o, i, h => by simp [lcl] at h
  | w :: r, o, i, h => by
    rw [lcl_c] at h
    cases hw : isL w with
    | true =>
      rw [hw] at h
      have hc : (re ad w).category = 2 := by
        match w, hw with
        | .inr (.inl x), _ => rfl
      have ea : lv_args o ((w :: r).map (re ad)) = (o, re ad w) :: lv_args (o + 2) (r.map (re ad)) := by
        show lv_args o (re ad w :: r.map (re ad)) = _
        simp [lv_args, hc]
      have el : lps o (w :: r) = o :: lps (o + 2) r := by
        show (match isL w with | true => o :: lps (o + 2) r | false => lps (o + 1) r) = _
        rw [hw]
      rw [ea, el]
      match i, h with
      | 0, h =>
        have h : some (some w) = some (some v) := h
        cases h
        exact ⟨List.mem_cons_self, List.mem_cons_self, fun _ => List.mem_cons_self⟩
      | 1, h => cases (show some none = some (some v) from h)
      | i + 2, h =>
        obtain ⟨a1, a2, a3⟩ := lcl_at r (o + 2) i h
        rw [show o + 2 + i = o + (i + 2) by omega] at a1 a3
        exact ⟨List.mem_cons_of_mem _ a1, List.mem_cons_of_mem _ a2, fun z => List.mem_cons_of_mem _ (a3 z)⟩
    | false =>
      rw [hw] at h
      have hc : (re ad w).category = 1 := re_cat (by rw [hw]; rfl)
      have ea : lv_args o ((w :: r).map (re ad)) = (o, re ad w) :: lv_args (o + 1) (r.map (re ad)) := by
        show lv_args o (re ad w :: r.map (re ad)) = _
        simp [lv_args, hc]
      have el : lps o (w :: r) = lps (o + 1) r := by
        show (match isL w with | true => o :: lps (o + 2) r | false => lps (o + 1) r) = _
        rw [hw]
      rw [ea, el]
      match i, h with
      | 0, h =>
        have h : some (some w) = some (some v) := h
        cases h
        exact ⟨List.mem_cons_self, List.mem_cons_self, fun z => by rw [hw] at z; cases z⟩
      | i + 1, h =>
        obtain ⟨a1, a2, a3⟩ := lcl_at r (o + 1) i h
        rw [show o + 1 + i = o + (i + 1) by omega] at a1 a3
        exact ⟨List.mem_cons_of_mem _ a1, List.mem_cons_of_mem _ a2, a3⟩
theorem ent_Lh {ad : Nat → Nat → Nat} {ls : Array Slot} {c n : Nat} {args : List Vl} (h : lv_has ls (mL c) (lv_args 0 (args.map (re ad)))) (ho : okS n args) (hl : (lcl args).length ≤ mL c) (hg : lps 0 args = lgP c) : Lh ad ls c n (ent (mL c) args) := by
  refine ⟨h.1, h.2.1, ?_, fun i v hi => ?_⟩
  · unfold ent
    rw [List.length_append, List.length_replicate]
    omega
  · unfold ent at hi
    by_cases hlt : i < (lcl args).length
    · rw [List.getElem?_append_left hlt] at hi
      obtain ⟨a1, a2, a3⟩ := lcl_at (ad := ad) args 0 i hi
      rw [Nat.zero_add] at a1 a3
      rw [hg] at a3
      exact ⟨h.2.2 _ a1, ho v a2, a3⟩
    · rw [List.getElem?_append_right (by omega), List.getElem?_replicate] at hi
      split at hi <;> cases hi
