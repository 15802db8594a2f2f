set_option maxHeartbeats 400000
/-! what a town's code comes to -/
abbrev tkO (a : Tk) : Prop := a.2.1 < 6 ∧ 60 ≤ a.2.2.1 ∧ a.2.2.1 ≤ 62 ∧ a.2.2.2 < 100
def stS (v : Tk → Bool) (D : Nat) (a : Tk) (st : List Bool) : Option (List Bool) :=
  if a.1 = 0 then (if st.length < D ∧ tkO a then some (v a :: st) else none)
  else if a.1 = 1 then (match st with | x :: r => some ((!x) :: r) | [] => none)
  else if a.1 = 2 then (match st with | x :: y :: r => some ((y && x) :: r) | _ => none)
  else if a.1 = 3 then (match st with | x :: y :: r => some ((y || x) :: r) | _ => none)
  else none
def evS (v : Tk → Bool) (D : Nat) : List Tk → List Bool → Option (List Bool)
  | [], st => some st
  | a :: r, st => match stS v D a st with | some st' => evS v D r st' | none => none
theorem evS_c {v : Tk → Bool} {D : Nat} {a : Tk} {r : List Tk} {st st' : List Bool} (h : stS v D a st = some st') : evS v D (a :: r) st = evS v D r st' := by
  show (match stS v D a st with | some st' => evS v D r st' | none => none) = _
  rw [h]
theorem evS_a {v : Tk → Bool} {D : Nat} {e : List Tk} : ∀ d st st', evS v D d st = some st' → evS v D (d ++ e) st = evS v D e st' := by
  intro d
  induction d with
  | nil => intro st st' h; show evS v D e st = _; rw [show st = st' from Option.some.inj h]
  | cons a r ih =>
    intro st st' h
    show evS v D (a :: (r ++ e)) st = _
    have h' : (match stS v D a st with | some st' => evS v D r st' | none => none) = some st' := h
    cases q : stS v D a st with
    | none => rw [q] at h'; cases h'
    | some s2 => rw [q] at h'; rw [evS_c q]; exact ih _ _ h'
/-- code that comes to one value, with no more than m places -/
def okC (m : Nat) (e : List Tk) : Prop := ∀ v, ∃ x, ∀ D st, st.length + m ≤ D → evS v D e st = some (x :: st)
theorem okC_le {m m' : Nat} {e : List Tk} (h : okC m e) (hm : m ≤ m') : okC m' e := fun v => by
  obtain ⟨x, hx⟩ := h v
  exact ⟨x, fun D st hD => hx D st (by omega)⟩
theorem okC_1 {a : Tk} (h : a.1 = 0) (h' : tkO a) : okC 1 [a] := fun v => ⟨v a, fun D st hD => by
  rw [evS_c (st' := v a :: st) (by unfold stS; rw [if_pos h, if_pos ⟨by omega, h'⟩])]; rfl⟩
theorem okC_n {m : Nat} {e : List Tk} (h : okC m e) : okC m (e ++ [(1, 0, 0, 0)]) := fun v => by
  obtain ⟨x, hx⟩ := h v
  exact ⟨!x, fun D st hD => by rw [evS_a _ _ _ (hx D st hD)]; rfl⟩
theorem okC_b {m : Nat} {d e : List Tk} {o : Nat} (ho : o = 2 ∨ o = 3) (h : okC (m + 1) d) (h' : okC m e) : okC (m + 1) (d ++ e ++ [(o, 0, 0, 0)]) := fun v => by
  obtain ⟨x, hx⟩ := h v
  obtain ⟨y, hy⟩ := h' v
  rcases ho with rfl | rfl
  · exact ⟨x && y, fun D st hD => by
      rw [List.append_assoc, evS_a _ _ _ (hx D st hD), evS_a _ _ _ (hy D (x :: st) (by rw [List.length_cons]; omega))]
      rfl⟩
  · exact ⟨x || y, fun D st hD => by
      rw [List.append_assoc, evS_a _ _ _ (hx D st hD), evS_a _ _ _ (hy D (x :: st) (by rw [List.length_cons]; omega))]
      rfl⟩
section P98f
variable {nx : Nat → Int32}
/-- a reader whose code is good -/
def GO (m : Nat) (f : Nat → List Tk → RsP) : Prop := ∀ p cd, (f p cd).1 = true → ∃ e, (f p cd).2.2 = cd ++ e ∧ okC m e
theorem GO_T : GO 1 (rdT nx) := by
  intro p cd
  unfold rdT
  by_cases a : ltr (nx p) < 0
  · rw [if_pos a]; intro z; cases z
  · rw [if_neg a]
    by_cases b : isS (nx (p + 1)) = true
    · rw [if_pos b]
      by_cases d : (rdN nx (p + 2)).1 = true
      · rw [if_pos d]
        intro _
        obtain ⟨l, hl, el⟩ := ltr_n a
        obtain ⟨s, hs1, hs2, es⟩ := isS_c b
        refine ⟨_, rfl, okC_1 rfl ⟨?_, ?_, ?_, ?_⟩⟩
        · show ix (ltr (nx p)) < 6
          rw [el, ix_c (by omega)]; exact hl
        · show 60 ≤ ix (nx (p + 1))
          rw [es, ix_c (by omega)]; exact hs1
        · show ix (nx (p + 1)) ≤ 62
          rw [es, ix_c (by omega)]; exact hs2
        · show (rdN nx (p + 2)).2.2 < 100
          revert d
          unfold rdN
          by_cases q : isD (nx (p + 2)) = true
          · have d1 := (isD_c q).1
            rw [if_pos q]
            by_cases r : isD (nx (p + 2 + 1)) = true
            · have d2 := (isD_c r).1
              rw [if_pos r]; intro _; simp only; omega
            · rw [if_neg r]; intro _; simp only; omega
          · rw [if_neg q]; intro z; cases z
      · rw [if_neg d]; intro z; cases z
    · rw [if_neg b]; intro z; cases z
theorem GO_l {m d : Nat} {f : Nat → List Tk → RsP} {ch : Int32} (hd : d = 2 ∨ d = 3) (hf : GO m f) : ∀ r p cd e, okC (m + 1) e → (lpP nx f ch d r p (cd ++ e)).1 = true → ∃ e', (lpP nx f ch d r p (cd ++ e)).2.2 = cd ++ e' ∧ okC (m + 1) e' := by
  intro r
  induction r with
  | zero => intro p cd e he _; exact ⟨e, rfl, he⟩
  | succ r ih =>
    intro p cd e he
    have eq : lpP nx f ch d (r + 1) p (cd ++ e) = if nx p = ch then (if (f (p + 1) (cd ++ e)).1 = true then lpP nx f ch d r (f (p + 1) (cd ++ e)).2.1 ((f (p + 1) (cd ++ e)).2.2 ++ [(d, 0, 0, 0)]) else (false, (f (p + 1) (cd ++ e)).2.1, [])) else (true, p, cd ++ e) := rfl
    rw [eq]
    by_cases a : nx p = ch
    · rw [if_pos a]
      by_cases b : (f (p + 1) (cd ++ e)).1 = true
      · rw [if_pos b]
        obtain ⟨e2, q1, q2⟩ := hf _ _ b
        have eL : (f (p + 1) (cd ++ e)).2.2 ++ [(d, 0, 0, 0)] = cd ++ (e ++ e2 ++ [(d, 0, 0, 0)]) := by rw [q1, List.append_assoc, List.append_assoc, List.append_assoc]
        rw [eL]
        exact ih _ _ _ (okC_b hd he q2)
      · rw [if_neg b]; intro z; cases z
    · rw [if_neg a]; intro _; exact ⟨e, rfl, he⟩
theorem GO_v {m d : Nat} {f : Nat → List Tk → RsP} {ch : Int32} (hd : d = 2 ∨ d = 3) (hf : GO m f) : GO (m + 1) (lvP nx f ch d) := by
  intro p cd
  unfold lvP
  by_cases b : (f p cd).1 = true
  · rw [if_pos b]
    obtain ⟨e, q1, q2⟩ := hf _ _ b
    rw [q1]
    exact GO_l hd hf _ _ _ _ (okC_le q2 (by omega))
  · rw [if_neg b]; intro z; cases z
theorem GO_F : ∀ k, GO (2 * k + 1) (rdF nx k) := by
  intro k
  induction k with
  | zero => exact GO_T
  | succ k ih =>
    have hE : GO (2 * (k + 1) + 1) (lvP nx (lvP nx (rdF nx k) 38 2) 124 3) := GO_v (Or.inr rfl) (GO_v (Or.inl rfl) ih)
    intro p cd
    have e : rdF nx (k + 1) p cd = if nx p = 33 then (if (rdF nx k (p + 1) cd).1 = true then (true, (rdF nx k (p + 1) cd).2.1, (rdF nx k (p + 1) cd).2.2 ++ [(1, 0, 0, 0)]) else (false, (rdF nx k (p + 1) cd).2.1, [])) else if nx p = 40 then (if (lvP nx (lvP nx (rdF nx k) 38 2) 124 3 (p + 1) cd).1 = true then (if nx (lvP nx (lvP nx (rdF nx k) 38 2) 124 3 (p + 1) cd).2.1 = 41 then (true, (lvP nx (lvP nx (rdF nx k) 38 2) 124 3 (p + 1) cd).2.1 + 1, (lvP nx (lvP nx (rdF nx k) 38 2) 124 3 (p + 1) cd).2.2) else (false, (lvP nx (lvP nx (rdF nx k) 38 2) 124 3 (p + 1) cd).2.1, [])) else (false, (lvP nx (lvP nx (rdF nx k) 38 2) 124 3 (p + 1) cd).2.1, [])) else rdT nx p cd := rfl
    rw [e]
    by_cases a : nx p = 33
    · rw [if_pos a]
      by_cases b : (rdF nx k (p + 1) cd).1 = true
      · rw [if_pos b]
        intro _
        obtain ⟨e, q1, q2⟩ := ih _ _ b
        refine ⟨e ++ [(1, 0, 0, 0)], ?_, okC_le (okC_n q2) (by omega)⟩
        show (rdF nx k (p + 1) cd).2.2 ++ _ = _
        rw [q1, List.append_assoc]
      · rw [if_neg b]; intro z; cases z
    · rw [if_neg a]
      by_cases a2 : nx p = 40
      · rw [if_pos a2]
        by_cases b : (lvP nx (lvP nx (rdF nx k) 38 2) 124 3 (p + 1) cd).1 = true
        · rw [if_pos b]
          by_cases b2 : nx (lvP nx (lvP nx (rdF nx k) 38 2) 124 3 (p + 1) cd).2.1 = 41
          · rw [if_pos b2]
            intro _
            exact hE _ _ b
          · rw [if_neg b2]; intro z; cases z
        · rw [if_neg b]; intro z; cases z
      · rw [if_neg a2]
        intro z
        obtain ⟨e, q1, q2⟩ := GO_T _ _ z
        exact ⟨e, q1, okC_le q2 (by omega)⟩
theorem GO_E : GO 11 (rdE nx 4) := GO_v (Or.inr rfl) (GO_v (Or.inl rfl) (GO_F 4))
/-- clauses as they ought to be -/
def CO (a : Cl) : Prop := a.1 < 5 ∧ a.2.1 < 100 ∧ (a.1 < 2 → okC 11 a.2.2) ∧ (2 ≤ a.1 → a.2.2 = [])
theorem CO_C {p : Nat} (h : (rdC nx p).1 = true) : CO (rdC nx p).2.2 := by
  revert h
  unfold rdC
  by_cases a : (rdW nx (SBk (wkx (nx p))) p).1 = true
  · rw [if_pos a]
    generalize (rdW nx (SBk (wkx (nx p))) p).2 = W
    by_cases b : (rdN nx W).1 = true
    · rw [if_pos b]
      have hN : (rdN nx W).2.2 < 100 := by
        revert b
        unfold rdN
        by_cases q : isD (nx W) = true
        · have d1 := (isD_c q).1
          rw [if_pos q]
          by_cases r : isD (nx (W + 1)) = true
          · have d2 := (isD_c r).1
            rw [if_pos r]; intro _; simp only; omega
          · rw [if_neg r]; intro _; simp only; omega
        · rw [if_neg q]; intro z; cases z
      have hw : wdx (wkx (nx p)) < 5 := by
        unfold wdx
        repeat' split
        all_goals omega
      by_cases d : wkx (nx p) = 1 ∨ wkx (nx p) = 5
      · rw [if_pos d]
        by_cases e : nx (rdN nx W).2.1 = 32
        · rw [if_pos e]
          by_cases g : (rdE nx 4 ((rdN nx W).2.1 + 1) []).1 = true
          · rw [if_pos g]
            intro _
            obtain ⟨e', q1, q2⟩ := GO_E _ _ g
            refine ⟨hw, hN, fun _ => ?_, fun z => ?_⟩
            · show okC 11 (rdE nx 4 ((rdN nx W).2.1 + 1) []).2.2
              rw [q1]; exact q2
            · have z : 2 ≤ wdx (wkx (nx p)) := z
              exfalso
              rcases d with d | d <;> rw [d] at z <;> exact absurd z (by decide)
          · rw [if_neg g]; intro z; cases z
        · rw [if_neg e]; intro z; cases z
      · rw [if_neg d]
        intro _
        refine ⟨hw, hN, fun z => ?_, fun _ => rfl⟩
        have z : wdx (wkx (nx p)) < 2 := z
        exfalso
        unfold wdx at z
        repeat' split at z
        all_goals omega
    · rw [if_neg b]; intro z; cases z
  · rw [if_neg a]; intro z; cases z
theorem CO_I {n : Nat} : ∀ r p cs, (∀ a ∈ cs, CO a) → (rdI nx n r p cs).1 = true → ∀ a ∈ (rdI nx n r p cs).2.2, CO a := by
  intro r
  induction r with
  | zero => intro p cs _ z; cases z
  | succ r ih =>
    intro p cs h
    have e : rdI nx n (r + 1) p cs = if (rdC nx p).1 = true then (if r ≠ 0 ∧ nx (rdC nx p).2.1 = 59 then rdI nx n r ((rdC nx p).2.1 + 1) (cs ++ [(rdC nx p).2.2]) else (decide ((rdC nx p).2.1 = n), (rdC nx p).2.1, cs ++ [(rdC nx p).2.2])) else (false, (rdC nx p).2.1, cs) := rfl
    rw [e]
    by_cases a : (rdC nx p).1 = true
    · have h2 : ∀ b ∈ cs ++ [(rdC nx p).2.2], CO b := by
        intro b hb
        rcases List.mem_append.mp hb with q | q
        · exact h b q
        · rw [List.mem_singleton.mp q]; exact CO_C a
      rw [if_pos a]
      by_cases b : r ≠ 0 ∧ nx (rdC nx p).2.1 = 59
      · rw [if_pos b]; exact ih _ _ h2
      · rw [if_neg b]; intro _; exact h2
    · rw [if_neg a]; intro z; cases z
end P98f
