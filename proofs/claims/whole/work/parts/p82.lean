set_option maxHeartbeats 400000
/-! in which order most are had: the set table against all orders -/
def bt (s t : Nat) : Bool := hs (c s) t
def cnN (f : Nat → Bool) : Nat → Nat
  | 0 => 0
  | n + 1 => cnN f n + (f n).toNat
def pcn (s : Nat) : Nat := cnN (bt s) 6
set_option maxRecDepth 100000 in
theorem bt_or : ∀ s, s < 64 → ∀ t, t < 6 → ∀ u, u < 6 → bt (s ||| 2 ^ t) u = (bt s u || decide (u = t)) := by decide +kernel
theorem or_lt : ∀ s, s < 64 → ∀ t, t < 6 → s ||| 2 ^ t < 64 := by decide +kernel
theorem or_gt0 : ∀ s, s < 64 → ∀ t, t < 6 → (bt s t || decide (s < s ||| 2 ^ t)) = true := by decide +kernel
theorem or_gt {s t : Nat} (hs' : s < 64) (ht : t < 6) (h : bt s t = false) : s < s ||| 2 ^ t := by
  have := or_gt0 s hs' t ht
  rw [h, Bool.false_or] at this
  exact of_decide_eq_true this
theorem pcn_or0 : ∀ s, s < 64 → ∀ t, t < 6 → (bt s t || decide (pcn (s ||| 2 ^ t) = pcn s + 1)) = true := by decide +kernel
theorem pcn_or {s t : Nat} (hs' : s < 64) (ht : t < 6) (h : bt s t = false) : pcn (s ||| 2 ^ t) = pcn s + 1 := by
  have := pcn_or0 s hs' t ht
  rw [h, Bool.false_or] at this
  exact of_decide_eq_true this
theorem pcn_6 : ∀ s, s < 64 → pcn s ≤ 6 := by decide +kernel
theorem bt_0 : ∀ t, t < 6 → bt 0 t = false := by decide
theorem cnN_c {f g : Nat → Bool} : ∀ n, (∀ i, i < n → f i = g i) → cnN f n = cnN g n := by
  intro n
  induction n with
  | zero => intro _; rfl
  | succ n ih =>
    intro h
    show cnN f n + (f n).toNat = cnN g n + (g n).toNat
    rw [ih (fun i hi => h i (by omega)), h n (by omega)]
/-- the most of those that hold -/
def fld (f : Nat → Bool) (g : Nat → Nat) : Nat → Nat
  | 0 => 0
  | n + 1 => if f n = true then max (fld f g n) (g n) else fld f g n
theorem fld_ge {f : Nat → Bool} {g : Nat → Nat} : ∀ n t, t < n → f t = true → g t ≤ fld f g n := by
  intro n
  induction n with
  | zero => intro t h; omega
  | succ n ih =>
    intro t h hf
    show g t ≤ if f n = true then max (fld f g n) (g n) else fld f g n
    by_cases q : t = n
    · subst q; rw [if_pos hf]; omega
    · have := ih t (by omega) hf
      split <;> omega
theorem fld_at {f : Nat → Bool} {g : Nat → Nat} : ∀ n, (∃ t, t < n ∧ f t = true) → ∃ t, t < n ∧ f t = true ∧ fld f g n = g t := by
  intro n
  induction n with
  | zero => intro ⟨t, h, _⟩; omega
  | succ n ih =>
    intro ⟨t, h, hf⟩
    show ∃ t, t < n + 1 ∧ f t = true ∧ (if f n = true then max (fld f g n) (g n) else fld f g n) = g t
    by_cases q : f n = true
    · rw [if_pos q]
      by_cases e : ∃ t, t < n ∧ f t = true
      · obtain ⟨u, hu, hfu, eu⟩ := ih e
        by_cases k : g n ≤ fld f g n
        · exact ⟨u, by omega, hfu, by rw [← eu]; omega⟩
        · exact ⟨n, by omega, q, by omega⟩
      · have z : fld f g n = 0 := by
          clear ih hf h
          have : ∀ m, m ≤ n → fld f g m = 0 := by
            intro m
            induction m with
            | zero => intro _; rfl
            | succ m ih =>
              intro hm
              show (if f m = true then max (fld f g m) (g m) else fld f g m) = 0
              rw [if_neg (fun y => e ⟨m, by omega, y⟩)]
              exact ih (by omega)
          exact this n (Nat.le_refl _)
        exact ⟨n, by omega, q, by omega⟩
    · rw [if_neg q]
      have : t ≠ n := fun y => q (y ▸ hf)
      obtain ⟨u, hu, hfu, eu⟩ := ih ⟨t, by omega, hf⟩
      exact ⟨u, by omega, hfu, eu⟩
theorem fld_0 {f : Nat → Bool} {g : Nat → Nat} : ∀ n, (∀ t, t < n → f t = false) → fld f g n = 0 := by
  intro n
  induction n with
  | zero => intro _; rfl
  | succ n ih =>
    intro h
    show (if f n = true then max (fld f g n) (g n) else fld f g n) = 0
    rw [if_neg (by rw [h n (by omega)]; decide)]
    exact ih (fun t ht => h t (by omega))
theorem fld_c {f : Nat → Bool} {g g' : Nat → Nat} : ∀ n, (∀ t, t < n → f t = true → g t = g' t) → fld f g n = fld f g' n := by
  intro n
  induction n with
  | zero => intro _; rfl
  | succ n ih =>
    intro h
    show (if f n = true then max (fld f g n) (g n) else fld f g n) = (if f n = true then max (fld f g' n) (g' n) else fld f g' n)
    rw [ih (fun t ht hf => h t (by omega) hf)]
    by_cases q : f n = true
    · rw [if_pos q, if_pos q, h n (by omega) q]
    · rw [if_neg q, if_neg q]
theorem fld_le {f : Nat → Bool} {g : Nat → Nat} {m : Nat} : ∀ n, (∀ t, t < n → f t = true → g t ≤ m) → fld f g n ≤ m := by
  intro n
  induction n with
  | zero => intro _; exact Nat.zero_le _
  | succ n ih =>
    intro h
    have := ih (fun t ht hf => h t (by omega) hf)
    show (if f n = true then max (fld f g n) (g n) else fld f g n) ≤ m
    by_cases q : f n = true
    · rw [if_pos q]
      have := h n (by omega) q
      omega
    · rw [if_neg q]; exact this
section TT
variable (P : Nat → Bool) (W : Nat → Nat → Bool)
def lf (s t : Nat) : Bool := P t && !bt s t
def MS : Nat → Nat → Nat
  | 0, _ => 0
  | f + 1, s => fld (lf P s) (fun t => MS f (s ||| 2 ^ t) + (W (pcn s) t).toNat) 6
def TS (s : Nat) : Nat := MS P W (6 - pcn s) s
theorem lf_f {s t : Nat} (h : lf P s t = true) : P t = true ∧ bt s t = false := by
  unfold lf at h
  simp only [Bool.and_eq_true, Bool.not_eq_true'] at h
  exact h
theorem bt_full : ∀ s, s < 64 → (decide (pcn s < 6) || (bt s 0 && bt s 1 && bt s 2 && bt s 3 && bt s 4 && bt s 5)) = true := by decide +kernel
theorem TS_eq {s : Nat} (hs' : s < 64) : TS P W s = fld (lf P s) (fun t => TS P W (s ||| 2 ^ t) + (W (pcn s) t).toNat) 6 := by
  unfold TS
  by_cases h : pcn s < 6
  · obtain ⟨f, hf⟩ : ∃ f, 6 - pcn s = f + 1 := ⟨5 - pcn s, by omega⟩
    rw [hf]
    show fld (lf P s) (fun t => MS P W f (s ||| 2 ^ t) + (W (pcn s) t).toNat) 6 = _
    refine fld_c 6 fun t ht hl => ?_
    obtain ⟨h1, h2⟩ := lf_f P hl
    rw [pcn_or hs' ht h2, show 6 - (pcn s + 1) = f by omega]
  · have h6 := pcn_6 s hs'
    rw [show 6 - pcn s = 0 by omega]
    show 0 = _
    have := bt_full s hs'
    rw [decide_eq_false h] at this
    simp only [Bool.false_or, Bool.and_eq_true] at this
    obtain ⟨⟨⟨⟨⟨b0, b1⟩, b2⟩, b3⟩, b4⟩, b5⟩ := this
    refine (fld_0 6 fun t ht => ?_).symm
    unfold lf
    match t, ht with
    | 0, _ => rw [b0]; simp
    | 1, _ => rw [b1]; simp
    | 2, _ => rw [b2]; simp
    | 3, _ => rw [b3]; simp
    | 4, _ => rw [b4]; simp
    | 5, _ => rw [b5]; simp
theorem MS_le : ∀ f s, MS P W f s ≤ f := by
  intro f
  induction f with
  | zero => intro s; exact Nat.zero_le _
  | succ f ih =>
    intro s
    refine fld_le 6 fun t ht hl => ?_
    have := ih (s ||| 2 ^ t)
    show MS P W f (s ||| 2 ^ t) + (W (pcn s) t).toNat ≤ f + 1
    cases W (pcn s) t <;> simp <;> omega
theorem TS_le {s : Nat} : TS P W s ≤ 6 := by
  have := MS_le P W (6 - pcn s) s
  unfold TS
  omega
/-- the first of the best next ones; 6: there is none -/
def gz (s : Nat) : Nat → Nat → Nat
  | 0, _ => 6
  | r + 1, t => if lf P s t = true ∧ TS P W (s ||| 2 ^ t) + (W (pcn s) t).toNat = TS P W s then t else gz s r (t + 1)
theorem gz_f {s : Nat} : ∀ r t, t + r = 6 → (∃ u, t ≤ u ∧ u < 6 ∧ lf P s u = true ∧ TS P W (s ||| 2 ^ u) + (W (pcn s) u).toNat = TS P W s) → gz P W s r t < 6 ∧ lf P s (gz P W s r t) = true ∧ TS P W (s ||| 2 ^ (gz P W s r t)) + (W (pcn s) (gz P W s r t)).toNat = TS P W s ∧ ∀ u, t ≤ u → u < 6 → lf P s u = true → TS P W (s ||| 2 ^ u) + (W (pcn s) u).toNat = TS P W s → gz P W s r t ≤ u := by
  intro r
  induction r with
  | zero => intro t ht ⟨u, h1, h2, _⟩; omega
  | succ r ih =>
    intro t ht ⟨u, h1, h2, h3, h4⟩
    show (if lf P s t = true ∧ _ then t else gz P W s r (t + 1)) < 6 ∧ _
    have e : gz P W s (r + 1) t = if lf P s t = true ∧ TS P W (s ||| 2 ^ t) + (W (pcn s) t).toNat = TS P W s then t else gz P W s r (t + 1) := rfl
    rw [e]
    by_cases q : lf P s t = true ∧ TS P W (s ||| 2 ^ t) + (W (pcn s) t).toNat = TS P W s
    · rw [if_pos q]
      exact ⟨by omega, q.1, q.2, fun u hu _ _ _ => hu⟩
    · rw [if_neg q]
      have : u ≠ t := fun y => q (y ▸ ⟨h3, h4⟩)
      obtain ⟨i1, i2, i3, i4⟩ := ih (t + 1) (by omega) ⟨u, by omega, h2, h3, h4⟩
      refine ⟨i1, i2, i3, fun v hv1 hv2 hv3 hv4 => ?_⟩
      have : v ≠ t := fun y => q (y ▸ ⟨hv3, hv4⟩)
      exact i4 v (by omega) hv2 hv3 hv4
theorem gz_n {s : Nat} : ∀ r t, t + r = 6 → (∀ u, u < 6 → lf P s u = false) → gz P W s r t = 6 := by
  intro r
  induction r with
  | zero => intro t ht h; rfl
  | succ r ih =>
    intro t ht h
    show (if lf P s t = true ∧ _ then t else gz P W s r (t + 1)) = 6
    rw [if_neg (fun z => by rw [h t (by omega)] at z; exact absurd z.1 (by decide))]
    exact ih (t + 1) (by omega) h
def gr (s : Nat) : Nat := gz P W s 6 0
def gs : Nat → Nat
  | 0 => 0
  | j + 1 => gs j ||| 2 ^ (gr P W (gs j))
/-- sets of P's -/
def sbP (s : Nat) : Prop := ∀ t, t < 6 → bt s t = true → P t = true
theorem lf_ex {s : Nat} (hsb : sbP P s) (h : pcn s < cnN P 6) : ∃ t, t < 6 ∧ lf P s t = true := by
  apply Classical.byContradiction
  intro hn
  have : pcn s = cnN P 6 := by
    refine cnN_c 6 fun t ht => ?_
    cases hb : bt s t with
    | true => rw [hsb t ht hb]
    | false =>
      cases hp' : P t with
      | false => rfl
      | true => exact absurd ⟨t, ht, by unfold lf; rw [hp', hb]; rfl⟩ hn
  omega
theorem gr_f {s : Nat} (hs' : s < 64) (hsb : sbP P s) (h : pcn s < cnN P 6) : gr P W s < 6 ∧ lf P s (gr P W s) = true ∧ TS P W (s ||| 2 ^ (gr P W s)) + (W (pcn s) (gr P W s)).toNat = TS P W s ∧ ∀ u, u < 6 → lf P s u = true → TS P W (s ||| 2 ^ u) + (W (pcn s) u).toNat = TS P W s → gr P W s ≤ u := by
  obtain ⟨t, ht, hl, e⟩ := fld_at (f := lf P s) (g := fun t => TS P W (s ||| 2 ^ t) + (W (pcn s) t).toNat) 6 (lf_ex P hsb h)
  rw [← TS_eq P W hs'] at e
  obtain ⟨i1, i2, i3, i4⟩ := gz_f P W 6 0 rfl ⟨t, by omega, ht, hl, e.symm⟩
  exact ⟨i1, i2, i3, fun u h1 h2 h3 => i4 u (by omega) h1 h2 h3⟩
theorem gs_f : ∀ j, j ≤ cnN P 6 → gs P W j < 64 ∧ sbP P (gs P W j) ∧ pcn (gs P W j) = j := by
  intro j
  induction j with
  | zero =>
    intro _
    refine ⟨by show 0 < 64; omega, fun t ht h => ?_, ?_⟩
    · rw [show gs P W 0 = 0 from rfl, bt_0 t ht] at h; cases h
    · show pcn 0 = 0; decide
  | succ j ih =>
    intro hj
    obtain ⟨h1, h2, h3⟩ := ih (by omega)
    obtain ⟨g1, g2, g3, g4⟩ := gr_f P W h1 h2 (by omega)
    obtain ⟨l1, l2⟩ := lf_f P g2
    show (gs P W j ||| 2 ^ (gr P W (gs P W j))) < 64 ∧ sbP P (gs P W j ||| 2 ^ (gr P W (gs P W j))) ∧ pcn (gs P W j ||| 2 ^ (gr P W (gs P W j))) = j + 1
    refine ⟨or_lt _ h1 _ g1, fun t ht h => ?_, by rw [pcn_or h1 g1 l2, h3]⟩
    rw [bt_or _ h1 _ g1 _ ht, Bool.or_eq_true] at h
    rcases h with h | h
    · exact h2 t ht h
    · rw [of_decide_eq_true h]; exact l1
theorem gs_end : ∀ u, u < 6 → lf P (gs P W (cnN P 6)) u = false := by
  intro u hu
  obtain ⟨h1, h2, h3⟩ := gs_f P W (cnN P 6) (Nat.le_refl _)
  cases h : lf P (gs P W (cnN P 6)) u with
  | false => rfl
  | true =>
    obtain ⟨l1, l2⟩ := lf_f P h
    have e : pcn (gs P W (cnN P 6) ||| 2 ^ u) = cnN P 6 + 1 := by rw [pcn_or h1 hu l2, h3]
    have hle : ∀ n (f g : Nat → Bool), (∀ i, i < n → f i = true → g i = true) → cnN f n ≤ cnN g n := by
      intro n
      induction n with
      | zero => intro f g _; exact Nat.le_refl _
      | succ n ih =>
        intro f g hh
        have := ih f g (fun i hi => hh i (by omega))
        have k := hh n (by omega)
        show cnN f n + (f n).toNat ≤ cnN g n + (g n).toNat
        cases hf : f n with
        | false => simp; omega
        | true => rw [k hf]; omega
    have : pcn (gs P W (cnN P 6) ||| 2 ^ u) ≤ cnN P 6 := hle 6 _ _ fun t ht hb => by
      rw [bt_or _ h1 _ hu _ ht, Bool.or_eq_true] at hb
      rcases hb with hb | hb
      · exact h2 t ht hb
      · rw [of_decide_eq_true hb]; exact l1
    omega
end TT
