set_option maxHeartbeats 400000
def smF (f : Nat → Nat) : Nat → Nat → Nat
  | 0, _ => 0
  | r + 1, i => f i + smF f r (i + 1)
theorem smF_c {f g : Nat → Nat} {N : Nat} (h : ∀ i, i < N → f i = g i) : ∀ r i, i + r = N → smF f r i = smF g r i := by
  intro r
  induction r with
  | zero => intro i _; rfl
  | succ r ih =>
    intro i hi
    show f i + smF f r (i + 1) = g i + smF g r (i + 1)
    rw [h i (by omega), ih (i + 1) (by omega)]
/-- the places of a number of N places to six -/
def dg (N b i : Nat) : Nat := b / 6 ^ (N - 1 - i) % 6
theorem dg_6 {N b i : Nat} : dg N b i < 6 := Nat.mod_lt _ (by omega)
section DD
variable (P : Nat → Bool) (W : Nat → Nat → Bool)
def Vb (N b : Nat) : Prop := (∀ i, i < N → P (dg N b i) = true) ∧ ∀ i j, i < j → j < N → dg N b i ≠ dg N b j
def wtF (N b i : Nat) : Nat := (W i (dg N b i)).toNat
def vl (N b : Nat) : Nat := smF (wtF W N b) N 0
def dsF (N b : Nat) : Nat → Nat
  | 0 => 0
  | j + 1 => dsF N b j ||| 2 ^ (dg N b j)
theorem ds_f {N b : Nat} (h : Vb P N b) : ∀ j, j ≤ N → dsF N b j < 64 ∧ sbP P (dsF N b j) ∧ pcn (dsF N b j) = j ∧ ∀ t, t < 6 → bt (dsF N b j) t = true → ∃ i, i < j ∧ dg N b i = t := by
  intro j
  induction j with
  | zero =>
    intro _
    refine ⟨by show 0 < 64; omega, fun t ht hb => ?_, ?_, fun t ht hb => ?_⟩
    · rw [show dsF N b 0 = 0 from rfl, bt_0 t ht] at hb; cases hb
    · show pcn 0 = 0; decide
    · rw [show dsF N b 0 = 0 from rfl, bt_0 t ht] at hb; cases hb
  | succ j ih =>
    intro hj
    obtain ⟨h1, h2, h3, h4⟩ := ih (by omega)
    have hn : bt (dsF N b j) (dg N b j) = false := by
      cases hb : bt (dsF N b j) (dg N b j) with
      | false => rfl
      | true =>
        obtain ⟨i, hi, e⟩ := h4 _ dg_6 hb
        exact absurd e (h.2 i j hi (by omega))
    show (dsF N b j ||| 2 ^ (dg N b j)) < 64 ∧ sbP P (dsF N b j ||| 2 ^ (dg N b j)) ∧ pcn (dsF N b j ||| 2 ^ (dg N b j)) = j + 1 ∧ ∀ t, t < 6 → bt (dsF N b j ||| 2 ^ (dg N b j)) t = true → ∃ i, i < j + 1 ∧ dg N b i = t
    refine ⟨or_lt _ h1 _ dg_6, fun t ht hb => ?_, by rw [pcn_or h1 dg_6 hn, h3], fun t ht hb => ?_⟩
    · rw [bt_or _ h1 _ dg_6 _ ht, Bool.or_eq_true] at hb
      rcases hb with hb | hb
      · exact h2 t ht hb
      · rw [of_decide_eq_true hb]; exact h.1 j (by omega)
    · rw [bt_or _ h1 _ dg_6 _ ht, Bool.or_eq_true] at hb
      rcases hb with hb | hb
      · obtain ⟨i, hi, e⟩ := h4 t ht hb
        exact ⟨i, by omega, e⟩
      · exact ⟨j, by omega, (of_decide_eq_true hb).symm⟩
theorem ds_lf {N b j : Nat} (h : Vb P N b) (hj : j < N) : lf P (dsF N b j) (dg N b j) = true := by
  obtain ⟨h1, h2, h3, h4⟩ := ds_f P h j (by omega)
  unfold lf
  rw [h.1 j hj]
  cases hb : bt (dsF N b j) (dg N b j) with
  | false => rfl
  | true =>
    obtain ⟨i, hi, e⟩ := h4 _ dg_6 hb
    exact absurd e (h.2 i j hi hj)
theorem TS_ge {s t : Nat} (hs' : s < 64) (ht : t < 6) (hl : lf P s t = true) : TS P W (s ||| 2 ^ t) + (W (pcn s) t).toNat ≤ TS P W s := by
  rw [TS_eq P W hs']
  exact fld_ge (f := lf P s) (g := fun t => TS P W (s ||| 2 ^ t) + (W (pcn s) t).toNat) 6 t ht hl
theorem sfx_le {N b : Nat} (h : Vb P N b) : ∀ r j, j + r = N → smF (wtF W N b) r j ≤ TS P W (dsF N b j) := by
  intro r
  induction r with
  | zero => intro j _; exact Nat.zero_le _
  | succ r ih =>
    intro j hj
    obtain ⟨h1, h2, h3, h4⟩ := ds_f P h j (by omega)
    have a := ih (j + 1) (by omega)
    have e := TS_ge P W h1 (dg_6 (N := N) (b := b) (i := j)) (ds_lf P h (by omega))
    rw [h3] at e
    show wtF W N b j + smF (wtF W N b) r (j + 1) ≤ _
    have : dsF N b (j + 1) = dsF N b j ||| 2 ^ (dg N b j) := rfl
    rw [this] at a
    unfold wtF at a ⊢
    omega
/-- the number of the greedy order -/
def nb : Nat → Nat
  | 0 => 0
  | j + 1 => 6 * nb j + gr P W (gs P W j)
theorem gr_6 {j : Nat} (hj : j < cnN P 6) : gr P W (gs P W j) < 6 := by
  obtain ⟨h1, h2, h3⟩ := gs_f P W j (by omega)
  exact (gr_f P W h1 h2 (by omega)).1
theorem nb_lt : ∀ j, j ≤ cnN P 6 → nb P W j < 6 ^ j := by
  intro j
  induction j with
  | zero => intro _; show 0 < 1; omega
  | succ j ih =>
    intro hj
    have := ih (by omega)
    have := gr_6 P W (j := j) (by omega)
    show 6 * nb P W j + gr P W (gs P W j) < 6 ^ (j + 1)
    rw [Nat.pow_succ]
    omega
theorem nb_div : ∀ r j, j + r = cnN P 6 → nb P W (cnN P 6) / 6 ^ r = nb P W j := by
  intro r
  induction r with
  | zero =>
    intro j hj
    rw [← hj, Nat.pow_zero, Nat.div_one]
    rfl
  | succ r ih =>
    intro j hj
    have a := ih (j + 1) (by omega)
    have g := gr_6 P W (j := j) (by omega)
    rw [Nat.pow_succ, ← Nat.div_div_eq_div_mul, a]
    show (6 * nb P W j + gr P W (gs P W j)) / 6 = nb P W j
    omega
theorem nb_dg {i : Nat} (hi : i < cnN P 6) : dg (cnN P 6) (nb P W (cnN P 6)) i = gr P W (gs P W i) := by
  unfold dg
  rw [nb_div P W (cnN P 6 - 1 - i) (i + 1) (by omega)]
  have g := gr_6 P W (j := i) hi
  show (6 * nb P W i + gr P W (gs P W i)) % 6 = _
  omega
theorem gs_bt {j : Nat} : j ≤ cnN P 6 → ∀ i, i < j → bt (gs P W j) (gr P W (gs P W i)) = true := by
  induction j with
  | zero => intro _ i hi; omega
  | succ j ih =>
    intro hj i hi
    obtain ⟨h1, h2, h3⟩ := gs_f P W j (by omega)
    show bt (gs P W j ||| 2 ^ (gr P W (gs P W j))) _ = true
    rw [bt_or _ h1 _ (gr_6 P W (by omega)) _ (gr_6 P W (by omega))]
    by_cases q : i = j
    · subst q; simp
    · rw [ih (by omega) i (by omega)]; rfl
theorem nb_V : Vb P (cnN P 6) (nb P W (cnN P 6)) := by
  refine ⟨fun i hi => ?_, fun i j hij hj => ?_⟩
  · rw [nb_dg P W hi]
    obtain ⟨h1, h2, h3⟩ := gs_f P W i (by omega)
    exact (lf_f P (gr_f P W h1 h2 (by omega)).2.1).1
  · rw [nb_dg P W (by omega), nb_dg P W hj]
    obtain ⟨h1, h2, h3⟩ := gs_f P W j (by omega)
    have l := (lf_f P (gr_f P W h1 h2 (by omega)).2.1).2
    intro e
    rw [← e, gs_bt P W (by omega) i hij] at l
    cases l
theorem nb_sfx : ∀ r j, j + r = cnN P 6 → smF (fun i => (W i (gr P W (gs P W i))).toNat) r j = TS P W (gs P W j) := by
  intro r
  induction r with
  | zero =>
    intro j hj
    obtain rfl : j = cnN P 6 := by omega
    obtain ⟨h1, h2, h3⟩ := gs_f P W (cnN P 6) (Nat.le_refl _)
    rw [TS_eq P W h1, fld_0 6 (gs_end P W)]
    rfl
  | succ r ih =>
    intro j hj
    obtain ⟨h1, h2, h3⟩ := gs_f P W j (by omega)
    obtain ⟨g1, g2, g3, g4⟩ := gr_f P W h1 h2 (by omega)
    have a := ih (j + 1) (by omega)
    show (W j (gr P W (gs P W j))).toNat + smF _ r (j + 1) = _
    rw [a, ← g3, h3]
    exact Nat.add_comm _ _
theorem nb_vl : vl W (cnN P 6) (nb P W (cnN P 6)) = TS P W 0 := by
  unfold vl
  rw [smF_c (N := cnN P 6) (g := fun i => (W i (gr P W (gs P W i))).toNat) (fun i hi => by unfold wtF; rw [nb_dg P W hi]) _ 0 (by omega)]
  exact nb_sfx P W _ 0 (by omega)
/-- of all orders the first of the best is the greedy one -/
theorem best_ord {b M : Nat} (hb : b < 6 ^ cnN P 6) (hV : Vb P (cnN P 6) b) (hM : vl W (cnN P 6) b = M) (hall : ∀ b', b' < 6 ^ cnN P 6 → Vb P (cnN P 6) b' → vl W (cnN P 6) b' ≤ M) (hfst : ∀ b', b' < b → Vb P (cnN P 6) b' → vl W (cnN P 6) b' < M) : M = TS P W 0 ∧ ∀ i, i < cnN P 6 → dg (cnN P 6) b i = gr P W (gs P W i) := by
  have hM1 : M = TS P W 0 := by
    have a := hall _ (nb_lt P W _ (Nat.le_refl _)) (nb_V P W)
    rw [nb_vl] at a
    have e := sfx_le P W hV (cnN P 6) 0 (by omega)
    rw [show smF (wtF W (cnN P 6) b) (cnN P 6) 0 = M from hM, show dsF (cnN P 6) b 0 = 0 from rfl] at e
    omega
  have hle : b ≤ nb P W (cnN P 6) := by
    apply Classical.byContradiction
    intro hn
    have := hfst _ (by omega) (nb_V P W)
    rw [nb_vl, hM1] at this
    omega
  refine ⟨hM1, ?_⟩
  have K : ∀ j, j ≤ cnN P 6 → b / 6 ^ (cnN P 6 - j) = nb P W j ∧ dsF (cnN P 6) b j = gs P W j ∧ smF (wtF W (cnN P 6) b) (cnN P 6 - j) j = TS P W (gs P W j) ∧ ∀ i, i < j → dg (cnN P 6) b i = gr P W (gs P W i) := by
    intro j
    induction j with
    | zero =>
      intro _
      refine ⟨?_, rfl, ?_, fun i hi => by omega⟩
      · show b / 6 ^ (cnN P 6) = 0
        exact Nat.div_eq_of_lt hb
      · show smF _ (cnN P 6) 0 = TS P W 0
        rw [← hM1]; exact hM
    | succ j ih =>
      intro hj
      obtain ⟨k1, k2, k3, k4⟩ := ih (by omega)
      obtain ⟨h1, h2, h3⟩ := gs_f P W j (by omega)
      obtain ⟨g1, g2, g3, g4⟩ := gr_f P W h1 h2 (by omega)
      obtain ⟨r, hr⟩ : ∃ r, cnN P 6 - j = r + 1 := ⟨cnN P 6 - j - 1, by omega⟩
      have hr' : cnN P 6 - (j + 1) = r := by omega
      have hr2 : cnN P 6 - 1 - j = r := by omega
      have hdj : dg (cnN P 6) b j = b / 6 ^ r % 6 := by unfold dg; rw [hr2]
      have hx : b / 6 ^ r / 6 = nb P W j := by
        rw [Nat.div_div_eq_div_mul, ← Nat.pow_succ, show r.succ = cnN P 6 - j from hr.symm]; exact k1
      have hy : nb P W (cnN P 6) / 6 ^ r = 6 * nb P W j + gr P W (gs P W j) := nb_div P W r (j + 1) (by omega)
      have hmono : b / 6 ^ r ≤ nb P W (cnN P 6) / 6 ^ r := Nat.div_le_div_right hle
      have hl := ds_lf P hV (j := j) (by omega)
      rw [k2] at hl
      have hge := TS_ge P W h1 (dg_6 (N := cnN P 6) (b := b) (i := j)) hl
      rw [h3] at hge
      rw [hr] at k3
      have k3' : wtF W (cnN P 6) b j + smF (wtF W (cnN P 6) b) r (j + 1) = TS P W (gs P W j) := k3
      have hs1 := sfx_le P W hV r (j + 1) (by omega)
      have ed : dsF (cnN P 6) b (j + 1) = gs P W j ||| 2 ^ (dg (cnN P 6) b j) := by
        show dsF (cnN P 6) b j ||| 2 ^ _ = _
        rw [k2]
      rw [ed] at hs1
      unfold wtF at k3'
      have hle2 := g4 _ dg_6 hl (by rw [h3]; unfold wtF at hs1; omega)
      have heq : dg (cnN P 6) b j = gr P W (gs P W j) := by rw [hdj] at hle2 ⊢; omega
      have eg : gs P W (j + 1) = gs P W j ||| 2 ^ (gr P W (gs P W j)) := rfl
      refine ⟨?_, ?_, ?_, fun i hi => ?_⟩
      · rw [hr']
        show _ = 6 * nb P W j + gr P W (gs P W j)
        rw [← heq, hdj]
        omega
      · rw [ed, eg, heq]
      · rw [hr', eg, ← heq]
        unfold wtF at hs1 ⊢
        omega
      · by_cases q : i = j
        · rw [q]; exact heq
        · exact k4 i (by omega)
  exact fun i hi => (K (cnN P 6) (Nat.le_refl _)).2.2.2 i hi
end DD
