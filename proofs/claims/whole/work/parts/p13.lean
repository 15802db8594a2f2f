theorem beq_t {a b : Nat} (h : Nat.beq a b = true) : a = b := Nat.eq_of_beq_eq_true h
theorem blt_t {a b : Nat} (h : Nat.blt a b = true) : a < b := by rw [Nat.blt_eq] at h; exact h
/-! THE SMALL MACHINE AND THE JVM -/
def tysA (dA : Nat → ClassId) : List (ClassId × FieldType) := [(dA 1, .int), (dA 2, .boolean), (dA 3, .long), (dA 4, .object "DeepWearer$Town"), (dA 5, .object "DeepWearer$Tape")]
def vwA : List vw_C := (List.range 8).map fun c => (cN c, fT c, nF c)
theorem vwA_at {c : Nat} (h : c < 8) : vwA[c]? = some (cN c, fT c, nF c) := by
  unfold vwA
  rw [List.getElem?_map, List.getElem?_range h]
  rfl
/-- the value of a name; no name: the one thing of which nothing is known but that it is a reference or null -/
def nz (n : Nat) : Value := match n with | 0 => .null | n + 1 => .ref n
theorem nz_cat (n : Nat) : (nz n).category = 1 := by cases n <;> rfl
def re (ad : Nat → Nat → Nat) (v : Vl) : Value := match v with
  | .inl x => .int x
  | .inr (.inl y) => .long y
  | .inr (.inr none) => nz (ad tagF 0)
  | .inr (.inr (some q)) => .ref (ad q.1 q.2)
def fv (ad : Nat → Nat → Nat) (h : Hp) (t k j : Nat) : Value := match isRf (fTy (tN t) j) with
  | true => match hR h t k j with | some q => .ref (ad q.1 q.2) | none => .null
  | false => .int (hI h t k j)
def cE (dA : Nat → ClassId) (ad : Nat → Nat → Nat) (h : Hp) (t k : Nat) : va_E := match tK t with
  | 0 => .inr (tN t, (List.range (nF (tN t))).map (fv ad h t k))
  | 1 => .inl (dA 1, tN t, .inl (hI h t k))
  | 2 => .inl (dA 2, tN t, .inl (hI h t k))
  | 3 => .inl (dA 3, tN t, .inr (.inl (hL h t k)))
  | 4 => .inl (dA 4, tN t, .inr (.inr (.inr (.inr fun j => bif Nat.blt j (tN t) then (hR h t k j).map (fun q => ad q.1 q.2) else none))))
  | _ => .inl (dA 5, tN t, .inr (.inr (.inr (.inr fun j => bif Nat.blt j (tN t) then (hR h t k j).map (fun q => ad q.1 q.2) else none))))
def wl (dA : Nat → ClassId) (ad : Nat → Nat → Nat) (h : Hp) : va_W := (List.range h.1).map fun i => (ad (nm i).1 (nm i).2, cE dA ad h (nm i).1 (nm i).2)
theorem wl_at {dA : Nat → ClassId} {ad : Nat → Nat → Nat} {h : Hp} {i t k : Nat} (hi : i < h.1) (hn : nm i = (t, k)) : (wl dA ad h)[i]? = some (ad t k, cE dA ad h t k) := by
  unfold wl
  rw [List.getElem?_map, List.getElem?_range hi, Option.map_some, hn]
/-- a reference that the heap knows, or one of the things that nobody writes -/
def okr (n t k : Nat) : Prop := (∃ i, i < n ∧ nm i = (t, k)) ∨ 6 ≤ tK t
def okv (n : Nat) (v : Vl) : Prop := ∀ t k, v = .inr (.inr (some (t, k))) → okr n t k
def okS (n : Nat) (st : List Vl) : Prop := ∀ v ∈ st, okv n v
def bd (t : Nat) : Nat := match tK t with | 0 => nF (tN t) | _ => tN t
def okH (h : Hp) : Prop := h.1 ≤ 172 ∧ ∀ i, i < h.1 → ∀ (j : Nat) (q : Nat × Nat), j < bd (nm i).1 → hR h (nm i).1 (nm i).2 j = some q → okr h.1 q.1 q.2
theorem okr.mono {n n' t k : Nat} (h : okr n t k) (hn : n ≤ n') : okr n' t k := by
  rcases h with ⟨i, hi, e⟩ | h
  · exact Or.inl ⟨i, by omega, e⟩
  · exact Or.inr h
theorem okv.mono {n n' : Nat} {v : Vl} (h : okv n v) (hn : n ≤ n') : okv n' v := fun t k e => (h t k e).mono hn
theorem okv_i {n : Nat} {x : Int32} : okv n (.inl x) := fun _ _ e => by cases e
theorem okv_l {n : Nat} {x : Int64} : okv n (.inr (.inl x)) := fun _ _ e => by cases e
theorem okv_r {n t k : Nat} (h : okr n t k) : okv n (.inr (.inr (some (t, k)))) := fun _ _ e => by cases e; exact h
theorem okv.r {n : Nat} {q : Nat × Nat} (h : okv n (.inr (.inr (some q)))) : okr n q.1 q.2 := h q.1 q.2 rfl
theorem okS.hd {n : Nat} {v : Vl} {st : List Vl} (h : okS n (v :: st)) : okv n v := h v List.mem_cons_self
theorem okS.tl {n : Nat} {v : Vl} {st : List Vl} (h : okS n (v :: st)) : okS n st := fun w hw => h w (List.mem_cons_of_mem _ hw)
theorem okS.cons {n : Nat} {v : Vl} {st : List Vl} (hv : okv n v) (h : okS n st) : okS n (v :: st) := fun w hw => by
  rcases List.mem_cons.mp hw with rfl | hw
  · exact hv
  · exact h w hw
theorem okS.mono {n n' : Nat} {st : List Vl} (h : okS n st) (hn : n ≤ n') : okS n' st := fun v hv => (h v hv).mono hn
set_option maxRecDepth 100000 in
theorem nm_kinds : ∀ i, i < 172 → tK (nm i).1 ≤ 5 := by decide +kernel
set_option maxRecDepth 100000 in
theorem nm_cls : ∀ i, i < 172 → tK (nm i).1 = 0 → tN (nm i).1 < 8 := by decide +kernel
set_option maxRecDepth 100000 in
theorem nm_inj' : ∀ i, i < 172 → ∀ j, j < 172 → nm i = nm j → i = j := by decide +kernel
theorem okr.at {h : Hp} {t k : Nat} (hk : okr h.1 t k) (ht : tK t ≤ 5) : ∃ i, i < h.1 ∧ nm i = (t, k) := by
  rcases hk with h | h
  · exact h
  · omega
/-- one address for one name, with what is known to stand elsewhere -/
def agr (n : Nat) (ad ad' : Nat → Nat → Nat) : Prop := ∀ t k, okr n t k → ad' t k = ad t k
theorem agr.rf {n : Nat} {ad : Nat → Nat → Nat} : agr n ad ad := fun _ _ _ => rfl
theorem agr.tr {n n' : Nat} {a b c : Nat → Nat → Nat} (h1 : agr n a b) (h2 : agr n' b c) (hn : n ≤ n') : agr n a c := fun t k h => (h2 t k (h.mono hn)).trans (h1 t k h)
theorem re_agr {n : Nat} {ad ad' : Nat → Nat → Nat} {v : Vl} (h : agr n ad ad') (hv : okv n v) : re ad' v = re ad v := by
  match v, hv with
  | .inl x, _ => rfl
  | .inr (.inl y), _ => rfl
  | .inr (.inr none), _ => show nz _ = nz _; rw [h tagF 0 (Or.inr (by decide))]
  | .inr (.inr (some q)), hv => show Value.ref _ = Value.ref _; rw [h _ _ hv.r]
theorem reS_agr {n : Nat} {ad ad' : Nat → Nat → Nat} {st : List Vl} (h : agr n ad ad') (hv : okS n st) : st.map (re ad') = st.map (re ad) := List.map_congr_left fun v hw => re_agr h (hv v hw)
/-- locals -/
def Lh (ad : Nat → Nat → Nat) (ls : Array Slot) (m n : Nat) (L : List (Option Vl)) : Prop := ls.size = mL m ∧ lv_wf ls ∧ L.length = mL m ∧ ∀ (i : Nat) (v : Vl), L[i]? = some (some v) → ls[i]? = some (.val (re ad v)) ∧ okv n v ∧ (isL v = true → i ∈ lgP m)
theorem Lh.agr {ad ad' : Nat → Nat → Nat} {ls : Array Slot} {m n n' : Nat} {L : List (Option Vl)} (h : Lh ad ls m n L) (ha : agr n ad ad') (hn : n ≤ n') : Lh ad' ls m n' L := by
  obtain ⟨h1, h2, h3, h4⟩ := h
  refine ⟨h1, h2, h3, fun i v hi => ?_⟩
  obtain ⟨a, b, c⟩ := h4 i v hi
  exact ⟨by rw [re_agr ha b]; exact a, b.mono hn, c⟩
theorem Lh.get {ad : Nat → Nat → Nat} {ls : Array Slot} {m n a : Nat} {L : List (Option Vl)} {v : Vl} (h : Lh ad ls m n L) (hv : L.getD a none = some v) : ls[a]? = some (.val (re ad v)) ∧ okv n v := by
  have e : L[a]? = some (some v) := by
    rw [List.getD_eq_getElem?_getD] at hv
    cases hq : L[a]? with
    | none => rw [hq] at hv; cases hv
    | some z => rw [hq] at hv; simp at hv; rw [hv]
  obtain ⟨a1, a2, -⟩ := h.2.2.2 a v e
  exact ⟨a1, a2⟩
theorem Lh.has {ad : Nat → Nat → Nat} {ls : Array Slot} {m n : Nat} {L : List (Option Vl)} (h : Lh ad ls m n L) : lv_has ls (mL m) ((List.range L.length).filterMap fun i => match L.getD i none with | some v => some (i, re ad v) | none => none) := by
  refine ⟨h.1, h.2.1, fun q hq => ?_⟩
  obtain ⟨i, -, hi⟩ := List.mem_filterMap.mp hq
  cases hv : L.getD i none with
  | none => rw [hv] at hi; cases hi
  | some v =>
    rw [hv] at hi
    cases hi
    exact (h.get hv).1
/-- behind a store of an int or a reference -/
theorem Lh.put {ad : Nat → Nat → Nat} {ls ls' : Array Slot} {m n a : Nat} {L : List (Option Vl)} {v : Vl} (h : Lh ad ls m n L) (hv : isL v = false) (ho : okv n v) (hs : stOK m a = true)
    (h' : lv_has ls' (mL m) ((a, re ad v) :: ((List.range L.length).filterMap fun i => match L.getD i none with | some v => some (i, re ad v) | none => none).filter (fun q => !(q.1 == a) && !(q.1 + 1 == a && q.2.category == 2)))) : Lh ad ls' m n (L.set a (some v)) := by
  obtain ⟨s1, s2⟩ := Bool.and_eq_true_iff.mp hs
  have hlt : a < mL m := blt_t s1
  refine ⟨h'.1, h'.2.1, by rw [List.length_set]; exact h.2.2.1, fun i w hi => ?_⟩
  by_cases e : i = a
  · subst e
    rw [List.getElem?_set_self (by rw [h.2.2.1]; exact hlt)] at hi
    cases hi
    refine ⟨h'.2.2 (i, re ad v) List.mem_cons_self, ho, fun q => by rw [hv] at q; cases q⟩
  · rw [List.getElem?_set_ne (Ne.symm e)] at hi
    obtain ⟨a1, a2, a3⟩ := h.2.2.2 i w hi
    refine ⟨?_, a2, a3⟩
    refine h'.2.2 (i, re ad w) (List.mem_cons_of_mem _ (List.mem_filter.mpr ⟨List.mem_filterMap.mpr ⟨i, List.mem_range.mpr (List.getElem?_eq_some_iff.mp hi).1, ?_⟩, ?_⟩))
    · rw [List.getD_eq_getElem?_getD, hi]
      rfl
    · simp only [Bool.and_eq_true, Bool.not_eq_true', beq_eq_false_iff_ne, ne_eq, Bool.and_eq_false_iff]
      refine ⟨e, ?_⟩
      by_cases hw : isL w = true
      · left
        have hm := a3 hw
        have h2 := List.all_eq_true.mp s2 i hm
        obtain ⟨h3, -⟩ := Bool.and_eq_true_iff.mp h2
        obtain ⟨-, h4⟩ := Bool.and_eq_true_iff.mp h3
        intro z
        rw [← z] at h4
        simp at h4
      · right
        match w, hw with
        | .inl x, _ => simp [re, Value.category]
        | .inr (.inr none), _ => rw [show (re ad (.inr (.inr none))).category = 1 from nz_cat _]; decide
        | .inr (.inr (some q)), _ => simp [re, Value.category]
        | .inr (.inl y), hw => exact absurd rfl hw
