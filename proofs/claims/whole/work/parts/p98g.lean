set_option maxHeartbeats 400000
/-! a town's code, as the class runs it -/
def vF (f : Nat → Int32) (a : Tk) : Bool := tst (c a.2.1) (c a.2.2.1) (c a.2.2.2) f
def RB (b : Int32) (st : List Bool) : Prop := st.length ≤ 31 ∧ ∀ i x, st[i]? = some x → b.toBitVec.getLsbD i = x
def cvl (v : Tk → Bool) (a : Cl) : Bool := match evS v 31 a.2.2 [] with | some (x :: _) => x | _ => false
def plC (v : Tk → Bool) : List Cl → Int32 → Int32
  | [], s => s
  | a :: r, s => plC v r (if a.1 < 2 ∧ cvl v a = true then s + (if a.1 = 0 then c a.2.1 else -(c a.2.1)) else s)
section P98g
variable {dd ll ss nn f : Nat → Int32}
def EA (dd ll ss nn : Nat → Int32) (i : Nat) (l : List TkI) : Prop := ∀ j a, l[j]? = some a → dd (i + j) = c a.1 ∧ ll (i + j) = c a.2.1 ∧ ss (i + j) = c a.2.2.1 ∧ nn (i + j) = a.2.2.2
theorem EA_a {i : Nat} {l1 l2 : List TkI} (h : EA dd ll ss nn i (l1 ++ l2)) : EA dd ll ss nn i l1 ∧ EA dd ll ss nn (i + l1.length) l2 := by
  refine ⟨fun j a hj => ?_, fun j a hj => ?_⟩
  · have : j < l1.length := by
      apply Classical.byContradiction
      intro z
      rw [List.getElem?_eq_none (by omega)] at hj
      cases hj
    exact h j a (by rw [List.getElem?_append_left this]; exact hj)
  · have := h (l1.length + j) a (by rw [List.getElem?_append_right (by omega), Nat.add_sub_cancel_left]; exact hj)
    rw [show i + l1.length + j = i + (l1.length + j) by omega]
    exact this
theorem sl_1 {b : Int32} : (b <<< (1 &&& 31)).toBitVec = b.toBitVec <<< 1 := by
  rw [Int32.toBitVec_shiftLeft, BitVec.shiftLeft_eq']
  have : (((1 : Int32) &&& 31).toBitVec.smod 32).toNat = 1 := by decide
  rw [this]
theorem sr_1 {b : Int32} {i : Nat} (hi : i + 1 < 32) : (b >>> (1 &&& 31)).toBitVec.getLsbD i = b.toBitVec.getLsbD (i + 1) := by
  have := shr_b (g := b) 1 (by omega)
  rw [show (c 1 : Int32) = 1 from rfl] at this
  rw [this, BitVec.getLsbD_sshiftRight]
  rw [if_pos (by omega), Nat.add_comm]
  simp
  omega
theorem zb_1 : ∀ i, i < 31 → (1 : Int32).toBitVec.getLsbD i = decide (i = 0) := by decide
theorem zb_0 : ∀ i, i < 31 → (0 : Int32).toBitVec.getLsbD i = false := by decide
theorem zb_2 : ∀ i, i < 31 → (-2 : Int32).toBitVec.getLsbD i = !decide (i = 0) := by decide
theorem RB_p {b : Int32} {st : List Bool} {x : Bool} (h : RB b st) (hl : st.length < 31) : RB (b <<< (1 &&& 31) ||| (if x = true then 1 else 0)) (x :: st) := by
  refine ⟨by rw [List.length_cons]; omega, fun i y hy => ?_⟩
  rw [Int32.toBitVec_or, BitVec.getLsbD_or, sl_1, BitVec.getLsbD_shiftLeft]
  cases i with
  | zero =>
    have : x = y := by simpa using hy
    rw [← this]
    cases x <;> rfl
  | succ i =>
    have hy' : st[i]? = some y := by simpa using hy
    have hi : i < st.length := by
      apply Classical.byContradiction
      intro z
      rw [List.getElem?_eq_none (by omega)] at hy'
      cases hy'
    rw [Nat.add_sub_cancel, h.2 i y hy', decide_eq_true (show i + 1 < 32 by omega), decide_eq_false (show ¬ i + 1 < 1 by omega)]
    have : (if x = true then (1 : Int32) else 0).toBitVec.getLsbD (i + 1) = false := by
      cases x
      · exact zb_0 _ (by omega)
      · exact (zb_1 _ (by omega)).trans (decide_eq_false (by omega))
    rw [this]
    cases y <;> rfl
theorem get_lt {st : List Bool} {i : Nat} {y : Bool} (h : st[i]? = some y) : i < st.length := by
  apply Classical.byContradiction
  intro z
  rw [List.getElem?_eq_none (by omega)] at h
  cases h
theorem RB_n {b : Int32} {st : List Bool} {x : Bool} (h : RB b (x :: st)) : RB (b ^^^ 1) ((!x) :: st) := by
  obtain ⟨h1, h2⟩ := h
  refine ⟨h1, fun i y hy => ?_⟩
  have hl := get_lt hy
  rw [List.length_cons] at hl h1
  rw [Int32.toBitVec_xor, BitVec.getLsbD_xor, zb_1 _ (by omega)]
  cases i with
  | zero =>
    rw [h2 0 x rfl]
    have : (!x) = y := by simpa using hy
    rw [← this]
    cases x <;> rfl
  | succ i =>
    rw [h2 (i + 1) y hy, decide_eq_false (by omega)]
    cases y <;> rfl
theorem RB_a {b : Int32} {st : List Bool} {x y : Bool} (h : RB b (x :: y :: st)) : RB ((b >>> (1 &&& 31)) &&& (b ||| (-2))) ((y && x) :: st) := by
  obtain ⟨h1, h2⟩ := h
  rw [List.length_cons, List.length_cons] at h1
  refine ⟨by rw [List.length_cons]; omega, fun i z hz => ?_⟩
  have hl := get_lt hz
  rw [List.length_cons] at hl
  rw [Int32.toBitVec_and, BitVec.getLsbD_and, sr_1 (by omega), Int32.toBitVec_or, BitVec.getLsbD_or, zb_2 _ (by omega)]
  cases i with
  | zero =>
    rw [h2 0 x rfl, h2 1 y rfl]
    have : (y && x) = z := by simpa using hz
    rw [← this]
    cases x <;> cases y <;> rfl
  | succ i =>
    have hz' : st[i]? = some z := by simpa using hz
    rw [h2 (i + 2) z (by simpa using hz'), decide_eq_false (show ¬ i + 1 = 0 by omega)]
    cases z <;> cases b.toBitVec.getLsbD (i + 1) <;> rfl
theorem RB_o {b : Int32} {st : List Bool} {x y : Bool} (h : RB b (x :: y :: st)) : RB ((b >>> (1 &&& 31)) ||| (b &&& 1)) ((y || x) :: st) := by
  obtain ⟨h1, h2⟩ := h
  rw [List.length_cons, List.length_cons] at h1
  refine ⟨by rw [List.length_cons]; omega, fun i z hz => ?_⟩
  have hl := get_lt hz
  rw [List.length_cons] at hl
  rw [Int32.toBitVec_or, BitVec.getLsbD_or, sr_1 (by omega), Int32.toBitVec_and, BitVec.getLsbD_and, zb_1 _ (by omega)]
  cases i with
  | zero =>
    rw [h2 0 x rfl, h2 1 y rfl]
    have : (y || x) = z := by simpa using hz
    rw [← this]
    cases x <;> cases y <;> rfl
  | succ i =>
    have hz' : st[i]? = some z := by simpa using hz
    rw [h2 (i + 2) z (by simpa using hz'), decide_eq_false (show ¬ i + 1 = 0 by omega)]
    cases z <;> cases b.toBitVec.getLsbD (i + 1) <;> rfl
theorem RB_s {b : Int32} {st : List Bool} {x : Bool} (h : RB b (x :: st)) : b &&& 1 = (if x = true then 1 else 0) ∧ RB (b >>> (1 &&& 31)) st := by
  obtain ⟨h1, h2⟩ := h
  rw [List.length_cons] at h1
  refine ⟨?_, by omega, fun i y hy => ?_⟩
  · have h0 := h2 0 x rfl
    have e := one_b (b := b)
    rw [h0] at e
    have e2 : (b &&& 1) = 0 ∨ (b &&& 1) = 1 := by
      rw [← Int32.toBitVec_inj, ← Int32.toBitVec_inj, Int32.toBitVec_and, show (1 : Int32).toBitVec = 1#32 from rfl, BitVec.and_one_eq_setWidth_ofBool_getLsbD]
      cases b.toBitVec.getLsbD 0 <;> decide
    cases x with
    | true => exact e.mpr rfl
    | false =>
      rcases e2 with q | q
      · exact q
      · exact absurd (e.mp q) (by decide)
  · have hl := get_lt hy
    rw [sr_1 (by omega)]
    exact h2 (i + 1) y (by simpa using hy)
theorem stp_s {a : Tk} {st st' : List Bool} {b acc : Int32} (h : stS (vF f) 31 a st = some st') (hb : RB b st) : ∃ b', stepD (c a.1) (c a.2.1) (c a.2.2.1) (c a.2.2.2) f acc b = (acc, b') ∧ RB b' st' := by
  unfold stS at h
  by_cases a0 : a.1 = 0
  · rw [if_pos a0] at h
    by_cases q : st.length < 31 ∧ tkO a
    · rw [if_pos q] at h
      rw [← Option.some.inj h]
      refine ⟨_, ?_, RB_p hb q.1⟩
      unfold stepD
      rw [a0, if_pos (by rfl)]
      rfl
    · rw [if_neg q] at h; cases h
  · rw [if_neg a0] at h
    by_cases a1 : a.1 = 1
    · rw [if_pos a1] at h
      cases st with
      | nil => cases h
      | cons x r =>
        have h : some ((!x) :: r) = some st' := h
        rw [← Option.some.inj h]
        refine ⟨_, ?_, RB_n hb⟩
        unfold stepD
        rw [a1, if_neg (by decide), if_pos (by rfl)]
    · rw [if_neg a1] at h
      by_cases a2 : a.1 = 2
      · rw [if_pos a2] at h
        cases st with
        | nil => cases h
        | cons x r =>
          cases r with
          | nil => cases h
          | cons y r =>
            have h : some ((y && x) :: r) = some st' := h
            rw [← Option.some.inj h]
            refine ⟨_, ?_, RB_a hb⟩
            unfold stepD
            rw [a2, if_neg (by decide), if_neg (by decide), if_pos (by rfl)]
      · rw [if_neg a2] at h
        by_cases a3 : a.1 = 3
        · rw [if_pos a3] at h
          cases st with
          | nil => cases h
          | cons x r =>
            cases r with
            | nil => cases h
            | cons y r =>
              have h : some ((y || x) :: r) = some st' := h
              rw [← Option.some.inj h]
              refine ⟨_, ?_, RB_o hb⟩
              unfold stepD
              rw [a3, if_neg (by decide), if_neg (by decide), if_neg (by decide), if_pos (by rfl)]
        · rw [if_neg a3] at h; cases h
theorem runTs {p : Int32 × Int32} {acc : Int32} : ∀ (e : List Tk) i st st' b, EA dd ll ss nn i (e.map tk) → evS (vF f) 31 e st = some st' → RB b st → runD dd ll ss nn f i p = (acc, b) → ∃ b', runD dd ll ss nn f (i + e.length) p = (acc, b') ∧ RB b' st' := by
  intro e
  induction e with
  | nil => intro i st st' b _ h hb hr; exact ⟨b, hr, by rw [← Option.some.inj (show some st = some st' from h)]; exact hb⟩
  | cons a r ih =>
    intro i st st' b hE h hb hr
    have h' : (match stS (vF f) 31 a st with | some st' => evS (vF f) 31 r st' | none => none) = some st' := h
    cases q : stS (vF f) 31 a st with
    | none => rw [q] at h'; cases h'
    | some s2 =>
      rw [q] at h'
      have h' : evS (vF f) 31 r s2 = some st' := h'
      obtain ⟨b2, k1, k2⟩ := stp_s (acc := acc) q hb
      obtain ⟨t1, t2, t3, t4⟩ := hE 0 (tk a) rfl
      have hr2 : runD dd ll ss nn f (i + 1) p = (acc, b2) := by
        show stepD (dd i) (ll i) (ss i) (nn i) f (runD dd ll ss nn f i p).1 (runD dd ll ss nn f i p).2 = _
        rw [hr, show dd i = c a.1 from t1, show ll i = c a.2.1 from t2, show ss i = c a.2.2.1 from t3, show nn i = c a.2.2.2 from t4]
        exact k1
      have := ih (i + 1) s2 st' b2 (EA_a (l1 := [tk a]) hE).2 h' k2 hr2
      rw [List.length_cons, show i + (r.length + 1) = i + 1 + r.length by omega]
      exact this
theorem runTC {p : Int32 × Int32} : ∀ (cs : List Cl) i acc b, (∀ a ∈ cs, CO a) → EA dd ll ss nn i (flat cs) → runD dd ll ss nn f i p = (acc, b) → ∃ b', runD dd ll ss nn f (i + (flat cs).length) p = (plC (vF f) cs acc, b') := by
  intro cs
  induction cs with
  | nil => intro i acc b _ _ h; exact ⟨b, h⟩
  | cons a r ih =>
    intro i acc b hC hE h
    obtain ⟨q1, q2⟩ := EA_a (l1 := flC a) hE
    have hCr : ∀ x ∈ r, CO x := fun x hx => hC x (List.mem_cons_of_mem _ hx)
    obtain ⟨o1, o2, o3, o4⟩ := hC a List.mem_cons_self
    have key : ∃ b', runD dd ll ss nn f (i + (flC a).length) p = ((if a.1 < 2 ∧ cvl (vF f) a = true then acc + (if a.1 = 0 then c a.2.1 else -(c a.2.1)) else acc), b') := by
      by_cases a2 : a.1 < 2
      · obtain ⟨x, hx⟩ := o3 a2 (vF f)
        have hv := hx 31 [] (by decide)
        have ecv : cvl (vF f) a = x := by unfold cvl; rw [hv]
        have eF : flC a = a.2.2.map tk ++ [(4, 0, 0, if a.1 = 0 then c a.2.1 else -(c a.2.1))] := by
          unfold flC
          by_cases a0 : a.1 = 0
          · rw [if_pos a0, if_pos a0]
          · rw [if_neg a0, if_pos (by omega), if_neg a0]
        rw [eF] at q1 ⊢
        obtain ⟨r1, r2⟩ := EA_a q1
        have hRB0 : RB b [] := ⟨Nat.zero_le _, fun i x hx => (by simp at hx)⟩
        obtain ⟨b1, k1, k2⟩ := runTs _ _ _ _ _ r1 hv hRB0 h
        obtain ⟨t1, t2, t3, t4⟩ := r2 0 _ rfl
        rw [List.length_map] at t1 t2 t3 t4
        obtain ⟨s1, s2⟩ := RB_s k2
        refine ⟨b1 >>> (1 &&& 31), ?_⟩
        rw [List.length_append, List.length_map]
        show stepD (dd (i + a.2.2.length)) (ll (i + a.2.2.length)) (ss (i + a.2.2.length)) (nn (i + a.2.2.length)) f (runD dd ll ss nn f (i + a.2.2.length) p).1 (runD dd ll ss nn f (i + a.2.2.length) p).2 = _
        rw [k1, show dd (i + a.2.2.length) = c 4 from t1, show nn (i + a.2.2.length) = _ from t4]
        unfold stepD
        rw [if_neg (by decide), if_neg (by decide), if_neg (by decide), if_neg (by decide), ecv]
        show (acc + (b1 &&& 1) * (if a.1 = 0 then c a.2.1 else -(c a.2.1)), b1 >>> (1 &&& 31)) = _
        generalize (if a.1 = 0 then c a.2.1 else -(c a.2.1)) = X
        rw [s1]
        cases x with
        | true => rw [if_pos rfl, if_pos ⟨a2, rfl⟩, Int32.one_mul]
        | false => rw [if_neg (by decide), if_neg (fun z => by cases z.2), Int32.zero_mul, Int32.add_zero]
      · have eF : flC a = [] := by unfold flC; rw [if_neg (by omega), if_neg (by omega)]
        rw [eF, if_neg (fun z => a2 z.1)]
        exact ⟨b, h⟩
    obtain ⟨b2, hk⟩ := key
    obtain ⟨b3, hb3⟩ := ih _ _ _ hCr q2 hk
    refine ⟨b3, ?_⟩
    rw [show flat (a :: r) = flC a ++ flat r from rfl, List.length_append, ← Nat.add_assoc]
    exact hb3
theorem pull_C {I : FI} {T : Nat} {f : Nat → Int32} {cs : List Cl} (h : encT I T cs) (hl : (flat cs).length ≤ 100) (hC : ∀ a ∈ cs, CO a) : pullD I T f = plC (vF f) cs (f 4) := by
  obtain ⟨⟨h1, h2⟩, -⟩ := h
  obtain ⟨b, hb⟩ := runTC (dd := I 204961 T) (ll := I 204977 T) (ss := I 204993 T) (nn := I 205009 T) (f := f) (p := (f 4, 0)) cs 0 (f 4) 0 hC (fun j a hj => by rw [Nat.zero_add]; exact h2 j a hj) rfl
  unfold pullD
  rw [h1, ix_c (by omega)]
  rw [Nat.zero_add] at hb
  rw [hb]
end P98g
