/-- what holds of the machine's tables and of the things that nobody writes -/
def Glob (dC : Nat → ClassId) (dI : Nat → Nat → Nat) (dA : Nat → ClassId) (ad : Nat → Nat → Nat) (A : Nat → Prop) (U : State) : Prop :=
  va_K (dC, dI) vwA (tysA dA) U ∧ (∀ w ∈ nWords, va_Nw w U) ∧
  (∀ k, k < 7 → va_O "java/lang/String" (ad tagS k) A U U.heap ∧ va_OF "java/lang/String" "coder" "B" (.int 0) (ad tagS k) A U U.heap ∧ va_OF "java/lang/String" "value" "[B" (.ref (ad tagB k)) (ad tagS k) A U U.heap ∧ va_T .byte (ad tagB k) (sLen k) (fun j => .int (sByt k j)) A U U.heap) ∧
  (∀ x s p, slk x = some (s, p) → vk_R (cN (x / 2048)) (x % 2048) (STX.getD s "") (ad tagS s) U) ∧
  va_Z "java/lang/String" "COMPACT_STRINGS" "Z" (.int 1) A U U.heap ∧
  va_Z "jdk/internal/util/Preconditions" "SIOOBE_FORMATTER" "Ljava/util/function/BiFunction;" (nz (ad tagF 0)) A U U.heap ∧
  va_Z "DeepWearer" "KIND_ABOVE" "[I" (.ref (ad tagA 0)) A U U.heap ∧ va_T .int (ad tagA 0) 7 (fun j => .int (kAb j)) A U U.heap ∧
  va_AO "DeepWearer$Town" U ∧ va_AO "DeepWearer$Tape" U
theorem nest_warm {w : Cond} (hn : isNest w = true) {s U : State} (hW : s.WarmedH U.vm) (h : va_Nw w s) : va_Nw w U := by
  cases w <;> first | (simp [isNest] at hn; done) | exact va_Nw.warmF hW h | exact va_Nw.warmM hW h
theorem nest_on {w : Cond} (hn : isNest w = true) : w.onTables = true := by
  cases w <;> first | (simp [isNest] at hn; done) | rfl
/-- at a call's start -/
theorem Glob.call {dC : Nat → ClassId} {dI : Nat → Nat → Nat} {dA : Nat → ClassId} {ad : Nat → Nat → Nat} {A A' : Nat → Prop} {s U : State} {H : Heap} {locs : List Loc} (h : Glob dC dI dA ad A s) (hS : va_S A s.heap H locs) (hU : U.heap = H) (hW : s.WarmedH U.vm) (hAA : ∀ q, A' q → A q) : Glob dC dI dA ad A' U := by
  obtain ⟨g1, g2, g3, g4, g5, g6, g7, g8, g9, g10⟩ := h
  have hq : ∀ a : Nat, a < s.heap.size → ¬ A a → U.heap[a]? = s.heap[a]? := fun a h1 h2 => by rw [hU]; exact hS.2.1 a h1 h2
  refine ⟨va_K.moved hW.alike g1, fun w hw => nest_warm (List.mem_filter.mp hw).2 hW (g2 w hw), fun k hk => ?_, fun x s p hx => vk_R.warm hW (g4 x s p hx), ?_, ?_, ?_, ?_, va_AO.moved hW.alike g9, va_AO.moved hW.alike g10⟩
  · obtain ⟨a1, a2, a3, a4⟩ := g3 k hk
    exact ⟨((a1.kept hq).narrow hAA).moved hW.alike, ((a2.kept hq).narrow hAA).moved hW.alike, ((a3.kept hq).narrow hAA).moved hW.alike, ((a4.kept hq).narrow hAA).moved hW.alike⟩
  · exact ((g5.kept hq).narrow hAA).moved hW.alike
  · exact ((g6.kept hq).narrow hAA).moved hW.alike
  · exact ((g7.kept hq).narrow hAA).moved hW.alike
  · exact ((g8.kept hq).narrow hAA).moved hW.alike
theorem Glob.blind {dC : Nat → ClassId} {dI : Nat → Nat → Nat} {dA : Nat → ClassId} {ad : Nat → Nat → Nat} {A : Nat → Prop} {U : State} (a : Array Value) (g : JFrame) (mk : MethodId) (h : Glob dC dI dA ad A U) : Glob dC dI dA ad A (U.calling g mk a) := by
  obtain ⟨g1, g2, g3, g4, g5, g6, g7, g8, g9, g10⟩ := h
  have al : U.vm.Alike (U.calling g mk a).vm := Vm.Alike.refl U.vm
  refine ⟨va_K.moved (u := U) (U := U.calling g mk a) al g1, fun w hw => va_Nw.same (u := U) (nest_on (List.mem_filter.mp hw).2) rfl (g2 w hw), fun k hk => ?_, fun x s p hx => vk_R.same (u := U) rfl (g4 x s p hx), ?_, ?_, ?_, ?_, va_AO.moved (u := U) al g9, va_AO.moved (u := U) al g10⟩
  · obtain ⟨a1, a2, a3, a4⟩ := g3 k hk
    exact ⟨va_O.moved (u := U) al a1, va_OF.moved (u := U) al a2, va_OF.moved (u := U) al a3, va_T.moved (u := U) al a4⟩
  · exact va_Z.moved (u := U) al g5
  · exact va_Z.moved (u := U) al g6
  · exact va_Z.moved (u := U) al g7
  · exact va_T.moved (u := U) al g8
theorem Glob.ad {dC : Nat → ClassId} {dI : Nat → Nat → Nat} {dA : Nat → ClassId} {ad ad' : Nat → Nat → Nat} {A : Nat → Prop} {U : State} {n : Nat} (ha : agr n ad ad') (h : Glob dC dI dA ad A U) : Glob dC dI dA ad' A U := by
  have eS : ∀ k, ad' tagS k = ad tagS k := fun k => ha _ _ (Or.inr (by decide))
  have eB : ∀ k, ad' tagB k = ad tagB k := fun k => ha _ _ (Or.inr (by decide))
  have eF : ad' tagF 0 = ad tagF 0 := ha _ _ (Or.inr (by decide))
  have eA : ad' tagA 0 = ad tagA 0 := ha _ _ (Or.inr (by decide))
  unfold Glob
  simp only [eS, eB, eF, eA]
  exact h
def kdOf (m : Nat) : Nat := (mP m).2.1
/-- a method at its work: the code, the words -/
def Fx (p : Program) (s : State) (m0 : MethodId) (args : Array Value) (c0 : Code) (A : Nat → Prop) (m : Nat) : Prop :=
  p.tables.exec = Jvm.exec ∧ c0.code = mB m ∧ c0.maxLocals = mL m ∧ s.vm.findClass (cN (mC m)) = some m0.cls ∧ (∀ w ∈ gWords, w.before args s = true) ∧ ∀ q : Nat, s.heap.size ≤ q → A q
def Sat (dC : Nat → ClassId) (dI : Nat → Nat → Nat) (dA : Nat → ClassId) (ad : Nat → Nat → Nat) (A : Nat → Prop) (s : State) (sc : Sc) (h : Hp) (H : Heap) (locs : List Loc) : Prop :=
  va_P (dC, dI) vwA (wl dA ad h) H ∧ va_D A (wl dA ad h) ∧ va_S A s.heap H locs ∧ okH h ∧ Glob dC dI dA ad A s ∧ ∀ n xs, sc = some (n, xs) → va_X (ad tagX 0) n xs s s.heap ∧ ad tagX 0 < s.heap.size ∧ ¬ A (ad tagX 0)
/-- from here the method comes to its end -/
def Tm (p : Program) (l : Launch) (e : Env) (R : Room) (s : State) (m0 : MethodId) (args : Array Value) (below : List Frame) (meth : Method) (c0 : Code) (Q : State → Prop) (A : Nat → Prop) (dC : Nat → ClassId) (dI : Nat → Nat → Nat) (dA : Nat → ClassId) (ad0 : Nat → Nat → Nat) (sc : Sc) (m n0 s0 : Nat) (pc : Nat) (L : List (Option Vl)) (st : List Vl) (h : Hp) : Prop :=
  ∀ (ad : Nat → Nat → Nat) (H : Heap) (locs : List Loc) (ls : Array Slot), agr n0 ad0 ad → n0 ≤ h.1 → s0 ≤ h.2.1 → Sat dC dI dA ad A s sc h H locs → Lh ad ls m h.1 L → okS h.1 st →
    W p l e R s m0 args below meth c0 H locs (h.1 - n0) (h.2.1 - s0) Q (F0 m0 pc ls (st.map (re ad)))
