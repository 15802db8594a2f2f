set_option maxHeartbeats 400000
section P73
/-! one world comes over another -/
def cpB (cw : Nat → Nat → Bool) (I : FI) (a b : Nat) : FI := fun t k j => if k = a ∧ cw t j = true then I t b j else I t k j
variable {I : FI} {L : FL} {w : Nat → Nat} {a b : Nat} {cw : Nat → Nat → Bool} {t j n : Nat}
theorem cpB_b (hab : a ≠ b) {t' : Nat} : cpB cw I a b t' b = I t' b := by
  funext j'
  exact if_neg (fun z => hab z.1.symm)
theorem uI_kp {X : FI} {t k j t' k' : Nat} {x : Int32} (h : k' ≠ k) : uI X t k j x t' k' = X t' k' := by
  funext j'; exact uI_k h
theorem cI_kp {X : FI} {t k t' k' sp dp n t2 k2 : Nat} (h : k2 ≠ k') : cI X t k t' k' sp dp n t2 k2 = X t2 k2 := by
  funext j'; unfold cI; rw [if_neg (fun z => h z.2.1)]
theorem uI_cp0 : uI I t a j (I t b j) = cpB (fun t' j' => decide (t' = t ∧ j' = j)) I a b := by
  funext t' k' j'
  unfold uI cpB
  by_cases h : t' = t ∧ k' = a ∧ j' = j
  · rw [if_pos h, if_pos ⟨h.2.1, decide_eq_true ⟨h.1, h.2.2⟩⟩, h.1, h.2.2]
  · rw [if_neg h, if_neg (fun z => h ⟨(of_decide_eq_true z.2).1, z.1, (of_decide_eq_true z.2).2⟩)]
theorem uI_cp : uI (cpB cw I a b) t a j (I t b j) = cpB (fun t' j' => cw t' j' || decide (t' = t ∧ j' = j)) I a b := by
  funext t' k' j'
  unfold uI cpB
  by_cases h : t' = t ∧ k' = a ∧ j' = j
  · rw [if_pos h, if_pos ⟨h.2.1, show (cw t' j' || decide (t' = t ∧ j' = j)) = true from by rw [decide_eq_true (show t' = t ∧ j' = j from ⟨h.1, h.2.2⟩), Bool.or_true]⟩, h.1, h.2.2]
  · rw [if_neg h]
    by_cases q : k' = a ∧ cw t' j' = true
    · rw [if_pos q, if_pos ⟨q.1, show (cw t' j' || decide (t' = t ∧ j' = j)) = true from by rw [q.2, Bool.true_or]⟩]
    · rw [if_neg q, if_neg (fun z => by
        have z2 := z.2
        rw [Bool.or_eq_true] at z2
        rcases z2 with y | y
        · exact q ⟨z.1, y⟩
        · exact h ⟨(of_decide_eq_true y).1, z.1, (of_decide_eq_true y).2⟩)]
theorem cI_cp (hab : a ≠ b) : cI (cpB cw I a b) t b t a 0 0 n = cpB (fun t' j' => cw t' j' || decide (t' = t ∧ j' < n)) I a b := by
  funext t' k' j'
  unfold cI
  rw [cpB_b hab]
  unfold cpB
  by_cases h : t' = t ∧ k' = a ∧ 0 ≤ j' ∧ j' < 0 + n
  · rw [if_pos h, if_pos ⟨h.2.1, show (cw t' j' || decide (t' = t ∧ j' < n)) = true from by rw [decide_eq_true (show t' = t ∧ j' < n from ⟨h.1, by omega⟩), Bool.or_true]⟩, h.1, show 0 + (j' - 0) = j' by omega]
  · rw [if_neg h]
    by_cases q : k' = a ∧ cw t' j' = true
    · rw [if_pos q, if_pos ⟨q.1, show (cw t' j' || decide (t' = t ∧ j' < n)) = true from by rw [q.2, Bool.true_or]⟩]
    · rw [if_neg q, if_neg (fun z => by
        have z2 := z.2
        rw [Bool.or_eq_true] at z2
        rcases z2 with y | y
        · exact q ⟨z.1, y⟩
        · exact h ⟨(of_decide_eq_true y).1, z.1, by omega, by have := (of_decide_eq_true y).2; omega⟩)]
/-- what a world is -/
def CW (t j : Nat) : Prop := (((((((((((((((((((((((t = 10464 ∧ j = 0) ∨ (t = 10481 ∧ j < 5)) ∨ (t = 10497 ∧ j < 5)) ∨ (t = 10513 ∧ j < 5)) ∨ (t = 10530 ∧ j < 5)) ∨ (t = 41265 ∧ j < 20)) ∨ (t = 10464 ∧ j = 6)) ∨ (t = 12609 ∧ j < 6)) ∨ (t = 12625 ∧ j < 6)) ∨ (t = 12641 ∧ j < 6)) ∨ (t = 10464 ∧ j = 10)) ∨ (t = 2416 ∧ j = 0)) ∨ (t = 10625 ∧ j < 5)) ∨ (t = 10641 ∧ j < 5)) ∨ (t = 10657 ∧ j < 5)) ∨ (t = 2480 ∧ j = 0)) ∨ (t = 20929 ∧ j < 10)) ∨ (t = 20945 ∧ j < 10)) ∨ (t = 20961 ∧ j < 10)) ∨ (t = 2544 ∧ j = 0)) ∨ (t = 16897 ∧ j < 8)) ∨ (t = 16913 ∧ j < 8)) ∨ (t = 16929 ∧ j < 8))
set_option maxRecDepth 100000 in
theorem CW_t (h : CW t j) : t = 10464 ∨ t = 10481 ∨ t = 10497 ∨ t = 10513 ∨ t = 10530 ∨ t = 41265 ∨ t = 12609 ∨ t = 12625 ∨ t = 12641 ∨ t = 2416 ∨ t = 10625 ∨ t = 10641 ∨ t = 10657 ∨ t = 2480 ∨ t = 20929 ∨ t = 20945 ∨ t = 20961 ∨ t = 2544 ∨ t = 16897 ∨ t = 16913 ∨ t = 16929 := by
  unfold CW at h
  rcases h with ((((((((((((((((((((((h | h) | h) | h) | h) | h) | h) | h) | h) | h) | h) | h) | h) | h) | h) | h) | h) | h) | h) | h) | h) | h) | h)
  all_goals
    rw [h.1]
    decide
theorem CW10464_0 {j : Nat} (h : j = 0) : CW 10464 j := Or.inl (Or.inl (Or.inl (Or.inl (Or.inl (Or.inl (Or.inl (Or.inl (Or.inl (Or.inl (Or.inl (Or.inl (Or.inl (Or.inl (Or.inl (Or.inl (Or.inl (Or.inl (Or.inl (Or.inl (Or.inl (Or.inl (⟨rfl, h⟩))))))))))))))))))))))
theorem CW10481 {j : Nat} (h : j < 5) : CW 10481 j := Or.inl (Or.inl (Or.inl (Or.inl (Or.inl (Or.inl (Or.inl (Or.inl (Or.inl (Or.inl (Or.inl (Or.inl (Or.inl (Or.inl (Or.inl (Or.inl (Or.inl (Or.inl (Or.inl (Or.inl (Or.inl (Or.inr ⟨rfl, h⟩)))))))))))))))))))))
theorem CW10497 {j : Nat} (h : j < 5) : CW 10497 j := Or.inl (Or.inl (Or.inl (Or.inl (Or.inl (Or.inl (Or.inl (Or.inl (Or.inl (Or.inl (Or.inl (Or.inl (Or.inl (Or.inl (Or.inl (Or.inl (Or.inl (Or.inl (Or.inl (Or.inl (Or.inr ⟨rfl, h⟩))))))))))))))))))))
theorem CW10513 {j : Nat} (h : j < 5) : CW 10513 j := Or.inl (Or.inl (Or.inl (Or.inl (Or.inl (Or.inl (Or.inl (Or.inl (Or.inl (Or.inl (Or.inl (Or.inl (Or.inl (Or.inl (Or.inl (Or.inl (Or.inl (Or.inl (Or.inl (Or.inr ⟨rfl, h⟩)))))))))))))))))))
theorem CW10530 {j : Nat} (h : j < 5) : CW 10530 j := Or.inl (Or.inl (Or.inl (Or.inl (Or.inl (Or.inl (Or.inl (Or.inl (Or.inl (Or.inl (Or.inl (Or.inl (Or.inl (Or.inl (Or.inl (Or.inl (Or.inl (Or.inl (Or.inr ⟨rfl, h⟩))))))))))))))))))
theorem CW41265 {j : Nat} (h : j < 20) : CW 41265 j := Or.inl (Or.inl (Or.inl (Or.inl (Or.inl (Or.inl (Or.inl (Or.inl (Or.inl (Or.inl (Or.inl (Or.inl (Or.inl (Or.inl (Or.inl (Or.inl (Or.inl (Or.inr ⟨rfl, h⟩)))))))))))))))))
theorem CW10464_6 {j : Nat} (h : j = 6) : CW 10464 j := Or.inl (Or.inl (Or.inl (Or.inl (Or.inl (Or.inl (Or.inl (Or.inl (Or.inl (Or.inl (Or.inl (Or.inl (Or.inl (Or.inl (Or.inl (Or.inl (Or.inr ⟨rfl, h⟩))))))))))))))))
theorem CW12609 {j : Nat} (h : j < 6) : CW 12609 j := Or.inl (Or.inl (Or.inl (Or.inl (Or.inl (Or.inl (Or.inl (Or.inl (Or.inl (Or.inl (Or.inl (Or.inl (Or.inl (Or.inl (Or.inl (Or.inr ⟨rfl, h⟩)))))))))))))))
theorem CW12625 {j : Nat} (h : j < 6) : CW 12625 j := Or.inl (Or.inl (Or.inl (Or.inl (Or.inl (Or.inl (Or.inl (Or.inl (Or.inl (Or.inl (Or.inl (Or.inl (Or.inl (Or.inl (Or.inr ⟨rfl, h⟩))))))))))))))
theorem CW12641 {j : Nat} (h : j < 6) : CW 12641 j := Or.inl (Or.inl (Or.inl (Or.inl (Or.inl (Or.inl (Or.inl (Or.inl (Or.inl (Or.inl (Or.inl (Or.inl (Or.inl (Or.inr ⟨rfl, h⟩)))))))))))))
theorem CW10464_10 {j : Nat} (h : j = 10) : CW 10464 j := Or.inl (Or.inl (Or.inl (Or.inl (Or.inl (Or.inl (Or.inl (Or.inl (Or.inl (Or.inl (Or.inl (Or.inl (Or.inr ⟨rfl, h⟩))))))))))))
theorem CW2416 {j : Nat} (h : j = 0) : CW 2416 j := Or.inl (Or.inl (Or.inl (Or.inl (Or.inl (Or.inl (Or.inl (Or.inl (Or.inl (Or.inl (Or.inl (Or.inr ⟨rfl, h⟩)))))))))))
theorem CW10625 {j : Nat} (h : j < 5) : CW 10625 j := Or.inl (Or.inl (Or.inl (Or.inl (Or.inl (Or.inl (Or.inl (Or.inl (Or.inl (Or.inl (Or.inr ⟨rfl, h⟩))))))))))
theorem CW10641 {j : Nat} (h : j < 5) : CW 10641 j := Or.inl (Or.inl (Or.inl (Or.inl (Or.inl (Or.inl (Or.inl (Or.inl (Or.inl (Or.inr ⟨rfl, h⟩)))))))))
theorem CW10657 {j : Nat} (h : j < 5) : CW 10657 j := Or.inl (Or.inl (Or.inl (Or.inl (Or.inl (Or.inl (Or.inl (Or.inl (Or.inr ⟨rfl, h⟩))))))))
theorem CW2480 {j : Nat} (h : j = 0) : CW 2480 j := Or.inl (Or.inl (Or.inl (Or.inl (Or.inl (Or.inl (Or.inl (Or.inr ⟨rfl, h⟩)))))))
theorem CW20929 {j : Nat} (h : j < 10) : CW 20929 j := Or.inl (Or.inl (Or.inl (Or.inl (Or.inl (Or.inl (Or.inr ⟨rfl, h⟩))))))
theorem CW20945 {j : Nat} (h : j < 10) : CW 20945 j := Or.inl (Or.inl (Or.inl (Or.inl (Or.inl (Or.inr ⟨rfl, h⟩)))))
theorem CW20961 {j : Nat} (h : j < 10) : CW 20961 j := Or.inl (Or.inl (Or.inl (Or.inl (Or.inr ⟨rfl, h⟩))))
theorem CW2544 {j : Nat} (h : j = 0) : CW 2544 j := Or.inl (Or.inl (Or.inl (Or.inr ⟨rfl, h⟩)))
theorem CW16897 {j : Nat} (h : j < 8) : CW 16897 j := Or.inl (Or.inl (Or.inr ⟨rfl, h⟩))
theorem CW16913 {j : Nat} (h : j < 8) : CW 16913 j := Or.inl (Or.inr ⟨rfl, h⟩)
theorem CW16929 {j : Nat} (h : j < 8) : CW 16929 j := Or.inr ⟨rfl, h⟩
theorem CW_n {t : Nat} (h : ¬ (t = 10464 ∨ t = 10481 ∨ t = 10497 ∨ t = 10513 ∨ t = 10530 ∨ t = 41265 ∨ t = 12609 ∨ t = 12625 ∨ t = 12641 ∨ t = 2416 ∨ t = 10625 ∨ t = 10641 ∨ t = 10657 ∨ t = 2480 ∨ t = 20929 ∨ t = 20945 ∨ t = 20961 ∨ t = 2544 ∨ t = 16897 ∨ t = 16913 ∨ t = 16929)) : ∀ j, ¬ CW t j := fun _ z => h (CW_t z)
theorem allB_t {f : Nat → Int32} : ∀ n, (∀ j, j < n → f j = 0 ∨ f j = 1) → allB f n = true := by
  intro n
  induction n with
  | zero => intro _; rfl
  | succ n ih =>
    intro h
    show (isB (f n) && allB f n) = true
    rw [ih (fun j hj => h j (by omega))]
    rcases h n (by omega) with e | e <;> rw [e] <;> rfl
theorem s30 {d : Nat} (hab : a ≠ b) (hg : ∀ j, j < 5 → I 10530 b j = 0 ∨ I 10530 b j = 1) : ∃ cw : Nat → Nat → Bool, (∀ t j, cw t j = true ↔ CW t j) ∧ dn (d + 2) 30 [vR 10464 a, vR 10464 b] (hp I L w) = some (none, hp (cpB cw I a b) L (sW w a (w b))) := by
  have hba : b ≠ a := fun z => hab z.symm
  have S1 : ∀ X : FI, ∀ w, dn (d + 1) 14 [vR 2416 a, vR 2416 b] (hp X L w) = some (none, hp (cI (cI (cI (uI X 2416 a 0 (X 2416 b 0)) 10625 b 10625 a 0 0 5) 10641 b 10641 a 0 0 5) 10657 b 10657 a 0 0 5) L w) := fun X w => by rw [e14a, b14_0a]
  have S2 : ∀ X : FI, ∀ w, dn (d + 1) 14 [vR 2480 a, vR 2480 b] (hp X L w) = some (none, hp (cI (cI (cI (uI X 2480 a 0 (X 2480 b 0)) 20929 b 20929 a 0 0 10) 20945 b 20945 a 0 0 10) 20961 b 20961 a 0 0 10) L w) := fun X w => by rw [e14b, b14_0b]
  have S3 : ∀ X : FI, ∀ w, dn (d + 1) 14 [vR 2544 a, vR 2544 b] (hp X L w) = some (none, hp (cI (cI (cI (uI X 2544 a 0 (X 2544 b 0)) 16897 b 16897 a 0 0 8) 16913 b 16913 a 0 0 8) 16929 b 16929 a 0 0 8) L w) := fun X w => by rw [e14c, b14_0c]
  refine Exists.intro ?cw (And.intro ?i ?e)
  case e =>
    rw [e30, b30_0]
    simp only [cI_kp hba, uI_kp hba]
    rw [ck_t (allB_t 5 hg), uI_cp0]
    simp only [uI_cp, cI_cp hab]
    rw [b30_176, S1, bn_s]
    simp only [cpB_b hab, uI_cp, cI_cp hab]
    show rn none _ 30 187 _ [] _ = _
    rw [b30_187, S2, bn_s]
    simp only [cpB_b hab, uI_cp, cI_cp hab]
    show rn none _ 30 198 _ [] _ = _
    rw [b30_198, S3, bn_s]
    simp only [cpB_b hab, uI_cp, cI_cp hab]
    show rn none _ 30 209 _ [] _ = _
    rw [b30_209]
  case i =>
    intro t j
    simp only [Bool.or_eq_true, decide_eq_true_eq]
    exact Iff.rfl
end P73
