def swF (x : Int32) (d : Nat) : List (Int32 × Nat) → Nat
  | [] => d
  | (k, t) :: r => if x = k then t else swF x d r
theorem swK_eq {γ : Type} {x : Int32} {d : Nat} {K : Nat → γ} : ∀ l : List (Int32 × Nat), swK x d K l = K (swF x d l)
  | [] => rfl
  | (k, t) :: r => by
    unfold swK swF
    split
    · rfl
    · exact swK_eq r
theorem tsw_in {pc : Nat} {x : Int32} {d : Nat} : ∀ (os : List Int) (lo : Int) (sw : List (Int32 × Nat)), tsw pc lo os sw = true → lo ≤ x.toInt → x.toInt < lo + (os.length : Int) → ∃ off, os[(x.toInt - lo).toNat]? = some off ∧ (pc : Int) + off = (swF x d sw : Int) := by
  intro os
  induction os with
  | nil => intro lo sw _ h1 h2; simp at h2; omega
  | cons o os ih =>
    intro lo sw h h1 h2
    match sw, h with
    | [], h => cases h
    | (k, t) :: r, h =>
      simp only [tsw, Bool.and_eq_true, beq_iff_eq] at h
      unfold swF
      by_cases e : x = k
      · rw [if_pos e]
        have : (x.toInt - lo).toNat = 0 := by rw [e, h.1.1]; omega
        rw [this]
        exact ⟨o, rfl, h.1.2⟩
      · rw [if_neg e]
        have hne : x.toInt ≠ lo := fun z => e (Int32.toInt_inj.mp (by rw [z, h.1.1]))
        obtain ⟨off, a1, a2⟩ := ih (lo + 1) r h.2 (by omega) (by simp at h2; omega)
        refine ⟨off, ?_, a2⟩
        rw [show (x.toInt - lo).toNat = (x.toInt - (lo + 1)).toNat + 1 by omega, List.getElem?_cons_succ]
        exact a1
theorem tsw_out {pc : Nat} {x : Int32} {d : Nat} : ∀ (os : List Int) (lo : Int) (sw : List (Int32 × Nat)), tsw pc lo os sw = true → (x.toInt < lo ∨ lo + (os.length : Int) ≤ x.toInt) → swF x d sw = d := by
  intro os
  induction os with
  | nil =>
    intro lo sw h _
    match sw, h with
    | [], _ => rfl
    | _ :: _, h => cases h
  | cons o os ih =>
    intro lo sw h h1
    match sw, h with
    | [], h => cases h
    | (k, t) :: r, h =>
      simp only [tsw, Bool.and_eq_true, beq_iff_eq] at h
      unfold swF
      simp only [List.length_cons] at h1
      rw [if_neg (fun e => by rw [e, h.1.1] at h1; omega)]
      exact ih (lo + 1) r h.2 (by omega)
theorem lsw_of {pc : Nat} {x : Int32} {d : Int} {a : Nat} (hd : (pc : Int) + d = (a : Int)) : ∀ (ps : List (Int × Int)) (sw : List (Int32 × Nat)), lsw pc ps sw = true → (pc : Int) + Op.lookupswitch.offset ps d x.toInt = (swF x a sw : Int) := by
  intro ps
  induction ps with
  | nil =>
    intro sw h
    match sw, h with
    | [], _ => exact hd
    | _ :: _, h => cases h
  | cons q ps ih =>
    intro sw h
    obtain ⟨v, o⟩ := q
    match sw, h with
    | [], h => cases h
    | (k, t) :: r, h =>
      simp only [lsw, Bool.and_eq_true, beq_iff_eq] at h
      unfold swF
      by_cases e : x = k
      · rw [if_pos e]
        have hx : x.toInt = v := by rw [e, h.1.1]
        unfold Op.lookupswitch.offset
        rw [← h.1.2]
        congr 1
        first | (simp [hx]; done) | (rw [if_pos hx]) | (rw [if_pos hx.symm])
      · rw [if_neg e]
        rw [lv_osw e h.1.1]
        exact ih r h.2
theorem vp_of {i : Int32} {n : Nat} (h : vin i n = true) : vp_in i n := by
  unfold vin at h
  simp only [Bool.and_eq_true, decide_eq_true_eq] at h
  intro q
  rcases q with q | q
  · exact absurd h.1 (Int32.not_le.mpr q)
  · omega
theorem wl_set {h h' : Hp} {i t k : Nat} {ad : Nat → Nat → Nat} {dA : Nat → ClassId} (hi : i < h.1) (hn : nm i = (t, k)) (h1 : h'.1 = h.1) (hle : h.1 ≤ 172) (ho : ∀ t' k', ¬ (t' = t ∧ k' = k) → cE dA ad h' t' k' = cE dA ad h t' k') : (wl dA ad h).set i (ad t k, cE dA ad h' t k) = wl dA ad h' := by
  apply List.ext_getElem?
  intro j
  by_cases hj : j < h.1
  · by_cases e : i = j
    · subst e
      rw [List.getElem?_set_self (by unfold wl; rw [List.length_map, List.length_range]; exact hi), wl_at (by rw [h1]; exact hj) hn]
    · rw [List.getElem?_set_ne e]
      obtain ⟨t', k'⟩ : Nat × Nat := nm j
      rw [wl_at hj (rfl : nm j = ((nm j).1, (nm j).2)), wl_at (by rw [h1]; exact hj) (rfl : nm j = ((nm j).1, (nm j).2)), ho _ _ (fun z => e (nm_inj' i (by omega) j (by omega) (by rw [hn]; exact Prod.ext z.1.symm z.2.symm)))]
  · rw [List.getElem?_eq_none (by rw [List.length_set]; unfold wl; rw [List.length_map, List.length_range]; omega), List.getElem?_eq_none (by unfold wl; rw [List.length_map, List.length_range]; omega)]
theorem cE_cg {h h' : Hp} {t k : Nat} {ad : Nat → Nat → Nat} {dA : Nat → ClassId} (h1 : hI h' t k = hI h t k) (h2 : hL h' t k = hL h t k) (h3 : hR h' t k = hR h t k) : cE dA ad h' t k = cE dA ad h t k := by
  have h4 : fv ad h' t k = fv ad h t k := by
    funext j
    unfold fv
    rw [h1, h3]
  unfold cE
  rw [h1, h2, h3, h4]
theorem uI_o {I : FI} {t k j t' k' : Nat} {x : Int32} (h : ¬ (t' = t ∧ k' = k)) : uI I t k j x t' k' = I t' k' := by
  funext c
  unfold uI
  rw [if_neg (fun z => h ⟨z.1, z.2.1⟩)]
theorem uL_o {I : FL} {t k j t' k' : Nat} {x : Int64} (h : ¬ (t' = t ∧ k' = k)) : uL I t k j x t' k' = I t' k' := by
  funext c
  unfold uL
  rw [if_neg (fun z => h ⟨z.1, z.2.1⟩)]
theorem uR_o {I : FR} {t k j t' k' : Nat} {x : Option (Nat × Nat)} (h : ¬ (t' = t ∧ k' = k)) : uR I t k j x t' k' = I t' k' := by
  funext c
  unfold uR
  rw [if_neg (fun z => h ⟨z.1, z.2.1⟩)]
theorem cI_o {I : FI} {t k t' k' sp dp n a b : Nat} (h : ¬ (a = t' ∧ b = k')) : cI I t k t' k' sp dp n a b = I a b := by
  funext c
  unfold cI
  rw [if_neg (fun z => h ⟨z.1, z.2.1⟩)]
theorem cL_o {I : FL} {t k t' k' sp dp n a b : Nat} (h : ¬ (a = t' ∧ b = k')) : cL I t k t' k' sp dp n a b = I a b := by
  funext c
  unfold cL
  rw [if_neg (fun z => h ⟨z.1, z.2.1⟩)]
theorem uI_s {I : FI} {t k : Nat} {i : Nat} {x : Int32} : uI I t k i x t k = upd (I t k) i x := by
  funext c
  unfold uI upd
  simp
theorem uL_s {I : FL} {t k : Nat} {i : Nat} {x : Int64} : uL I t k i x t k = vp_updL (I t k) i x := by
  funext c
  unfold uL vp_updL
  simp
theorem map_set {n b : Nat} {f f' : Nat → Value} {v : Value} (hb : b < n) (h1 : f' b = v) (h2 : ∀ j, j ≠ b → f' j = f j) : ((List.range n).map f).set b v = (List.range n).map f' := by
  apply List.ext_getElem?
  intro j
  by_cases hj : j < n
  · by_cases e : b = j
    · subst e
      rw [List.getElem?_set_self (by rw [List.length_map, List.length_range]; exact hb), List.getElem?_map, List.getElem?_range hj, Option.map_some, h1]
    · rw [List.getElem?_set_ne e, List.getElem?_map, List.getElem?_map, List.getElem?_range hj, Option.map_some, Option.map_some, h2 j (Ne.symm e)]
  · rw [List.getElem?_eq_none (by rw [List.length_set, List.length_map, List.length_range]; omega), List.getElem?_eq_none (by rw [List.length_map, List.length_range]; omega)]
theorem map_len {n : Nat} {f : Nat → Value} : ((List.range n).map f).length = n := by rw [List.length_map, List.length_range]
theorem map_at {n b : Nat} {f : Nat → Value} (hb : b < n) : ((List.range n).map f)[b]? = some (f b) := by rw [List.getElem?_map, List.getElem?_range hb]; rfl
theorem cE_0 {h : Hp} {t k : Nat} {ad : Nat → Nat → Nat} {dA : Nat → ClassId} (ht : tK t = 0) : cE dA ad h t k = .inr (tN t, (List.range (nF (tN t))).map (fv ad h t k)) := by unfold cE; rw [ht]; first | done | rfl
theorem cE_1 {h : Hp} {t k : Nat} {ad : Nat → Nat → Nat} {dA : Nat → ClassId} (ht : tK t = 1) : cE dA ad h t k = .inl (dA 1, tN t, .inl (hI h t k)) := by unfold cE; rw [ht]; first | done | rfl
theorem cE_2 {h : Hp} {t k : Nat} {ad : Nat → Nat → Nat} {dA : Nat → ClassId} (ht : tK t = 2) : cE dA ad h t k = .inl (dA 2, tN t, .inl (hI h t k)) := by unfold cE; rw [ht]; first | done | rfl
theorem cE_3 {h : Hp} {t k : Nat} {ad : Nat → Nat → Nat} {dA : Nat → ClassId} (ht : tK t = 3) : cE dA ad h t k = .inl (dA 3, tN t, .inr (.inl (hL h t k))) := by unfold cE; rw [ht]; first | done | rfl
theorem cE_4 {h : Hp} {t k : Nat} {ad : Nat → Nat → Nat} {dA : Nat → ClassId} (ht : tK t = 4) : cE dA ad h t k = .inl (dA 4, tN t, .inr (.inr (.inr (.inr fun j => bif Nat.blt j (tN t) then (hR h t k j).map (fun q => ad q.1 q.2) else none)))) := by unfold cE; rw [ht]; first | done | rfl
theorem cE_5 {h : Hp} {t k : Nat} {ad : Nat → Nat → Nat} {dA : Nat → ClassId} (ht : tK t = 5) : cE dA ad h t k = .inl (dA 5, tN t, .inr (.inr (.inr (.inr fun j => bif Nat.blt j (tN t) then (hR h t k j).map (fun q => ad q.1 q.2) else none)))) := by unfold cE; rw [ht]; first | done | rfl
theorem isRf_lit {ty : FieldType} {a : Nat} (h : isRf ty = true) : narrow ty (.ref a) = .ref a ∧ fits ty (.ref a) = true := by
  cases ty <;> first | (cases h; done) | exact ⟨rfl, rfl⟩
theorem isB_of {x : Int32} (h : isB x = true) : x &&& 1 = x := by
  unfold isB at h
  simp only [Bool.or_eq_true, beq_iff_eq] at h
  rcases h with rfl | rfl <;> rfl
