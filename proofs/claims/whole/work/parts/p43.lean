/-- cells of which nothing is kept from call to call -/
def scb (t k j : Nat) : Prop := t = 12849 ∨ t = 205682 ∨ t = 11137 ∨ t = 13201 ∨ t = 13217 ∨ t = 74674 ∨ t = 13249 ∨ t = 13265 ∨ t = 12369 ∨ t = 131169 ∨ t = 8256 ∨ t = 207697 ∨ (t = 14944 ∧ (j = 14 ∨ j = 15 ∨ j = 24 ∨ j = 25 ∨ j = 26 ∨ j = 29 ∨ j = 30 ∨ j = 37)) ∨ (t = 32 ∧ (j = 2 ∨ j = 3)) ∨ (k = 2 ∧ (t = 10464 ∨ t = 10481 ∨ t = 10497 ∨ t = 10513 ∨ t = 10530 ∨ t = 41265 ∨ t = 12609 ∨ t = 12625 ∨ t = 12641 ∨ t = 2416 ∨ t = 10625 ∨ t = 10641 ∨ t = 10657 ∨ t = 2480 ∨ t = 20929 ∨ t = 20945 ∨ t = 20961 ∨ t = 2544 ∨ t = 16897 ∨ t = 16913 ∨ t = 16929))
def scM (I I' : FI) : Prop := ∀ t k j, ¬ scb t k j → I' t k j = I t k j
theorem scM.rf {I : FI} : scM I I := fun _ _ _ _ => rfl
theorem scM.tr {I I' I'' : FI} (h : scM I I') (h' : scM I' I'') : scM I I'' := fun t k j hs => (h' t k j hs).trans (h t k j hs)
theorem sc_t {I I' : FI} (h : scM I I') {t k : Nat} (ht : ∀ j, ¬ scb t k j) : I' t k = I t k := funext fun j => h t k j (ht j)
theorem sc_dsm {I I' : FI} (h : scM I I') : dsm I I' := by
  refine ⟨fun j => ?_, fun j => ?_, fun j => ?_, fun j => ?_, fun j => ?_, ?_, fun t ht k => sc_t h (fun j => by unfold scb; omega)⟩
  all_goals exact h _ _ _ (by unfold scb; omega)
theorem sc_MV {I I' : FI} {w : Nat → Nat} {nW nT dy : Nat} (h : scM I I') (hv : MV I w nW nT dy) : MV I' w nW nT dy := by
  obtain ⟨h1, h2, h3, h4, h5, h6, h7, hT, hF⟩ := hv
  exact ⟨h1, h2, h3, (h _ _ _ (by unfold scb; omega)).trans h4, (h _ _ _ (by unfold scb; omega)).trans h5, (h _ _ _ (by unfold scb; omega)).trans h6, fun t ht => by rw [h 12993 0 t (by unfold scb; omega)]; exact h7 t ht, hT.of (sc_dsm h).2.2.2.2.2, fun p hp => by rw [dsm_fD (sc_dsm h)]; exact hF p hp⟩
theorem sc_fct {I : FI} {k : Nat} {g : Nat → Int32} : scM I (fct I k g) := fun t k' j hs => by
  rw [fct_p (fun z => hs (by unfold scb; omega))]
/-- two worlds in which all goes alike -/
def wsm (I : FI) (w : Nat → Nat) (k : Nat) (I' : FI) (w' : Nat → Nat) (k' : Nat) : Prop := (∀ j, j < 5 → I' 10481 k' j = I 10481 k j) ∧ (∀ j, j < 5 → I' 10497 k' j = I 10497 k j) ∧ (∀ j, j < 5 → I' 10513 k' j = I 10513 k j) ∧ (∀ j, j < 5 → I' 10530 k' j = I 10530 k j) ∧ (∀ j, j < 20 → I' 41265 k' j = I 41265 k j) ∧ (∀ j, j < 6 → I' 12609 k' j = I 12609 k j) ∧ (∀ j, j < 6 → I' 12625 k' j = I 12625 k j) ∧ (∀ j, j < 6 → I' 12641 k' j = I 12641 k j) ∧ w' k' = w k ∧ (∀ j, I' 6288 (w k) j = I 6288 (w k) j) ∧ I' 204961 (w k) = I 204961 (w k) ∧ I' 204977 (w k) = I 204977 (w k) ∧ I' 204993 (w k) = I 204993 (w k) ∧ I' 205009 (w k) = I 205009 (w k)
section WS
variable {I I' : FI} {w w' : Nat → Nat} {k k' : Nat}
theorem ws_fD (h : wsm I w k I' w' k') {p : Nat} (hp5 : p < 5) : fD I' k' p = fD I k p := by
  unfold fD
  rw [h.1 p hp5, h.2.1 p hp5, h.2.2.1 p hp5]
theorem ws_ar (h : wsm I w k I' w' k') {p : Nat} (hp5 : p < 5) : arD I' w' k' p = arD I w k p := by
  obtain ⟨h1, h2, h3, h4, h5, h6, h7, h8, h9, hA, hB⟩ := h
  unfold arD
  rw [h1 p hp5, h2 p hp5, h4 p hp5, h9, hA]
theorem ws_pull (h : wsm I w k I' w' k') {f : Nat → Int32} : pullD I' (w' k') f = pullD I (w k) f := by
  obtain ⟨h1, h2, h3, h4, h5, h6, h7, h8, h9, hA, hB, hC, hD, hE⟩ := h
  unfold pullD
  rw [h9, hA, hB, hC, hD, hE]
theorem ws_sk (h : wsm I w k I' w' k') {p t dy : Nat} {l : Int32} (hp5 : p < 5) (ht : t < 6) : skD I' w' k' p t l dy = skD I w k p t l dy := by
  unfold skD
  rw [ws_pull h, h.1 p hp5, h.2.1 p hp5, h.2.2.2.2.1 _ (by omega), h.2.2.2.2.2.1 t ht]
theorem ws_day (h : wsm I w k I' w' k') {p t : Nat} (hp5 : p < 5) (ht : t < 6) : dayD I' w' k' p t = dayD I w k p t := by
  funext l dy
  unfold dayD
  rw [ws_sk h hp5 ht, ws_fD h hp5, h.2.2.2.2.2.2.2.2.1, h.2.2.2.2.2.2.2.2.2.1, h.2.2.2.2.2.2.2.2.2.1]
theorem ws_low (h : wsm I w k I' w' k') {t n dy : Nat} (ht : t < 6) (hp5 : I 12625 k t = -5 ∨ ∃ p, p < 5 ∧ I 12625 k t = c p) : lowB I' w' k' t n dy = lowB I w k t n dy := by
  unfold lowB
  rw [h.2.2.2.2.2.2.1 t ht, h.2.2.2.2.2.2.2.1 t ht]
  rcases hp5 with ho | ⟨p, hp5, hpk⟩
  · rw [if_pos ho, if_pos ho]
  · have hne : ¬ I 12625 k t = -5 := by rw [hpk]; exact c_m5 hp5
    rw [if_neg hne, if_neg hne, hpk, ix_c (by omega), ws_day h hp5 ht]
theorem ws_all (h : wsm I w k I' w' k') : ∀ n, n ≤ 5 → allA (arD I' w' k') n = allA (arD I w k) n := by
  intro n
  induction n with
  | zero => intro _; rfl
  | succ n ih =>
    intro hn
    show allA _ n + _ = allA _ n + _
    rw [ih (by omega), ws_ar h (by omega)]
theorem ws_sum (h : wsm I w k I' w' k') {b : Nat → Bool} : ∀ n, n ≤ 5 → sumA (arD I' w' k') b n = sumA (arD I w k) b n := by
  intro n
  induction n with
  | zero => intro _; rfl
  | succ n ih =>
    intro hn
    show sumA _ b n + _ = sumA _ b n + _
    rw [ih (by omega), ws_ar h (by omega)]
theorem ws_tch (h : wsm I w k I' w' k') {t n dy : Nat} (ht : t < 6) (hp5 : I 12625 k t = -5 ∨ ∃ p, p < 5 ∧ I 12625 k t = c p) : tchD I' w' k' n dy t = tchD I w k n dy t := by
  unfold tchD
  rw [ws_low h ht hp5, h.2.2.2.2.2.2.1 t ht]
  rcases hp5 with ho | ⟨p, hp5, hpk⟩
  · rw [ho]; simp
  · rw [hpk, ix_c (by omega), ws_ar h hp5]
theorem ws_lwz (h : wsm I w k I' w' k') {t n dy : Nat} (ht : t < 6) (hp5 : I 12625 k t = -5 ∨ ∃ p, p < 5 ∧ I 12625 k t = c p) : lwz I' w' k' n dy t = lwz I w k n dy t := by
  unfold lwz
  rw [ws_low h ht hp5, h.2.2.2.2.2.2.1 t ht]
theorem ws_out (h : wsm I w k I' w' k') {t : Nat} (ht : t < 6) : outD I' k' t = outD I k t := by
  unfold outD
  rw [h.2.2.2.2.2.2.1 t ht]
theorem ws_wth (h : wsm I w k I' w' k') {t nW : Nat} (hn : nW ≤ 5) (ht : t < 6) : wthD I' w' k' nW t = wthD I w k nW t := by
  unfold wthD
  rw [ws_out h ht, h.2.2.2.2.2.2.2.1 t ht, ws_all h nW hn]
theorem cnt_congr {f g : Nat → Bool} : ∀ n, (∀ i, i < n → f i = g i) → cnt f n = cnt g n := by
  intro n
  induction n with
  | zero => intro _; rfl
  | succ n ih =>
    intro h
    show cnt f n + _ = cnt g n + _
    rw [ih (fun i hi => h i (by omega)), h n (by omega)]
theorem allA_congr {f g : Nat → Int32} : ∀ n, (∀ i, i < n → f i = g i) → allA f n = allA g n := by
  intro n
  induction n with
  | zero => intro _; rfl
  | succ n ih =>
    intro h
    show allA f n + _ = allA g n + _
    rw [ih (fun i hi => h i (by omega)), h n (by omega)]
end WS
theorem l153 {d : Nat} {I : FI} {L : FL} {w : Nat → Nat} {nW nT dy : Nat} (h : MV I w nW nT dy) : ∀ r i, i + r = nT → rn none (dn (d + 3)) 153 4 [some (vR 14944 0), some (vI (cnt (tchD (mv I) w 0 0 dy) i)), some (vI (c i))] [] (hp I L w) = some (some (vI (cnt (tchD (mv I) w 0 0 dy) nT)), hp I L w) := by
  obtain ⟨h1, h2, h3, h4, h5, h6, h7, hT, hF⟩ := h
  intro r
  induction r with
  | zero =>
    intro i hr
    obtain rfl : i = nT := by omega
    rw [b153_4, h5, if_neg (by rw [c_lt (by omega) (by omega)]; omega)]
  | succ r ih =>
    intro i hr
    have hg := ih (i + 1) (by omega)
    have e : cnt (tchD (mv I) w 0 0 dy) (i + 1) = cnt (tchD (mv I) w 0 0 dy) i + (if tchD (mv I) w 0 0 dy i = true then 1 else 0) := rfl
    rw [e] at hg
    rw [b153_4, h5, if_pos (by rw [c_lt (by omega) (by omega)]; omega), s121 (by omega), bn_s]
    show rn none _ 153 18 _ [vI _, vI _] _ = _
    rw [b153_18, ib, c_s]
    rcases h7 i (by omega) with ho | ⟨p, hp5, hpk⟩
    · rw [if_neg (by unfold tchD; rw [mv_pk, decide_eq_true ho]; simp)] at hg
      rw [if_pos ho, hg]
    · have hne : ¬ I 12993 0 i = -5 := by rw [hpk]; exact c_m5 (by omega)
      rw [if_neg hne, ck_t (vin_c (by omega) (by omega)), ix_c (by omega), hpk, s149 hT (by omega), bn_s]
      show rn none _ 153 31 _ [vI _, vI _] _ = _
      rw [b153_31, ck_t (vin_c (by omega) (by omega)), ix_c (by omega), c_s]
      have e2 : tchD (mv I) w 0 0 dy i = decide (I 13009 0 i ≤ arD (mv I) w 0 p) := by
        unfold tchD lowB
        rw [mv_pk, mv_low, decide_eq_false hne, if_neg hne, hpk, ix_c (by omega)]
        rfl
      rw [e2] at hg
      by_cases a : arD (mv I) w 0 p < I 13009 0 i
      · rw [if_neg (by simp only [decide_eq_true_eq]; grind)] at hg
        rw [if_pos a, hg]
      · rw [if_pos (by simp only [decide_eq_true_eq]; grind)] at hg
        rw [if_neg a, hg]
theorem s153 {d : Nat} {I : FI} {L : FL} {w : Nat → Nat} {nW nT dy : Nat} (h : MV I w nW nT dy) : dn (d + 4) 153 [vR 14944 0] (hp I L w) = some (some (vI (cnt (tchD (mv I) w 0 0 dy) nT)), hp I L w) := by
  rw [e153, b153_0]
  exact l153 h nT 0 (by omega)
