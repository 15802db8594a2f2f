set_option maxHeartbeats 200000
theorem sav_g {I : FI} : sav I 14944 0 29 = I 14944 0 1 := by
  unfold sav
  rw [cp_p (by omega), cp_p (by omega), cp_p (by omega)]
  unfold sv0
  rw [uI_j (by omega), uI_e]
theorem sav_d {I : FI} : sav I 14944 0 30 = I 14944 0 3 := by
  unfold sav
  rw [cp_p (by omega), cp_p (by omega), cp_p (by omega)]
  unfold sv0
  rw [uI_e]
theorem sav_t {I : FI} {j : Nat} (h : j < 5) : sav I 11137 0 j = I 10897 0 j := by
  unfold sav
  rw [cp_p (by omega), cp_p (by omega)]
  unfold cp sv0
  rw [if_pos ⟨rfl, rfl, h⟩, uI_t (by omega), uI_t (by omega)]
theorem sav_w {I : FI} {j : Nat} (h : j < 6) : sav I 13201 0 j = I 12993 0 j := by
  unfold sav
  rw [cp_p (by omega)]
  unfold cp sv0
  rw [if_pos ⟨rfl, rfl, h⟩, if_neg (by omega), uI_t (by omega), uI_t (by omega)]
theorem sav_l {I : FI} {j : Nat} (h : j < 6) : sav I 13217 0 j = I 13009 0 j := by
  unfold sav cp sv0
  rw [if_pos ⟨rfl, rfl, h⟩, if_neg (by omega), if_neg (by omega), uI_t (by omega), uI_t (by omega)]
theorem sav_o {I : FI} : scM I (sav I) := by
  intro t k j hs
  unfold scb at hs
  unfold sav cp sv0
  rw [if_neg (by omega), if_neg (by omega), if_neg (by omega)]
  unfold uI
  rw [if_neg (by omega), if_neg (by omega)]
def mtb (t k j : Nat) : Prop := t = 205682 ∨ (k = 0 ∧ ((t = 10897 ∧ j < 5) ∨ ((t = 12993 ∨ t = 13009) ∧ j < 6) ∨ (t = 14944 ∧ (j = 1 ∨ j = 3))))
theorem pbk_ok {I J : FI} (h : ∀ t k j, ¬ mtb t k j → J t k j = sav I t k j) : scM I (pbk J) := by
  intro t k j hs
  unfold pbk cp pb0
  by_cases a : t = 13009 ∧ k = 0 ∧ j < 6
  · rw [if_pos a]
    rw [if_neg (by omega), if_neg (by omega), uI_t (by omega), uI_t (by omega), h _ _ _ (by unfold mtb; omega), sav_l a.2.2, a.1, a.2.1]
  · rw [if_neg a]
    by_cases b : t = 12993 ∧ k = 0 ∧ j < 6
    · rw [if_pos b]
      rw [if_neg (by omega), uI_t (by omega), uI_t (by omega), h _ _ _ (by unfold mtb; omega), sav_w b.2.2, b.1, b.2.1]
    · rw [if_neg b]
      by_cases e : t = 10897 ∧ k = 0 ∧ j < 5
      · rw [if_pos e]
        rw [uI_t (by omega), uI_t (by omega), h _ _ _ (by unfold mtb; omega), sav_t e.2.2, e.1, e.2.1]
      · rw [if_neg e]
        unfold uI
        by_cases f : t = 14944 ∧ k = 0 ∧ j = 3
        · rw [if_pos f, h _ _ _ (by unfold mtb; omega), sav_d, f.1, f.2.1, f.2.2]
        · rw [if_neg f]
          by_cases g : t = 14944 ∧ k = 0 ∧ j = 1
          · rw [if_pos g, h _ _ _ (by unfold mtb; omega), sav_g, g.1, g.2.1, g.2.2]
          · have hm : ¬ mtb t k j := by
              intro z
              rcases z with z | ⟨z0, z | z | z⟩
              · exact hs (Or.inr (Or.inl z))
              · exact e ⟨z.1, z0, z.2⟩
              · rcases z.1 with y | y
                · exact b ⟨y, z0, z.2⟩
                · exact a ⟨y, z0, z.2⟩
              · rcases z.2 with y | y
                · exact g ⟨z.1, z0, y⟩
                · exact f ⟨z.1, z0, y⟩
            rw [if_neg g, h _ _ _ hm]
            exact sav_o t k j hs
theorem gd_mut {I : FI} {w : Nat → Nat} {n dy nT : Nat} {b : Nat → Int32} (hn : nT ≤ 6) : ∀ t k j, ¬ mtb t k j → gd I w n dy nT b t k j = I t k j := by
  intro t k j h
  unfold mtb at h
  unfold gd uI
  rw [if_neg (by omega)]
  unfold mgo
  rw [if_neg (by omega), if_neg (by omega)]
theorem l177 {d : Nat} {I : FI} {L : FL} {w : Nat → Nat} {nT : Nat} (h2 : nT ≤ 6) (h5 : I 14944 0 2 = c nT) : ∀ r i, i + r = nT → rn none (dn (d + 1)) 177 4 [some (vR 14944 0), some (vI (cnt (fun t => !outD (mv I) 0 t) i)), some (vI (c i))] [] (hp I L w) = some (some (vI (cnt (fun t => !outD (mv I) 0 t) nT)), hp I L w) := by
  intro r
  induction r with
  | zero =>
    intro i hr
    obtain rfl : i = nT := by omega
    rw [b177_4, h5, if_neg (by rw [c_lt (by omega) (by omega)]; omega)]
  | succ r ih =>
    intro i hr
    have hg := ih (i + 1) (by omega)
    rw [b177_4, h5, if_pos (by rw [c_lt (by omega) (by omega)]; omega), s121 (by omega), bn_s]
    show rn none _ 177 18 _ [vI _, vI _] _ = _
    rw [b177_18, ib, c_s]
    have e : cnt (fun t => !outD (mv I) 0 t) (i + 1) = cnt (fun t => !outD (mv I) 0 t) i + (if (!outD (mv I) 0 i) = true then 1 else 0) := rfl
    rw [e] at hg
    unfold outD at hg ⊢
    by_cases a : I 12993 0 i = -5
    · rw [if_neg (by simp [a, mv_pk])] at hg
      rw [if_pos a, hg]
    · rw [if_pos (by simp [a, mv_pk])] at hg
      rw [if_neg a, hg]
theorem s177 {d : Nat} {I : FI} {L : FL} {w : Nat → Nat} {nT : Nat} (h2 : nT ≤ 6) (h5 : I 14944 0 2 = c nT) : dn (d + 2) 177 [vR 14944 0] (hp I L w) = some (some (vI (cnt (fun t => !outD (mv I) 0 t) nT)), hp I L w) := by
  rw [e177, b177_0]
  exact l177 h2 h5 nT 0 (by omega)
theorem l178 {d : Nat} {I : FI} {L : FL} {w : Nat → Nat} {nT dy : Nat} (h2 : nT ≤ 6) (h5 : I 14944 0 2 = c nT) : ∀ r i, i + r = nT → rn none (dn (d + 1)) 178 4 [some (vR 14944 0), some (vI (allA (lwz (mv I) w 0 0 dy) i)), some (vI (c i))] [] (hp I L w) = some (some (vI (allA (lwz (mv I) w 0 0 dy) nT)), hp I L w) := by
  intro r
  induction r with
  | zero =>
    intro i hr
    obtain rfl : i = nT := by omega
    rw [b178_4, h5, if_neg (by rw [c_lt (by omega) (by omega)]; omega)]
  | succ r ih =>
    intro i hr
    have hg := ih (i + 1) (by omega)
    rw [b178_4, h5, if_pos (by rw [c_lt (by omega) (by omega)]; omega), s121 (by omega), bn_s]
    show rn none _ 178 18 _ [vI _, vI _] _ = _
    rw [b178_18, ib, c_s, ck_t (vin_c (by omega) (by omega)), ix_c (by omega)]
    have e : allA (lwz (mv I) w 0 0 dy) (i + 1) = allA (lwz (mv I) w 0 0 dy) i + lwz (mv I) w 0 0 dy i := rfl
    rw [e] at hg
    unfold lwz at hg ⊢
    rw [mv_pk] at hg
    by_cases a : I 12993 0 i = -5
    · rw [if_pos a] at hg
      rw [if_pos a, hg]
    · rw [if_neg a] at hg
      have e2 : lowB (mv I) w 0 i 0 dy = I 13009 0 i := by
        unfold lowB
        rw [mv_pk, if_neg a]
        rfl
      rw [e2] at hg
      rw [if_neg a, hg]
theorem s178 {d : Nat} {I : FI} {L : FL} {w : Nat → Nat} {nT dy : Nat} (h2 : nT ≤ 6) (h5 : I 14944 0 2 = c nT) : dn (d + 2) 178 [vR 14944 0] (hp I L w) = some (some (vI (allA (lwz (mv I) w 0 0 dy) nT)), hp I L w) := by
  rw [e178, b178_0]
  exact l178 h2 h5 nT 0 (by omega)
/-- save, n days, what is asked, and back -/
theorem sav_MV {I : FI} {w : Nat → Nat} {nW nT dy : Nat} (h : MV I w nW nT dy) : MV (sav I) w nW nT dy := sc_MV sav_o h
theorem sav_gd {I : FI} {w : Nat → Nat} {n dy nT : Nat} {b : Nat → Int32} (hn : nT ≤ 6) : scM I (pbk (gd (sav I) w n dy nT b)) := pbk_ok (gd_mut hn)
theorem ws_sc {I I' : FI} {w : Nat → Nat} (h : scM I I') : wsm (mv I) w 0 (mv I') w 0 := by
  refine ⟨fun j _ => ?_, fun j _ => ?_, fun j _ => ?_, fun j _ => ?_, fun j _ => ?_, fun j _ => ?_, fun j _ => ?_, fun j _ => ?_, rfl, fun j => ?_, ?_, ?_, ?_, ?_⟩
  · rw [mv_kind, mv_kind]; exact h _ _ _ (by unfold scb; omega)
  · rw [mv_v, mv_v]; exact h _ _ _ (by unfold scb; omega)
  · rw [mv_th, mv_th]; exact h _ _ _ (by unfold scb; omega)
  · rw [mv_gone, mv_gone, h _ _ _ (by unfold scb; omega)]
  · rw [mv_rows, mv_rows]; exact h _ _ _ (by unfold scb; omega)
  · rw [mv_wt, mv_wt]; exact h _ _ _ (by unfold scb; omega)
  · rw [mv_pk, mv_pk]; exact h _ _ _ (by unfold scb; omega)
  · rw [mv_low, mv_low]; exact h _ _ _ (by unfold scb; omega)
  · rw [mv_T, mv_T]; exact h _ _ _ (by unfold scb; omega)
  · rw [mv_c (by omega), mv_c (by omega)]; exact sc_t h (fun j => by unfold scb; omega)
  · rw [mv_c (by omega), mv_c (by omega)]; exact sc_t h (fun j => by unfold scb; omega)
  · rw [mv_c (by omega), mv_c (by omega)]; exact sc_t h (fun j => by unfold scb; omega)
  · rw [mv_c (by omega), mv_c (by omega)]; exact sc_t h (fun j => by unfold scb; omega)
