set_option maxHeartbeats 400000
section P68
variable {I : FI} {L : FL} {w : Nat → Nat} {nW nT dy : Nat} {x y z : Int32}
/-- what divides both -/
def dvF : Nat → Int32 → Int32 → Int32
  | 0, a, _ => a
  | n + 1, a, b => if b = 0 then a else dvF n b (a % b)
theorem l81 {o3 : Option Vl} : ∀ r i a b o3, i + r = 100 → rn none (dn 57) 81 2 [some (vI a), some (vI b), some (vI (c i)), o3] [] (hp I L w) = some (some (vI (dvF r a b)), hp I L w) := by
  intro r
  induction r with
  | zero =>
    intro i a b o3 hi
    obtain rfl : i = 100 := by omega
    rw [b81_2, if_neg (by decide)]
    rfl
  | succ r ih =>
    intro i a b o3 hi
    rw [b81_2, if_pos (show c i < 100 from tq_gt (b := 100) (by omega) (by omega))]
    show _ = some (some (vI (if b = 0 then a else dvF r b (a % b))), hp I L w)
    by_cases q : b = 0
    · rw [if_pos q, if_pos q]
    · rw [if_neg q, if_neg q, ck_t (by simp [q]), c_s]
      exact ih (i + 1) _ _ _ (by omega)
theorem i_nz {b : Int32} (h : b ≠ 0) : b.toInt ≠ 0 := fun z => h (Int32.toInt_inj.mp (by rw [z]; rfl))
theorem i_dec {a b : Int32} {n : Nat} (h : b ≠ 0) (hn : b.toInt.natAbs ≤ n + 1) : (a % b).toInt.natAbs ≤ n := by
  rw [Int32.toInt_mod, Int.natAbs_tmod]
  have := i_nz h
  have h0 : 0 < b.toInt.natAbs := Int.natAbs_pos.mpr this
  have := Nat.mod_lt a.toInt.natAbs h0
  omega
theorem l174 {x' y' : Int32} : ∀ n m a b o, b.toInt.natAbs ≤ n → n ≤ m → rn none (dn 57) 174 5 [some (vR 14944 0), some (vI x'), some (vI y'), some (vI a), some (vI b), o] [] (hp I L w) = some (some (vI (dvF m a b)), hp I L w) := by
  have Z : ∀ m a, dvF m a 0 = a := fun m a => by
    cases m with
    | zero => rfl
    | succ m => rfl
  intro n
  induction n with
  | zero =>
    intro m a b o hb hm
    obtain rfl : b = 0 := Int32.toInt_inj.mp (by rw [show b.toInt = 0 by omega]; rfl)
    rw [b174_5, if_pos rfl, Z]
  | succ n ih =>
    intro m a b o hb hm
    rw [b174_5]
    by_cases q : b = 0
    · subst q; rw [if_pos rfl, Z]
    · rw [if_neg q, ck_t (by simp [q])]
      obtain ⟨m, rfl⟩ : ∃ k, m = k + 1 := ⟨m - 1, by omega⟩
      rw [ih m b (a % b) _ (i_dec q hb) (by omega)]
      show _ = some (some (vI (if b = 0 then a else dvF m b (a % b))), hp I L w)
      rw [if_neg q]
theorem dv_nz : ∀ m a b, b.toInt.natAbs ≤ m → (a ≠ 0 ∨ b ≠ 0) → dvF m a b ≠ 0 := by
  intro m
  induction m with
  | zero =>
    intro a b hb h
    obtain rfl : b = 0 := Int32.toInt_inj.mp (by rw [show b.toInt = 0 by omega]; rfl)
    rcases h with h | h
    · exact h
    · exact absurd rfl h
  | succ m ih =>
    intro a b hb h
    show (if b = 0 then a else dvF m b (a % b)) ≠ 0
    by_cases q : b = 0
    · rw [if_pos q]
      rcases h with h | h
      · exact h
      · exact absurd q h
    · rw [if_neg q]
      exact ih b (a % b) (i_dec q hb) (Or.inl q)
def frF (a b y : Int32) : Int64 := if y = 0 then Int32.toInt64 (a / dvF 100 a b) else Int32.toInt64 (b / dvF 100 a b)
theorem c_abs {k : Nat} (hk : k ≤ 100) : (c k).toInt.natAbs ≤ 100 := by
  rw [show (c k).toInt = (k : Int) from Int32.toInt_ofNat_of_lt (by omega)]
  omega
theorem s80 {a : Int32} {k : Nat} (hk : k ≤ 100) (h0 : k ≠ 0) : dn 59 80 [vI a, vI (c k), vI y] (hp I L w) = some (some (vL (frF a (c k) y)), hp I L w) := by
  have hb : c k ≠ 0 := tq_ne (b := 0) h0 (by omega) (by omega)
  have g0 : dvF 100 a (c k) ≠ 0 := dv_nz 100 a (c k) (c_abs hk) (Or.inr hb)
  rw [e80, b80_0, e81, b81_0, show (0 : Int32) = c 0 from rfl, l81 (o3 := none) 100 0 a (c k) none rfl, bn_s]
  show rn none _ 80 5 _ [vI _] _ = _
  rw [b80_5]
  unfold frF
  generalize dvF 100 a (c k) = g at g0 ⊢
  rw [if_neg g0, ck_t (by simp [g0]), ck_t (by simp [g0])]
  split <;> rfl
theorem s175 {a : Int32} {k : Nat} (hk : k ≤ 100) (h0 : k ≠ 0) : dn 59 175 [vR 14944 0, vI a, vI (c k), vI y] (hp I L w) = some (some (vL (frF a (c k) y)), hp I L w) := by
  have hb : c k ≠ 0 := tq_ne (b := 0) h0 (by omega) (by omega)
  have g0 : dvF 100 a (c k) ≠ 0 := dv_nz 100 a (c k) (c_abs hk) (Or.inr hb)
  rw [e175, b175_0, e174, b174_0, l174 100 100 a (c k) none (c_abs hk) (by omega), bn_s]
  show rn none _ 175 6 _ [vI _] _ = _
  rw [b175_6]
  unfold frF
  generalize dvF 100 a (c k) = g at g0 ⊢
  rw [ck_t (by simp [g0]), ck_t (by simp [g0])]
  split <;> rfl
/-- how many a count is -/
theorem cnt_n {b : Nat → Bool} : ∀ n, ∃ k, k ≤ n ∧ cnt b n = c k := by
  intro n
  induction n with
  | zero => exact ⟨0, by omega, rfl⟩
  | succ n ih =>
    obtain ⟨k, hk, e⟩ := ih
    show ∃ k, k ≤ n + 1 ∧ cnt b n + (if b n = true then 1 else 0) = c k
    rw [e]
    by_cases q : b n = true
    · exact ⟨k + 1, by omega, by rw [if_pos q, c_s]⟩
    · exact ⟨k, by omega, by rw [if_neg q]; simp⟩
theorem lwz_gd {J : FI} {n nT' dy' t : Nat} {b : Nat → Int32} (ht : t < nT') : lwz (mv (gd J w n dy' nT' b)) w 0 0 (dy' + n) t = lwz (mv J) w 0 n dy' t := by
  unfold lwz
  rw [mv_pk, mv_pk, gd_p (by omega) (by omega) (by omega)]
  by_cases ho : J 12993 0 t = -5
  · rw [if_pos ho, if_pos ho]
  · rw [if_neg ho, if_neg ho, lowB_gd ht ho]
    rfl
theorem pk_v (h : MV I w nW nT dy) {t : Nat} (ht : t < nT) : mv I 12625 0 t = -5 ∨ ∃ p, p < 5 ∧ mv I 12625 0 t = c p := by
  rcases h.2.2.2.2.2.2.1 t ht with ho | ⟨p, hp5, hpk⟩
  · exact Or.inl ho
  · exact Or.inr ⟨p, by have := h.1; omega, hpk⟩
theorem pk_w (h : WV I w 0 nW nT dy) {t : Nat} (ht : t < nT) : I 12625 0 t = -5 ∨ ∃ p, p < 5 ∧ I 12625 0 t = c p := by
  rcases h.2.2.2.2.2.2.1 t ht with ho | ⟨p, hp5, hpk⟩
  · exact Or.inl ho
  · exact Or.inr ⟨p, by have := h.1; omega, hpk⟩
theorem ask79 (h : RA I w nW nT dy) : Ask I L w 79 179 [vI x, vI y] := by
  obtain ⟨hW, hM, hws, hd, hB, hTA⟩ := id h
  obtain ⟨h1, h2, h3, h4, h5, h6, h7, n, hn, h8⟩ := id hW
  obtain ⟨m1, m2, m3, m4, m5, m6, m7, mT, mF⟩ := id hM
  obtain ⟨k, hk, ek⟩ := cnt_n (b := fun t => !outD I 0 t) nT
  have ek' : ∀ J, scM I J → cnt (fun t => !outD (mv J) 0 t) nT = c k := fun J hJ => by
    rw [← ek]
    exact cnt_congr nT fun t ht => by rw [ws_out (sc_ws hws scM.rf hJ) (by omega)]
  have e49 : dn 59 49 [vR 10464 0] (hp I L w) = some (some (vI (c k)), hp I L w) := by rw [s49 h2 h5, ek]
  have e177 : dn 59 177 [vR 14944 0] (hp I L w) = some (some (vI (c k)), hp I L w) := by rw [s177 m2 m5, ek' I scM.rf]
  by_cases a : 0 ≤ x ∧ x ≤ 60
  · by_cases b : 0 ≤ y ∧ y ≤ 1
    · by_cases k0 : k = 0
      · subst k0
        refine ask_of (I1 := I) (I2 := I) (v := vL (-9223372036854775808)) (v' := vL (-9223372036854775808)) scM.rf ?_ scM.rf ?_ rfl
        · rw [e79]; simp only [b79_0, e49, bn_s, psh, b79_7, s103, b79_14, ib, if_pos a, b79_22, if_pos b]
          rw [if_pos (by decide)]
        · rw [e179]; simp only [b179_0, s114, bn_s, psh, b179_5, ib, if_pos a, s106, b179_15, if_pos b, e177, b179_22]
          rw [if_pos (by decide)]
      · obtain ⟨m, hm, rfl⟩ := of_c (x := x) (n := 61) a.1 (by omega) (by have := a.2; show x < 61; grind)
        obtain ⟨g, hg⟩ := s50 (d := 53) (L := L) (n := m) hW (by omega)
        have hJ : RA (fct I 0 g) w nW nT dy := sc_RA sc_fct h
        have hw := sc_ws hws scM.rf (sc_fct (I := I) (k := 0) (g := g))
        obtain ⟨bb, hb⟩ := s158 (d := 52) (L := L) (n := m) (sav_MV hJ.2.1) (by omega)
        have hs : scM (fct I 0 g) (pbk (gd (sav (fct I 0 g)) w m dy nT bb)) := sav_gd h2
        have hc : ¬ c k = 0 := tq_ne (b := 0) k0 (by omega) (by omega)
        refine ask_of sc_fct (v := vL (frF (allA (lwz I w 0 m dy) nT) (c k) y)) (v' := vL (frF (allA (lwz (mv (fct I 0 g)) w 0 m dy) nT) (c k) y)) ?_ hs ?_ ?_
        · rw [e79]; simp only [b79_0, e49, bn_s, psh, b79_7, s103, b79_14, ib, if_pos a, b79_22, if_pos b]
          rw [if_neg hc, show dn 59 50 = dn (53 + 6) 50 from rfl, hg, bn_s]
          show rn none _ 79 41 _ [vI _] _ = _
          rw [b79_41, s80 (by omega) k0, bn_s]
          show rn none _ 79 46 _ [vL _] _ = _
          rw [b79_46]
        · have q1 : dn 59 177 [vR 14944 0] (hp (fct I 0 g) L w) = some (some (vI (c k)), hp (fct I 0 g) L w) := by rw [s177 m2 hJ.2.1.2.2.2.2.1, ek' _ sc_fct]
          have q2 : dn 59 177 [vR 14944 0] (hp (pbk (gd (sav (fct I 0 g)) w m dy nT bb)) L w) = some (some (vI (c k)), hp (pbk (gd (sav (fct I 0 g)) w m dy nT bb)) L w) := by rw [s177 m2 (sc_RA hs hJ).2.1.2.2.2.2.1, ek' _ (sc_fct.tr hs)]
          have q3 : dn 59 178 [vR 14944 0] (hp (gd (sav (fct I 0 g)) w m dy nT bb) L w) = some (some (vI (allA (lwz (mv (fct I 0 g)) w 0 m dy) nT)), hp (gd (sav (fct I 0 g)) w m dy nT bb) L w) := by
            rw [s178 (dy := dy + m) m2 (MV_gd (sav_MV hJ.2.1) (by omega)).2.2.2.2.1]
            rw [allA_congr nT fun t ht => (lwz_gd ht).trans (ws_lwz (ws_sc sav_o) (by omega) (pk_v hJ.2.1 ht))]
          rw [e179]; simp only [b179_0, s114, bn_s, psh, b179_5, ib, if_pos a, s106, b179_15, if_pos b, q1, b179_22]
          rw [if_neg hc, s160, bn_s]
          show rn none _ 179 33 _ [] _ = _
          rw [b179_33, show dn 59 158 = dn (52 + 7) 158 from rfl, hb, bn_s]
          show rn none _ 179 38 _ [] _ = _
          rw [b179_38, q3, bn_s]
          show rn none _ 179 42 _ [vI _] _ = _
          rw [b179_42, s161, bn_s]
          show rn none _ 179 47 _ [] _ = _
          rw [b179_47, q2, bn_s]
          show rn none _ 179 53 _ [vI _, vI _, vR _ _] _ = _
          rw [b179_53, s175 (by omega) k0, bn_s]
          show rn none _ 179 57 _ [vL _] _ = _
          rw [b179_57]
        · rw [allA_congr nT fun t ht => ws_lwz hw (by omega) (pk_w hW ht)]
    · refine ask_of (I1 := I) (I2 := I) (v := vL (-9223372036854775808)) (v' := vL (-9223372036854775808)) scM.rf ?_ scM.rf ?_ rfl
      · rw [e79]; simp only [b79_0, e49, bn_s, psh, b79_7, s103, b79_14, ib, if_pos a, b79_22, if_neg b]
      · rw [e179]; simp only [b179_0, s114, bn_s, psh, b179_5, ib, if_pos a, s106, b179_15, if_neg b]
  · refine ask_of (I1 := I) (I2 := I) (v := vL (-9223372036854775808)) (v' := vL (-9223372036854775808)) scM.rf ?_ scM.rf ?_ rfl
    · rw [e79]; simp only [b79_0, e49, bn_s, psh, b79_7, s103, b79_14, ib, if_neg a]
    · rw [e179]; simp only [b179_0, s114, bn_s, psh, b179_5, ib, if_neg a]
end P68
