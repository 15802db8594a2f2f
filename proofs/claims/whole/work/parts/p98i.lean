set_option maxHeartbeats 400000
/-! how the reference reads a town, as the class does -/
def TC (I : FI) (f : Nat) (cs : List Cl) : Prop := encT I (f + 1) cs ∧ (∀ i a, (tlF cs)[i]? = some a → I 1229633 0 (100 * f + i) = sg a) ∧ encK I f cs ∧ I 13041 0 f = c cs.length ∧ cs.length ≤ 10 ∧ (flat cs).length ≤ 100 ∧ (tlF cs).length ≤ 100 ∧ ∀ a ∈ cs, CO a
def TB (I : FI) (T : Nat) : Prop := (T = 0 ∧ I 14944 0 12 = -1 ∧ I 6288 0 0 = 10 ∧ I 6288 0 1 = 0 ∧ I 6288 0 2 = 5 ∧ I 6288 0 3 = 0) ∨ ∃ f cs, T = f + 1 ∧ f < 6 ∧ I 14944 0 12 = c f ∧ TC I f cs
section P98i
theorem get_lt2 {st : List Tk} {i : Nat} {y : Tk} (h : st[i]? = some y) : i < st.length := by
  apply Classical.byContradiction
  intro z
  rw [List.getElem?_eq_none (by omega)] at h
  cases h
variable {L : FL} {w : Nat → Nat} {f : Nat}
theorem ev145 {d ci p t ke : Nat} {I : FI} (hci : ci < 60) (hp5 : p < 5) (ht : t < 6) (hke : ke ≤ 600) (he : I 123697 0 ci = c ke) : ∀ (e : List Tk) k st st' b o6 o7 o8, (∀ j a, e[j]? = some a → I 1229633 0 (k + j) = sg a) → k + e.length ≤ ke → evS (vF (F145 I p t)) 100 e st = some st' → st.length ≤ 100 → plR b st → ∃ b' o6' o7' o8', plR b' st' ∧ r11 d L w ci p t st.length k o6 o7 o8 I b = r11 d L w ci p t st'.length (k + e.length) o6' o7' o8' I b' := by
  intro e
  induction e with
  | nil =>
    intro k st st' b o6 o7 o8 _ _ h _ hb
    have h : some st = some st' := h
    rw [← Option.some.inj h]
    exact ⟨b, o6, o7, o8, hb, rfl⟩
  | cons a r ih =>
    intro k st st' b o6 o7 o8 hs hk h hl hb
    rw [List.length_cons] at hk
    have h' : (match stS (vF (F145 I p t)) 100 a st with | some st' => evS (vF (F145 I p t)) 100 r st' | none => none) = some st' := h
    cases q : stS (vF (F145 I p t)) 100 a st with
    | none => rw [q] at h'; cases h'
    | some s2 =>
      rw [q] at h'
      have h' : evS (vF (F145 I p t)) 100 r s2 = some st' := h'
      obtain ⟨b1, o6', o7', o8', k1, k2, k3⟩ := tk145 (d := d) (L := L) (w := w) (o6 := o6) (o7 := o7) (o8 := o8) hci hp5 ht (show k < ke by omega) hke he (hs 0 a rfl) q hl hb
      obtain ⟨b2, p6, p7, p8, m1, m2⟩ := ih (k + 1) s2 st' b1 o6' o7' o8' (fun j a hj => by rw [Nat.add_assoc, Nat.add_comm 1 j]; exact hs (j + 1) a hj) (by omega) h' k2 k1
      refine ⟨b2, p6, p7, p8, m1, k3.trans ?_⟩
      rw [List.length_cons, show k + (r.length + 1) = k + 1 + r.length by omega]
      exact m2
theorem s145 {d p t i : Nat} {I : FI} {cs : List Cl} {a : Cl} {b : Nat → Int32} (hf6 : f < 6) (h : TC I f cs) (hi : cs[i]? = some a) (h2 : a.1 < 2) (hp5 : p < 5) (ht : t < 6) : ∃ b', dn (d + 2) 145 [vR 14944 0, vI (c (10 * f + i)), vI (c p), vI (c t)] (hp (pl I b) L w) = some (some (vI (if cvl (vF (F145 I p t)) a = true then 1 else 0)), hp (pl I b') L w) := by
  obtain ⟨-, g2, g3, g4, g5, -, g7, g8⟩ := h
  have hil : i < cs.length := by
    apply Classical.byContradiction
    intro z
    rw [List.getElem?_eq_none (by omega)] at hi
    cases hi
  obtain ⟨q1, q2, q3⟩ := g3 i a hi
  obtain ⟨r1, r2⟩ := q3 h2
  have hsp : ∀ (l : List Cl) i a, l[i]? = some a → ∃ t', tlF l = tlF (l.take i) ++ (a.2.2 ++ t') := by
    intro l
    induction l with
    | nil => intro i a z; simp at z
    | cons y r ih =>
      intro i a z
      cases i with
      | zero =>
        have : y = a := by simpa using z
        rw [this]
        exact ⟨tlF r, rfl⟩
      | succ i =>
        obtain ⟨t', ht'⟩ := ih i a (by simpa using z)
        refine ⟨t', ?_⟩
        show y.2.2 ++ tlF r = (y.2.2 ++ tlF (r.take i)) ++ _
        rw [ht', List.append_assoc]
  obtain ⟨t', ht'⟩ := hsp cs i a hi
  have hlen : (tlF (cs.take i)).length + a.2.2.length ≤ 100 := by
    have := congrArg List.length ht'
    rw [List.length_append, List.length_append] at this
    omega
  obtain ⟨x, hx⟩ := (g8 a (List.mem_of_getElem? hi)).2.2.1 h2 (vF (F145 I p t))
  have ecv : cvl (vF (F145 I p t)) a = x := by unfold cvl; rw [hx 31 [] (by decide)]
  obtain ⟨b', o6, o7, o8, m1, m2⟩ := ev145 (d := d) (L := L) (w := w) (ci := 10 * f + i) (ke := 100 * f + (tlF (cs.take i)).length + a.2.2.length) (by omega) hp5 ht (by omega) r2 a.2.2 (100 * f + (tlF (cs.take i)).length) [] [x] b none none none (fun j z hz => by
    have hj := get_lt2 hz
    rw [Nat.add_assoc]
    refine g2 _ _ ?_
    rw [ht', List.getElem?_append_right (by omega), Nat.add_sub_cancel_left, List.getElem?_append_left hj]
    exact hz) (Nat.le_refl _) (hx 100 [] (by decide)) (Nat.zero_le _) trivial
  refine ⟨b', ?_⟩
  have K : ∀ t' j, t' ≠ 205682 → pl I b t' 0 j = I t' 0 j := fun t' j h => by rw [pl_p h]
  have K' : ∀ t' j, t' ≠ 205682 → pl I b' t' 0 j = I t' 0 j := fun t' j h => by rw [pl_p h]
  rw [e145, b145_0, ck_t (vin_c (by omega) (by omega)), ix_c (by omega), K _ _ (by omega), r1]
  refine Eq.trans m2 ?_
  unfold r11
  rw [b145_11, ck_t (vin_c (by omega) (by omega)), ix_c (by omega), K' _ _ (by omega), r2, if_neg (tq_ng (Nat.le_refl _) (by omega)), ck_t (by decide), show ix 0 = 0 from rfl, pl_at]
  have m3 : b' 0 = (if x = true then 1 else 0) := m1.1
  rw [m3, ck_t rok01, ecv]
theorem s141 {d : Nat} {I : FI} (hf6 : f < 6) (h : I 14944 0 12 = c f) : dn (d + 1) 141 [vR 14944 0] (hp I L w) = some (some (vI (c (10 * f))), hp I L w) := by
  rw [e141, b141_0, h, if_neg (show ¬ c f < 0 from tq_ng (b := 0) (Nat.zero_le _) (by omega)), show (10 : Int32) = c 10 from rfl, ← Int32.ofNat_mul]
theorem s142 {d n : Nat} {I : FI} (hf6 : f < 6) (h : I 14944 0 12 = c f) (h' : I 13041 0 f = c n) : dn (d + 1) 142 [vR 14944 0] (hp I L w) = some (some (vI (c (10 * f + n))), hp I L w) := by
  rw [e142, b142_0, h, if_neg (show ¬ c f < 0 from tq_ng (b := 0) (Nat.zero_le _) (by omega)), ck_t (vin_c hf6 (by omega)), ix_c (by omega), h', show (10 : Int32) = c 10 from rfl, ← Int32.ofNat_mul, cq rfl]
theorem s143 {d k : Nat} {I : FI} {cs : List Cl} (hf6 : f < 6) (h12 : I 14944 0 12 = c f) (h : TC I f cs) (hk : k < 10) (df : Nat) : dn (d + 2) 143 [vR 14944 0, vI (c k), vI (c df)] (hp I L w) = some (some (vI (c (lcw k df cs))), hp I L w) := by
  obtain ⟨-, g2, g3, g4, g5, -, g7, g8⟩ := h
  have A : ∀ r i x, i + r = cs.length → rn none (dn (d + 1)) 143 8 [some (vR 14944 0), some (vI (c k)), some (vI (c df)), some (vI (c x)), some (vI (c (10 * f + i)))] [] (hp I L w) = some (some (vI (c (lcw k x (cs.drop i)))), hp I L w) := by
    intro r
    induction r with
    | zero =>
      intro i x hi
      rw [b143_8, s142 hf6 h12 g4, bn_s]
      show rn none _ 143 14 _ [vI _, vI _] _ = _
      rw [b143_14, if_neg (tq_ng (by omega) (by omega)), List.drop_of_length_le (by omega)]
      rfl
    | succ r ih =>
      intro i x hi
      have hil : i < cs.length := by omega
      have hgi : cs[i]? = some cs[i] := List.getElem?_eq_getElem hil
      obtain ⟨q1, q2, q3⟩ := g3 i _ hgi
      have o := g8 _ (List.mem_of_getElem? hgi)
      rw [b143_8, s142 hf6 h12 g4, bn_s]
      show rn none _ 143 14 _ [vI _, vI _] _ = _
      rw [b143_14, if_pos (tq_gt (by omega) (by omega)), ck_t (vin_c (by omega) (by omega)), ix_c (by omega), q1, q2, c_s, Nat.add_assoc, List.drop_eq_getElem_cons hil]
      show _ = some (some (vI (c (lcw k (if cs[i].1 = k then cs[i].2.1 else x) (cs.drop (i + 1))))), hp I L w)
      by_cases e : cs[i].1 = k
      · rw [if_pos (by rw [e]), if_pos e, ck_t (vin_c (by omega) (by omega))]
        exact ih (i + 1) _ (by omega)
      · rw [if_neg (tq_ne e (by have := o.1; omega) (by omega)), if_neg e]
        exact ih (i + 1) _ (by omega)
  rw [e143, b143_0, s141 hf6 h12, bn_s]
  show rn none _ 143 6 _ [vI _] _ = _
  rw [b143_6]
  exact A cs.length 0 df (by omega)
theorem s146 {d p t : Nat} {I : FI} {cs : List Cl} (hf6 : f < 6) (h12 : I 14944 0 12 = c f) (h : TC I f cs) (hp5 : p < 5) (ht : t < 6) : ∃ b, dn (d + 3) 146 [vR 14944 0, vI (c p), vI (c t)] (hp I L w) = some (some (vI (plC (vF (F145 I p t)) cs (I 12977 0 t))), hp (pl I b) L w) := by
  obtain ⟨-, g2, g3, g4, g5, -, g7, g8⟩ := id h
  have A : ∀ r i x b, i + r = cs.length → ∃ b', rn none (dn (d + 2)) 146 13 [some (vR 14944 0), some (vI (c p)), some (vI (c t)), some (vI x), some (vI (c (10 * f + i)))] [] (hp (pl I b) L w) = some (some (vI (plC (vF (F145 I p t)) (cs.drop i) x)), hp (pl I b') L w) := by
    intro r
    induction r with
    | zero =>
      intro i x b hi
      refine ⟨b, ?_⟩
      rw [b146_13, s142 (n := cs.length) hf6 (by rw [pl_p (by omega)]; exact h12) (by rw [pl_p (by omega)]; exact g4), bn_s]
      show rn none _ 146 19 _ [vI _, vI _] _ = _
      rw [b146_19, if_neg (tq_ng (by omega) (by omega)), List.drop_of_length_le (by omega)]
      rfl
    | succ r ih =>
      intro i x b hi
      have hil : i < cs.length := by omega
      have hgi : cs[i]? = some cs[i] := List.getElem?_eq_getElem hil
      obtain ⟨q1, q2, q3⟩ := g3 i _ hgi
      have o := g8 _ (List.mem_of_getElem? hgi)
      have P : ∀ o, (if 1 < c cs[i].1 then rn none (dn (d + 2)) 146 13 [some (vR 14944 0), some (vI (c p)), some (vI (c t)), some (vI x), some (vI (c (10 * f + (i + 1))))] [] (hp (pl I b) L w) else bn (dn (d + 2) 145 [vR 14944 0, vI (c (10 * f + i)), vI (c p), vI (c t)] (hp (pl I b) L w)) (fun v h' => rn none (dn (d + 2)) 146 41 [some (vR 14944 0), some (vI (c p)), some (vI (c t)), some (vI x), some (vI (c (10 * f + i)))] (psh v []) h')) = o → rn none (dn (d + 2)) 146 13 [some (vR 14944 0), some (vI (c p)), some (vI (c t)), some (vI x), some (vI (c (10 * f + i)))] [] (hp (pl I b) L w) = o := by
        intro o ho
        rw [b146_13, s142 (n := cs.length) hf6 (by rw [pl_p (by omega)]; exact h12) (by rw [pl_p (by omega)]; exact g4), bn_s]
        show rn none _ 146 19 _ [vI _, vI _] _ = _
        rw [b146_19, if_pos (tq_gt (by omega) (by omega)), ck_t (vin_c (by omega) (by omega)), ix_c (by omega), pl_p (by omega), q1, c_s, Nat.add_assoc]
        exact ho
      have eD : plC (vF (F145 I p t)) (cs.drop i) x = plC (vF (F145 I p t)) (cs.drop (i + 1)) (if cs[i].1 < 2 ∧ cvl (vF (F145 I p t)) cs[i] = true then x + (if cs[i].1 = 0 then c cs[i].2.1 else -(c cs[i].2.1)) else x) := by
        rw [List.drop_eq_getElem_cons hil]; rfl
      rw [eD]
      by_cases e : cs[i].1 < 2
      · obtain ⟨b1, hb1⟩ := s145 (d := d) (L := L) (w := w) (b := b) hf6 h hgi e hp5 ht
        have P2 : ∀ o, rn none (dn (d + 2)) 146 41 [some (vR 14944 0), some (vI (c p)), some (vI (c t)), some (vI x), some (vI (c (10 * f + i)))] [vI (if cvl (vF (F145 I p t)) cs[i] = true then 1 else 0)] (hp (pl I b1) L w) = o → rn none (dn (d + 2)) 146 13 [some (vR 14944 0), some (vI (c p)), some (vI (c t)), some (vI x), some (vI (c (10 * f + i)))] [] (hp (pl I b) L w) = o := by
          intro o ho
          refine P o ?_
          rw [if_neg (show ¬ 1 < c cs[i].1 from tq_ng (a := 1) (b := cs[i].1) (by omega) (by omega)), hb1, bn_s]
          exact ho
        by_cases y : cvl (vF (F145 I p t)) cs[i] = true
        · rw [if_pos ⟨e, y⟩]
          obtain ⟨b2, hb2⟩ := ih (i + 1) (x + (if cs[i].1 = 0 then c cs[i].2.1 else -(c cs[i].2.1))) b1 (by omega)
          refine ⟨b2, P2 _ ?_⟩
          rw [b146_41, if10, if_pos y, ck_t (vin_c (by omega) (by omega)), ix_c (by omega), pl_p (by omega), pl_p (by omega), q1, q2, c_s, Nat.add_assoc]
          by_cases z : cs[i].1 = 0
          · rw [if_pos z] at hb2
            rw [if_pos (by rw [z]; rfl), ck_t (vin_c (by omega) (by omega)), if_pos z]
            exact hb2
          · rw [if_neg z] at hb2
            rw [if_neg (show ¬ c cs[i].1 = 0 from tq_ne (b := 0) z (by omega) (by omega)), ck_t (vin_c (by omega) (by omega)), if_neg z]
            exact hb2
        · rw [if_neg (fun z => y z.2)]
          obtain ⟨b2, hb2⟩ := ih (i + 1) x b1 (by omega)
          refine ⟨b2, P2 _ ?_⟩
          rw [b146_41, if10, if_neg y, c_s, Nat.add_assoc]
          exact hb2
      · rw [if_neg (fun z => e z.1)]
        obtain ⟨b2, hb2⟩ := ih (i + 1) x b (by omega)
        refine ⟨b2, P _ ?_⟩
        have h5 := o.1
        rw [if_pos (show 1 < c cs[i].1 from tq_gt (a := 1) (by omega) (by omega))]
        exact hb2
  obtain ⟨b', hb'⟩ := A cs.length 0 (I 12977 0 t) (I 205682 0) (by omega)
  refine ⟨b', ?_⟩
  rw [pl_i] at hb'
  rw [e146, b146_0, ck_t (vin_c ht (by omega)), ix_c (by omega), show dn (d + 2) 141 = dn (d + 1 + 1) 141 from rfl, s141 hf6 h12, bn_s]
  show rn none _ 146 11 _ [vI _] _ = _
  rw [b146_11]
  exact hb'
theorem TC_tsm {I I' : FI} {cs : List Cl} (h : TC I f cs) (h' : tsm I I') : TC I' f cs := by
  obtain ⟨⟨⟨g0, g1⟩, g1b, g1c, g1d⟩, g2, g3, g4, g5, g6, g7, g8⟩ := h
  obtain ⟨-, k⟩ := h'
  refine ⟨⟨⟨?_, fun i a ha => ?_⟩, ?_, ?_, ?_⟩, fun i a ha => ?_, fun i a ha => ?_, ?_, g5, g6, g7, g8⟩
  · rw [k 6288 (by omega)]; exact g0
  · rw [k 204961 (by omega), k 204977 (by omega), k 204993 (by omega), k 205009 (by omega)]; exact g1 i a ha
  · rw [k 6288 (by omega)]; exact g1b
  · rw [k 6288 (by omega)]; exact g1c
  · rw [k 6288 (by omega)]; exact g1d
  · rw [k 1229633 (by omega)]; exact g2 i a ha
  · rw [k 123649 (by omega), k 123665 (by omega), k 123681 (by omega), k 123697 (by omega)]; exact g3 i a ha
  · rw [k 13041 (by omega)]; exact g4
theorem TB_tsm {I I' : FI} {T : Nat} (h : TB I T) (h' : tsm I I') : TB I' T := by
  rcases h with ⟨h1, h2, h3, h4, h5, h6⟩ | ⟨f, cs, h1, h2, h3, h4⟩
  · exact Or.inl ⟨h1, by rw [h'.1]; exact h2, by rw [h'.2 6288 (by omega)]; exact h3, by rw [h'.2 6288 (by omega)]; exact h4, by rw [h'.2 6288 (by omega)]; exact h5, by rw [h'.2 6288 (by omega)]; exact h6⟩
  · exact Or.inr ⟨f, cs, h1, h2, by rw [h'.1]; exact h3, TC_tsm h4 h'⟩
theorem TI_TB {I : FI} (h : TB I (w 0)) : TI I w := by
  intro I' hI
  have hB := TB_tsm h hI
  rcases hB with ⟨h1, h2, h3, h4, h5, h6⟩ | ⟨f, cs, h1, h2, h3, h4⟩
  · have s1 : ∀ d L, dn (d + 1) 141 [vR 14944 0] (hp I' L w) = some (some (vI 0), hp I' L w) := fun d L => by rw [e141, b141_0, h2, if_pos (by decide)]
    have s2 : ∀ d L, dn (d + 1) 142 [vR 14944 0] (hp I' L w) = some (some (vI 0), hp I' L w) := fun d L => by rw [e142, b142_0, h2, if_pos (by decide)]
    have s3 : ∀ d L x y, dn (d + 2) 143 [vR 14944 0, vI x, vI y] (hp I' L w) = some (some (vI y), hp I' L w) := by
      intro d L x y
      rw [e143, b143_0, s1, bn_s]
      show rn none _ 143 6 _ [vI _] _ = _
      rw [b143_6, b143_8, s2, bn_s]
      show rn none _ 143 14 _ [vI _, vI _] _ = _
      rw [b143_14, if_neg (by decide)]
    rw [h1]
    refine ⟨fun d L => by rw [s3, h3], fun d L => by rw [s3, h4], fun d L => by rw [s3, h5], fun d L p t hp5 ht => ⟨I' 205682 0, ?_⟩, 0, by omega, h6⟩
    unfold pullD
    rw [pl_i, h6, e146, b146_0, ck_t (vin_c ht (by omega)), ix_c (by omega), show dn (d + 3) 141 = dn (d + 2 + 1) 141 from rfl, s1, bn_s]
    show rn none _ 146 11 _ [vI _] _ = _
    rw [b146_11, b146_13, show dn (d + 3) 142 = dn (d + 2 + 1) 142 from rfl, s2, bn_s]
    show rn none _ 146 19 _ [vI _, vI _] _ = _
    rw [b146_19, if_neg (by decide)]
    rfl
  · obtain ⟨⟨g0, g1b, g1c, g1d⟩, g2, g3, g4, g5, g6, g7, g8⟩ := id h4
    rw [h1]
    refine ⟨fun d L => ?_, fun d L => ?_, fun d L => ?_, fun d L p t hp5 ht => ?_, _, g6, g0.1⟩
    · rw [g1b]; exact s143 (k := 2) h2 h3 h4 (by omega) 10
    · rw [g1c]; exact s143 (k := 3) h2 h3 h4 (by omega) 0
    · rw [g1d]; exact s143 (k := 4) h2 h3 h4 (by omega) 5
    · obtain ⟨b, hb⟩ := s146 (d := d + 1) (L := L) (w := w) h2 h3 h4 hp5 ht
      refine ⟨b, ?_⟩
      rw [pull_C h4.1 g6 g8]
      exact hb
end P98i
