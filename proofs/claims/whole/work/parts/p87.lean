set_option maxHeartbeats 400000
section P87
variable {I J : FI} {L : FL} {w : Nat → Nat} {nW nT dy m : Nat} {x y z : Int32} {P : Nat → Bool} {W : Nat → Nat → Bool}
/-- the reference's turns and best turns, overwritten -/
def tbR (I : FI) (g f : Nat → Int32) : FI := fun t k j => if t = 13249 ∧ k = 0 then g j else if t = 13265 ∧ k = 0 then f j else I t k j
theorem tbR_p {g f : Nat → Int32} {t k : Nat} (h : t ≠ 13249) (h' : t ≠ 13265) : tbR I g f t k = I t k := by
  funext j; unfold tbR; rw [if_neg (fun z => h z.1), if_neg (fun z => h' z.1)]
theorem tbR_g {g f : Nat → Int32} {j : Nat} : tbR I g f 13249 0 j = g j := if_pos ⟨rfl, rfl⟩
theorem tbR_f {g f : Nat → Int32} {j : Nat} : tbR I g f 13265 0 j = f j := by
  unfold tbR
  rw [if_neg (fun z => absurd z.1 (by decide)), if_pos ⟨rfl, rfl⟩]
theorem tbR_i : tbR I (I 13249 0) (I 13265 0) = I := by
  funext t k j
  unfold tbR
  by_cases h : t = 13249 ∧ k = 0
  · rw [if_pos h, h.1, h.2]
  · rw [if_neg h]
    by_cases h' : t = 13265 ∧ k = 0
    · rw [if_pos h', h'.1, h'.2]
    · rw [if_neg h']
theorem tbR_sc {g f : Nat → Int32} : scM I (tbR I g f) := fun t k j hn => by
  unfold scb at hn
  rw [tbR_p (by omega) (by omega)]
theorem tbR_ug {g f : Nat → Int32} {j : Nat} {v : Int32} : uI (tbR I g f) 13249 0 j v = tbR I (upF g j v) f := by
  funext t k i
  unfold uI tbR upF
  by_cases h : t = 13249 ∧ k = 0
  · obtain ⟨rfl, rfl⟩ := h
    by_cases e : i = j <;> simp [e]
  · rw [if_neg (fun z => h ⟨z.1, z.2.1⟩), if_neg h, if_neg h]
theorem tbR_uf {g f : Nat → Int32} {j : Nat} {v : Int32} : uI (tbR I g f) 13265 0 j v = tbR I g (upF f j v) := by
  funext t k i
  unfold uI tbR upF
  by_cases h : t = 13265 ∧ k = 0
  · obtain ⟨rfl, rfl⟩ := h
    by_cases e : i = j <;> simp [e]
  · rw [if_neg (fun z => h ⟨z.1, z.2.1⟩)]
    by_cases q : t = 13249 ∧ k = 0
    · rw [if_pos q, if_pos q]
    · rw [if_neg q, if_neg q, if_neg h, if_neg h]
theorem l167 {N b : Nat} (hM : MV J w nW nT dy) (hN6 : N ≤ 6) (hb : b < 6 ^ N) {f : Nat → Int32} : ∀ q r g u, q + r = N → u < 64 → (∀ t, t < 6 → (bt u t = true ↔ ∃ i, q ≤ i ∧ i < N ∧ dg N b i = t)) → (∀ i, q ≤ i → i < N → PnT (Pd (mv J)) nT (dg N b i) = true) → (∀ i j, q ≤ i → i < j → j < N → dg N b i ≠ dg N b j) → (∀ i, q ≤ i → i < N → g i = c (dg N b i)) → ∃ g' res, ((res = 1 ∧ Vb (PnT (Pd (mv J)) nT) N b ∧ ∀ i, i < N → g' i = c (dg N b i)) ∨ (res = 0 ∧ ¬ Vb (PnT (Pd (mv J)) nT) N b)) ∧ rn none (dn 58) 167 12 [some (vR 14944 0), some (vI (c b)), some (vI (c (b / 6 ^ r))), some (vI (c u)), some (vI (c q + (-1)))] [] (hp (tbR J g f) L w) = some (some (vI res), hp (tbR J g' f) L w) := by
  have h6 := hM.2.1
  have hb6 : b < 46656 := Nat.lt_of_lt_of_le hb (show 6 ^ N ≤ 6 ^ 6 from Nat.pow_le_pow_right (by omega) hN6)
  intro q
  induction q with
  | zero =>
    intro r g u hqr hu hub hP hD hg
    refine ⟨g, 1, Or.inl ⟨rfl, ⟨fun i hi => hP i (by omega) hi, fun i j hij hj => hD i j (by omega) hij hj⟩, fun i hi => hg i (by omega) hi⟩, ?_⟩
    rw [b167_12, if_pos (by decide)]
  | succ q ih =>
    intro r g u hqr hu hub hP hD hg
    obtain ⟨c1, c2⟩ := c_m1 (n := q) (by omega)
    have hdiv : b / 6 ^ r ≤ b := Nat.div_le_self _ _
    have ed : b / 6 ^ r % 6 = dg N b q := by
      unfold dg
      rw [show N - 1 - q = r by omega]
    have hd6 : dg N b q < 6 := dg_6
    have em : c (b / 6 ^ r) % 6 = c (dg N b q) := by
      rw [← ed, show (6 : Int32) = c 6 from rfl, ← Int32.ofNat_mod (by omega) (by omega)]
    have e7 : c (b / 6 ^ r) / 6 = c (b / 6 ^ (r + 1)) := by
      rw [show (6 : Int32) = c 6 from rfl, ← Int32.ofNat_div (by omega) (by omega), Nat.pow_succ, ← Nat.div_div_eq_div_mul]
    have hMT : ∀ g, MV (tbR J g f) w nW nT dy := fun g => sc_MV tbR_sc hM
    have e111 : ∀ g y, dn 58 111 [vR 14944 0, vI y] (hp (tbR J g f) L w) = some (some (vI (bi (0 ≤ y ∧ y < c nT))), hp (tbR J g f) L w) := fun g y => s111 (by omega) (hMT g).2.2.2.2.1
    have ePd : PnT (Pd (mv J)) nT (dg N b q) = (decide (dg N b q < nT) && !decide (J 12993 0 (dg N b q) = -5)) := rfl
    rw [b167_12, c1, if_neg c2, ck_t (vin_c (by omega) (by omega)), ck_t (vin_c (by omega) (by omega)), ix_c (by omega), em, e7, uI_e, tbR_ug, e111, bn_s]
    show ∃ g' res, _ ∧ rn none _ 167 44 _ [vI _] _ = _
    rw [b167_44, ib, ck_t (vin_c (by omega) (by omega)), ix_c (by omega), tbR_g, show upF g q (c (dg N b q)) q = c (dg N b q) from if_pos rfl]
    by_cases a1 : dg N b q < nT
    · rw [if_pos ⟨c_0 (by omega), tq_gt a1 (by omega)⟩, s121 hd6, bn_s, tbR_p (t := 12993) (by omega) (by omega)]
      show ∃ g' res, _ ∧ rn none _ 167 58 _ [vI _] _ = _
      rw [b167_58, ib]
      by_cases a2 : J 12993 0 (dg N b q) = -5
      · refine ⟨_, 0, Or.inr ⟨rfl, fun z => ?_⟩, by rw [if_pos a2]⟩
        have := z.1 q (by omega)
        rw [ePd, decide_eq_true a2] at this
        simp at this
      · rw [if_neg a2, ck_t (vin_c (by omega) (by omega)), ix_c (by omega), tbR_g, show upF g q (c (dg N b q)) q = c (dg N b q) from if_pos rfl, s107, bn_s]
        show ∃ g' res, _ ∧ rn none _ 167 73 _ [vI _] _ = _
        rw [b167_73, ib]
        by_cases a3 : hs (c u) (dg N b q) = true
        · refine ⟨_, 0, Or.inr ⟨rfl, fun z => ?_⟩, by rw [if_pos a3]⟩
          obtain ⟨i, hi1, hi2, hi3⟩ := (hub _ hd6).mp a3
          exact z.2 q i (by omega) hi2 hi3.symm
        · rw [if_neg a3, ck_t (vin_c (by omega) (by omega)), ix_c (by omega), tbR_g, show upF g q (c (dg N b q)) q = c (dg N b q) from if_pos rfl, mk_or u hu _ hd6]
          refine ih (r + 1) _ (u ||| 2 ^ (dg N b q)) (by omega) (or_lt u hu _ hd6) (fun t ht => ?_) (fun i hi1 hi2 => ?_) (fun i j hi1 hij hj => ?_) (fun i hi1 hi2 => ?_)
          · rw [bt_or u hu _ hd6 t ht, Bool.or_eq_true, hub t ht, decide_eq_true_eq]
            constructor
            · rintro (⟨i, h1, h2, h3⟩ | h)
              · exact ⟨i, by omega, h2, h3⟩
              · exact ⟨q, Nat.le_refl _, by omega, h.symm⟩
            · rintro ⟨i, h1, h2, h3⟩
              by_cases e : i = q
              · subst e; exact Or.inr h3.symm
              · exact Or.inl ⟨i, by omega, h2, h3⟩
          · by_cases e : i = q
            · subst e; rw [ePd, decide_eq_true a1, decide_eq_false a2]; rfl
            · exact hP i (by omega) hi2
          · by_cases e : i = q
            · subst e
              intro h
              exact a3 ((hub _ hd6).mpr ⟨j, by omega, hj, h.symm⟩)
            · exact hD i j (by omega) hij hj
          · unfold upF
            by_cases e : i = q
            · subst e; exact if_pos rfl
            · rw [if_neg e]; exact hg i (by omega) hi2
    · refine ⟨_, 0, Or.inr ⟨rfl, fun z => ?_⟩, by rw [if_neg (fun z => a1 (by have := z.2; rw [c_lt (by omega) (by omega)] at this; exact this))]⟩
      have := z.1 q (by omega)
      rw [ePd, decide_eq_false a1] at this
      simp at this
theorem s167 {N b : Nat} (hM : MV J w nW nT dy) (hN6 : N ≤ 6) (h37 : J 14944 0 37 = c N) (hb : b < 6 ^ N) {g f : Nat → Int32} : ∃ g' res, ((res = 1 ∧ Vb (PnT (Pd (mv J)) nT) N b ∧ ∀ i, i < N → g' i = c (dg N b i)) ∨ (res = 0 ∧ ¬ Vb (PnT (Pd (mv J)) nT) N b)) ∧ dn 59 167 [vR 14944 0, vI (c b)] (hp (tbR J g f) L w) = some (some (vI res), hp (tbR J g' f) L w) := by
  obtain ⟨g', res, h1, h2⟩ := l167 (L := L) (f := f) hM hN6 hb N 0 g 0 rfl (by omega) (fun t ht => ⟨fun z => (by rw [bt_0 t ht] at z; cases z), fun ⟨i, a, b, _⟩ => by omega⟩) (fun i a b => by omega) (fun i j a b c => by omega) (fun i a b => by omega)
  refine ⟨g', res, h1, ?_⟩
  rw [Nat.pow_zero, Nat.div_one] at h2
  rw [e167, b167_0, tbR_p (by omega) (by omega), h37, show c N - 1 = c N + (-1) from Int32.sub_eq_add_neg _ _]
  exact h2
/-- counting -/
theorem l168c {N b : Nat} {x1 x2 x3 : Int32} (hN6 : N ≤ 6) (h37 : J 14944 0 37 = c N) (hth : ∀ k t, k < N → t < nT → J 74674 0 (6 * k + t) = if W k t = true then 1 else 0) (hV : ∀ i, i < N → dg N b i < nT) (h2 : nT ≤ 6) {g f : Nat → Int32} (hg : ∀ i, i < N → g i = c (dg N b i)) : ∀ r i acc, i + r = N → rn none (dn 59) 168 68 [some (vR 14944 0), some (vI x1), some (vI x2), some (vI x3), some (vI (c b)), some (vI (c acc)), some (vI (c i))] [] (hp (tbR J g f) L w) = rn none (dn 59) 168 68 [some (vR 14944 0), some (vI x1), some (vI x2), some (vI x3), some (vI (c b)), some (vI (c (acc + smF (wtF W N b) r i))), some (vI (c N))] [] (hp (tbR J g f) L w) := by
  intro r
  induction r with
  | zero =>
    intro i acc hi
    obtain rfl : i = N := by omega
    rfl
  | succ r ih =>
    intro i acc hi
    have hd := hV i (by omega)
    rw [b168_68, tbR_p (t := 14944) (by omega) (by omega), h37, if_pos (tq_gt (by omega) (by omega)), ck_t (vin_c (by omega) (by omega)), ix_c (by omega), tbR_g, hg i (by omega), show (6 : Int32) = c 6 from rfl, ← Int32.ofNat_mul, cq rfl, ck_t (vin_c (by omega) (by omega)), ix_c (by omega), tbR_p (t := 74674) (by omega) (by omega), hth i _ (by omega) hd, if10, c_s, c_s, Int32.add_zero]
    have e : smF (wtF W N b) (r + 1) i = (W i (dg N b i)).toNat + smF (wtF W N b) r (i + 1) := rfl
    rw [e]
    cases hW : W i (dg N b i) with
    | true =>
      rw [if_pos rfl, ih (i + 1) (acc + 1) (by omega), show acc + (true.toNat + smF (wtF W N b) r (i + 1)) = acc + 1 + smF (wtF W N b) r (i + 1) from by show acc + (1 + _) = _; omega]
    | false =>
      rw [if_neg (by decide), ih (i + 1) acc (by omega), show acc + (false.toNat + smF (wtF W N b) r (i + 1)) = acc + smF (wtF W N b) r (i + 1) from by show acc + (0 + _) = _; omega]
/-- the better turns are kept -/
theorem l168k {x1 x2 x3 x4 x5 : Int32} {g : Nat → Int32} : ∀ r i f, i + r = 6 → (∀ j, j < i → f j = g j) → ∃ f', (∀ j, j < 6 → f' j = g j) ∧ rn none (dn 59) 168 129 [some (vR 14944 0), some (vI x1), some (vI x2), some (vI x3), some (vI x4), some (vI x5), some (vI (c i))] [] (hp (tbR J g f) L w) = rn none (dn 59) 168 44 [some (vR 14944 0), some (vI x1), some (vI x2), some (vI x3), some (vI (x4 + 1)), some (vI x5), some (vI 6)] [] (hp (tbR J g f') L w) := by
  intro r
  induction r with
  | zero =>
    intro i f hi hf
    obtain rfl : i = 6 := by omega
    refine ⟨f, hf, ?_⟩
    rw [b168_129, if_neg (by decide)]
    rfl
  | succ r ih =>
    intro i f hi hf
    obtain ⟨f', a1, a2⟩ := ih (i + 1) (upF f i (g i)) (by omega) (fun j hj => by
      unfold upF
      by_cases e : j = i
      · rw [if_pos e, e]
      · rw [if_neg e]; exact hf j (by omega))
    refine ⟨f', a1, ?_⟩
    rw [b168_129, if_pos (show c i < 6 from tq_gt (b := 6) (by omega) (by omega)), ck_t (vin_c (by omega) (by omega)), ck_t (vin_c (by omega) (by omega)), ix_c (by omega), tbR_g, tbR_uf, c_s]
    exact a2
theorem smF_le {f : Nat → Nat} (h : ∀ i, f i ≤ 1) : ∀ r i, smF f r i ≤ r := by
  intro r
  induction r with
  | zero => intro i; exact Nat.le_refl _
  | succ r ih =>
    intro i
    have := ih (i + 1)
    have := h i
    show f i + smF f r (i + 1) ≤ r + 1
    omega
theorem vl_le {N b : Nat} : vl W N b ≤ N := smF_le (fun i => by unfold wtF; cases W i (dg N b i) <;> decide) N 0
def brI (P : Nat → Bool) (W : Nat → Nat → Bool) (N b : Nat) (x3 : Int32) (f : Nat → Int32) : Prop := (x3 = -1 ∧ ∀ b', b' < b → ¬ Vb P N b') ∨ ∃ b0, b0 < b ∧ Vb P N b0 ∧ x3 = c (vl W N b0) ∧ (∀ i, i < N → f i = c (dg N b0 i)) ∧ (∀ b', b' < b → Vb P N b' → vl W N b' ≤ vl W N b0) ∧ ∀ b', b' < b0 → Vb P N b' → vl W N b' < vl W N b0
theorem l168 {N : Nat} (hM : MV J w nW nT dy) (hN6 : N ≤ 6) (h37 : J 14944 0 37 = c N) (hth : ∀ k t, k < N → t < nT → J 74674 0 (6 * k + t) = if W k t = true then 1 else 0) : ∀ r b x3 g f o5 o6, b + r = 6 ^ N → brI (PnT (Pd (mv J)) nT) W N b x3 f → ∃ x3' g' f' o5' o6', brI (PnT (Pd (mv J)) nT) W N (6 ^ N) x3' f' ∧ rn none (dn 59) 168 44 [some (vR 14944 0), some (vI x), some (vI (c (6 ^ N))), some (vI x3), some (vI (c b)), o5, o6] [] (hp (tbR J g f) L w) = rn none (dn 59) 168 44 [some (vR 14944 0), some (vI x), some (vI (c (6 ^ N))), some (vI x3'), some (vI (c (6 ^ N))), o5', o6'] [] (hp (tbR J g' f') L w) := by
  have h6 := hM.2.1
  have hN : 6 ^ N ≤ 46656 := show 6 ^ N ≤ 6 ^ 6 from Nat.pow_le_pow_right (by omega) hN6
  intro r
  induction r with
  | zero =>
    intro b x3 g f o5 o6 hb hI
    obtain rfl : b = 6 ^ N := by omega
    exact ⟨x3, g, f, o5, o6, hI, rfl⟩
  | succ r ih =>
    intro b x3 g f o5 o6 hb hI
    obtain ⟨g1, res, h1, h2⟩ := s167 (L := L) (g := g) (f := f) hM hN6 h37 (show b < 6 ^ N by omega)
    rcases h1 with ⟨rfl, hV, hg⟩ | ⟨rfl, hV⟩
    · have hVn : ∀ i, i < N → dg N b i < nT := fun i hi => by
        have := hV.1 i hi
        have : (decide (dg N b i < nT) && Pd (mv J) (dg N b i)) = true := this
        simp only [Bool.and_eq_true, decide_eq_true_eq] at this
        exact this.1
      have hC := l168c (L := L) (w := w) (x1 := x) (x2 := c (6 ^ N)) (x3 := x3) (f := f) hN6 h37 hth hVn h6 hg N 0 0 (by omega)
      rw [Nat.zero_add] at hC
      have hC : _ = rn none (dn 59) 168 68 [some (vR 14944 0), some (vI x), some (vI (c (6 ^ N))), some (vI x3), some (vI (c b)), some (vI (c (vl W N b))), some (vI (c N))] [] (hp (tbR J g1 f) L w) := hC
      have hv := vl_le (W := W) (N := N) (b := b)
      by_cases q : x3 < c (vl W N b)
      · obtain ⟨f1, k1, k2⟩ := l168k (J := J) (L := L) (w := w) (x1 := x) (x2 := c (6 ^ N)) (x3 := c (vl W N b)) (x4 := c b) (x5 := c (vl W N b)) (g := g1) 6 0 f rfl (fun j hj => by omega)
        have hI' : brI (PnT (Pd (mv J)) nT) W N (b + 1) (c (vl W N b)) f1 := by
          refine Or.inr ⟨b, by omega, hV, rfl, fun i hi => by rw [k1 i (by omega), hg i hi], fun b' hb' hv' => ?_, fun b' hb' hv' => ?_⟩
          · by_cases e : b' = b
            · rw [e]; exact Nat.le_refl _
            · rcases hI with ⟨-, n1⟩ | ⟨b0, n1, n2, n3, n4, n5, n6⟩
              · exact absurd hv' (n1 b' (by omega))
              · have := n5 b' (by omega) hv'
                have hv0 := vl_le (W := W) (N := N) (b := b0)
                rw [n3, c_lt (by omega) (by omega)] at q
                omega
          · rcases hI with ⟨-, n1⟩ | ⟨b0, n1, n2, n3, n4, n5, n6⟩
            · exact absurd hv' (n1 b' (by omega))
            · have := n5 b' (by omega) hv'
              have hv0 := vl_le (W := W) (N := N) (b := b0)
              rw [n3, c_lt (by omega) (by omega)] at q
              omega
        obtain ⟨x3', g', f', o5', o6', e1, e2⟩ := ih (b + 1) (c (vl W N b)) g1 f1 (some (vI (c (vl W N b)))) (some (vI 6)) (by omega) hI'
        refine ⟨x3', g', f', o5', o6', e1, ?_⟩
        rw [b168_44, if_pos (tq_gt (by omega) (by omega)), h2, bn_s]
        show rn none _ 168 56 _ [vI _] _ = _
        rw [b168_56, if_neg (by decide)]
        refine Eq.trans hC ?_
        rw [b168_68, tbR_p (t := 14944) (by omega) (by omega), h37, if_neg (tq_ng (Nat.le_refl _) (by omega)), if_pos q]
        refine Eq.trans k2 ?_
        rw [c_s]
        exact e2
      · have hI' : brI (PnT (Pd (mv J)) nT) W N (b + 1) x3 f := by
          rcases hI with ⟨n0, n1⟩ | ⟨b0, n1, n2, n3, n4, n5, n6⟩
          · refine absurd ?_ q
            rw [n0]
            have := c_0 (a := vl W N b) (by omega)
            grind
          · refine Or.inr ⟨b0, by omega, n2, n3, n4, fun b' hb' hv' => ?_, n6⟩
            by_cases e : b' = b
            · subst e
              have hv0 := vl_le (W := W) (N := N) (b := b0)
              rw [n3, c_lt (by omega) (by omega)] at q
              omega
            · exact n5 b' (by omega) hv'
        obtain ⟨x3', g', f', o5', o6', e1, e2⟩ := ih (b + 1) x3 g1 f (some (vI (c (vl W N b)))) (some (vI (c N))) (by omega) hI'
        refine ⟨x3', g', f', o5', o6', e1, ?_⟩
        rw [b168_44, if_pos (tq_gt (by omega) (by omega)), h2, bn_s]
        show rn none _ 168 56 _ [vI _] _ = _
        rw [b168_56, if_neg (by decide)]
        refine Eq.trans hC ?_
        rw [b168_68, tbR_p (t := 14944) (by omega) (by omega), h37, if_neg (tq_ng (Nat.le_refl _) (by omega)), if_neg q, c_s]
        exact e2
    · have hI' : brI (PnT (Pd (mv J)) nT) W N (b + 1) x3 f := by
        rcases hI with ⟨n0, n1⟩ | ⟨b0, n1, n2, n3, n4, n5, n6⟩
        · refine Or.inl ⟨n0, fun b' hb' => ?_⟩
          by_cases e : b' = b
          · subst e; exact hV
          · exact n1 b' (by omega)
        · refine Or.inr ⟨b0, by omega, n2, n3, n4, fun b' hb' hv' => ?_, n6⟩
          by_cases e : b' = b
          · subst e; exact absurd hv' hV
          · exact n5 b' (by omega) hv'
      obtain ⟨x3', g', f', o5', o6', e1, e2⟩ := ih (b + 1) x3 g1 f o5 o6 (by omega) hI'
      refine ⟨x3', g', f', o5', o6', e1, ?_⟩
      rw [b168_44, if_pos (tq_gt (by omega) (by omega)), h2, bn_s]
      show rn none _ 168 56 _ [vI _] _ = _
      rw [b168_56, if_pos rfl, c_s]
      exact e2
/-- fetched: the reference's -/
def fdF (P : Nat → Bool) (W : Nat → Nat → Bool) (x : Int32) : Int32 := if x = -1 then c (TS P W 0) else gkF P W (ix x)
theorem s168 (h : MV I w nW nT dy) (hd : dy ≤ 9999) (hx : x = -1 ∨ ∃ k, k < 6 ∧ x = c k) : ∃ J, scM I J ∧ dn 60 168 [vR 14944 0, vI x] (hp I L w) = some (some (vI (fdF (PnT (Pd (mv I)) nT) (Wd (mv I) w nW dy) x)), hp J L w) := by
  have h6 := h.2.1
  obtain ⟨J, hJ, h37, hth, e⟩ := s166 (L := L) h hd
  have hMJ := sc_MV hJ h
  have hN6 : cnN (Pd (mv I)) nT ≤ 6 := by have := cnN_6 (P := Pd (mv I)) nT; omega
  have eP : PnT (Pd (mv J)) nT = PnT (Pd (mv I)) nT := PnT_c fun t ht => by
    unfold Pd
    rw [ws_out (ws_sc (w := w) hJ) (by omega)]
  have eN : cnN (PnT (Pd (mv I)) nT) 6 = cnN (Pd (mv I)) nT := cnN_PnT h6
  generalize hNe : cnN (Pd (mv I)) nT = N at h37 hth hN6 eN
  have A : ∀ r i, i + r = N → rn none (dn 59) 168 20 [some (vR 14944 0), some (vI x), some (vI (c (6 ^ i))), some (vI (c i)), none, none, none] [] (hp J L w) = rn none (dn 59) 168 44 [some (vR 14944 0), some (vI x), some (vI (c (6 ^ N))), some (vI (-1)), some (vI 0), none, none] [] (hp J L w) := by
    intro r
    induction r with
    | zero =>
      intro i hi
      obtain rfl : i = N := by omega
      rw [b168_20, h37, if_neg (tq_ng (Nat.le_refl _) (by omega))]
    | succ r ih =>
      intro i hi
      rw [b168_20, h37, if_pos (tq_gt (by omega) (by omega)), c_s, show (6 : Int32) = c 6 from rfl, ← Int32.ofNat_mul, ← Nat.pow_succ]
      exact ih (i + 1) (by omega)
  obtain ⟨x3, g, f, o5, o6, i1, i2⟩ := l168 (L := L) (x := x) (W := Wd (mv I) w nW dy) hMJ hN6 h37 hth (6 ^ N) 0 (-1) (J 13249 0) (J 13265 0) none none (by omega) (Or.inl ⟨rfl, fun b' hb' => by omega⟩)
  rw [tbR_i, eP] at *
  have hfin : ∃ b0, b0 < 6 ^ N ∧ Vb (PnT (Pd (mv I)) nT) N b0 ∧ x3 = c (vl (Wd (mv I) w nW dy) N b0) ∧ (∀ i, i < N → f i = c (dg N b0 i)) ∧ (∀ b', b' < 6 ^ N → Vb (PnT (Pd (mv I)) nT) N b' → vl (Wd (mv I) w nW dy) N b' ≤ vl (Wd (mv I) w nW dy) N b0) ∧ ∀ b', b' < b0 → Vb (PnT (Pd (mv I)) nT) N b' → vl (Wd (mv I) w nW dy) N b' < vl (Wd (mv I) w nW dy) N b0 := by
    rcases i1 with ⟨-, n1⟩ | n
    · have v := nb_V (PnT (Pd (mv I)) nT) (Wd (mv I) w nW dy)
      have l := nb_lt (PnT (Pd (mv I)) nT) (Wd (mv I) w nW dy) _ (Nat.le_refl _)
      rw [eN] at v l
      exact absurd v (n1 _ l)
    · exact n
  obtain ⟨b0, n1, n2, n3, n4, n5, n6⟩ := hfin
  have best := best_ord (PnT (Pd (mv I)) nT) (Wd (mv I) w nW dy) (b := b0) (M := vl (Wd (mv I) w nW dy) N b0)
  rw [eN] at best
  obtain ⟨m1, m2⟩ := best n1 n2 rfl n5 n6
  have hpow : 6 ^ N ≤ 46656 := show 6 ^ N ≤ 6 ^ 6 from Nat.pow_le_pow_right (by omega) hN6
  refine ⟨tbR J g f, hJ.tr tbR_sc, ?_⟩
  have hx5 : -1 ≤ x ∧ x ≤ 5 := by
    rcases hx with rfl | ⟨k, hk, rfl⟩
    · decide
    · exact ⟨by have := c_0 (a := k) (by omega); grind, tq_le (b := 5) (by omega) (by omega)⟩
  rw [e168, b168_0, s106, bn_s]
  show rn none _ 168 7 _ [vI _] _ = _
  rw [b168_7, ib, if_pos hx5, e, bn_s]
  show rn none _ 168 16 _ [] _ = _
  rw [b168_16]
  refine Eq.trans (A N 0 (by omega)) ?_
  refine Eq.trans i2 ?_
  rw [b168_44, if_neg (tq_ng (Nat.le_refl _) (by omega)), tbR_p (t := 14944) (by omega) (by omega), h37]
  unfold fdF
  rcases hx with rfl | ⟨k, hk, rfl⟩
  · rw [if_pos (by decide), if_pos rfl, n3, m1]
  · rw [if_neg (show ¬ c k < 0 from by rw [c_n0 (by omega)]; exact id), if_neg (show ¬ c k = -1 from fun z => by
      have := c_0 (a := k) (by omega)
      rw [z] at this
      exact absurd this (by decide)), ck_t (vin_c hk (by omega)), ix_c (by omega), tbR_f]
    unfold gkF
    rw [eN]
    by_cases q : k < N
    · rw [if_pos (tq_gt q (by omega)), if_pos q, n4 k q, m2 k q]
    · rw [if_neg (tq_ng (by omega) (by omega)), if_neg q]
theorem ask73 (h : RA I w nW nT dy) : Ask I L w 73 168 [vI x] := by
  obtain ⟨hW, hM, hws, hd, hB, hTA⟩ := id h
  have h2 := hW.2.1
  by_cases a : x = -1 ∨ ∃ k, k < 6 ∧ x = c k
  · obtain ⟨H, hH, hT, e23⟩ := s23 (L := L) hW
    have hJ := sc_RA hH h
    obtain ⟨J, hJs, eJ⟩ := s168 (L := L) (x := x) hJ.2.1 hd a
    have hw := sc_ws hws scM.rf hH
    refine ask_of hH (v := vI (fdF (PnT (Pd I) nT) (Wd I w nW dy) x)) ?_ hJs eJ (congrArg vI ?_)
    · rw [e73, b73_0]
      rcases a with rfl | ⟨k, hk, rfl⟩
      · rw [if_neg (by decide), if_pos (by decide), e23, bn_s]
        show rn none _ 73 24 _ [] _ = _
        rw [b73_24, if_pos rfl, ck_t (by decide), show ix 0 = 0 from by decide, hT.2.2 0 (by omega) (fun t ht hb => by rw [bt_0 t ht] at hb; cases hb), b73_49]
        unfold fdF
        rw [if_pos rfl]
      · have k0 := c_0 (a := k) (by omega)
        have k1 : ¬ c k = -1 := fun z => by rw [z] at k0; exact absurd k0 (by decide)
        rw [if_neg (show ¬ c k < -1 from by grind), if_pos (show c k < 6 from tq_gt (b := 6) hk (by omega)), e23, bn_s]
        show rn none _ 73 24 _ [] _ = _
        rw [b73_24, if_neg k1, s27 h2 hT hk, bn_s]
        show rn none _ 73 49 _ [vI _] _ = _
        rw [b73_49]
        unfold fdF
        rw [if_neg k1, ix_c (by omega)]
    · have eP : PnT (Pd (mv H)) nT = PnT (Pd I) nT := PnT_c fun t ht => by
        unfold Pd
        rw [ws_out hw (by omega)]
      have eW : ∀ t, PnT (Pd I) nT t = true → ∀ k, Wd I w nW dy k t = Wd (mv H) w nW dy k t := fun t ht k => by
        have ht : (decide (t < nT) && Pd I t) = true := ht
        simp only [Bool.and_eq_true, decide_eq_true_eq] at ht
        unfold Wd
        rw [ws_out hw (by omega), ws_low hw (by omega) (pk_w hW ht.1), ws_all hw nW hW.1]
      unfold fdF
      rw [eP, TS_c eW, gkF_c eW]
  · refine ask_of (I1 := I) (I2 := I) (v := vI (-1)) (v' := vI (-1)) scM.rf ?_ scM.rf ?_ rfl
    · rw [e73, b73_0]
      by_cases q : x < -1
      · rw [if_pos q]
      · rw [if_neg q]
        by_cases q2 : x < 6
        · exfalso
          by_cases q3 : x = -1
          · exact a (Or.inl q3)
          · obtain ⟨k, hk, rfl⟩ := of_c (x := x) (n := 6) (by grind) (by omega) q2
            exact a (Or.inr ⟨k, hk, rfl⟩)
        · rw [if_neg q2]
    · rw [e168, b168_0, s106, bn_s]
      show rn none _ 168 7 _ [vI _] _ = _
      rw [b168_7, ib, if_neg (fun z => by
        by_cases q3 : x = -1
        · exact a (Or.inl q3)
        · obtain ⟨k, hk, rfl⟩ := of_c (x := x) (n := 6) (by grind) (by omega) (by have := z.2; show x < 6; grind)
          exact a (Or.inr ⟨k, hk, rfl⟩))]
end P87
