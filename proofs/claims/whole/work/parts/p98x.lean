set_option maxHeartbeats 400000
/-! what a method answers is of its kind -/
def rtp (m : Nat) (v : Option Vl) : Prop := (mR m = some .int → ∃ x, v = some (vI x)) ∧ (mR m = some .long → ∃ x, v = some (vL x))
section P98x
set_option maxHeartbeats 4000000 in
theorem fr_rt {sc : Sc} {E : Ev} {m pc : Nat} {L : List (Option Vl)} {st : List Vl} {h : Hp} {r : Rs} (hh : fr sc E m pc L st h = some (Sum.inr r)) : rtp m r.1 := by
  have h1 : stp sc E m (fun r => some r) (fun _ _ _ _ => none) pc L st h = some r := by rw [stp_nat, hh]; rfl
  have h2 : stp sc E m (fun _ => (none : Option Rs)) (fun _ _ _ _ => none) pc L st h = none := by rw [stp_nat, hh]; rfl
  unfold stp at h1 h2
  cases hk : kode m pc with
  | none => rw [hk] at h1; cases h1
  | some e =>
    obtain ⟨i, ln, cv, cl, a, b, k, sw⟩ := e
    have hc := (Bool.and_eq_true_iff.mp (kode_chk hk).2.2).2
    rw [hk] at h1 h2
    cases i with
    | ireturn =>
      clear h2
      dsimp only at h1
      split at h1
      · cases (ck_some h1).2
        refine ⟨fun _ => ⟨_, rfl⟩, fun z => ?_⟩
        unfold chI at hc
        dsimp only at hc
        rw [z] at hc
        have hc := (Bool.and_eq_true_iff.mp hc).2
        split at hc <;> exact absurd hc (by decide)
      · cases h1
    | lreturn =>
      clear h2
      dsimp only at h1
      split at h1
      · cases h1
        refine ⟨fun z => ?_, fun _ => ⟨_, rfl⟩⟩
        have hc : (Nat.beq ln 1 && mR m == some .long) = true := hc
        rw [z] at hc
        exact absurd (Bool.and_eq_true_iff.mp hc).2 (by decide)
      · cases h1
    | areturn =>
      clear h2
      have hc : (Nat.beq ln 1 && (match mR m with | some t => isRf t | none => false)) = true := hc
      have hc := (Bool.and_eq_true_iff.mp hc).2
      refine ⟨fun z => ?_, fun z => ?_⟩
      · rw [z] at hc; cases hc
      · rw [z] at hc; cases hc
    | return_ =>
      clear h2
      have hc : (Nat.beq ln 1 && (mR m == none)) = true := hc
      have hc := (Bool.and_eq_true_iff.mp hc).2
      refine ⟨fun z => ?_, fun z => ?_⟩
      · rw [z] at hc; exact absurd hc (by decide)
      · rw [z] at hc; exact absurd hc (by decide)
    | ifCond cnd _ => cases cnd <;> cases h1.symm.trans h2
    | if_icmp cnd _ => cases cnd <;> cases h1.symm.trans h2
    | _ => cases h1.symm.trans h2
theorem dn_rt : ∀ (d m : Nat) (a : List Vl) (h : Hp) (v : Option Vl) (h' : Hp), dn d m a h = some (v, h') → rtp m v := by
  intro d m a h v h' hh
  cases d with
  | zero => cases hh
  | succ d =>
    obtain ⟨-, h2⟩ := ck_some hh
    obtain ⟨n, hn⟩ := rn_inv h2
    have key : ∀ (n pc : Nat) (L : List (Option Vl)) (st : List Vl) (h : Hp), run none (dn d) m n pc L st h = some (v, h') → rtp m v := by
      intro n
      induction n with
      | zero => intro pc L st h hh; cases hh
      | succ n ih =>
        intro pc L st h hh
        rw [run_s] at hh
        cases hf : fr none (dn d) m pc L st h with
        | none => rw [hf] at hh; cases hh
        | some y =>
          rw [hf] at hh
          cases y with
          | inl s => exact ih _ _ _ _ hh
          | inr r =>
            have := fr_rt hf
            have hh : some r = some (v, h') := hh
            cases hh
            exact this
    exact key n _ _ _ _ hn
variable {I : FI} {L : FL} {w : Nat → Nat} {m m' pc1 pc2 n i : Nat} {a : List Vl} {xs : Nat → Int32}
theorem Sm_I (h : Sm I L w m m' a) (hm : mR m = some .int) : ∃ x I1 L1 w1 I2 L2, dn 60 m (vR 12288 0 :: a) (hp I L w) = some (some (vI x), hp I1 L1 w1) ∧ dn 60 m' (vR 14944 0 :: a) (hp I1 L1 w1) = some (some (vI x), hp I2 L2 w1) ∧ R I2 L2 w1 := by
  obtain ⟨v, I1, L1, w1, I2, L2, e1, e2, h3⟩ := h
  obtain ⟨x, hx⟩ := (dn_rt _ _ _ _ _ _ e1).1 hm
  cases hx
  exact ⟨x, I1, L1, w1, I2, L2, e1, e2, h3⟩
theorem Sm_L (h : Sm I L w m m' a) (hm : mR m = some .long) : ∃ x I1 L1 w1 I2 L2, dn 60 m (vR 12288 0 :: a) (hp I L w) = some (some (vL x), hp I1 L1 w1) ∧ dn 60 m' (vR 14944 0 :: a) (hp I1 L1 w1) = some (some (vL x), hp I2 L2 w1) ∧ R I2 L2 w1 := by
  obtain ⟨v, I1, L1, w1, I2, L2, e1, e2, h3⟩ := h
  obtain ⟨x, hx⟩ := (dn_rt _ _ _ _ _ _ e1).2 hm
  cases hx
  exact ⟨x, I1, L1, w1, I2, L2, e1, e2, h3⟩
/-! the law's loop -/
noncomputable def LW (n : Nat) (xs : Nat → Int32) (i : Nat) (I : FI) (L : FL) (w : Nat → Nat) : Option Rs := rn (some (n, xs)) (dn 60) 206 18 [some (vR 1960 0), some (vR 12288 0), some (vR 14944 0), some (vI (c i))] [] (hp I L w)
def GdL (x : Option Rs) : Prop := ∃ I L w, x = some (some (vI 1), hp I L w)
theorem gd_ck {b : Bool} {x : Option Rs} (h : b = true) (hg : GdL x) : GdL (ck (b && true && true) x) := by
  rw [h]; exact hg
theorem gd_if {p : Prop} [Decidable p] {x y : Option Rs} (h1 : p → GdL x) (h2 : ¬ p → GdL y) : GdL (if p then x else y) := by
  by_cases h : p
  · rw [if_pos h]; exact h1 h
  · rw [if_neg h]; exact h2 h
theorem st_I (hS : Sm I L w m m' a) (hm : mR m = some .int)
    (b1 : ∀ s0 I L w, rn (some (n, xs)) (dn 60) 206 pc1 [some (vR 1960 0), some (vR 12288 0), some (vR 14944 0), some (vI (c i))] [vI s0] (hp I L w) = bn (dn 60 m' (vR 14944 0 :: a) (hp I L w)) (fun v h' => rn (some (n, xs)) (dn 60) 206 pc2 [some (vR 1960 0), some (vR 12288 0), some (vR 14944 0), some (vI (c i))] (psh v [vI s0]) h'))
    (b2 : ∀ s0 s1 I L w, rn (some (n, xs)) (dn 60) 206 pc2 [some (vR 1960 0), some (vR 12288 0), some (vR 14944 0), some (vI (c i))] [vI s0, vI s1] (hp I L w) = (if s1 = s0 then rn (some (n, xs)) (dn 60) 206 18 [some (vR 1960 0), some (vR 12288 0), some (vR 14944 0), some (vI (c i + 6))] [] (hp I L w) else some (some (vI 0), hp I L w)))
    (h6 : c i + 6 = c (i + 6)) (ih : ∀ I L w, R I L w → GdL (LW n xs (i + 6) I L w)) :
    GdL (bn (dn 60 m (vR 12288 0 :: a) (hp I L w)) (fun v h' => rn (some (n, xs)) (dn 60) 206 pc1 [some (vR 1960 0), some (vR 12288 0), some (vR 14944 0), some (vI (c i))] (psh v []) h')) := by
  obtain ⟨x, I1, L1, w1, I2, L2, e1, e2, hr⟩ := Sm_I hS hm
  rw [e1, bn_s]
  show GdL (rn (some (n, xs)) (dn 60) 206 pc1 _ [vI x] (hp I1 L1 w1))
  rw [b1, e2, bn_s]
  show GdL (rn (some (n, xs)) (dn 60) 206 pc2 _ [vI x, vI x] (hp I2 L2 w1))
  rw [b2, if_pos rfl, h6]
  exact ih _ _ _ hr
theorem st_L (hS : Sm I L w m m' a) (hm : mR m = some .long)
    (b1 : ∀ s0 I L w, rn (some (n, xs)) (dn 60) 206 pc1 [some (vR 1960 0), some (vR 12288 0), some (vR 14944 0), some (vI (c i))] [vL s0] (hp I L w) = bn (dn 60 m' (vR 14944 0 :: a) (hp I L w)) (fun v h' => rn (some (n, xs)) (dn 60) 206 pc2 [some (vR 1960 0), some (vR 12288 0), some (vR 14944 0), some (vI (c i))] (psh v [vL s0]) h'))
    (b2 : ∀ s0 s1 I L w, rn (some (n, xs)) (dn 60) 206 pc2 [some (vR 1960 0), some (vR 12288 0), some (vR 14944 0), some (vI (c i))] [vL s0, vL s1] (hp I L w) = (if (lg_cmp s1 s0) = 0 then rn (some (n, xs)) (dn 60) 206 18 [some (vR 1960 0), some (vR 12288 0), some (vR 14944 0), some (vI (c i + 6))] [] (hp I L w) else some (some (vI 0), hp I L w)))
    (h6 : c i + 6 = c (i + 6)) (ih : ∀ I L w, R I L w → GdL (LW n xs (i + 6) I L w)) :
    GdL (bn (dn 60 m (vR 12288 0 :: a) (hp I L w)) (fun v h' => rn (some (n, xs)) (dn 60) 206 pc1 [some (vR 1960 0), some (vR 12288 0), some (vR 14944 0), some (vI (c i))] (psh v []) h')) := by
  obtain ⟨x, I1, L1, w1, I2, L2, e1, e2, hr⟩ := Sm_L hS hm
  rw [e1, bn_s]
  show GdL (rn (some (n, xs)) (dn 60) 206 pc1 _ [vL x] (hp I1 L1 w1))
  rw [b1, e2, bn_s]
  show GdL (rn (some (n, xs)) (dn 60) 206 pc2 _ [vL x, vL x] (hp I2 L2 w1))
  rw [b2, if_pos (show lg_cmp x x = 0 from by unfold lg_cmp; simp), h6]
  exact ih _ _ _ hr
theorem c_6 : c i + 6 = c (i + 6) := by simp
theorem law_no (hn : n < i + 6) (h1 : n ≤ 3072) (h2 : i ≤ 4000) : (Int32.ofNat n) - 6 < c i := by
  by_cases h : 6 ≤ n
  · obtain ⟨k, rfl⟩ : ∃ k, n = k + 6 := ⟨n - 6, by omega⟩
    rw [show Int32.ofNat (k + 6) = c k + 6 from (c_6).symm, show c k + 6 - 6 = c k from by simp]
    exact (c_lt (a := k) (b := i) (by omega) (by omega)).symm ▸ (show k < i by omega)
  · have h0 := c_0 (a := i) (by omega)
    have hk : ∀ k, k < 6 → Int32.ofNat k - 6 < 0 := by decide
    exact Int32.lt_of_lt_of_le (hk n (by omega)) h0
theorem law_go (hn : i + 6 ≤ n) (h1 : n ≤ 3072) : ¬ (Int32.ofNat n) - 6 < c i := by
  obtain ⟨k, rfl⟩ : ∃ k, n = k + 6 := ⟨n - 6, by omega⟩
  rw [show Int32.ofNat (k + 6) = c k + 6 from (c_6).symm, show c k + 6 - 6 = c k from by simp, c_lt (by omega) (by omega)]
  omega
theorem vin_k {k : Nat} {x : Int32} (hx : c i + x = c (i + k)) (hn : i + k < n) (h1 : n ≤ 3072) : vin (c i + x) n = true := by
  rw [hx]; exact vin_c hn (by omega)

/-- one call of the two -/
theorem law_1 (hn : i + 6 ≤ n) (h1 : n ≤ 3072) (ih : ∀ I L w, R I L w → GdL (LW n xs (i + 6) I L w)) (hR : R I L w) : GdL (LW n xs i I L w) := by
  have v0 : vin (c i) n = true := vin_c (by omega) (by omega)
  have v1 : vin (c i + 1) n = true := vin_k (k := 1) (by simp) (by omega) h1
  have v2 : vin (c i + 2) n = true := vin_k (k := 2) (by simp) (by omega) h1
  have v3 : vin (c i + 3) n = true := vin_k (k := 3) (by simp) (by omega) h1
  have v4 : vin (c i + 4) n = true := vin_k (k := 4) (by simp) (by omega) h1
  have v5 : vin (c i + 5) n = true := vin_k (k := 5) (by simp) (by omega) h1
  have h6 : c i + 6 = c (i + 6) := c_6
  unfold LW
  rw [b206_18, if_neg (law_go hn h1)]
  refine gd_ck v0 ?_
  refine gd_if (fun _ => ?_) (fun _ => ?_)
  · exact gd_ck v1 (gd_ck v2 (gd_ck v3 (st_I (pc1 := 223) (pc2 := 242) (sm55 hR) rfl (fun s0 I L w => by rw [b206_223]; simp only [v1, v2, v3, Bool.and_true, ck_tt]) (fun s0 s1 I L w => by rw [b206_242]) h6 ih)))
  refine gd_if (fun _ => ?_) (fun _ => ?_)
  · exact gd_ck v1 (gd_ck v2 (st_I (pc1 := 261) (pc2 := 275) (sm56 hR) rfl (fun s0 I L w => by rw [b206_261]; simp only [v1, v2, Bool.and_true, ck_tt]) (fun s0 s1 I L w => by rw [b206_275]) h6 ih))
  refine gd_if (fun _ => ?_) (fun _ => ?_)
  · exact gd_ck v1 (gd_ck v2 (st_I (pc1 := 294) (pc2 := 308) (sm57 hR) rfl (fun s0 I L w => by rw [b206_294]; simp only [v1, v2, Bool.and_true, ck_tt]) (fun s0 s1 I L w => by rw [b206_308]) h6 ih))
  refine gd_if (fun _ => ?_) (fun _ => ?_)
  · exact gd_ck v1 (gd_ck v2 (st_I (pc1 := 327) (pc2 := 341) (sm59 hR) rfl (fun s0 I L w => by rw [b206_327]; simp only [v1, v2, Bool.and_true, ck_tt]) (fun s0 s1 I L w => by rw [b206_341]) h6 ih))
  refine gd_if (fun _ => ?_) (fun _ => ?_)
  · exact gd_ck v1 (gd_ck v2 (st_I (pc1 := 360) (pc2 := 374) (sm60 hR) rfl (fun s0 I L w => by rw [b206_360]; simp only [v1, v2, Bool.and_true, ck_tt]) (fun s0 s1 I L w => by rw [b206_374]) h6 ih))
  refine gd_if (fun _ => ?_) (fun _ => ?_)
  · refine gd_ck v1 (gd_ck v2 (?_))
    refine gd_if (fun z => ?_) (fun z => ?_)
    · exact st_I (pc1 := 401) (pc2 := 423) (sm61 (Or.inl rfl) hR) rfl (fun s0 I L w => by rw [b206_401]; simp only [v1, v2, Bool.and_true, ck_tt, if_pos z]) (fun s0 s1 I L w => by rw [b206_423]) h6 ih
    · exact st_I (pc1 := 401) (pc2 := 423) (sm61 (Or.inr rfl) hR) rfl (fun s0 I L w => by rw [b206_401]; simp only [v1, v2, Bool.and_true, ck_tt, if_neg z]) (fun s0 s1 I L w => by rw [b206_423]) h6 ih
  refine gd_if (fun _ => ?_) (fun _ => ?_)
  · exact gd_ck v1 (st_I (pc1 := 437) (pc2 := 446) (sm62 hR) rfl (fun s0 I L w => by rw [b206_437]; simp only [v1, Bool.and_true, ck_tt]) (fun s0 s1 I L w => by rw [b206_446]) h6 ih)
  refine gd_if (fun _ => ?_) (fun _ => ?_)
  · exact gd_ck v1 (gd_ck v2 (st_I (pc1 := 465) (pc2 := 479) (sm63 hR) rfl (fun s0 I L w => by rw [b206_465]; simp only [v1, v2, Bool.and_true, ck_tt]) (fun s0 s1 I L w => by rw [b206_479]) h6 ih))
  refine gd_if (fun _ => ?_) (fun _ => ?_)
  · exact gd_ck v1 (gd_ck v2 (gd_ck v3 (st_I (pc1 := 503) (pc2 := 522) (sm64 hR) rfl (fun s0 I L w => by rw [b206_503]; simp only [v1, v2, v3, Bool.and_true, ck_tt]) (fun s0 s1 I L w => by rw [b206_522]) h6 ih)))
  refine gd_if (fun _ => ?_) (fun _ => ?_)
  · exact gd_ck v1 (st_I (pc1 := 536) (pc2 := 545) (sm65 hR) rfl (fun s0 I L w => by rw [b206_536]; simp only [v1, Bool.and_true, ck_tt]) (fun s0 s1 I L w => by rw [b206_545]) h6 ih)
  refine gd_if (fun _ => ?_) (fun _ => ?_)
  · exact st_I (pc1 := 554) (pc2 := 558) (sm66 hR) rfl (fun s0 I L w => by rw [b206_554]) (fun s0 s1 I L w => by rw [b206_558]) h6 ih
  refine gd_if (fun _ => ?_) (fun _ => ?_)
  · exact gd_ck v1 (st_I (pc1 := 572) (pc2 := 581) (sm67 hR) rfl (fun s0 I L w => by rw [b206_572]; simp only [v1, Bool.and_true, ck_tt]) (fun s0 s1 I L w => by rw [b206_581]) h6 ih)
  refine gd_if (fun _ => ?_) (fun _ => ?_)
  · exact gd_ck v1 (st_I (pc1 := 595) (pc2 := 604) (sm68 hR) rfl (fun s0 I L w => by rw [b206_595]; simp only [v1, Bool.and_true, ck_tt]) (fun s0 s1 I L w => by rw [b206_604]) h6 ih)
  refine gd_if (fun _ => ?_) (fun _ => ?_)
  · exact gd_ck v1 (gd_ck v2 (st_I (pc1 := 623) (pc2 := 637) (sm69 hR) rfl (fun s0 I L w => by rw [b206_623]; simp only [v1, v2, Bool.and_true, ck_tt]) (fun s0 s1 I L w => by rw [b206_637]) h6 ih))
  refine gd_if (fun _ => ?_) (fun _ => ?_)
  · exact gd_ck v1 (gd_ck v2 (st_I (pc1 := 656) (pc2 := 670) (sm70 hR) rfl (fun s0 I L w => by rw [b206_656]; simp only [v1, v2, Bool.and_true, ck_tt]) (fun s0 s1 I L w => by rw [b206_670]) h6 ih))
  refine gd_if (fun _ => ?_) (fun _ => ?_)
  · exact gd_ck v1 (st_I (pc1 := 684) (pc2 := 693) (sm71 hR) rfl (fun s0 I L w => by rw [b206_684]; simp only [v1, Bool.and_true, ck_tt]) (fun s0 s1 I L w => by rw [b206_693]) h6 ih)
  refine gd_if (fun _ => ?_) (fun _ => ?_)
  · exact gd_ck v1 (st_I (pc1 := 707) (pc2 := 716) (sm72 hR) rfl (fun s0 I L w => by rw [b206_707]; simp only [v1, Bool.and_true, ck_tt]) (fun s0 s1 I L w => by rw [b206_716]) h6 ih)
  refine gd_if (fun _ => ?_) (fun _ => ?_)
  · exact gd_ck v1 (st_I (pc1 := 730) (pc2 := 739) (sm73 hR) rfl (fun s0 I L w => by rw [b206_730]; simp only [v1, Bool.and_true, ck_tt]) (fun s0 s1 I L w => by rw [b206_739]) h6 ih)
  refine gd_if (fun _ => ?_) (fun _ => ?_)
  · exact gd_ck v1 (gd_ck v2 (st_I (pc1 := 758) (pc2 := 772) (sm74 hR) rfl (fun s0 I L w => by rw [b206_758]; simp only [v1, v2, Bool.and_true, ck_tt]) (fun s0 s1 I L w => by rw [b206_772]) h6 ih))
  refine gd_if (fun _ => ?_) (fun _ => ?_)
  · exact gd_ck v1 (gd_ck v2 (gd_ck v3 (st_I (pc1 := 796) (pc2 := 815) (sm75 hR) rfl (fun s0 I L w => by rw [b206_796]; simp only [v1, v2, v3, Bool.and_true, ck_tt]) (fun s0 s1 I L w => by rw [b206_815]) h6 ih)))
  refine gd_if (fun _ => ?_) (fun _ => ?_)
  · exact gd_ck v1 (gd_ck v2 (st_I (pc1 := 834) (pc2 := 848) (sm76 hR) rfl (fun s0 I L w => by rw [b206_834]; simp only [v1, v2, Bool.and_true, ck_tt]) (fun s0 s1 I L w => by rw [b206_848]) h6 ih))
  refine gd_if (fun _ => ?_) (fun _ => ?_)
  · exact gd_ck v1 (gd_ck v2 (st_I (pc1 := 867) (pc2 := 881) (sm77 hR) rfl (fun s0 I L w => by rw [b206_867]; simp only [v1, v2, Bool.and_true, ck_tt]) (fun s0 s1 I L w => by rw [b206_881]) h6 ih))
  refine gd_if (fun _ => ?_) (fun _ => ?_)
  · exact gd_ck v1 (gd_ck v2 (gd_ck v3 (st_L (pc1 := 905) (pc2 := 924) (sm78 hR) rfl (fun s0 I L w => by rw [b206_905]; simp only [v1, v2, v3, Bool.and_true, ck_tt]) (fun s0 s1 I L w => by rw [b206_924]) h6 ih)))
  refine gd_if (fun _ => ?_) (fun _ => ?_)
  · exact gd_ck v1 (gd_ck v2 (st_L (pc1 := 944) (pc2 := 958) (sm79 hR) rfl (fun s0 I L w => by rw [b206_944]; simp only [v1, v2, Bool.and_true, ck_tt]) (fun s0 s1 I L w => by rw [b206_958]) h6 ih))
  refine gd_if (fun _ => ?_) (fun _ => ?_)
  · exact gd_ck v1 (gd_ck v2 (st_I (pc1 := 978) (pc2 := 992) (sm82 hR) rfl (fun s0 I L w => by rw [b206_978]; simp only [v1, v2, Bool.and_true, ck_tt]) (fun s0 s1 I L w => by rw [b206_992]) h6 ih))
  refine gd_if (fun _ => ?_) (fun _ => ?_)
  · exact gd_ck v1 (st_I (pc1 := 1006) (pc2 := 1015) (sm83 hR) rfl (fun s0 I L w => by rw [b206_1006]; simp only [v1, Bool.and_true, ck_tt]) (fun s0 s1 I L w => by rw [b206_1015]) h6 ih)
  refine gd_if (fun _ => ?_) (fun _ => ?_)
  · exact gd_ck v1 (gd_ck v2 (st_I (pc1 := 1034) (pc2 := 1048) (sm84 hR) rfl (fun s0 I L w => by rw [b206_1034]; simp only [v1, v2, Bool.and_true, ck_tt]) (fun s0 s1 I L w => by rw [b206_1048]) h6 ih))
  refine gd_if (fun _ => ?_) (fun _ => ?_)
  · exact st_I (pc1 := 1057) (pc2 := 1061) (sm85 hR) rfl (fun s0 I L w => by rw [b206_1057]) (fun s0 s1 I L w => by rw [b206_1061]) h6 ih
  refine gd_if (fun _ => ?_) (fun _ => ?_)
  · exact gd_ck v1 (gd_ck v2 (st_I (pc1 := 1080) (pc2 := 1094) (sm86 hR) rfl (fun s0 I L w => by rw [b206_1080]; simp only [v1, v2, Bool.and_true, ck_tt]) (fun s0 s1 I L w => by rw [b206_1094]) h6 ih))
  refine gd_if (fun _ => ?_) (fun _ => ?_)
  · exact st_I (pc1 := 1103) (pc2 := 1107) (sm87 hR) rfl (fun s0 I L w => by rw [b206_1103]) (fun s0 s1 I L w => by rw [b206_1107]) h6 ih
  refine gd_if (fun _ => ?_) (fun _ => ?_)
  · exact st_I (pc1 := 1116) (pc2 := 1120) (sm88 hR) rfl (fun s0 I L w => by rw [b206_1116]) (fun s0 s1 I L w => by rw [b206_1120]) h6 ih
  refine gd_if (fun _ => ?_) (fun _ => ?_)
  · exact gd_ck v1 (gd_ck v2 (gd_ck v3 (st_I (pc1 := 1144) (pc2 := 1163) (sm89 hR) rfl (fun s0 I L w => by rw [b206_1144]; simp only [v1, v2, v3, Bool.and_true, ck_tt]) (fun s0 s1 I L w => by rw [b206_1163]) h6 ih)))
  refine gd_if (fun _ => ?_) (fun _ => ?_)
  · exact gd_ck v1 (st_I (pc1 := 1177) (pc2 := 1186) (sm90 hR) rfl (fun s0 I L w => by rw [b206_1177]; simp only [v1, Bool.and_true, ck_tt]) (fun s0 s1 I L w => by rw [b206_1186]) h6 ih)
  refine gd_if (fun _ => ?_) (fun _ => ?_)
  · exact gd_ck v1 (gd_ck v2 (st_I (pc1 := 1205) (pc2 := 1219) (sm95 hR) rfl (fun s0 I L w => by rw [b206_1205]; simp only [v1, v2, Bool.and_true, ck_tt]) (fun s0 s1 I L w => by rw [b206_1219]) h6 ih))
  refine gd_if (fun _ => ?_) (fun _ => ?_)
  · exact gd_ck v1 (st_I (pc1 := 1233) (pc2 := 1242) (sm96 hR) rfl (fun s0 I L w => by rw [b206_1233]; simp only [v1, Bool.and_true, ck_tt]) (fun s0 s1 I L w => by rw [b206_1242]) h6 ih)
  refine gd_if (fun _ => ?_) (fun _ => ?_)
  · exact gd_ck v1 (gd_ck v2 (gd_ck v3 (st_I (pc1 := 1266) (pc2 := 1285) (sm97 hR) rfl (fun s0 I L w => by rw [b206_1266]; simp only [v1, v2, v3, Bool.and_true, ck_tt]) (fun s0 s1 I L w => by rw [b206_1285]) h6 ih)))
  refine gd_if (fun _ => ?_) (fun _ => ?_)
  · exact gd_ck v1 (gd_ck v2 (gd_ck v3 (gd_ck v4 (st_I (pc1 := 1324) (pc2 := 1358) (sm98 hR) rfl (fun s0 I L w => by rw [b206_1324]; simp only [v1, v2, v3, v4, Bool.and_true, ck_tt]) (fun s0 s1 I L w => by rw [b206_1358]) h6 ih))))
  refine gd_if (fun _ => ?_) (fun _ => ?_)
  · exact gd_ck v1 (gd_ck v2 (st_L (pc1 := 1377) (pc2 := 1391) (sm99 hR) rfl (fun s0 I L w => by rw [b206_1377]; simp only [v1, v2, Bool.and_true, ck_tt]) (fun s0 s1 I L w => by rw [b206_1391]) h6 ih))
  refine gd_if (fun _ => ?_) (fun _ => ?_)
  · exact gd_ck v1 (gd_ck v2 (gd_ck v3 (gd_ck v4 (gd_ck v5 (st_I (pc1 := 1426) (pc2 := 1455) (sm100 hR) rfl (fun s0 I L w => by rw [b206_1426]; simp only [v1, v2, v3, v4, v5, Bool.and_true, ck_tt]) (fun s0 s1 I L w => by rw [b206_1455]) h6 ih)))))
  rw [h6]
  exact ih I L w hR
theorem law_loop (h1 : n ≤ 3072) : ∀ (k i : Nat) (I : FI) (L : FL) (w : Nat → Nat), n ≤ i + 6 * k → i ≤ 3072 → R I L w → GdL (LW n xs i I L w) := by
  intro k
  induction k with
  | zero =>
    intro i I L w hk hi _
    refine ⟨I, L, w, ?_⟩
    unfold LW
    rw [b206_18, if_pos (law_no (by omega) h1 (by omega))]
  | succ k ih =>
    intro i I L w hk hi hR
    by_cases h : n < i + 6
    · refine ⟨I, L, w, ?_⟩
      unfold LW
      rw [b206_18, if_pos (law_no h h1 (by omega))]
    · exact law_1 (by omega) h1 (fun I L w hR => ih (i + 6) I L w (by omega) (by omega) hR) hR
end P98x
