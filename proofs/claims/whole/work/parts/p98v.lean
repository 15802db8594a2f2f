set_option maxHeartbeats 400000
/-! the image is taken, and comes back -/
def pw (f b : Nat → Nat) (I : FI) : FI := fun t k j => if k = 0 ∧ j < b t then I (f t) 0 j else I t k j
def fIm (t : Nat) : Nat := if t = 11345 then 10865 else if t = 11361 then 10881 else if t = 11377 then 10897 else if t = 11457 then 11233 else if t = 11473 then 11249 else if t = 11489 then 11265 else if t = 42113 then 41633 else if t = 13457 then 12977 else if t = 13473 then 12993 else if t = 13489 then 13009 else if t = 21745 then 21521 else if t = 21761 then 21537 else if t = 17681 then 17457 else if t = 17697 then 17473 else t
def bIm (n1 n2 n3 n4 n5 t : Nat) : Nat := if t = 11345 ∨ t = 11361 ∨ t = 11377 ∨ t = 11457 ∨ t = 11473 ∨ t = 11489 then n1 else if t = 42113 then n2 else if t = 13457 ∨ t = 13473 ∨ t = 13489 then n3 else if t = 21745 ∨ t = 21761 then n4 else if t = 17681 ∨ t = 17697 then n5 else 0
def fUn (t : Nat) : Nat := if t = 10865 then 11345 else if t = 10881 then 11361 else if t = 10897 then 11377 else if t = 11233 then 11457 else if t = 11249 then 11473 else if t = 11265 then 11489 else if t = 41633 then 42113 else if t = 12977 then 13457 else if t = 12993 then 13473 else if t = 13009 then 13489 else if t = 21521 then 21745 else if t = 21537 then 21761 else if t = 17457 then 17681 else if t = 17473 then 17697 else t
def bUn (n1 n2 n3 n4 n5 t : Nat) : Nat := if t = 10865 ∨ t = 10881 ∨ t = 10897 ∨ t = 11233 ∨ t = 11249 ∨ t = 11265 then n1 else if t = 41633 then n2 else if t = 12977 ∨ t = 12993 ∨ t = 13009 then n3 else if t = 21521 ∨ t = 21537 then n4 else if t = 17457 ∨ t = 17473 then n5 else 0
section P98v
variable {sc : Sc} {E : Ev} {I I' : FI} {L : FL} {w w' : Nat → Nat} {nW nT dy m mk nb nt : Nat} {f b : Nat → Nat}
theorem pw_n {t j k : Nat} (h : b t = 0) : pw f b I t k j = I t k j := by
  unfold pw
  rw [if_neg (fun z => by have := z.2; omega)]
theorem pw_y {t j : Nat} (h : j < b t) : pw f b I t 0 j = I (f t) 0 j := if_pos ⟨rfl, h⟩
theorem uI_pw {t n : Nat} {v : Int32} (hb : b t = n) (hv : v = I (f t) 0 n) : uI (pw f b I) t 0 n v = pw f (fun t' => if t' = t then n + 1 else b t') I := by
  funext t' k' j'
  unfold uI pw
  by_cases h : t' = t
  · subst h
    show (if t' = t' ∧ k' = 0 ∧ j' = n then v else if k' = 0 ∧ j' < b t' then I (f t') 0 j' else I t' k' j') = if k' = 0 ∧ j' < (if t' = t' then n + 1 else b t') then I (f t') 0 j' else I t' k' j'
    rw [if_pos (c := t' = t') rfl]
    by_cases q : k' = 0 ∧ j' = n
    · obtain ⟨q1, q2⟩ := q
      rw [if_pos ⟨rfl, q1, q2⟩, if_pos ⟨q1, by omega⟩, hv, q2]
    · rw [if_neg (fun z => q ⟨z.2.1, z.2.2⟩)]
      by_cases r : k' = 0 ∧ j' < b t'
      · rw [if_pos r, if_pos ⟨r.1, by omega⟩]
      · rw [if_neg r, if_neg (fun z => by
          rcases Nat.lt_or_ge j' n with y | y
          · exact r ⟨z.1, by omega⟩
          · exact q ⟨z.1, by have := z.2; omega⟩)]
  · show (if t' = t ∧ k' = 0 ∧ j' = n then v else if k' = 0 ∧ j' < b t' then I (f t') 0 j' else I t' k' j') = if k' = 0 ∧ j' < (if t' = t then n + 1 else b t') then I (f t') 0 j' else I t' k' j'
    rw [if_neg (fun z => h z.1), if_neg h]
theorem pw_0 (h : ∀ t, b t = 0) : pw f b I = I := by
  funext t k j
  exact pw_n (h t)
theorem l186_71 : ∀ m n, n + m = 5 → rn sc E 186 71 [some (vR 14944 0), some (vI (c n))] [] (hp (pw fIm (bIm n 0 0 0 0) I) L w) = rn sc E 186 156 [some (vR 14944 0), some (vI 0)] [] (hp (pw fIm (bIm 5 0 0 0 0) I) L w) := by
  intro m
  induction m with
  | zero =>
    intro n hn
    have hn : n = 5 := hn
    subst hn
    rw [b186_71, if_neg (by decide)]
  | succ m ih =>
    intro n hn
    have hlt : c n < 5 := (c_lt (a := n) (b := 5) (by omega) (by omega)).symm ▸ (show n < 5 by omega)
    rw [b186_71, if_pos hlt]
    simp only [vin_c (show n < 5 by omega) (show 5 < 2147483648 by omega), ck_tt, ix_c (show n < 2147483648 by omega), c_s]
    rw [pw_n (t := 10865) (show (bIm n 0 0 0 0) 10865 = 0 from rfl)]
    rw [pw_n (t := 10881) (show (bIm n 0 0 0 0) 10881 = 0 from rfl)]
    rw [pw_n (t := 10897) (show (bIm n 0 0 0 0) 10897 = 0 from rfl)]
    rw [pw_n (t := 11233) (show (bIm n 0 0 0 0) 11233 = 0 from rfl)]
    rw [pw_n (t := 11249) (show (bIm n 0 0 0 0) 11249 = 0 from rfl)]
    rw [pw_n (t := 11265) (show (bIm n 0 0 0 0) 11265 = 0 from rfl)]
    rw [uI_pw (t := 11345) (n := n) (by rfl) (by rfl), uI_pw (t := 11361) (n := n) (by rfl) (by rfl), uI_pw (t := 11377) (n := n) (by rfl) (by rfl), uI_pw (t := 11457) (n := n) (by rfl) (by rfl), uI_pw (t := 11473) (n := n) (by rfl) (by rfl), uI_pw (t := 11489) (n := n) (by rfl) (by rfl)]
    refine Eq.trans ?_ (ih (n + 1) (by omega))
    refine congrArg (fun X => rn sc E 186 71 [some (vR 14944 0), some (vI (c (n + 1)))] [] (hp (pw fIm X I) L w)) (funext fun t => ?_)
    unfold bIm
    repeat' split
    all_goals omega
theorem l186_156 : ∀ m n, n + m = 20 → rn sc E 186 156 [some (vR 14944 0), some (vI (c n))] [] (hp (pw fIm (bIm 5 n 0 0 0) I) L w) = rn sc E 186 182 [some (vR 14944 0), some (vI 0)] [] (hp (pw fIm (bIm 5 20 0 0 0) I) L w) := by
  intro m
  induction m with
  | zero =>
    intro n hn
    have hn : n = 20 := hn
    subst hn
    rw [b186_156, if_neg (by decide)]
  | succ m ih =>
    intro n hn
    have hlt : c n < 20 := (c_lt (a := n) (b := 20) (by omega) (by omega)).symm ▸ (show n < 20 by omega)
    rw [b186_156, if_pos hlt]
    simp only [vin_c (show n < 20 by omega) (show 20 < 2147483648 by omega), ck_tt, ix_c (show n < 2147483648 by omega), c_s]
    rw [pw_n (t := 41633) (show (bIm 5 n 0 0 0) 41633 = 0 from rfl)]
    rw [uI_pw (t := 42113) (n := n) (by rfl) (by rfl)]
    refine Eq.trans ?_ (ih (n + 1) (by omega))
    refine congrArg (fun X => rn sc E 186 156 [some (vR 14944 0), some (vI (c (n + 1)))] [] (hp (pw fIm X I) L w)) (funext fun t => ?_)
    unfold bIm
    repeat' split
    all_goals omega
theorem l186_182 : ∀ m n, n + m = 6 → rn sc E 186 182 [some (vR 14944 0), some (vI (c n))] [] (hp (pw fIm (bIm 5 20 n 0 0) I) L w) = rn sc E 186 232 [some (vR 14944 0), some (vI 0)] [] (hp (pw fIm (bIm 5 20 6 0 0) I) L w) := by
  intro m
  induction m with
  | zero =>
    intro n hn
    have hn : n = 6 := hn
    subst hn
    rw [b186_182, if_neg (by decide)]
  | succ m ih =>
    intro n hn
    have hlt : c n < 6 := (c_lt (a := n) (b := 6) (by omega) (by omega)).symm ▸ (show n < 6 by omega)
    rw [b186_182, if_pos hlt]
    simp only [vin_c (show n < 6 by omega) (show 6 < 2147483648 by omega), ck_tt, ix_c (show n < 2147483648 by omega), c_s]
    rw [pw_n (t := 12977) (show (bIm 5 20 n 0 0) 12977 = 0 from rfl)]
    rw [pw_n (t := 12993) (show (bIm 5 20 n 0 0) 12993 = 0 from rfl)]
    rw [pw_n (t := 13009) (show (bIm 5 20 n 0 0) 13009 = 0 from rfl)]
    rw [uI_pw (t := 13457) (n := n) (by rfl) (by rfl), uI_pw (t := 13473) (n := n) (by rfl) (by rfl), uI_pw (t := 13489) (n := n) (by rfl) (by rfl)]
    refine Eq.trans ?_ (ih (n + 1) (by omega))
    refine congrArg (fun X => rn sc E 186 182 [some (vR 14944 0), some (vI (c (n + 1)))] [] (hp (pw fIm X I) L w)) (funext fun t => ?_)
    unfold bIm
    repeat' split
    all_goals omega
theorem l186_232 : ∀ m n, n + m = 10 → rn sc E 186 232 [some (vR 14944 0), some (vI (c n))] [] (hp (pw fIm (bIm 5 20 6 n 0) I) L w) = rn sc E 186 270 [some (vR 14944 0), some (vI 0)] [] (hp (pw fIm (bIm 5 20 6 10 0) I) L w) := by
  intro m
  induction m with
  | zero =>
    intro n hn
    have hn : n = 10 := hn
    subst hn
    rw [b186_232, if_neg (by decide)]
  | succ m ih =>
    intro n hn
    have hlt : c n < 10 := (c_lt (a := n) (b := 10) (by omega) (by omega)).symm ▸ (show n < 10 by omega)
    rw [b186_232, if_pos hlt]
    simp only [vin_c (show n < 10 by omega) (show 10 < 2147483648 by omega), ck_tt, ix_c (show n < 2147483648 by omega), c_s]
    rw [pw_n (t := 21521) (show (bIm 5 20 6 n 0) 21521 = 0 from rfl)]
    rw [pw_n (t := 21537) (show (bIm 5 20 6 n 0) 21537 = 0 from rfl)]
    rw [uI_pw (t := 21745) (n := n) (by rfl) (by rfl), uI_pw (t := 21761) (n := n) (by rfl) (by rfl)]
    refine Eq.trans ?_ (ih (n + 1) (by omega))
    refine congrArg (fun X => rn sc E 186 232 [some (vR 14944 0), some (vI (c (n + 1)))] [] (hp (pw fIm X I) L w)) (funext fun t => ?_)
    unfold bIm
    repeat' split
    all_goals omega
theorem l186_270 : ∀ m n, n + m = 8 → rn sc E 186 270 [some (vR 14944 0), some (vI (c n))] [] (hp (pw fIm (bIm 5 20 6 10 n) I) L w) = some (some (vI (I 14944 0 0)), hp (pw fIm (bIm 5 20 6 10 8) I) L w) := by
  intro m
  induction m with
  | zero =>
    intro n hn
    have hn : n = 8 := hn
    subst hn
    rw [b186_270, if_neg (by decide), pw_n (show (bIm 5 20 6 10 8) 14944 = 0 from rfl)]
  | succ m ih =>
    intro n hn
    have hlt : c n < 8 := (c_lt (a := n) (b := 8) (by omega) (by omega)).symm ▸ (show n < 8 by omega)
    rw [b186_270, if_pos hlt]
    simp only [vin_c (show n < 8 by omega) (show 8 < 2147483648 by omega), ck_tt, ix_c (show n < 2147483648 by omega), c_s]
    rw [pw_n (t := 17457) (show (bIm 5 20 6 10 n) 17457 = 0 from rfl)]
    rw [pw_n (t := 17473) (show (bIm 5 20 6 10 n) 17473 = 0 from rfl)]
    rw [uI_pw (t := 17681) (n := n) (by rfl) (by rfl), uI_pw (t := 17697) (n := n) (by rfl) (by rfl)]
    refine Eq.trans ?_ (ih (n + 1) (by omega))
    refine congrArg (fun X => rn sc E 186 270 [some (vR 14944 0), some (vI (c (n + 1)))] [] (hp (pw fIm X I) L w)) (funext fun t => ?_)
    unfold bIm
    repeat' split
    all_goals omega
theorem l187_76 : ∀ m n, n + m = 5 → rn sc E 187 76 [some (vR 14944 0), some (vI (c n))] [] (hp (pw fUn (bUn n 0 0 0 0) I) L w) = rn sc E 187 161 [some (vR 14944 0), some (vI 0)] [] (hp (pw fUn (bUn 5 0 0 0 0) I) L w) := by
  intro m
  induction m with
  | zero =>
    intro n hn
    have hn : n = 5 := hn
    subst hn
    rw [b187_76, if_neg (by decide)]
  | succ m ih =>
    intro n hn
    have hlt : c n < 5 := (c_lt (a := n) (b := 5) (by omega) (by omega)).symm ▸ (show n < 5 by omega)
    rw [b187_76, if_pos hlt]
    simp only [vin_c (show n < 5 by omega) (show 5 < 2147483648 by omega), ck_tt, ix_c (show n < 2147483648 by omega), c_s]
    rw [pw_n (t := 11345) (show (bUn n 0 0 0 0) 11345 = 0 from rfl)]
    rw [pw_n (t := 11361) (show (bUn n 0 0 0 0) 11361 = 0 from rfl)]
    rw [pw_n (t := 11377) (show (bUn n 0 0 0 0) 11377 = 0 from rfl)]
    rw [pw_n (t := 11457) (show (bUn n 0 0 0 0) 11457 = 0 from rfl)]
    rw [pw_n (t := 11473) (show (bUn n 0 0 0 0) 11473 = 0 from rfl)]
    rw [pw_n (t := 11489) (show (bUn n 0 0 0 0) 11489 = 0 from rfl)]
    rw [uI_pw (t := 10865) (n := n) (by rfl) (by rfl), uI_pw (t := 10881) (n := n) (by rfl) (by rfl), uI_pw (t := 10897) (n := n) (by rfl) (by rfl), uI_pw (t := 11233) (n := n) (by rfl) (by rfl), uI_pw (t := 11249) (n := n) (by rfl) (by rfl), uI_pw (t := 11265) (n := n) (by rfl) (by rfl)]
    refine Eq.trans ?_ (ih (n + 1) (by omega))
    refine congrArg (fun X => rn sc E 187 76 [some (vR 14944 0), some (vI (c (n + 1)))] [] (hp (pw fUn X I) L w)) (funext fun t => ?_)
    unfold bUn
    repeat' split
    all_goals omega
theorem l187_161 : ∀ m n, n + m = 20 → rn sc E 187 161 [some (vR 14944 0), some (vI (c n))] [] (hp (pw fUn (bUn 5 n 0 0 0) I) L w) = rn sc E 187 187 [some (vR 14944 0), some (vI 0)] [] (hp (pw fUn (bUn 5 20 0 0 0) I) L w) := by
  intro m
  induction m with
  | zero =>
    intro n hn
    have hn : n = 20 := hn
    subst hn
    rw [b187_161, if_neg (by decide)]
  | succ m ih =>
    intro n hn
    have hlt : c n < 20 := (c_lt (a := n) (b := 20) (by omega) (by omega)).symm ▸ (show n < 20 by omega)
    rw [b187_161, if_pos hlt]
    simp only [vin_c (show n < 20 by omega) (show 20 < 2147483648 by omega), ck_tt, ix_c (show n < 2147483648 by omega), c_s]
    rw [pw_n (t := 42113) (show (bUn 5 n 0 0 0) 42113 = 0 from rfl)]
    rw [uI_pw (t := 41633) (n := n) (by rfl) (by rfl)]
    refine Eq.trans ?_ (ih (n + 1) (by omega))
    refine congrArg (fun X => rn sc E 187 161 [some (vR 14944 0), some (vI (c (n + 1)))] [] (hp (pw fUn X I) L w)) (funext fun t => ?_)
    unfold bUn
    repeat' split
    all_goals omega
theorem l187_187 : ∀ m n, n + m = 6 → rn sc E 187 187 [some (vR 14944 0), some (vI (c n))] [] (hp (pw fUn (bUn 5 20 n 0 0) I) L w) = rn sc E 187 237 [some (vR 14944 0), some (vI 0)] [] (hp (pw fUn (bUn 5 20 6 0 0) I) L w) := by
  intro m
  induction m with
  | zero =>
    intro n hn
    have hn : n = 6 := hn
    subst hn
    rw [b187_187, if_neg (by decide)]
  | succ m ih =>
    intro n hn
    have hlt : c n < 6 := (c_lt (a := n) (b := 6) (by omega) (by omega)).symm ▸ (show n < 6 by omega)
    rw [b187_187, if_pos hlt]
    simp only [vin_c (show n < 6 by omega) (show 6 < 2147483648 by omega), ck_tt, ix_c (show n < 2147483648 by omega), c_s]
    rw [pw_n (t := 13457) (show (bUn 5 20 n 0 0) 13457 = 0 from rfl)]
    rw [pw_n (t := 13473) (show (bUn 5 20 n 0 0) 13473 = 0 from rfl)]
    rw [pw_n (t := 13489) (show (bUn 5 20 n 0 0) 13489 = 0 from rfl)]
    rw [uI_pw (t := 12977) (n := n) (by rfl) (by rfl), uI_pw (t := 12993) (n := n) (by rfl) (by rfl), uI_pw (t := 13009) (n := n) (by rfl) (by rfl)]
    refine Eq.trans ?_ (ih (n + 1) (by omega))
    refine congrArg (fun X => rn sc E 187 187 [some (vR 14944 0), some (vI (c (n + 1)))] [] (hp (pw fUn X I) L w)) (funext fun t => ?_)
    unfold bUn
    repeat' split
    all_goals omega
theorem l187_237 : ∀ m n, n + m = 10 → rn sc E 187 237 [some (vR 14944 0), some (vI (c n))] [] (hp (pw fUn (bUn 5 20 6 n 0) I) L w) = rn sc E 187 275 [some (vR 14944 0), some (vI 0)] [] (hp (pw fUn (bUn 5 20 6 10 0) I) L w) := by
  intro m
  induction m with
  | zero =>
    intro n hn
    have hn : n = 10 := hn
    subst hn
    rw [b187_237, if_neg (by decide)]
  | succ m ih =>
    intro n hn
    have hlt : c n < 10 := (c_lt (a := n) (b := 10) (by omega) (by omega)).symm ▸ (show n < 10 by omega)
    rw [b187_237, if_pos hlt]
    simp only [vin_c (show n < 10 by omega) (show 10 < 2147483648 by omega), ck_tt, ix_c (show n < 2147483648 by omega), c_s]
    rw [pw_n (t := 21745) (show (bUn 5 20 6 n 0) 21745 = 0 from rfl)]
    rw [pw_n (t := 21761) (show (bUn 5 20 6 n 0) 21761 = 0 from rfl)]
    rw [uI_pw (t := 21521) (n := n) (by rfl) (by rfl), uI_pw (t := 21537) (n := n) (by rfl) (by rfl)]
    refine Eq.trans ?_ (ih (n + 1) (by omega))
    refine congrArg (fun X => rn sc E 187 237 [some (vR 14944 0), some (vI (c (n + 1)))] [] (hp (pw fUn X I) L w)) (funext fun t => ?_)
    unfold bUn
    repeat' split
    all_goals omega
theorem l187_275 : ∀ m n, n + m = 8 → rn sc E 187 275 [some (vR 14944 0), some (vI (c n))] [] (hp (pw fUn (bUn 5 20 6 10 n) I) L w) = some (some (vI (I 14944 0 0)), hp (pw fUn (bUn 5 20 6 10 8) I) L w) := by
  intro m
  induction m with
  | zero =>
    intro n hn
    have hn : n = 8 := hn
    subst hn
    rw [b187_275, if_neg (by decide), pw_n (show (bUn 5 20 6 10 8) 14944 = 0 from rfl)]
  | succ m ih =>
    intro n hn
    have hlt : c n < 8 := (c_lt (a := n) (b := 8) (by omega) (by omega)).symm ▸ (show n < 8 by omega)
    rw [b187_275, if_pos hlt]
    simp only [vin_c (show n < 8 by omega) (show 8 < 2147483648 by omega), ck_tt, ix_c (show n < 2147483648 by omega), c_s]
    rw [pw_n (t := 17681) (show (bUn 5 20 6 10 n) 17681 = 0 from rfl)]
    rw [pw_n (t := 17697) (show (bUn 5 20 6 10 n) 17697 = 0 from rfl)]
    rw [uI_pw (t := 17457) (n := n) (by rfl) (by rfl), uI_pw (t := 17473) (n := n) (by rfl) (by rfl)]
    refine Eq.trans ?_ (ih (n + 1) (by omega))
    refine congrArg (fun X => rn sc E 187 275 [some (vR 14944 0), some (vI (c (n + 1)))] [] (hp (pw fUn X I) L w)) (funext fun t => ?_)
    unfold bUn
    repeat' split
    all_goals omega
theorem a186 : rn sc E 186 71 [some (vR 14944 0), some (vI 0)] [] (hp I L w) = some (some (vI (I 14944 0 0)), hp (pw fIm (bIm 5 20 6 10 8) I) L w) := by
  have e : pw fIm (bIm 0 0 0 0 0) I = I := pw_0 (fun t => by unfold bIm; simp only [ite_self])
  have h := l186_71 (sc := sc) (E := E) (I := I) (L := L) (w := w) 5 0 rfl
  rw [e] at h
  replace h := h.trans (l186_156 20 0 rfl)
  replace h := h.trans (l186_182 6 0 rfl)
  replace h := h.trans (l186_232 10 0 rfl)
  replace h := h.trans (l186_270 8 0 rfl)
  exact h
theorem a187 : rn sc E 187 76 [some (vR 14944 0), some (vI 0)] [] (hp I L w) = some (some (vI (I 14944 0 0)), hp (pw fUn (bUn 5 20 6 10 8) I) L w) := by
  have e : pw fUn (bUn 0 0 0 0 0) I = I := pw_0 (fun t => by unfold bUn; simp only [ite_self])
  have h := l187_76 (sc := sc) (E := E) (I := I) (L := L) (w := w) 5 0 rfl
  rw [e] at h
  replace h := h.trans (l187_161 20 0 rfl)
  replace h := h.trans (l187_187 6 0 rfl)
  replace h := h.trans (l187_237 10 0 rfl)
  replace h := h.trans (l187_275 8 0 rfl)
  exact h
end P98v
