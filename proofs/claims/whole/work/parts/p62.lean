set_option maxHeartbeats 400000
section P62
variable {d : Nat} {I : FI} {L : FL} {w : Nat → Nat} {x y : Int32} {n p kd : Nat}
/-- thinks: the answer and the bodies, by the kind -/
def tvF (k : Nat) (v x : Int32) (p : Nat) : Int32 := if k = 1 then (gvF k v x p - v) ^^^ 6 else if k = 4 then (gvF k v (x + 1) p - v) ^^^ 6 else if k = 6 then (gvF k v x p - v) + (2 + c p) else gvF k v x p - v
def tbF (k : Nat) : List Int32 := if k = 1 then 20 :: 11 :: gbF k else if k = 4 then 51 :: 20 :: 11 :: gbF k else if k = 6 then 70 :: 11 :: (gbF k ++ [10]) else 11 :: gbF k
theorem s93o (hkd : kd < 7) (hK : I 10481 0 p = c kd) (hp5 : p < 5) (hn : n < 15) (h : I 12288 0 9 = c n) : dn (d + 5) 93 [vR 12288 0, vI (c p), vI 1, vI x] (hp I L w) = some (some (vI ((gvF kd (I 10497 0 p) x p - I 10497 0 p) ^^^ 6)), hp (lgI I 41073 12288 9 n (20 :: 11 :: gbF kd)) L w) := by
  have S : dn (d + 4) 91 [vR 12288 0, vI 20] (hp I L w) = some (none, hp (lgI I 41073 12288 9 n [20]) L w) := s91 (by omega) h
  have e1 : lgI I 41073 12288 9 n [20] 10481 0 = I 10481 0 := lgI_p (by omega) (by omega) _
  have e2 : lgI I 41073 12288 9 n [20] 10497 0 = I 10497 0 := lgI_p (by omega) (by omega) _
  have G := s93z (d := d) (I := lgI I 41073 12288 9 n [20]) (L := L) (w := w) (x := x) (k := kAb (ix 1)) hkd (by rw [e1]; exact hK) hp5 (show n + 1 < 16 by omega) (lgI_c (by omega) h [20]) (by decide)
  rw [e2, show lgI (lgI I 41073 12288 9 n [20]) 41073 12288 9 (n + 1) (11 :: gbF kd) = lgI I 41073 12288 9 n (20 :: 11 :: gbF kd) from lgI_a [20] _] at G
  rw [e93, b93_0, if_pos (by decide), S, bn_s]
  show rn none _ 93 42 _ [] _ = _
  rw [b93_42, ck_t (by decide), G, bn_s]
  show rn none _ 93 53 _ [vI _] _ = _
  rw [b93_53]
theorem s93 (hkd : kd < 7) (hK : I 10481 0 p = c kd) (hp5 : p < 5) (hn : n < 14) (h : I 12288 0 9 = c n) : dn (d + 6) 93 [vR 12288 0, vI (c p), vI (c kd), vI x] (hp I L w) = some (some (vI (tvF kd (I 10497 0 p) x p)), hp (lgI I 41073 12288 9 n (tbF kd)) L w) := by
  have S : ∀ a : Int32, dn (d + 5) 91 [vR 12288 0, vI a] (hp I L w) = some (none, hp (lgI I 41073 12288 9 n [a]) L w) := fun a => s91 (by omega) h
  have e1 : ∀ l, lgI I 41073 12288 9 n l 10481 0 = I 10481 0 := fun l => lgI_p (by omega) (by omega) _
  have e2 : ∀ l, lgI I 41073 12288 9 n l 10497 0 = I 10497 0 := fun l => lgI_p (by omega) (by omega) _
  match kd, hkd with
  | 0, _ => exact s93z (d := d + 2) (by omega) hK hp5 (by omega) h (by decide)
  | 2, _ => exact s93z (d := d + 2) (by omega) hK hp5 (by omega) h (by decide)
  | 3, _ => exact s93z (d := d + 2) (by omega) hK hp5 (by omega) h (by decide)
  | 5, _ => exact s93z (d := d + 2) (by omega) hK hp5 (by omega) h (by decide)
  | 1, _ => exact s93o (d := d + 1) (by omega) hK hp5 (by omega) h
  | 4, _ =>
    have G := s93o (d := d) (I := lgI I 41073 12288 9 n [51]) (L := L) (w := w) (x := x + 1) (show 4 < 7 by omega) (by rw [e1]; exact hK) hp5 (show n + 1 < 15 by omega) (lgI_c (by omega) h [51])
    rw [e2, show lgI (lgI I 41073 12288 9 n [51]) 41073 12288 9 (n + 1) (20 :: 11 :: gbF 4) = lgI I 41073 12288 9 n (51 :: 20 :: 11 :: gbF 4) from lgI_a [51] _] at G
    rw [e93, b93_0, if_neg (by decide), if_pos (by decide), S, bn_s]
    show rn none _ 93 63 _ [] _ = _
    rw [b93_63, ck_t (by decide), show kAb (ix 4) = 1 from by decide, G, bn_s]
    show rn none _ 93 76 _ [vI _] _ = _
    rw [b93_76]
    rfl
  | 6, _ =>
    have G := s93z (d := d + 1) (I := lgI I 41073 12288 9 n [70]) (L := L) (w := w) (x := x) (k := kAb (ix 6)) (show 6 < 7 by omega) (by rw [e1]; exact hK) hp5 (show n + 1 < 16 by omega) (lgI_c (by omega) h [70]) (by decide)
    rw [e2, show lgI (lgI I 41073 12288 9 n [70]) 41073 12288 9 (n + 1) (11 :: gbF 6) = lgI I 41073 12288 9 n (70 :: 11 :: gbF 6) from lgI_a [70] _] at G
    have H := s92z (d := d + 3) (I := lgI I 41073 12288 9 n (70 :: 11 :: gbF 6)) (L := L) (w := w) (x := 2) (p := p) (k := kAb (ix 6)) (show n + 4 < 20 by omega) (lgI_c (by omega) h (70 :: 11 :: gbF 6)) (by decide)
    rw [show lgI (lgI I 41073 12288 9 n (70 :: 11 :: gbF 6)) 41073 12288 9 (n + 4) [10] = lgI I 41073 12288 9 n ((70 :: 11 :: gbF 6) ++ [10]) from lgI_a (70 :: 11 :: gbF 6) _] at H
    rw [e93, b93_0, if_neg (by decide), if_neg (by decide), if_pos (by decide), S, bn_s]
    show rn none _ 93 83 _ [] _ = _
    rw [b93_83, ck_t (by decide), G, bn_s]
    show rn none _ 93 95 _ [vI _] _ = _
    rw [b93_95, ck_t (by decide), H, bn_s]
    show rn none _ 93 107 _ [vI _, vI _] _ = _
    rw [b93_107]
    rfl
/-- tells -/
def evF (k : Nat) (v x : Int32) (p : Nat) : Int32 := if k = 3 ∨ k = 6 then tvF k v x p * 2 + tvF k v 1 p else if k = 5 then tvF k v (x - c p) p * 2 else tvF k v x p * 2
def ebF (k : Nat) : List Int32 := if k = 3 ∨ k = 6 then 40 :: 12 :: (tbF k ++ tbF k) else if k = 5 then 60 :: 12 :: tbF k else 12 :: tbF k
theorem s94z (hkd : kd < 7) (hK : I 10481 0 p = c kd) (hp5 : p < 5) (hn : n < 13) (h : I 12288 0 9 = c n) {k : Int32} (hk : k = 0 ∨ k = 1 ∨ k = 2 ∨ k = 4) : dn (d + 7) 94 [vR 12288 0, vI (c p), vI k, vI x] (hp I L w) = some (some (vI (tvF kd (I 10497 0 p) x p * 2)), hp (lgI I 41073 12288 9 n (12 :: tbF kd)) L w) := by
  have S : dn (d + 6) 91 [vR 12288 0, vI 12] (hp I L w) = some (none, hp (lgI I 41073 12288 9 n [12]) L w) := s91 (by omega) h
  have e1 : lgI I 41073 12288 9 n [12] 10481 0 = I 10481 0 := lgI_p (by omega) (by omega) _
  have e2 : lgI I 41073 12288 9 n [12] 10497 0 = I 10497 0 := lgI_p (by omega) (by omega) _
  have G := s93 (d := d) (I := lgI I 41073 12288 9 n [12]) (L := L) (w := w) (x := x) hkd (by rw [e1]; exact hK) hp5 (show n + 1 < 14 by omega) (lgI_c (by omega) h [12])
  rw [e2, show lgI (lgI I 41073 12288 9 n [12]) 41073 12288 9 (n + 1) (tbF kd) = lgI I 41073 12288 9 n (12 :: tbF kd) from lgI_a [12] _] at G
  have F : rn none (dn (d + 6)) 94 92 [some (vR 12288 0), some (vI (c p)), some (vI k), some (vI x)] [] (hp (lgI I 41073 12288 9 n [12]) L w) = some (some (vI (tvF kd (I 10497 0 p) x p * 2)), hp (lgI I 41073 12288 9 n (12 :: tbF kd)) L w) := by
    rw [b94_92, ck_t (vin_c hp5 (by omega)), ix_c (by omega), e1, hK, G, bn_s]
    show rn none _ 94 107 _ [vI _] _ = _
    rw [b94_107]
  rw [e94, b94_0]
  rcases hk with rfl | rfl | rfl | rfl
  · rw [if_neg (by decide), if_neg (by decide), if_neg (by decide), if_neg (by decide), S, bn_s]
    exact F
  · rw [if_neg (by decide), if_neg (by decide), if_neg (by decide), if_neg (by decide), S, bn_s]
    exact F
  · rw [if_neg (by decide), if_neg (by decide), if_neg (by decide), if_neg (by decide), S, bn_s]
    exact F
  · rw [if_neg (by decide), if_pos (by decide), S, bn_s]
    exact F
theorem tbF_len : ∀ k, k < 7 → (tbF k).length ≤ 5 := by decide
theorem s94 (hkd : kd < 7) (hK : I 10481 0 p = c kd) (hp5 : p < 5) (hn : n < 7) (h : I 12288 0 9 = c n) : dn (d + 8) 94 [vR 12288 0, vI (c p), vI (c kd), vI x] (hp I L w) = some (some (vI (evF kd (I 10497 0 p) x p)), hp (lgI I 41073 12288 9 n (ebF kd)) L w) := by
  have S : ∀ a : Int32, dn (d + 7) 91 [vR 12288 0, vI a] (hp I L w) = some (none, hp (lgI I 41073 12288 9 n [a]) L w) := fun a => s91 (by omega) h
  have e1 : ∀ l, lgI I 41073 12288 9 n l 10481 0 = I 10481 0 := fun l => lgI_p (by omega) (by omega) _
  have e2 : ∀ l, lgI I 41073 12288 9 n l 10497 0 = I 10497 0 := fun l => lgI_p (by omega) (by omega) _
  have T : (kd = 3 ∨ kd = 6) → rn none (dn (d + 7)) 94 38 [some (vR 12288 0), some (vI (c p)), some (vI (c kd)), some (vI x)] [] (hp (lgI I 41073 12288 9 n [40]) L w) = some (some (vI (tvF kd (I 10497 0 p) x p * 2 + tvF kd (I 10497 0 p) 1 p)), hp (lgI I 41073 12288 9 n (40 :: 12 :: (tbF kd ++ tbF kd))) L w) := by
    intro _
    have G := s94z (d := d) (I := lgI I 41073 12288 9 n [40]) (L := L) (w := w) (x := x) (k := kAb (ix 3)) hkd (by rw [e1]; exact hK) hp5 (show n + 1 < 13 by omega) (lgI_c (by omega) h [40]) (by decide)
    rw [e2, show lgI (lgI I 41073 12288 9 n [40]) 41073 12288 9 (n + 1) (12 :: tbF kd) = lgI I 41073 12288 9 n (40 :: 12 :: tbF kd) from lgI_a [40] _] at G
    have hl := tbF_len kd hkd
    have H := s93 (d := d + 1) (I := lgI I 41073 12288 9 n (40 :: 12 :: tbF kd)) (L := L) (w := w) (x := 1) hkd (by rw [e1]; exact hK) hp5 (show n + (40 :: 12 :: tbF kd).length < 14 by rw [List.length_cons, List.length_cons]; omega) (lgI_c (by omega) h (40 :: 12 :: tbF kd))
    rw [e2, lgI_a (40 :: 12 :: tbF kd)] at H
    rw [b94_38, ck_t (by decide), G, bn_s]
    show rn none _ 94 49 _ [vI _] _ = _
    rw [b94_49, ck_t (vin_c hp5 (by omega)), ix_c (by omega), e1, hK, H, bn_s]
    show rn none _ 94 64 _ [vI _, vI _] _ = _
    rw [b94_64]
    rfl
  match kd, hkd with
  | 0, _ => exact s94z (d := d + 1) (by omega) hK hp5 (by omega) h (by decide)
  | 1, _ => exact s94z (d := d + 1) (by omega) hK hp5 (by omega) h (by decide)
  | 2, _ => exact s94z (d := d + 1) (by omega) hK hp5 (by omega) h (by decide)
  | 4, _ => exact s94z (d := d + 1) (by omega) hK hp5 (by omega) h (by decide)
  | 3, _ =>
    rw [e94, b94_0, if_pos (by decide), S, bn_s]
    exact T (by omega)
  | 6, _ =>
    rw [e94, b94_0, if_neg (by decide), if_neg (by decide), if_neg (by decide), if_pos (by decide), S, bn_s]
    exact T (by omega)
  | 5, _ =>
    have G := s94z (d := d) (I := lgI I 41073 12288 9 n [60]) (L := L) (w := w) (x := x - c p) (k := kAb (ix 5)) (show 5 < 7 by omega) (by rw [e1]; exact hK) hp5 (show n + 1 < 13 by omega) (lgI_c (by omega) h [60]) (by decide)
    rw [e2, show lgI (lgI I 41073 12288 9 n [60]) 41073 12288 9 (n + 1) (12 :: tbF 5) = lgI I 41073 12288 9 n (60 :: 12 :: tbF 5) from lgI_a [60] _] at G
    rw [e94, b94_0, if_neg (by decide), if_neg (by decide), if_pos (by decide), S, bn_s]
    show rn none _ 94 72 _ [] _ = _
    rw [b94_72, ck_t (by decide), G, bn_s]
    show rn none _ 94 85 _ [vI _] _ = _
    rw [b94_85]
    rfl
/-- act -/
theorem s89 {nW : Nat} (h1 : nW ≤ 5) (h4 : I 10464 0 0 = c nW) (hk : ∀ p, p < nW → ∃ k, k < 7 ∧ I 10481 0 p = c k) {z : Int32} : dn (d + 9) 89 [vR 12288 0, vI x, vI y, vI z] (hp I L w) = (if 0 ≤ x ∧ x < c nW then (if y = 0 then some (some (vI (gvF (ix (I 10481 0 (ix x))) (I 10497 0 (ix x)) z (ix x))), hp (lgI (uI I 12288 0 9 0) 41073 12288 9 0 (gbF (ix (I 10481 0 (ix x))))) L w) else if y = 1 then some (some (vI (tvF (ix (I 10481 0 (ix x))) (I 10497 0 (ix x)) z (ix x))), hp (lgI (uI I 12288 0 9 0) 41073 12288 9 0 (tbF (ix (I 10481 0 (ix x))))) L w) else if y = 2 then some (some (vI (evF (ix (I 10481 0 (ix x))) (I 10497 0 (ix x)) z (ix x))), hp (lgI (uI I 12288 0 9 0) 41073 12288 9 0 (ebF (ix (I 10481 0 (ix x))))) L w) else some (some (vI 0), hp (uI I 12288 0 9 0) L w)) else some (some (vI 0), hp (uI I 12288 0 9 0) L w)) := by
  rw [e89, b89_0, s31, bn_s, uI_p (by omega), h4]
  show rn none _ 89 13 _ [vI _] _ = _
  rw [b89_13, ib]
  by_cases a : 0 ≤ x ∧ x < c nW
  · obtain ⟨p, hp', hp5, rfl⟩ := of_5 h1 a
    obtain ⟨k, hk7, hK⟩ := hk p hp'
    have h0 : uI I 12288 0 9 0 12288 0 9 = c 0 := uI_e
    have eK : uI I 12288 0 9 0 10481 0 = I 10481 0 := uI_p (by omega)
    have eV : uI I 12288 0 9 0 10497 0 = I 10497 0 := uI_p (by omega)
    have g1 := s92 (d := d + 5) (I := uI I 12288 0 9 0) (L := L) (w := w) (x := z) hk7 hp5 (show 0 < 18 by omega) h0
    have g2 := s93 (d := d + 2) (I := uI I 12288 0 9 0) (L := L) (w := w) (x := z) hk7 (by rw [eK]; exact hK) hp5 (show 0 < 14 by omega) h0
    have g3 := s94 (d := d) (I := uI I 12288 0 9 0) (L := L) (w := w) (x := z) hk7 (by rw [eK]; exact hK) hp5 (show 0 < 7 by omega) h0
    rw [eV] at g1 g2 g3
    rw [if_pos a, if_pos a, ck_t (vin_c hp5 (by omega)), ix_c (by omega), eK, hK, ix_c (a := k) (by omega), g1, g2, g3, bn_s, bn_s, bn_s]
    show (if _ then rn none _ 89 64 _ [vI _] _ else if _ then rn none _ 89 73 _ [vI _] _ else if _ then rn none _ 89 82 _ [vI _] _ else _) = _
    rw [b89_64, b89_73, b89_82]
  · rw [if_neg a, if_neg a]
end P62
