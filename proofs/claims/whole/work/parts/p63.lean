set_option maxHeartbeats 400000
section P63
variable {d : Nat} {I : FI} {L : FL} {w : Nat → Nat} {x y z : Int32} {n p kd : Nat}
abbrev lgM (I : FI) (n : Nat) (l : List Int32) : FI := lgI I 42289 14944 71 n l
theorem s189 (hn : n < 20) (h : I 14944 0 71 = c n) : dn (d + 2) 189 [vR 14944 0, vI (c p), vI x] (hp I L w) = some (some (vI (x + c p)), hp (lgM I n [10]) L w) := by
  rw [e189, b189_0, s188 hn h, bn_s]
  show rn none _ 189 6 _ [] _ = _
  rw [b189_6]
theorem s190 (hkd : kd < 7) (hK : I 10865 0 p = c kd) (hp5 : p < 5) (hn : n < 18) (h : I 14944 0 71 = c n) : dn (d + 3) 190 [vR 14944 0, vI (c p), vI x] (hp I L w) = some (some (vI (gvF kd (I 10881 0 p) x p)), hp (lgM I n (gbF kd)) L w) := by
  have S : ∀ a : Int32, dn (d + 2) 188 [vR 14944 0, vI a] (hp I L w) = some (none, hp (lgM I n [a]) L w) := fun a => s188 (by omega) h
  have N : ∀ z : Int32, dn (d + 2) 189 [vR 14944 0, vI (c p), vI z] (hp I L w) = some (some (vI (z + c p)), hp (lgM I n [10]) L w) := fun z => s189 (by omega) h
  have N1 : ∀ a z : Int32, dn (d + 2) 189 [vR 14944 0, vI (c p), vI z] (hp (lgM I n [a]) L w) = some (some (vI (z + c p)), hp (lgM I n [a, 10]) L w) := fun a z => by
    rw [s189 (n := n + 1) (by omega) (lgI_c (by omega) h [a]), show lgM (lgM I n [a]) (n + 1) [10] = lgM I n [a, 10] from lgI_a [a] [10]]
  have V : ∀ a b : Int32, lgM I n [a, b] 10881 0 = I 10881 0 := fun a b => lgI_p (by omega) (by omega) _
  rw [e190, b190_0, ck_t (vin_c hp5 (by omega)), ix_c (by omega), hK]
  match kd, hkd with
  | 0, _ => rw [if_neg (by decide), if_neg (by decide), if_neg (by decide), if_neg (by decide), if_neg (by decide), N, bn_s]; show rn none _ 190 95 _ [vI _] _ = _; rw [b190_95]; rfl
  | 1, _ => rw [if_neg (by decide), if_neg (by decide), if_neg (by decide), if_neg (by decide), if_neg (by decide), N, bn_s]; show rn none _ 190 95 _ [vI _] _ = _; rw [b190_95]; rfl
  | 3, _ => rw [if_neg (by decide), if_pos (by decide), N, bn_s]; show rn none _ 190 95 _ [vI _] _ = _; rw [b190_95]; rfl
  | 2, _ => rw [if_pos (by decide), S, bn_s]; show rn none _ 190 46 _ [] _ = _; rw [b190_46, N1, bn_s]; show rn none _ 190 54 _ [vI _] _ = _; rw [b190_54]; rfl
  | 5, _ => rw [if_neg (by decide), if_neg (by decide), if_neg (by decide), if_pos (by decide), S, bn_s]; show rn none _ 190 46 _ [] _ = _; rw [b190_46, N1, bn_s]; show rn none _ 190 54 _ [vI _] _ = _; rw [b190_54]; rfl
  | 4, _ => rw [if_neg (by decide), if_neg (by decide), if_pos (by decide), S, bn_s]; show rn none _ 190 61 _ [] _ = _; rw [b190_61, N1, bn_s]; show rn none _ 190 67 _ [vI _] _ = _; rw [b190_67]; rfl
  | 6, _ => rw [if_neg (by decide), if_neg (by decide), if_neg (by decide), if_neg (by decide), if_pos (by decide), S, bn_s]; show rn none _ 190 75 _ [] _ = _; rw [b190_75, N1, bn_s]; show rn none _ 190 81 _ [vI _] _ = _; rw [b190_81, ck_t (vin_c hp5 (by omega)), ix_c (by omega), V]; rfl
theorem s191 (hkd : kd < 7) (hK : I 10865 0 p = c kd) (hp5 : p < 5) (hn : n < 16) (h : I 14944 0 71 = c n) : dn (d + 4) 191 [vR 14944 0, vI (c p), vI x] (hp I L w) = some (some (vI (gvF kd (I 10881 0 p) x p - I 10881 0 p)), hp (lgM I n (11 :: gbF kd)) L w) := by
  have S : dn (d + 3) 188 [vR 14944 0, vI 11] (hp I L w) = some (none, hp (lgM I n [11]) L w) := s188 (by omega) h
  have e1 : lgM I n [11] 10865 0 = I 10865 0 := lgI_p (by omega) (by omega) _
  have e2 : ∀ l, lgM I n l 10881 0 = I 10881 0 := fun l => lgI_p (by omega) (by omega) _
  have G := s190 (d := d) (I := lgM I n [11]) (L := L) (w := w) (x := x) hkd (by rw [e1]; exact hK) hp5 (show n + 1 < 18 by omega) (lgI_c (by omega) h [11])
  rw [e2, show lgM (lgM I n [11]) (n + 1) (gbF kd) = lgM I n (11 :: gbF kd) from lgI_a [11] _] at G
  rw [e191, b191_0, S, bn_s]
  show rn none _ 191 6 _ [] _ = _
  rw [b191_6, G, bn_s]
  show rn none _ 191 12 _ [vI _] _ = _
  rw [b191_12, ck_t (vin_c hp5 (by omega)), ix_c (by omega), e2]
theorem s192 (hkd : kd < 7) (hK : I 10865 0 p = c kd) (hp5 : p < 5) (hn : n < 15) (h : I 14944 0 71 = c n) : dn (d + 5) 192 [vR 14944 0, vI (c p), vI x] (hp I L w) = some (some (vI ((gvF kd (I 10881 0 p) x p - I 10881 0 p) ^^^ 6)), hp (lgM I n (20 :: 11 :: gbF kd)) L w) := by
  have S : dn (d + 4) 188 [vR 14944 0, vI 20] (hp I L w) = some (none, hp (lgM I n [20]) L w) := s188 (by omega) h
  have e1 : lgM I n [20] 10865 0 = I 10865 0 := lgI_p (by omega) (by omega) _
  have e2 : ∀ l, lgM I n l 10881 0 = I 10881 0 := fun l => lgI_p (by omega) (by omega) _
  have G := s191 (d := d) (I := lgM I n [20]) (L := L) (w := w) (x := x) hkd (by rw [e1]; exact hK) hp5 (show n + 1 < 16 by omega) (lgI_c (by omega) h [20])
  rw [e2, show lgM (lgM I n [20]) (n + 1) (11 :: gbF kd) = lgM I n (20 :: 11 :: gbF kd) from lgI_a [20] _] at G
  rw [e192, b192_0, S, bn_s]
  show rn none _ 192 6 _ [] _ = _
  rw [b192_6, G, bn_s]
  show rn none _ 192 12 _ [vI _] _ = _
  rw [b192_12]
theorem s193 (hkd : kd < 7) (hK : I 10865 0 p = c kd) (hp5 : p < 5) (hn : n < 14) (h : I 14944 0 71 = c n) : dn (d + 6) 193 [vR 14944 0, vI (c p), vI x] (hp I L w) = some (some (vI (tvF kd (I 10881 0 p) x p)), hp (lgM I n (tbF kd)) L w) := by
  have S : ∀ a : Int32, dn (d + 5) 188 [vR 14944 0, vI a] (hp I L w) = some (none, hp (lgM I n [a]) L w) := fun a => s188 (by omega) h
  have e1 : ∀ l, lgM I n l 10865 0 = I 10865 0 := fun l => lgI_p (by omega) (by omega) _
  have e2 : ∀ l, lgM I n l 10881 0 = I 10881 0 := fun l => lgI_p (by omega) (by omega) _
  have Z := s191 (d := d + 1) (L := L) (w := w) (x := x) hkd hK hp5 (by omega) h
  have O := s192 (d := d) (L := L) (w := w) (x := x) hkd hK hp5 (by omega) h
  rw [e193, b193_0, ck_t (vin_c hp5 (by omega)), ix_c (by omega), hK]
  match kd, hkd with
  | 0, _ => rw [if_neg (by decide), if_neg (by decide), if_neg (by decide), Z, bn_s]; show rn none _ 193 90 _ [vI _] _ = _; rw [b193_90]; rfl
  | 2, _ => rw [if_neg (by decide), if_neg (by decide), if_neg (by decide), Z, bn_s]; show rn none _ 193 90 _ [vI _] _ = _; rw [b193_90]; rfl
  | 3, _ => rw [if_neg (by decide), if_neg (by decide), if_neg (by decide), Z, bn_s]; show rn none _ 193 90 _ [vI _] _ = _; rw [b193_90]; rfl
  | 5, _ => rw [if_neg (by decide), if_neg (by decide), if_neg (by decide), Z, bn_s]; show rn none _ 193 90 _ [vI _] _ = _; rw [b193_90]; rfl
  | 1, _ => rw [if_pos (by decide), O, bn_s]; show rn none _ 193 46 _ [vI _] _ = _; rw [b193_46]; rfl
  | 4, _ =>
    have G := s192 (d := d) (I := lgM I n [51]) (L := L) (w := w) (x := x + 1) (show 4 < 7 by omega) (by rw [e1]; exact hK) hp5 (show n + 1 < 15 by omega) (lgI_c (by omega) h [51])
    rw [e2, show lgM (lgM I n [51]) (n + 1) (20 :: 11 :: gbF 4) = lgM I n (51 :: 20 :: 11 :: gbF 4) from lgI_a [51] _] at G
    rw [if_neg (by decide), if_pos (by decide), S, bn_s]
    show rn none _ 193 53 _ [] _ = _
    rw [b193_53, G, bn_s]
    show rn none _ 193 61 _ [vI _] _ = _
    rw [b193_61]
    rfl
  | 6, _ =>
    have G := s191 (d := d + 1) (I := lgM I n [70]) (L := L) (w := w) (x := x) (show 6 < 7 by omega) (by rw [e1]; exact hK) hp5 (show n + 1 < 16 by omega) (lgI_c (by omega) h [70])
    rw [e2, show lgM (lgM I n [70]) (n + 1) (11 :: gbF 6) = lgM I n (70 :: 11 :: gbF 6) from lgI_a [70] _] at G
    have H := s189 (d := d + 3) (I := lgM I n (70 :: 11 :: gbF 6)) (L := L) (w := w) (x := 2) (p := p) (show n + 4 < 20 by omega) (lgI_c (by omega) h (70 :: 11 :: gbF 6))
    rw [show lgM (lgM I n (70 :: 11 :: gbF 6)) (n + 4) [10] = lgM I n ((70 :: 11 :: gbF 6) ++ [10]) from lgI_a (70 :: 11 :: gbF 6) _] at H
    rw [if_neg (by decide), if_neg (by decide), if_pos (by decide), S, bn_s]
    show rn none _ 193 68 _ [] _ = _
    rw [b193_68, G, bn_s]
    show rn none _ 193 74 _ [vI _] _ = _
    rw [b193_74, H, bn_s]
    show rn none _ 193 82 _ [vI _, vI _] _ = _
    rw [b193_82]
    rfl
theorem s194 (hkd : kd < 7) (hK : I 10865 0 p = c kd) (hp5 : p < 5) (hn : n < 13) (h : I 14944 0 71 = c n) : dn (d + 7) 194 [vR 14944 0, vI (c p), vI x] (hp I L w) = some (some (vI (tvF kd (I 10881 0 p) x p * 2)), hp (lgM I n (12 :: tbF kd)) L w) := by
  have S : dn (d + 6) 188 [vR 14944 0, vI 12] (hp I L w) = some (none, hp (lgM I n [12]) L w) := s188 (by omega) h
  have e1 : lgM I n [12] 10865 0 = I 10865 0 := lgI_p (by omega) (by omega) _
  have e2 : ∀ l, lgM I n l 10881 0 = I 10881 0 := fun l => lgI_p (by omega) (by omega) _
  have G := s193 (d := d) (I := lgM I n [12]) (L := L) (w := w) (x := x) hkd (by rw [e1]; exact hK) hp5 (show n + 1 < 14 by omega) (lgI_c (by omega) h [12])
  rw [e2, show lgM (lgM I n [12]) (n + 1) (tbF kd) = lgM I n (12 :: tbF kd) from lgI_a [12] _] at G
  rw [e194, b194_0, S, bn_s]
  show rn none _ 194 6 _ [] _ = _
  rw [b194_6, G, bn_s]
  show rn none _ 194 12 _ [vI _] _ = _
  rw [b194_12]
theorem s195 (hkd : kd < 7) (hK : I 10865 0 p = c kd) (hp5 : p < 5) (hn : n < 7) (h : I 14944 0 71 = c n) : dn (d + 8) 195 [vR 14944 0, vI (c p), vI x] (hp I L w) = some (some (vI (evF kd (I 10881 0 p) x p)), hp (lgM I n (ebF kd)) L w) := by
  have S : ∀ a : Int32, dn (d + 7) 188 [vR 14944 0, vI a] (hp I L w) = some (none, hp (lgM I n [a]) L w) := fun a => s188 (by omega) h
  have e1 : ∀ l, lgM I n l 10865 0 = I 10865 0 := fun l => lgI_p (by omega) (by omega) _
  have e2 : ∀ l, lgM I n l 10881 0 = I 10881 0 := fun l => lgI_p (by omega) (by omega) _
  have Z := s194 (d := d) (L := L) (w := w) (x := x) hkd hK hp5 (by omega) h
  have T : (kd = 3 ∨ kd = 6) → ∀ o, rn none (dn (d + 7)) 195 42 [some (vR 14944 0), some (vI (c p)), some (vI x), o] [] (hp (lgM I n [40]) L w) = some (some (vI (tvF kd (I 10881 0 p) x p * 2 + tvF kd (I 10881 0 p) 1 p)), hp (lgM I n (40 :: 12 :: (tbF kd ++ tbF kd))) L w) := by
    intro _ o
    have G := s194 (d := d) (I := lgM I n [40]) (L := L) (w := w) (x := x) hkd (by rw [e1]; exact hK) hp5 (show n + 1 < 13 by omega) (lgI_c (by omega) h [40])
    rw [e2, show lgM (lgM I n [40]) (n + 1) (12 :: tbF kd) = lgM I n (40 :: 12 :: tbF kd) from lgI_a [40] _] at G
    have hl := tbF_len kd hkd
    have H := s193 (d := d + 1) (I := lgM I n (40 :: 12 :: tbF kd)) (L := L) (w := w) (x := 1) hkd (by rw [e1]; exact hK) hp5 (show n + (40 :: 12 :: tbF kd).length < 14 by rw [List.length_cons, List.length_cons]; omega) (lgI_c (by omega) h (40 :: 12 :: tbF kd))
    rw [e2, show lgM (lgM I n (40 :: 12 :: tbF kd)) (n + (40 :: 12 :: tbF kd).length) (tbF kd) = _ from lgI_a (40 :: 12 :: tbF kd) (tbF kd)] at H
    rw [b195_42, G, bn_s]
    show rn none _ 195 48 _ [vI _] _ = _
    rw [b195_48, H, bn_s]
    show rn none _ 195 56 _ [vI _, vI _] _ = _
    rw [b195_56]
    rfl
  rw [e195, b195_0, ck_t (vin_c hp5 (by omega)), ix_c (by omega), hK]
  match kd, hkd with
  | 0, _ => rw [if_neg (by decide), if_neg (by decide), if_neg (by decide), if_neg (by decide), Z, bn_s]; show rn none _ 195 79 _ [vI _] _ = _; rw [b195_79]; rfl
  | 1, _ => rw [if_neg (by decide), if_neg (by decide), if_neg (by decide), if_neg (by decide), Z, bn_s]; show rn none _ 195 79 _ [vI _] _ = _; rw [b195_79]; rfl
  | 2, _ => rw [if_neg (by decide), if_neg (by decide), if_neg (by decide), if_neg (by decide), Z, bn_s]; show rn none _ 195 79 _ [vI _] _ = _; rw [b195_79]; rfl
  | 4, _ => rw [if_neg (by decide), if_pos (by decide), Z, bn_s]; show rn none _ 195 79 _ [vI _] _ = _; rw [b195_79]; rfl
  | 3, _ => rw [if_pos (by decide), S, bn_s]; exact T (by omega) _
  | 6, _ => rw [if_neg (by decide), if_neg (by decide), if_neg (by decide), if_pos (by decide), S, bn_s]; exact T (by omega) _
  | 5, _ =>
    have G := s194 (d := d) (I := lgM I n [60]) (L := L) (w := w) (x := x - c p) (show 5 < 7 by omega) (by rw [e1]; exact hK) hp5 (show n + 1 < 13 by omega) (lgI_c (by omega) h [60])
    rw [e2, show lgM (lgM I n [60]) (n + 1) (12 :: tbF 5) = lgM I n (60 :: 12 :: tbF 5) from lgI_a [60] _] at G
    rw [if_neg (by decide), if_neg (by decide), if_pos (by decide), S, bn_s]
    show rn none _ 195 64 _ [] _ = _
    rw [b195_64, G, bn_s]
    show rn none _ 195 72 _ [vI _] _ = _
    rw [b195_72]
    rfl
theorem y02 : (0 ≤ y ∧ y ≤ 2) ↔ (y = 0 ∨ y = 1 ∨ y = 2) := by
  constructor
  · intro h; grind
  · rintro (rfl | rfl | rfl) <;> decide
theorem s196 {nW : Nat} (h1 : nW ≤ 5) (h4 : I 14944 0 0 = c nW) (hk : ∀ p, p < nW → ∃ k, k < 7 ∧ I 10865 0 p = c k) : dn (d + 9) 196 [vR 14944 0, vI x, vI y, vI z] (hp I L w) = (if 0 ≤ x ∧ x < c nW then (if y = 0 then some (some (vI (gvF (ix (I 10865 0 (ix x))) (I 10881 0 (ix x)) z (ix x))), hp (lgI (uI I 14944 0 71 0) 42289 14944 71 0 (gbF (ix (I 10865 0 (ix x))))) L w) else if y = 1 then some (some (vI (tvF (ix (I 10865 0 (ix x))) (I 10881 0 (ix x)) z (ix x))), hp (lgI (uI I 14944 0 71 0) 42289 14944 71 0 (tbF (ix (I 10865 0 (ix x))))) L w) else if y = 2 then some (some (vI (evF (ix (I 10865 0 (ix x))) (I 10881 0 (ix x)) z (ix x))), hp (lgI (uI I 14944 0 71 0) 42289 14944 71 0 (ebF (ix (I 10865 0 (ix x))))) L w) else some (some (vI 0), hp (uI I 14944 0 71 0) L w)) else some (some (vI 0), hp (uI I 14944 0 71 0) L w)) := by
  rw [e196, b196_0, s110 (n := nW) (by omega) (by rw [uI_j (by omega)]; exact h4), bn_s]
  show rn none _ 196 10 _ [vI _] _ = _
  rw [b196_10, ib, s106, bn_s, bi_congr y02]
  show (if _ then rn none _ 196 20 _ [vI _] _ else _) = _
  rw [b196_20, ib]
  by_cases a : 0 ≤ x ∧ x < c nW
  · obtain ⟨p, hp', hp5, rfl⟩ := of_5 h1 a
    obtain ⟨k, hk7, hK⟩ := hk p hp'
    have h0 : uI I 14944 0 71 0 14944 0 71 = c 0 := uI_e
    have eK : uI I 14944 0 71 0 10865 0 = I 10865 0 := uI_p (by omega)
    have eV : uI I 14944 0 71 0 10881 0 = I 10881 0 := uI_p (by omega)
    have g1 := s190 (d := d + 5) (I := uI I 14944 0 71 0) (L := L) (w := w) (x := z) hk7 (by rw [eK]; exact hK) hp5 (show 0 < 18 by omega) h0
    have g2 := s193 (d := d + 2) (I := uI I 14944 0 71 0) (L := L) (w := w) (x := z) hk7 (by rw [eK]; exact hK) hp5 (show 0 < 14 by omega) h0
    have g3 := s195 (d := d) (I := uI I 14944 0 71 0) (L := L) (w := w) (x := z) hk7 (by rw [eK]; exact hK) hp5 (show 0 < 7 by omega) h0
    rw [eV] at g1 g2 g3
    rw [if_pos a, if_pos a, ix_c (by omega), hK, ix_c (a := k) (by omega), g1, g2, g3, bn_s, bn_s, bn_s]
    show (if _ then (if _ then rn none _ 196 35 _ [vI _] _ else if _ then rn none _ 196 49 _ [vI _] _ else rn none _ 196 58 _ [vI _] _) else _) = _
    rw [b196_35, b196_49, b196_58, b196_58, b196_58]
    by_cases y0 : y = 0
    · rw [if_pos (Or.inl y0), if_pos y0, if_pos y0]
    · rw [if_neg y0, if_neg y0]
      by_cases y1 : y = 1
      · rw [if_pos (Or.inr (Or.inl y1)), if_pos y1, if_pos y1]
      · rw [if_neg y1, if_neg y1]
        by_cases y2 : y = 2
        · rw [if_pos (Or.inr (Or.inr y2)), if_pos y2]
        · rw [if_neg (fun z => by rcases z with q | q | q <;> contradiction), if_neg y2]
  · rw [if_neg a, if_neg a]
end P63
