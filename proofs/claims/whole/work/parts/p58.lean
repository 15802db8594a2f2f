set_option maxHeartbeats 200000
section P58
variable {d : Nat} {I : FI} {L : FL} {w : Nat → Nat} {x y : Int32} {n : Nat}
/-- the bodies of a list run, one behind the other: the row's tag, the count's tag and slot -/
def lgI (I : FI) (tb tc sl : Nat) : Nat → List Int32 → FI
  | _, [] => I
  | n, a :: r => lgI (uI (uI I tb 0 n a) tc 0 sl (c (n + 1))) tb tc sl (n + 1) r
theorem lgI_c {I : FI} {tb tc sl n : Nat} (hne : tc ≠ tb) (h : I tc 0 sl = c n) : ∀ l : List Int32, lgI I tb tc sl n l tc 0 sl = c (n + l.length) := by
  intro l
  induction l generalizing I n with
  | nil => exact h
  | cons a r ih =>
    show lgI _ tb tc sl (n + 1) r tc 0 sl = _
    rw [ih uI_e, List.length_cons, show n + 1 + r.length = n + (r.length + 1) by omega]
theorem lgI_a {I : FI} {tb tc sl n : Nat} : ∀ l l' : List Int32, lgI (lgI I tb tc sl n l) tb tc sl (n + l.length) l' = lgI I tb tc sl n (l ++ l') := by
  intro l
  induction l generalizing I n with
  | nil => intro l'; rfl
  | cons a r ih =>
    intro l'
    show lgI (lgI (uI (uI I tb 0 n a) tc 0 sl (c (n + 1))) tb tc sl (n + 1) r) tb tc sl (n + (r.length + 1)) l' = lgI (uI (uI I tb 0 n a) tc 0 sl (c (n + 1))) tb tc sl (n + 1) (r ++ l')
    rw [← ih, show n + 1 + r.length = n + (r.length + 1) by omega]
theorem lgI_p {I : FI} {tb tc sl n t k : Nat} (h : t ≠ tb) (h' : t ≠ tc) : ∀ l : List Int32, lgI I tb tc sl n l t k = I t k := by
  intro l
  induction l generalizing I n with
  | nil => rfl
  | cons a r ih =>
    show lgI _ tb tc sl (n + 1) r t k = _
    rw [ih, uI_p h', uI_p h]
theorem s91 (hn : n < 20) (h : I 12288 0 9 = c n) : dn (d + 1) 91 [vR 12288 0, vI x] (hp I L w) = some (none, hp (lgI I 41073 12288 9 n [x]) L w) := by
  rw [e91, b91_0, h, if_pos (show c n < 20 from by rw [show (20 : Int32) = c 20 from rfl, c_lt (by omega) (by omega)]; exact hn), ck_t (vin_c hn (by omega)), ix_c (by omega), c_s]
  rfl
theorem s188 (hn : n < 20) (h : I 14944 0 71 = c n) : dn (d + 1) 188 [vR 14944 0, vI x] (hp I L w) = some (none, hp (lgI I 42289 14944 71 n [x]) L w) := by
  rw [e188, b188_0, h, if_pos (show c n < 20 from by rw [show (20 : Int32) = c 20 from rfl, c_lt (by omega) (by omega)]; exact hn), ck_t (vin_c hn (by omega)), ix_c (by omega), c_s]
  rfl
end P58
