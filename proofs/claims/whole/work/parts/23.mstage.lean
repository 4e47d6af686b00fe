/-! ===== pure part: a stage of the reference ===== -/
theorem m_turning : ∀ k, k < 9 → f_X11_isTurning (nI k) = some (kTurn k) := by decide
theorem l_p1 (x a : Int64) : x + 1 * a = x + a := by rw [Int64.one_mul]
theorem l_m1 (x a : Int64) : x - 1 * a = x - a := by rw [Int64.one_mul]
theorem l_pn (x a : Int64) : x + -1 * a = x - a := by rw [Int64.neg_mul, Int64.one_mul, Int64.sub_eq_add_neg]
theorem l_mn (x a : Int64) : x - -1 * a = x + a := by rw [Int64.neg_mul, Int64.one_mul, Int64.sub_eq_add_neg, Int64.neg_neg]
theorem l_p0 (x d : Int64) : x + d * 0 = x := by simp
theorem l_m0 (x d : Int64) : x - d * 0 = x := by simp
theorem m_stage {b k s kk : Nat} {nr : Nat → Bool} {sf : Nat → Int32} {af : Nat → Int64} {x y z : Int64} (hb : b < 2) (hk : k < 9) (hs : s < 24) (hkk : kk < 2 ^ 31) (hsf : sf (24 * kMd k + s) = nI kk) :
    f_X11_steps (nI b) (nI k) (nI s) x y z nr af sf = some (upS (kTurn k) y z, (st1 (kMd k) (kTurn k) (nr b) (nI kk) (af (24 * (3 * b + kMd k) + s)) (x, y, z)).1, (st1 (kMd k) (kTurn k) (nr b) (nI kk) (af (24 * (3 * b + kMd k) + s)) (x, y, z)).2.1, (st1 (kMd k) (kTurn k) (nr b) (nI kk) (af (24 * (3 * b + kMd k) + s)) (x, y, z)).2.2) := by
  have hmd := (kMode_n k hk).2.2
  unfold f_X11_steps
  rw [gv_N hk (by decide), nI_clamp (by omega), lt_eq, (kMode_n k hk).2.1, ri24, gv_N (by omega) (by decide), nI_clamp (by omega), lt_eq, m_turning k hk, bd_some, lt_eq, lt_eq, hsf]
  show _ = some (upS (kTurn k) y z, stX (kMd k) (upS (kTurn k) y z) x (sh (nr b) y (nI kk)), (if upS (kTurn k) y z = true then y + sh (nr b) x (nI kk) else y - sh (nr b) x (nI kk)), (if upS (kTurn k) y z = true then z - af (24 * (3 * b + kMd k) + s) else z + af (24 * (3 * b + kMd k) + s)))
  have hup : (if kTurn k = true then (if z < (0 : Int64) then false else true) else (if (0 : Int64) ≤ y then false else true)) = upS (kTurn k) y z := rfl
  rw [hup]
  have key : ∀ t : Int64, f_X11_steps_b96 nr af sf (nI b) (nI s) (nI (kMd k)) (nI kk) (upS (kTurn k) y z) (if upS (kTurn k) y z = true then (1 : Int64) else (-1 : Int64)) t x y z = some (upS (kTurn k) y z, (if nI (kMd k) = (2 : Int32) then (x + ((if upS (kTurn k) y z = true then (1 : Int64) else (-1 : Int64)) * t)) else (x - ((if upS (kTurn k) y z = true then (1 : Int64) else (-1 : Int64)) * t))), (if upS (kTurn k) y z = true then y + sh (nr b) x (nI kk) else y - sh (nr b) x (nI kk)), (if upS (kTurn k) y z = true then z - af (24 * (3 * b + kMd k) + s) else z + af (24 * (3 * b + kMd k) + s))) := by
    intro t
    unfold f_X11_steps_b96
    rw [m_shifted hb x hkk nr, bd_some, lt_eq, lt_eq, m_row, bd_some, ri24, gv_N (by omega) (by decide), nI_clamp (by omega), lt_eq]
    cases upS (kTurn k) y z <;> simp only [if_true, if_false, Bool.false_eq_true, l_p1, l_m1, l_pn, l_mn]
  generalize hm9 : kMd k = md at *
  rcases (show md = 0 ∨ md = 1 ∨ md = 2 by omega) with rfl | rfl | rfl
  · rw [if_neg (by decide : ¬ nI 0 = 1), m_shifted hb y hkk nr, bd_some, key, if_neg (by decide : ¬ nI 0 = 2)]
    cases upS (kTurn k) y z <;> simp only [stX, if_true, if_false, Bool.false_eq_true, l_m1, l_mn]
  · rw [if_pos (by decide : nI 1 = 1), key, if_neg (by decide : ¬ nI 1 = 2), l_m0]
    rfl
  · rw [if_neg (by decide : ¬ nI 2 = 1), m_shifted hb y hkk nr, bd_some, key, if_pos (by decide : nI 2 = 2)]
    cases upS (kTurn k) y z <;> simp only [stX, if_true, if_false, Bool.false_eq_true, l_p1, l_pn] <;> rfl
