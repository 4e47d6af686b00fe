/-! ===== pure part: both beginnings ===== -/
def trn (s : Int32) (x y : Int64) : Int64 × Int64 := if (s &&& (3 : Int32)) = 0 then (x, y) else (if (s &&& (3 : Int32)) = 1 then (-y, x) else (if (s &&& (3 : Int32)) = 2 then (-x, -y) else (y, -x)))
theorem x_trn (s : Int32) (x y f1 f2 : Int64) : f_X7_turnQuarters x y s f1 f2 = some (trn s x y) := by
  unfold f_X7_turnQuarters trn
  split
  · rfl
  · split
    · rfl
    · split <;> rfl
theorem m_trn (s : Int32) (x y f1 f2 : Int64) : f_X11_turns s x y f1 f2 = some (trn s x y) := by
  unfold f_X11_turns trn
  rw [lt_eq, lt_eq, lt_eq]
  split
  · rfl
  · split
    · rfl
    · split <;> rfl
theorem ab_neg {v : Int64} (h : -(2 ^ 62) ≤ v.toInt) (h2 : v.toInt ≤ 2 ^ 62) : ab (-v) = ab v := by
  have e1 : (-v).toInt = -v.toInt := by
    rw [Int64.toInt_neg, Int.bmod_eq_of_le_mul_two] <;> omega
  apply Int64.toInt_inj.1
  rw [ab_toInt v h, ab_toInt (-v) (by omega), e1, Int.natAbs_neg]

theorem xb_0 {G P : Nat} {nr : Bool} {qr ln : Int64} {us : Nat → Int64} (p1 p2 p3 rx ry rz f1 f2 : Int64) (ub st : Int32) (h1 : ¬ qr ≤ 0) (h2 : ¬ (2 : Int64) * qr = 0) : f_X7_begin (nI 0) p1 p2 p3 rx ry rz ub st f1 f2 (nI G) (nI P) nr qr ln us = some ((us 0), (0 : Int64), ((p1 <<< ((nI G).toInt64 &&& 63)) - (nrs (p1 <<< ((nI G).toInt64 &&& 63)) qr).toInt64 * qr), 0, (nrs (p1 <<< ((nI G).toInt64 &&& 63)) qr), f1, f2) := by
  unfold f_X7_begin
  rw [lt_eq, lt_eq, lt_eq, gv_N (by decide : 0 < 9) (by decide), nI_clamp (by decide), show Int32.ofNat 0 = nI 0 from rfl, gv_N (by decide : 0 < 9) (by decide), nI_clamp (by decide)]
  rw [if_pos (by decide : swK 0 = 1)]
  rw [gv_in (show vp_in (0 : Int32) 3 from vp_in_nI (by decide : 0 < 3) (by decide)), show Int32.toNatClampNeg 0 = 0 from by decide]
  unfold f_X7_beginNear
  rw [x_nrs h1 h2, bd_some]
  rfl
theorem mb_0 {b G P : Nat} {gf pf uf : Nat → Int32} {nr : Nat → Bool} {qf lf : Nat → Int64} (hb : b < 2) (hg : gf b = nI G) (hp : pf b = nI P) (p1 p2 p3 mx my mz f1 f2 : Int64) (ma : Int32) (h2 : ¬ (2 : Int64) * qf b = 0) : f_X11_begins (nI b) (nI 0) p1 p2 p3 mx my mz f1 f2 ma gf pf uf nr qf lf = some ((uf (3 * b + 0)).toInt64, (0 : Int64), ((p1 <<< ((nI G).toInt64 &&& 63)) - (nrs (p1 <<< ((nI G).toInt64 &&& 63)) (qf b)).toInt64 * (qf b)), f1, f2, (nrs (p1 <<< ((nI G).toInt64 &&& 63)) (qf b))) := by
  unfold f_X11_begins
  rw [gv_N hb (by decide), nI_clamp (by omega), hg, hp, lt_eq, gv_N hb (by decide), lt_eq, gv_N hb (by decide), lt_eq]
  rw [if_pos (by decide : nI 0 = 0)]
  rw [m_nrs hb h2, bd_some, show (0 : Int32) = nI 0 from rfl, m_row, bd_some, gv_N (by omega) (by decide), nI_clamp (by omega), lt_eq, gv_N hb (by decide), lt_eq]
theorem xb_1 {G P : Nat} {nr : Bool} {qr ln : Int64} {us : Nat → Int64} (p1 p2 p3 rx ry rz f1 f2 : Int64) (ub st : Int32) : f_X7_begin (nI 1) p1 p2 p3 rx ry rz ub st f1 f2 (nI G) (nI P) nr qr ln us = some ((if (p1 <<< ((nI G).toInt64 &&& 63)) < (0 : Int64) then -(p1 <<< ((nI G).toInt64 &&& 63)) else (p1 <<< ((nI G).toInt64 &&& 63))), (if (p1 <<< ((nI G).toInt64 &&& 63)) < (0 : Int64) then -(p2 <<< ((nI G).toInt64 &&& 63)) else (p2 <<< ((nI G).toInt64 &&& 63))), (if (p1 <<< ((nI G).toInt64 &&& 63)) < (0 : Int64) then (if (p2 <<< ((nI G).toInt64 &&& 63)) < (0 : Int64) then ((-2 : Int64) * qr) else ((2 : Int64) * qr)) else (0 : Int64)), 0, (0 : Int32), f1, f2) := by
  unfold f_X7_begin
  rw [lt_eq, lt_eq, lt_eq, gv_N (by decide : 1 < 9) (by decide), nI_clamp (by decide), show Int32.ofNat 1 = nI 1 from rfl, gv_N (by decide : 1 < 9) (by decide), nI_clamp (by decide)]
  rw [if_neg (by decide : ¬ swK 1 = 1), if_pos (by decide : swK 1 = 2)]
  unfold f_X7_beginPolar
  split
  · rfl
  · rfl
theorem mb_1 {b G P : Nat} {gf pf uf : Nat → Int32} {nr : Nat → Bool} {qf lf : Nat → Int64} (hb : b < 2) (hg : gf b = nI G) (hp : pf b = nI P) (p1 p2 p3 mx my mz f1 f2 : Int64) (ma : Int32) : f_X11_begins (nI b) (nI 1) p1 p2 p3 mx my mz f1 f2 ma gf pf uf nr qf lf = some ((if (p1 <<< ((nI G).toInt64 &&& 63)) < (0 : Int64) then -(p1 <<< ((nI G).toInt64 &&& 63)) else (p1 <<< ((nI G).toInt64 &&& 63))), (if (p1 <<< ((nI G).toInt64 &&& 63)) < (0 : Int64) then -(p2 <<< ((nI G).toInt64 &&& 63)) else (p2 <<< ((nI G).toInt64 &&& 63))), (if (p1 <<< ((nI G).toInt64 &&& 63)) < (0 : Int64) then (if (p2 <<< ((nI G).toInt64 &&& 63)) < (0 : Int64) then ((-2 : Int64) * (qf b)) else ((2 : Int64) * (qf b))) else (0 : Int64)), f1, f2, (0 : Int32)) := by
  unfold f_X11_begins
  rw [gv_N hb (by decide), nI_clamp (by omega), hg, hp, lt_eq, gv_N hb (by decide), lt_eq, gv_N hb (by decide), lt_eq]
  rw [if_neg (by decide : ¬ nI 1 = 0), if_pos (by decide : nI 1 = 1)]
  rw [lt_eq, lt_eq, gv_N hb (by decide), gv_N hb (by decide)]
  unfold f_X11_begins_b219
  by_cases h : (p1 <<< ((nI G).toInt64 &&& 63)) < (0 : Int64)
  · have h3 : ¬ (0 : Int64) ≤ (p1 <<< ((nI G).toInt64 &&& 63)) := fun h4 => by rw [Int64.le_iff_toInt_le] at h4; rw [Int64.lt_iff_toInt_lt] at h; omega
    rw [if_pos h, if_neg h3, if_neg h3, if_pos h, if_pos h, if_pos h]
    split <;> rfl
  · have h3 : (0 : Int64) ≤ (p1 <<< ((nI G).toInt64 &&& 63)) := by rw [Int64.lt_iff_toInt_lt] at h; rw [Int64.le_iff_toInt_le]; omega
    rw [if_neg h, if_pos h3, if_pos h3, if_neg h, if_neg h, if_neg h]
theorem xb_2 {G P : Nat} {nr : Bool} {qr ln : Int64} {us : Nat → Int64} (p1 p2 p3 rx ry rz f1 f2 : Int64) (ub st : Int32) : f_X7_begin (nI 2) p1 p2 p3 rx ry rz ub st f1 f2 (nI G) (nI P) nr qr ln us = some ((p1 <<< ((nI G).toInt64 &&& 63)), (0 : Int64), (sh nr (p2 <<< ((nI G).toInt64 &&& 63)) (nI (tmF (ab (p2 <<< ((nI G).toInt64 &&& 63))) P 4 0))), 0, (nI (tmF (ab (p2 <<< ((nI G).toInt64 &&& 63))) P 4 0)), f1, f2) := by
  unfold f_X7_begin
  rw [lt_eq, lt_eq, lt_eq, gv_N (by decide : 2 < 9) (by decide), nI_clamp (by decide), show Int32.ofNat 2 = nI 2 from rfl, gv_N (by decide : 2 < 9) (by decide), nI_clamp (by decide)]
  rw [if_neg (by decide : ¬ swK 2 = 1), if_neg (by decide : ¬ swK 2 = 2), if_pos (by decide : swK 2 = 3)]
  unfold f_X7_beginTimes
  rw [show (0 : Int32) = nI 0 from rfl, x_tml nr _ _ _ _ _ 4 0 FU (by decide) (by decide), bd_some]
theorem mb_2 {b G P : Nat} {gf pf uf : Nat → Int32} {nr : Nat → Bool} {qf lf : Nat → Int64} (hb : b < 2) (hg : gf b = nI G) (hp : pf b = nI P) (p1 p2 p3 mx my mz f1 f2 : Int64) (ma : Int32) (h2 : ab (p2 <<< ((nI G).toInt64 &&& 63)) ≤ ((1 : Int64) <<< ((nI P + nI 4).toInt64 &&& 63))) : f_X11_begins (nI b) (nI 2) p1 p2 p3 mx my mz f1 f2 ma gf pf uf nr qf lf = some ((p1 <<< ((nI G).toInt64 &&& 63)), (0 : Int64), (sh (nr b) (p2 <<< ((nI G).toInt64 &&& 63)) (nI (tmF (ab (p2 <<< ((nI G).toInt64 &&& 63))) P 4 0))), f1, f2, (nI (tmF (ab (p2 <<< ((nI G).toInt64 &&& 63))) P 4 0))) := by
  unfold f_X11_begins
  rw [gv_N hb (by decide), nI_clamp (by omega), hg, hp, lt_eq, gv_N hb (by decide), lt_eq, gv_N hb (by decide), lt_eq]
  rw [if_neg (by decide : ¬ nI 2 = 0), if_neg (by decide : ¬ nI 2 = 1), if_pos (by decide : nI 2 = 2)]
  rw [show (0 : Int32) = nI 0 from rfl, m_tml hb _ _ _ _ _ _ _ h2 4 0 FU (by decide) (by decide)]
theorem xb_3 {G P : Nat} {nr : Bool} {qr ln : Int64} {us : Nat → Int64} (p1 p2 p3 rx ry rz f1 f2 : Int64) (ub st : Int32) : f_X7_begin (nI 3) p1 p2 p3 rx ry rz ub st f1 f2 (nI G) (nI P) nr qr ln us = some ((ab (p2 <<< ((nI G).toInt64 &&& 63)) <<< ((nI (soF (ab (p1 <<< ((nI G).toInt64 &&& 63))) (ab (p2 <<< ((nI G).toInt64 &&& 63))) 7 0)).toInt64 &&& 63)), (if (0 : Int64) ≤ (p2 <<< ((nI G).toInt64 &&& 63)) then (p1 <<< ((nI G).toInt64 &&& 63)) else -(p1 <<< ((nI G).toInt64 &&& 63))), (0 : Int64), 0, (nI (soF (ab (p1 <<< ((nI G).toInt64 &&& 63))) (ab (p2 <<< ((nI G).toInt64 &&& 63))) 7 0)), f1, f2) := by
  unfold f_X7_begin
  rw [lt_eq, lt_eq, lt_eq, gv_N (by decide : 3 < 9) (by decide), nI_clamp (by decide), show Int32.ofNat 3 = nI 3 from rfl, gv_N (by decide : 3 < 9) (by decide), nI_clamp (by decide)]
  rw [if_neg (by decide : ¬ swK 3 = 1), if_neg (by decide : ¬ swK 3 = 2), if_neg (by decide : ¬ swK 3 = 3), if_pos (by decide : swK 3 = 4)]
  unfold f_X7_beginOver
  rw [x_steps, bd_some, j_abs, bd_some, lt_eq]
  rfl
theorem mb_3 {b G P : Nat} {gf pf uf : Nat → Int32} {nr : Nat → Bool} {qf lf : Nat → Int64} (hb : b < 2) (hg : gf b = nI G) (hp : pf b = nI P) (p1 p2 p3 mx my mz f1 f2 : Int64) (ma : Int32) (h2 : soF (ab (p1 <<< ((nI G).toInt64 &&& 63))) (ab (p2 <<< ((nI G).toInt64 &&& 63))) 7 0 < 7) (h3 : ab (-(p1 <<< ((nI G).toInt64 &&& 63))) = ab (p1 <<< ((nI G).toInt64 &&& 63))) : f_X11_begins (nI b) (nI 3) p1 p2 p3 mx my mz f1 f2 ma gf pf uf nr qf lf = some ((ab (p2 <<< ((nI G).toInt64 &&& 63)) <<< ((nI (soF (ab (p1 <<< ((nI G).toInt64 &&& 63))) (ab (p2 <<< ((nI G).toInt64 &&& 63))) 7 0)).toInt64 &&& 63)), (if (0 : Int64) ≤ (p2 <<< ((nI G).toInt64 &&& 63)) then (p1 <<< ((nI G).toInt64 &&& 63)) else -(p1 <<< ((nI G).toInt64 &&& 63))), (0 : Int64), f1, f2, (nI (soF (ab (p1 <<< ((nI G).toInt64 &&& 63))) (ab (p2 <<< ((nI G).toInt64 &&& 63))) 7 0))) := by
  unfold f_X11_begins
  rw [gv_N hb (by decide), nI_clamp (by omega), hg, hp, lt_eq, gv_N hb (by decide), lt_eq, gv_N hb (by decide), lt_eq]
  rw [if_neg (by decide : ¬ nI 3 = 0), if_neg (by decide : ¬ nI 3 = 1), if_neg (by decide : ¬ nI 3 = 2), if_pos (by decide : nI 3 = 3)]
  rw [lt_eq, j_abs, bd_some]
  have e : ab (if (0 : Int64) ≤ (p2 <<< ((nI G).toInt64 &&& 63)) then (p1 <<< ((nI G).toInt64 &&& 63)) else -(p1 <<< ((nI G).toInt64 &&& 63))) = ab (p1 <<< ((nI G).toInt64 &&& 63)) := by
    split
    · rfl
    · exact h3
  have h5 := m_sol (gf := gf) (pf := pf) (uf := uf) (nr := nr) (qf := qf) (lf := lf) (ab (p2 <<< ((nI G).toInt64 &&& 63))) (if (0 : Int64) ≤ (p2 <<< ((nI G).toInt64 &&& 63)) then (p1 <<< ((nI G).toInt64 &&& 63)) else -(p1 <<< ((nI G).toInt64 &&& 63))) 0 f1 f2 7 0 FU (by decide) (by decide)
  rw [e] at h5
  exact h5 h2
theorem xb_4 {G P : Nat} {nr : Bool} {qr ln : Int64} {us : Nat → Int64} (p1 p2 p3 rx ry rz f1 f2 : Int64) (ub st : Int32) : f_X7_begin (nI 4) p1 p2 p3 rx ry rz ub st f1 f2 (nI G) (nI P) nr qr ln us = some ((us 2), (0 : Int64), (p1 <<< ((nI G).toInt64 &&& 63)), 0, (0 : Int32), f1, f2) := by
  unfold f_X7_begin
  rw [lt_eq, lt_eq, lt_eq, gv_N (by decide : 4 < 9) (by decide), nI_clamp (by decide), show Int32.ofNat 4 = nI 4 from rfl, gv_N (by decide : 4 < 9) (by decide), nI_clamp (by decide)]
  rw [if_neg (by decide : ¬ swK 4 = 1), if_neg (by decide : ¬ swK 4 = 2), if_neg (by decide : ¬ swK 4 = 3), if_neg (by decide : ¬ swK 4 = 4), if_pos (by decide : swK 4 = 5)]
  rw [gv_in (show vp_in (2 : Int32) 3 from vp_in_nI (by decide : 2 < 3) (by decide)), show Int32.toNatClampNeg 2 = 2 from by decide]
  rfl
theorem mb_4 {b G P : Nat} {gf pf uf : Nat → Int32} {nr : Nat → Bool} {qf lf : Nat → Int64} (hb : b < 2) (hg : gf b = nI G) (hp : pf b = nI P) (p1 p2 p3 mx my mz f1 f2 : Int64) (ma : Int32) : f_X11_begins (nI b) (nI 4) p1 p2 p3 mx my mz f1 f2 ma gf pf uf nr qf lf = some ((uf (3 * b + 2)).toInt64, (0 : Int64), (p1 <<< ((nI G).toInt64 &&& 63)), f1, f2, (0 : Int32)) := by
  unfold f_X11_begins
  rw [gv_N hb (by decide), nI_clamp (by omega), hg, hp, lt_eq, gv_N hb (by decide), lt_eq, gv_N hb (by decide), lt_eq]
  rw [if_neg (by decide : ¬ nI 4 = 0), if_neg (by decide : ¬ nI 4 = 1), if_neg (by decide : ¬ nI 4 = 2), if_neg (by decide : ¬ nI 4 = 3), if_pos (by decide : nI 4 = 4)]
  rw [show f_X11_row (nI b) 2 = some (nI (3 * b + 2)) from m_row, bd_some, gv_N (by omega) (by decide), nI_clamp (by omega), lt_eq]
theorem xb_5 {G P : Nat} {nr : Bool} {qr ln : Int64} {us : Nat → Int64} (p1 p2 p3 rx ry rz f1 f2 : Int64) (ub st : Int32) (h1 : ¬ ln ≤ 0) (h2 : ¬ (2 : Int64) * ln = 0) : f_X7_begin (nI 5) p1 p2 p3 rx ry rz ub st f1 f2 (nI G) (nI P) nr qr ln us = some ((us 2), (0 : Int64), ((p1 <<< ((nI G).toInt64 &&& 63)) - (nrs (p1 <<< ((nI G).toInt64 &&& 63)) ln).toInt64 * ln), 0, (nrs (p1 <<< ((nI G).toInt64 &&& 63)) ln), f1, f2) := by
  unfold f_X7_begin
  rw [lt_eq, lt_eq, lt_eq, gv_N (by decide : 5 < 9) (by decide), nI_clamp (by decide), show Int32.ofNat 5 = nI 5 from rfl, gv_N (by decide : 5 < 9) (by decide), nI_clamp (by decide)]
  rw [if_neg (by decide : ¬ swK 5 = 1), if_neg (by decide : ¬ swK 5 = 2), if_neg (by decide : ¬ swK 5 = 3), if_neg (by decide : ¬ swK 5 = 4), if_neg (by decide : ¬ swK 5 = 5), if_pos (by decide : swK 5 = 6)]
  rw [gv_in (show vp_in (2 : Int32) 3 from vp_in_nI (by decide : 2 < 3) (by decide)), show Int32.toNatClampNeg 2 = 2 from by decide]
  unfold f_X7_beginNear
  rw [x_nrs h1 h2, bd_some]
  rfl
theorem mb_5 {b G P : Nat} {gf pf uf : Nat → Int32} {nr : Nat → Bool} {qf lf : Nat → Int64} (hb : b < 2) (hg : gf b = nI G) (hp : pf b = nI P) (p1 p2 p3 mx my mz f1 f2 : Int64) (ma : Int32) (h2 : ¬ (2 : Int64) * lf b = 0) : f_X11_begins (nI b) (nI 5) p1 p2 p3 mx my mz f1 f2 ma gf pf uf nr qf lf = some ((uf (3 * b + 2)).toInt64, (0 : Int64), ((p1 <<< ((nI G).toInt64 &&& 63)) - (nrs (p1 <<< ((nI G).toInt64 &&& 63)) (lf b)).toInt64 * (lf b)), f1, f2, (nrs (p1 <<< ((nI G).toInt64 &&& 63)) (lf b))) := by
  unfold f_X11_begins
  rw [gv_N hb (by decide), nI_clamp (by omega), hg, hp, lt_eq, gv_N hb (by decide), lt_eq, gv_N hb (by decide), lt_eq]
  rw [if_neg (by decide : ¬ nI 5 = 0), if_neg (by decide : ¬ nI 5 = 1), if_neg (by decide : ¬ nI 5 = 2), if_neg (by decide : ¬ nI 5 = 3), if_neg (by decide : ¬ nI 5 = 4), if_pos (by decide : nI 5 = 5)]
  rw [gv_N hb (by decide), gv_N hb (by decide), j_fd h2, bd_some, show f_X11_row (nI b) 2 = some (nI (3 * b + 2)) from m_row, bd_some, gv_N (by omega) (by decide), nI_clamp (by omega), lt_eq, gv_N hb (by decide), lt_eq]
  rfl
theorem xb_8 {G P : Nat} {nr : Bool} {qr ln : Int64} {us : Nat → Int64} (p1 p2 p3 rx ry rz f1 f2 : Int64) (ub st : Int32) (h1 : ¬ qr ≤ 0) (h2 : ¬ (2 : Int64) * qr = 0) : f_X7_begin (nI 8) p1 p2 p3 rx ry rz ub st f1 f2 (nI G) (nI P) nr qr ln us = some ((trn (nrs (p3 <<< ((nI G).toInt64 &&& 63)) qr) (p1 <<< ((nI G).toInt64 &&& 63)) (p2 <<< ((nI G).toInt64 &&& 63))).1, (trn (nrs (p3 <<< ((nI G).toInt64 &&& 63)) qr) (p1 <<< ((nI G).toInt64 &&& 63)) (p2 <<< ((nI G).toInt64 &&& 63))).2, ((p3 <<< ((nI G).toInt64 &&& 63)) - (nrs (p3 <<< ((nI G).toInt64 &&& 63)) qr).toInt64 * qr), 0, (nrs (p3 <<< ((nI G).toInt64 &&& 63)) qr), (trn (nrs (p3 <<< ((nI G).toInt64 &&& 63)) qr) (p1 <<< ((nI G).toInt64 &&& 63)) (p2 <<< ((nI G).toInt64 &&& 63))).1, (trn (nrs (p3 <<< ((nI G).toInt64 &&& 63)) qr) (p1 <<< ((nI G).toInt64 &&& 63)) (p2 <<< ((nI G).toInt64 &&& 63))).2) := by
  unfold f_X7_begin
  rw [lt_eq, lt_eq, lt_eq, gv_N (by decide : 8 < 9) (by decide), nI_clamp (by decide), show Int32.ofNat 8 = nI 8 from rfl, gv_N (by decide : 8 < 9) (by decide), nI_clamp (by decide)]
  rw [if_neg (by decide : ¬ swK 8 = 1), if_neg (by decide : ¬ swK 8 = 2), if_neg (by decide : ¬ swK 8 = 3), if_neg (by decide : ¬ swK 8 = 4), if_neg (by decide : ¬ swK 8 = 5), if_neg (by decide : ¬ swK 8 = 6), if_pos (by decide : swK 8 = 7)]
  unfold f_X7_begin_b300 f_X7_beginTurn
  rw [x_nrs h1 h2, bd_some, x_trn, bd_some]
  rfl
theorem mb_8 {b G P : Nat} {gf pf uf : Nat → Int32} {nr : Nat → Bool} {qf lf : Nat → Int64} (hb : b < 2) (hg : gf b = nI G) (hp : pf b = nI P) (p1 p2 p3 mx my mz f1 f2 : Int64) (ma : Int32) (h2 : ¬ (2 : Int64) * qf b = 0) : f_X11_begins (nI b) (nI 8) p1 p2 p3 mx my mz f1 f2 ma gf pf uf nr qf lf = some ((trn (nrs (p3 <<< ((nI G).toInt64 &&& 63)) (qf b)) (p1 <<< ((nI G).toInt64 &&& 63)) (p2 <<< ((nI G).toInt64 &&& 63))).1, (trn (nrs (p3 <<< ((nI G).toInt64 &&& 63)) (qf b)) (p1 <<< ((nI G).toInt64 &&& 63)) (p2 <<< ((nI G).toInt64 &&& 63))).2, ((p3 <<< ((nI G).toInt64 &&& 63)) - (nrs (p3 <<< ((nI G).toInt64 &&& 63)) (qf b)).toInt64 * (qf b)), (trn (nrs (p3 <<< ((nI G).toInt64 &&& 63)) (qf b)) (p1 <<< ((nI G).toInt64 &&& 63)) (p2 <<< ((nI G).toInt64 &&& 63))).1, (trn (nrs (p3 <<< ((nI G).toInt64 &&& 63)) (qf b)) (p1 <<< ((nI G).toInt64 &&& 63)) (p2 <<< ((nI G).toInt64 &&& 63))).2, (nrs (p3 <<< ((nI G).toInt64 &&& 63)) (qf b))) := by
  unfold f_X11_begins
  rw [gv_N hb (by decide), nI_clamp (by omega), hg, hp, lt_eq, gv_N hb (by decide), lt_eq, gv_N hb (by decide), lt_eq]
  rw [if_neg (by decide : ¬ nI 8 = 0), if_neg (by decide : ¬ nI 8 = 1), if_neg (by decide : ¬ nI 8 = 2), if_neg (by decide : ¬ nI 8 = 3), if_neg (by decide : ¬ nI 8 = 4), if_neg (by decide : ¬ nI 8 = 5), if_neg (by decide : ¬ nI 8 = 6), if_neg (by decide : ¬ nI 8 = 7)]
  rw [gv_N hb (by decide), m_nrs hb h2, bd_some, m_trn, bd_some, gv_N hb (by decide), gv_N hb (by decide), lt_eq]
