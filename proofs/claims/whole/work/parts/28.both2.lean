/-! ===== pure part: the last two beginnings ===== -/
def mvd (nr : Bool) (v : Int64) (s : Int32) : Int64 := if s < 0 then v <<< ((-s).toInt64 &&& 63) else sh nr v s
theorem sgn : ∀ c, c < 70 → ∀ P, P < 40 → nI c - nI P = if P ≤ c then nI (c - P) else -(nI (P - c)) := by decide +kernel
theorem sgp : ∀ m, m < 70 → 0 < m → -nI m < 0 ∧ -(-nI m) = nI m ∧ ¬ nI m < 0 := by decide +kernel
theorem m_moved {b c P : Nat} (hb : b < 2) (hc : c < 70) (hP : P < 40) (v : Int64) (nr : Nat → Bool) : f_X11_moved (nI b) v (nI c - nI P) nr = some (mvd (nr b) v (nI c - nI P)) := by
  unfold f_X11_moved mvd
  rw [sgn c hc P hP]
  by_cases h : P ≤ c
  · rw [if_pos h]
    have h0 : ¬ nI (c - P) < 0 := nI_nlt (a := c - P) (b := 0) (by omega) (by omega)
    rw [if_neg h0, if_neg h0, m_shifted hb v (by omega) nr, bd_some]
  · rw [if_neg h]
    have h1 := sgp (P - c) (by omega) (by omega)
    rw [if_pos h1.1, if_pos h1.1]
theorem x_scaled {c P : Nat} (hc : c < 70) (hP : P < 40) (v : Int64) (nr : Bool) : f_X8_scaled v (-(nI c - nI P)) nr = some (mvd nr v (nI c - nI P)) := by
  unfold f_X8_scaled mvd
  rw [sgn c hc P hP]
  by_cases h : P ≤ c
  · rw [if_pos h]
    have h0 : ¬ nI (c - P) < 0 := nI_nlt (a := c - P) (b := 0) (by omega) (by omega)
    rw [if_neg h0]
    rcases Nat.eq_zero_or_pos (c - P) with h2 | h2
    · rw [h2, if_neg (by decide : ¬ -nI 0 < 0), show -nI 0 = 0 from by decide, shl_0]
      exact congrArg some (sh_0 nr v).symm
    · have h1 := sgp (c - P) (by omega) h2
      rw [if_pos h1.1, h1.2.1, x_shifted, bd_some]
  · rw [if_neg h]
    have h1 := sgp (P - c) (by omega) (by omega)
    rw [if_pos h1.1, h1.2.1, if_neg h1.2.2]
theorem e6 : ∀ c, c < 32 → ∀ P, P < 27 → (nI c - nI P) + 1 = nI (c + 1) - nI P := by decide +kernel
def hf (c P : Nat) : Int32 := ((nI c - nI P) + (2 : Int32)) >>> ((1 : Int32) &&& 31)
theorem e7 : ∀ c, c < 32 → ∀ P, P < 27 → f_J9_floorDiv_7cf53 ((nI (c + 1) - nI P) + (1 : Int32)) 2 = some (hf c P) ∧ (2 : Int32) * hf c P = nI (2 * ((c + 34 - P) / 2)) - nI 32 ∧ (-2 : Int32) * hf c P = -(nI (2 * ((c + 34 - P) / 2)) - nI 32) := by decide +kernel
theorem e2 : ∀ P, P < 27 → 2 ≤ P → ((1 : Int64) <<< ((nI P).toInt64 &&& 63)) >>> ((2 : Int32).toInt64 &&& 63) = (1 : Int64) <<< ((nI P - 2).toInt64 &&& 63) := by decide +kernel
def hv (nr : Bool) (v : Int64) (c P : Nat) : Int64 := mvd nr v (nI (2 * ((c + 34 - P) / 2)) - nI 32)
theorem xb_6 {n G P : Nat} {nr : Bool} {qr ln : Int64} {us : Nat → Int64} (p1 p2 p3 rx ry rz f1 f2 : Int64) (ub st : Int32) (hn : (p1 <<< ((nI G).toInt64 &&& 63)) = lN n) (h0 : 0 < n) (h1 : n ≤ 2 ^ 31) (hP : P < 27) (hP2 : 2 ≤ P) : f_X7_begin (nI 6) p1 p2 p3 rx ry rz ub st f1 f2 (nI G) (nI P) nr qr ln us = some (mvd nr (lN n) (nI (pwN n + 1) - nI P) + ((1 : Int64) <<< ((nI P).toInt64 &&& 63)), mvd nr (lN n) (nI (pwN n + 1) - nI P) - ((1 : Int64) <<< ((nI P).toInt64 &&& 63)), 0, 0, (nI (pwN n + 1) - nI P), f1, f2) := by
  have hc := (pwN_is h1 h0).2.2
  unfold f_X7_begin
  rw [lt_eq, lt_eq, lt_eq, gv_N (by decide : 6 < 9) (by decide), nI_clamp (by decide), show Int32.ofNat 6 = nI 6 from rfl, gv_N (by decide : 6 < 9) (by decide), nI_clamp (by decide), hn]
  rw [if_neg (by decide : ¬ swK 6 = 1), if_neg (by decide : ¬ swK 6 = 2), if_neg (by decide : ¬ swK 6 = 3), if_neg (by decide : ¬ swK 6 = 4), if_neg (by decide : ¬ swK 6 = 5), if_neg (by decide : ¬ swK 6 = 6), if_neg (by decide : ¬ swK 6 = 7), if_pos (by decide : swK 6 = 8)]
  rw [x_power h1 h0, bd_some, lt_eq, e6 (pwN n) (by omega) P hP, x_scaled (by omega) (by omega), bd_some]
  rfl
theorem mb_6 {n b G P : Nat} {gf pf uf : Nat → Int32} {nr : Nat → Bool} {qf lf : Nat → Int64} (hb : b < 2) (hg : gf b = nI G) (hp : pf b = nI P) (p1 p2 p3 mx my mz f1 f2 : Int64) (ma : Int32) (hn : (p1 <<< ((nI G).toInt64 &&& 63)) = lN n) (hi : (lN n).toInt = n) (h0 : 0 < n) (h1 : n ≤ 2 ^ 31) (hP : P < 27) (hP2 : 2 ≤ P) : f_X11_begins (nI b) (nI 6) p1 p2 p3 mx my mz f1 f2 ma gf pf uf nr qf lf = some (mvd (nr b) (lN n) (nI (pwN n + 1) - nI P) + ((1 : Int64) <<< ((nI P).toInt64 &&& 63)), mvd (nr b) (lN n) (nI (pwN n + 1) - nI P) - ((1 : Int64) <<< ((nI P).toInt64 &&& 63)), 0, f1, f2, (nI (pwN n + 1) - nI P)) := by
  have hc := (pwN_is h1 h0).2.2
  unfold f_X11_begins
  rw [gv_N hb (by decide), nI_clamp (by omega), hg, hp, lt_eq, gv_N hb (by decide), lt_eq, gv_N hb (by decide), lt_eq, hn]
  rw [if_neg (by decide : ¬ nI 6 = 0), if_neg (by decide : ¬ nI 6 = 1), if_neg (by decide : ¬ nI 6 = 2), if_neg (by decide : ¬ nI 6 = 3), if_neg (by decide : ¬ nI 6 = 4), if_neg (by decide : ¬ nI 6 = 5), if_pos (by decide : nI 6 = 6)]
  rw [m_bits h1 h0 hi, bd_some, lt_eq, m_moved hb (by omega) (by omega), bd_some, lt_eq, bd_some, lt_eq]
theorem xb_7 {n G P : Nat} {nr : Bool} {qr ln : Int64} {us : Nat → Int64} (p1 p2 p3 rx ry rz f1 f2 : Int64) (ub st : Int32) (hn : (p1 <<< ((nI G).toInt64 &&& 63)) = lN n) (h0 : 0 < n) (h1 : n ≤ 2 ^ 31) (hP : P < 27) (hP2 : 2 ≤ P) : f_X7_begin (nI 7) p1 p2 p3 rx ry rz ub st f1 f2 (nI G) (nI P) nr qr ln us = some (hv nr (lN n) (pwN n) P + ((1 : Int64) <<< ((nI P - 2).toInt64 &&& 63)), hv nr (lN n) (pwN n) P - ((1 : Int64) <<< ((nI P - 2).toInt64 &&& 63)), 0, 0, (hf (pwN n) P), f1, f2) := by
  have hc := (pwN_is h1 h0).2.2
  unfold f_X7_begin
  rw [lt_eq, lt_eq, lt_eq, gv_N (by decide : 7 < 9) (by decide), nI_clamp (by decide), show Int32.ofNat 7 = nI 7 from rfl, gv_N (by decide : 7 < 9) (by decide), nI_clamp (by decide), hn]
  rw [if_neg (by decide : ¬ swK 7 = 1), if_neg (by decide : ¬ swK 7 = 2), if_neg (by decide : ¬ swK 7 = 3), if_neg (by decide : ¬ swK 7 = 4), if_neg (by decide : ¬ swK 7 = 5), if_neg (by decide : ¬ swK 7 = 6), if_neg (by decide : ¬ swK 7 = 7), if_neg (by decide : ¬ swK 7 = 8), if_pos (by decide : swK 7 = 9)]
  have h7 := e7 (pwN n) (by omega) P hP
  rw [x_power h1 h0, bd_some, lt_eq]
  rw [show ((nI (pwN n) - nI P) + (2 : Int32)) >>> ((1 : Int32) &&& 31) = hf (pwN n) P from rfl, h7.2.2, x_scaled (by omega) (by omega), bd_some, e2 P hP hP2]
  rfl
theorem mb_7 {n b G P : Nat} {gf pf uf : Nat → Int32} {nr : Nat → Bool} {qf lf : Nat → Int64} (hb : b < 2) (hg : gf b = nI G) (hp : pf b = nI P) (p1 p2 p3 mx my mz f1 f2 : Int64) (ma : Int32) (hn : (p1 <<< ((nI G).toInt64 &&& 63)) = lN n) (hi : (lN n).toInt = n) (h0 : 0 < n) (h1 : n ≤ 2 ^ 31) (hP : P < 27) (hP2 : 2 ≤ P) : f_X11_begins (nI b) (nI 7) p1 p2 p3 mx my mz f1 f2 ma gf pf uf nr qf lf = some (hv (nr b) (lN n) (pwN n) P + ((1 : Int64) <<< ((nI P - 2).toInt64 &&& 63)), hv (nr b) (lN n) (pwN n) P - ((1 : Int64) <<< ((nI P - 2).toInt64 &&& 63)), 0, f1, f2, (hf (pwN n) P)) := by
  have hc := (pwN_is h1 h0).2.2
  unfold f_X11_begins
  rw [gv_N hb (by decide), nI_clamp (by omega), hg, hp, lt_eq, gv_N hb (by decide), lt_eq, gv_N hb (by decide), lt_eq, hn]
  rw [if_neg (by decide : ¬ nI 7 = 0), if_neg (by decide : ¬ nI 7 = 1), if_neg (by decide : ¬ nI 7 = 2), if_neg (by decide : ¬ nI 7 = 3), if_neg (by decide : ¬ nI 7 = 4), if_neg (by decide : ¬ nI 7 = 5), if_neg (by decide : ¬ nI 7 = 6), if_pos (by decide : nI 7 = 7)]
  have h7 := e7 (pwN n) (by omega) P hP
  rw [m_bits h1 h0 hi, bd_some, h7.1, bd_some, h7.2.1, m_moved hb (by omega) (by omega), bd_some, lt_eq, bd_some, lt_eq]
  rfl
