/-! ===== pure part: one job from its beginning to its end, both sides ===== -/
def UR (b W G N : Nat) (mw gf pf sg uf sm dm : Nat → Int32) (nr : Nat → Bool) (qf lf am : Nat → Int64) (sx dx : Nat → Int32) (ax us : Nat → Int64) : Prop :=
  (b < 2 ∧ 2 ≤ W ∧ W ≤ 22 ∧ G ≤ 4 ∧ N ≤ 24) ∧ (mw b = nI W ∧ gf b = nI G ∧ pf b = nI (W + G) ∧ sg b = nI N) ∧ (∀ i, i < 3 → us i = (uf (3 * b + i)).toInt64) ∧ (0 < (qf b).toInt ∧ (qf b).toInt ≤ 2 ^ 28) ∧ (0 < (lf b).toInt ∧ (lf b).toInt ≤ 2 ^ 28) ∧
  (∀ m, m < 3 → ∀ s, s < 24 → ∃ kk, kk < 64 ∧ sm (24 * m + s) = nI kk ∧ sx (m * 24 + s) = nI kk) ∧ (∀ m, m < 3 → ∀ s, s < 24 → am (24 * (3 * b + m) + s) = ax (m * 24 + s)) ∧
  (∀ m, m < 3 → ∀ j, j < 32 → dm (32 * (3 * b + m) + j) = dx (m * 32 + j)) ∧ (∀ m, m < 3 → ∀ j, j < 32 → dm (32 * (3 * b + m) + j) = 0 ∨ dm (32 * (3 * b + m) + j) = 1 ∨ dm (32 * (3 * b + m) + j) = -1)
theorem pos_le {q : Int64} (h : 0 < q.toInt) : ¬ q ≤ 0 := by
  rw [Int64.le_iff_toInt_le, show (0 : Int64).toInt = 0 from by decide]
  omega
theorem pos_2 {q : Int64} (h : 0 < q.toInt ∧ q.toInt ≤ 2 ^ 28) : ¬ (2 : Int64) * q = 0 := by
  intro h1
  have h2 : ((2 : Int64) * q).toInt = 2 * q.toInt := by
    rw [Int64.toInt_mul, show (2 : Int64).toInt = 2 from by decide, Int.bmod_eq_of_le_mul_two] <;> omega
  rw [h1, show (0 : Int64).toInt = 0 from by decide] at h2
  omega
theorem hf_in : ∀ c, c < 32 → ∀ P, P < 27 → -(2 ^ 31) < (hf c P).toInt := by decide +kernel
theorem good_5 {b W : Nat} {mw : Nat → Int32} (hb : b < 2) (hw : mw b = nI W) {p q r : Int64} (h : f_X11_isGood (nI b) (nI 5) p q r mw = some true) : isT p (nI (W + 2)) = true := by
  unfold f_X11_isGood at h
  rw [gv_N hb (by decide), nI_clamp (by omega), lt_eq, hw, if_neg (by decide : ¬ nI 5 = 0), if_neg (by decide : ¬ nI 5 = 1), if_neg (by decide : ¬ nI 5 = 2), if_neg (by decide : ¬ nI 5 = 3), if_neg (by decide : ¬ nI 5 = 4), if_pos (by decide : nI 5 = 5), m_isTo, bd_some, show nI W + 2 = nI (W + 2) from nI_add W 2] at h
  exact Option.some.inj h
theorem bg_0 {b W G N : Nat} {mw gf pf sg uf sm dm : Nat → Int32} {nr : Nat → Bool} {qf lf am : Nat → Int64} {sx dx : Nat → Int32} {ax us : Nat → Int64} (U : UR b W G N mw gf pf sg uf sm dm nr qf lf am sx dx ax us) (p q r : Int64) (hgood : f_X11_isGood (nI b) (nI 0) p q r mw = some true) : ∃ w : Int64 × Int64 × Int64 × Int32, (∀ (rx ry rz f1 f2 : Int64) (ub st : Int32), f_X7_begin (nI 0) p q r rx ry rz ub st f1 f2 (nI G) (nI (W + G)) (nr b) (qf b) (lf b) us = some (w.1, w.2.1, w.2.2.1, 0, w.2.2.2, (if 0 = 8 then w.1 else f1), (if 0 = 8 then w.2.1 else f2))) ∧ (∀ (mx my mz f1 f2 : Int64) (ma : Int32), f_X11_begins (nI b) (nI 0) p q r mx my mz f1 f2 ma gf pf uf nr qf lf = some (w.1, w.2.1, w.2.2.1, (if 0 = 8 then w.1 else f1), (if 0 = 8 then w.2.1 else f2), w.2.2.2)) ∧ ((0 = 5 ∨ 0 = 7) → -(2 ^ 31) < w.2.2.2.toInt) := by
  obtain ⟨⟨hb, hW2, hW, hG, hN⟩, ⟨hw, hg, hp, hsg⟩, hu, hq, hl, _⟩ := U
  refine ⟨((us 0), (0 : Int64), ((p <<< ((nI G).toInt64 &&& 63)) - (nrs (p <<< ((nI G).toInt64 &&& 63)) (qf b)).toInt64 * (qf b)), (nrs (p <<< ((nI G).toInt64 &&& 63)) (qf b))), ?_, ?_, ?_⟩
  · intro rx ry rz f1 f2 ub st
    exact xb_0 p q r rx ry rz f1 f2 ub st (pos_le hq.1) (pos_2 hq)
  · intro mx my mz f1 f2 ma
    have h := mb_0 (uf := uf) (nr := nr) (qf := qf) (lf := lf) hb hg hp p q r mx my mz f1 f2 ma (pos_2 hq)
    rw [← hu 0 (by decide)] at h
    exact h
  · intro h
    omega
theorem bg_1 {b W G N : Nat} {mw gf pf sg uf sm dm : Nat → Int32} {nr : Nat → Bool} {qf lf am : Nat → Int64} {sx dx : Nat → Int32} {ax us : Nat → Int64} (U : UR b W G N mw gf pf sg uf sm dm nr qf lf am sx dx ax us) (p q r : Int64) (hgood : f_X11_isGood (nI b) (nI 1) p q r mw = some true) : ∃ w : Int64 × Int64 × Int64 × Int32, (∀ (rx ry rz f1 f2 : Int64) (ub st : Int32), f_X7_begin (nI 1) p q r rx ry rz ub st f1 f2 (nI G) (nI (W + G)) (nr b) (qf b) (lf b) us = some (w.1, w.2.1, w.2.2.1, 0, w.2.2.2, (if 1 = 8 then w.1 else f1), (if 1 = 8 then w.2.1 else f2))) ∧ (∀ (mx my mz f1 f2 : Int64) (ma : Int32), f_X11_begins (nI b) (nI 1) p q r mx my mz f1 f2 ma gf pf uf nr qf lf = some (w.1, w.2.1, w.2.2.1, (if 1 = 8 then w.1 else f1), (if 1 = 8 then w.2.1 else f2), w.2.2.2)) ∧ ((1 = 5 ∨ 1 = 7) → -(2 ^ 31) < w.2.2.2.toInt) := by
  obtain ⟨⟨hb, hW2, hW, hG, hN⟩, ⟨hw, hg, hp, hsg⟩, hu, hq, hl, _⟩ := U
  refine ⟨((if (p <<< ((nI G).toInt64 &&& 63)) < (0 : Int64) then -(p <<< ((nI G).toInt64 &&& 63)) else (p <<< ((nI G).toInt64 &&& 63))), (if (p <<< ((nI G).toInt64 &&& 63)) < (0 : Int64) then -(q <<< ((nI G).toInt64 &&& 63)) else (q <<< ((nI G).toInt64 &&& 63))), (if (p <<< ((nI G).toInt64 &&& 63)) < (0 : Int64) then (if (q <<< ((nI G).toInt64 &&& 63)) < (0 : Int64) then ((-2 : Int64) * (qf b)) else ((2 : Int64) * (qf b))) else (0 : Int64)), (0 : Int32)), ?_, ?_, ?_⟩
  · intro rx ry rz f1 f2 ub st
    exact xb_1 p q r rx ry rz f1 f2 ub st
  · intro mx my mz f1 f2 ma
    have h := mb_1 (uf := uf) (nr := nr) (qf := qf) (lf := lf) hb hg hp p q r mx my mz f1 f2 ma
    exact h
  · intro h
    omega
theorem bg_2 {b W G N : Nat} {mw gf pf sg uf sm dm : Nat → Int32} {nr : Nat → Bool} {qf lf am : Nat → Int64} {sx dx : Nat → Int32} {ax us : Nat → Int64} (U : UR b W G N mw gf pf sg uf sm dm nr qf lf am sx dx ax us) (p q r : Int64) (hgood : f_X11_isGood (nI b) (nI 2) p q r mw = some true) : ∃ w : Int64 × Int64 × Int64 × Int32, (∀ (rx ry rz f1 f2 : Int64) (ub st : Int32), f_X7_begin (nI 2) p q r rx ry rz ub st f1 f2 (nI G) (nI (W + G)) (nr b) (qf b) (lf b) us = some (w.1, w.2.1, w.2.2.1, 0, w.2.2.2, (if 2 = 8 then w.1 else f1), (if 2 = 8 then w.2.1 else f2))) ∧ (∀ (mx my mz f1 f2 : Int64) (ma : Int32), f_X11_begins (nI b) (nI 2) p q r mx my mz f1 f2 ma gf pf uf nr qf lf = some (w.1, w.2.1, w.2.2.1, (if 2 = 8 then w.1 else f1), (if 2 = 8 then w.2.1 else f2), w.2.2.2)) ∧ ((2 = 5 ∨ 2 = 7) → -(2 ^ 31) < w.2.2.2.toInt) := by
  obtain ⟨⟨hb, hW2, hW, hG, hN⟩, ⟨hw, hg, hp, hsg⟩, hu, hq, hl, _⟩ := U
  refine ⟨((p <<< ((nI G).toInt64 &&& 63)), (0 : Int64), (sh (nr b) (q <<< ((nI G).toInt64 &&& 63)) (nI (tmF (ab (q <<< ((nI G).toInt64 &&& 63))) (W + G) 4 0))), (nI (tmF (ab (q <<< ((nI G).toInt64 &&& 63))) (W + G) 4 0))), ?_, ?_, ?_⟩
  · intro rx ry rz f1 f2 ub st
    exact xb_2 p q r rx ry rz f1 f2 ub st
  · intro mx my mz f1 f2 ma
    have h := mb_2 (uf := uf) (nr := nr) (qf := qf) (lf := lf) hb hg hp p q r mx my mz f1 f2 ma (pre_2 hW hG (good_2 hb hw hgood).2)
    exact h
  · intro h
    omega
theorem bg_3 {b W G N : Nat} {mw gf pf sg uf sm dm : Nat → Int32} {nr : Nat → Bool} {qf lf am : Nat → Int64} {sx dx : Nat → Int32} {ax us : Nat → Int64} (U : UR b W G N mw gf pf sg uf sm dm nr qf lf am sx dx ax us) (p q r : Int64) (hgood : f_X11_isGood (nI b) (nI 3) p q r mw = some true) : ∃ w : Int64 × Int64 × Int64 × Int32, (∀ (rx ry rz f1 f2 : Int64) (ub st : Int32), f_X7_begin (nI 3) p q r rx ry rz ub st f1 f2 (nI G) (nI (W + G)) (nr b) (qf b) (lf b) us = some (w.1, w.2.1, w.2.2.1, 0, w.2.2.2, (if 3 = 8 then w.1 else f1), (if 3 = 8 then w.2.1 else f2))) ∧ (∀ (mx my mz f1 f2 : Int64) (ma : Int32), f_X11_begins (nI b) (nI 3) p q r mx my mz f1 f2 ma gf pf uf nr qf lf = some (w.1, w.2.1, w.2.2.1, (if 3 = 8 then w.1 else f1), (if 3 = 8 then w.2.1 else f2), w.2.2.2)) ∧ ((3 = 5 ∨ 3 = 7) → -(2 ^ 31) < w.2.2.2.toInt) := by
  obtain ⟨⟨hb, hW2, hW, hG, hN⟩, ⟨hw, hg, hp, hsg⟩, hu, hq, hl, _⟩ := U
  have g3 := good_3 hb hw hgood
  have g4 := pre_3 hW hG g3.1 g3.2.1 g3.2.2.2
  refine ⟨((ab (q <<< ((nI G).toInt64 &&& 63)) <<< ((nI (soF (ab (p <<< ((nI G).toInt64 &&& 63))) (ab (q <<< ((nI G).toInt64 &&& 63))) 7 0)).toInt64 &&& 63)), (if (0 : Int64) ≤ (q <<< ((nI G).toInt64 &&& 63)) then (p <<< ((nI G).toInt64 &&& 63)) else -(p <<< ((nI G).toInt64 &&& 63))), (0 : Int64), (nI (soF (ab (p <<< ((nI G).toInt64 &&& 63))) (ab (q <<< ((nI G).toInt64 &&& 63))) 7 0))), ?_, ?_, ?_⟩
  · intro rx ry rz f1 f2 ub st
    exact xb_3 p q r rx ry rz f1 f2 ub st
  · intro mx my mz f1 f2 ma
    have h := mb_3 (uf := uf) (nr := nr) (qf := qf) (lf := lf) hb hg hp p q r mx my mz f1 f2 ma g4.1 g4.2
    exact h
  · intro h
    omega
theorem bg_4 {b W G N : Nat} {mw gf pf sg uf sm dm : Nat → Int32} {nr : Nat → Bool} {qf lf am : Nat → Int64} {sx dx : Nat → Int32} {ax us : Nat → Int64} (U : UR b W G N mw gf pf sg uf sm dm nr qf lf am sx dx ax us) (p q r : Int64) (hgood : f_X11_isGood (nI b) (nI 4) p q r mw = some true) : ∃ w : Int64 × Int64 × Int64 × Int32, (∀ (rx ry rz f1 f2 : Int64) (ub st : Int32), f_X7_begin (nI 4) p q r rx ry rz ub st f1 f2 (nI G) (nI (W + G)) (nr b) (qf b) (lf b) us = some (w.1, w.2.1, w.2.2.1, 0, w.2.2.2, (if 4 = 8 then w.1 else f1), (if 4 = 8 then w.2.1 else f2))) ∧ (∀ (mx my mz f1 f2 : Int64) (ma : Int32), f_X11_begins (nI b) (nI 4) p q r mx my mz f1 f2 ma gf pf uf nr qf lf = some (w.1, w.2.1, w.2.2.1, (if 4 = 8 then w.1 else f1), (if 4 = 8 then w.2.1 else f2), w.2.2.2)) ∧ ((4 = 5 ∨ 4 = 7) → -(2 ^ 31) < w.2.2.2.toInt) := by
  obtain ⟨⟨hb, hW2, hW, hG, hN⟩, ⟨hw, hg, hp, hsg⟩, hu, hq, hl, _⟩ := U
  refine ⟨((us 2), (0 : Int64), (p <<< ((nI G).toInt64 &&& 63)), (0 : Int32)), ?_, ?_, ?_⟩
  · intro rx ry rz f1 f2 ub st
    exact xb_4 p q r rx ry rz f1 f2 ub st
  · intro mx my mz f1 f2 ma
    have h := mb_4 (uf := uf) (nr := nr) (qf := qf) (lf := lf) hb hg hp p q r mx my mz f1 f2 ma
    rw [← hu 2 (by decide)] at h
    exact h
  · intro h
    omega
theorem bg_5 {b W G N : Nat} {mw gf pf sg uf sm dm : Nat → Int32} {nr : Nat → Bool} {qf lf am : Nat → Int64} {sx dx : Nat → Int32} {ax us : Nat → Int64} (U : UR b W G N mw gf pf sg uf sm dm nr qf lf am sx dx ax us) (p q r : Int64) (hgood : f_X11_isGood (nI b) (nI 5) p q r mw = some true) : ∃ w : Int64 × Int64 × Int64 × Int32, (∀ (rx ry rz f1 f2 : Int64) (ub st : Int32), f_X7_begin (nI 5) p q r rx ry rz ub st f1 f2 (nI G) (nI (W + G)) (nr b) (qf b) (lf b) us = some (w.1, w.2.1, w.2.2.1, 0, w.2.2.2, (if 5 = 8 then w.1 else f1), (if 5 = 8 then w.2.1 else f2))) ∧ (∀ (mx my mz f1 f2 : Int64) (ma : Int32), f_X11_begins (nI b) (nI 5) p q r mx my mz f1 f2 ma gf pf uf nr qf lf = some (w.1, w.2.1, w.2.2.1, (if 5 = 8 then w.1 else f1), (if 5 = 8 then w.2.1 else f2), w.2.2.2)) ∧ ((5 = 5 ∨ 5 = 7) → -(2 ^ 31) < w.2.2.2.toInt) := by
  obtain ⟨⟨hb, hW2, hW, hG, hN⟩, ⟨hw, hg, hp, hsg⟩, hu, hq, hl, _⟩ := U
  have hs := shl_in (good_5 hb hw hgood) (by omega : W + 2 + G ≤ 60)
  have h28 := two_le (by omega : W + 2 + G ≤ 28)
  refine ⟨((us 2), (0 : Int64), ((p <<< ((nI G).toInt64 &&& 63)) - (nrs (p <<< ((nI G).toInt64 &&& 63)) (lf b)).toInt64 * (lf b)), (nrs (p <<< ((nI G).toInt64 &&& 63)) (lf b))), ?_, ?_, ?_⟩
  · intro rx ry rz f1 f2 ub st
    exact xb_5 p q r rx ry rz f1 f2 ub st (pos_le hl.1) (pos_2 hl)
  · intro mx my mz f1 f2 ma
    have h := mb_5 (uf := uf) (nr := nr) (qf := qf) (lf := lf) hb hg hp p q r mx my mz f1 f2 ma (pos_2 hl)
    rw [← hu 2 (by decide)] at h
    exact h
  · intro _
    exact nrs_in (by rw [hs.1]; omega) (by omega)
theorem bg_6 {b W G N : Nat} {mw gf pf sg uf sm dm : Nat → Int32} {nr : Nat → Bool} {qf lf am : Nat → Int64} {sx dx : Nat → Int32} {ax us : Nat → Int64} (U : UR b W G N mw gf pf sg uf sm dm nr qf lf am sx dx ax us) (p q r : Int64) (hgood : f_X11_isGood (nI b) (nI 6) p q r mw = some true) : ∃ w : Int64 × Int64 × Int64 × Int32, (∀ (rx ry rz f1 f2 : Int64) (ub st : Int32), f_X7_begin (nI 6) p q r rx ry rz ub st f1 f2 (nI G) (nI (W + G)) (nr b) (qf b) (lf b) us = some (w.1, w.2.1, w.2.2.1, 0, w.2.2.2, (if 6 = 8 then w.1 else f1), (if 6 = 8 then w.2.1 else f2))) ∧ (∀ (mx my mz f1 f2 : Int64) (ma : Int32), f_X11_begins (nI b) (nI 6) p q r mx my mz f1 f2 ma gf pf uf nr qf lf = some (w.1, w.2.1, w.2.2.1, (if 6 = 8 then w.1 else f1), (if 6 = 8 then w.2.1 else f2), w.2.2.2)) ∧ ((6 = 5 ∨ 6 = 7) → -(2 ^ 31) < w.2.2.2.toInt) := by
  obtain ⟨⟨hb, hW2, hW, hG, hN⟩, ⟨hw, hg, hp, hsg⟩, hu, hq, hl, _⟩ := U
  have g3 := good_6 hb hw hgood
  obtain ⟨n, hn, hi, h0, h1⟩ := pre_67 hW hG g3.1 g3.2
  refine ⟨((mvd (nr b) (lN n) (nI (pwN n + 1) - nI (W + G)) + ((1 : Int64) <<< ((nI (W + G)).toInt64 &&& 63))), (mvd (nr b) (lN n) (nI (pwN n + 1) - nI (W + G)) - ((1 : Int64) <<< ((nI (W + G)).toInt64 &&& 63))), (0 : Int64), (nI (pwN n + 1) - nI (W + G))), ?_, ?_, ?_⟩
  · intro rx ry rz f1 f2 ub st
    exact xb_6 p q r rx ry rz f1 f2 ub st hn h0 h1 (by omega) (by omega)
  · intro mx my mz f1 f2 ma
    have h := mb_6 (uf := uf) (nr := nr) (qf := qf) (lf := lf) hb hg hp p q r mx my mz f1 f2 ma hn hi h0 h1 (by omega) (by omega)
    exact h
  · intro h
    omega
theorem bg_7 {b W G N : Nat} {mw gf pf sg uf sm dm : Nat → Int32} {nr : Nat → Bool} {qf lf am : Nat → Int64} {sx dx : Nat → Int32} {ax us : Nat → Int64} (U : UR b W G N mw gf pf sg uf sm dm nr qf lf am sx dx ax us) (p q r : Int64) (hgood : f_X11_isGood (nI b) (nI 7) p q r mw = some true) : ∃ w : Int64 × Int64 × Int64 × Int32, (∀ (rx ry rz f1 f2 : Int64) (ub st : Int32), f_X7_begin (nI 7) p q r rx ry rz ub st f1 f2 (nI G) (nI (W + G)) (nr b) (qf b) (lf b) us = some (w.1, w.2.1, w.2.2.1, 0, w.2.2.2, (if 7 = 8 then w.1 else f1), (if 7 = 8 then w.2.1 else f2))) ∧ (∀ (mx my mz f1 f2 : Int64) (ma : Int32), f_X11_begins (nI b) (nI 7) p q r mx my mz f1 f2 ma gf pf uf nr qf lf = some (w.1, w.2.1, w.2.2.1, (if 7 = 8 then w.1 else f1), (if 7 = 8 then w.2.1 else f2), w.2.2.2)) ∧ ((7 = 5 ∨ 7 = 7) → -(2 ^ 31) < w.2.2.2.toInt) := by
  obtain ⟨⟨hb, hW2, hW, hG, hN⟩, ⟨hw, hg, hp, hsg⟩, hu, hq, hl, _⟩ := U
  have g3 := good_7 hb hw hgood
  obtain ⟨n, hn, hi, h0, h1⟩ := pre_67 hW hG g3.1 g3.2
  refine ⟨((hv (nr b) (lN n) (pwN n) (W + G) + ((1 : Int64) <<< ((nI (W + G) - 2).toInt64 &&& 63))), (hv (nr b) (lN n) (pwN n) (W + G) - ((1 : Int64) <<< ((nI (W + G) - 2).toInt64 &&& 63))), (0 : Int64), (hf (pwN n) (W + G))), ?_, ?_, ?_⟩
  · intro rx ry rz f1 f2 ub st
    exact xb_7 p q r rx ry rz f1 f2 ub st hn h0 h1 (by omega) (by omega)
  · intro mx my mz f1 f2 ma
    have h := mb_7 (uf := uf) (nr := nr) (qf := qf) (lf := lf) hb hg hp p q r mx my mz f1 f2 ma hn hi h0 h1 (by omega) (by omega)
    exact h
  · intro _
    exact hf_in (pwN n) (by have := (pwN_is h1 h0).2.2; omega) (W + G) (by omega)
theorem bg_8 {b W G N : Nat} {mw gf pf sg uf sm dm : Nat → Int32} {nr : Nat → Bool} {qf lf am : Nat → Int64} {sx dx : Nat → Int32} {ax us : Nat → Int64} (U : UR b W G N mw gf pf sg uf sm dm nr qf lf am sx dx ax us) (p q r : Int64) (hgood : f_X11_isGood (nI b) (nI 8) p q r mw = some true) : ∃ w : Int64 × Int64 × Int64 × Int32, (∀ (rx ry rz f1 f2 : Int64) (ub st : Int32), f_X7_begin (nI 8) p q r rx ry rz ub st f1 f2 (nI G) (nI (W + G)) (nr b) (qf b) (lf b) us = some (w.1, w.2.1, w.2.2.1, 0, w.2.2.2, (if 8 = 8 then w.1 else f1), (if 8 = 8 then w.2.1 else f2))) ∧ (∀ (mx my mz f1 f2 : Int64) (ma : Int32), f_X11_begins (nI b) (nI 8) p q r mx my mz f1 f2 ma gf pf uf nr qf lf = some (w.1, w.2.1, w.2.2.1, (if 8 = 8 then w.1 else f1), (if 8 = 8 then w.2.1 else f2), w.2.2.2)) ∧ ((8 = 5 ∨ 8 = 7) → -(2 ^ 31) < w.2.2.2.toInt) := by
  obtain ⟨⟨hb, hW2, hW, hG, hN⟩, ⟨hw, hg, hp, hsg⟩, hu, hq, hl, _⟩ := U
  refine ⟨((trn (nrs (r <<< ((nI G).toInt64 &&& 63)) (qf b)) (p <<< ((nI G).toInt64 &&& 63)) (q <<< ((nI G).toInt64 &&& 63))).1, (trn (nrs (r <<< ((nI G).toInt64 &&& 63)) (qf b)) (p <<< ((nI G).toInt64 &&& 63)) (q <<< ((nI G).toInt64 &&& 63))).2, ((r <<< ((nI G).toInt64 &&& 63)) - (nrs (r <<< ((nI G).toInt64 &&& 63)) (qf b)).toInt64 * (qf b)), (nrs (r <<< ((nI G).toInt64 &&& 63)) (qf b))), ?_, ?_, ?_⟩
  · intro rx ry rz f1 f2 ub st
    exact xb_8 p q r rx ry rz f1 f2 ub st (pos_le hq.1) (pos_2 hq)
  · intro mx my mz f1 f2 ma
    have h := mb_8 (uf := uf) (nr := nr) (qf := qf) (lf := lf) hb hg hp p q r mx my mz f1 f2 ma (pos_2 hq)
    exact h
  · intro h
    omega
theorem bg_same {b W G N k : Nat} {mw gf pf sg uf sm dm : Nat → Int32} {nr : Nat → Bool} {qf lf am : Nat → Int64} {sx dx : Nat → Int32} {ax us : Nat → Int64} (U : UR b W G N mw gf pf sg uf sm dm nr qf lf am sx dx ax us) (hk : k < 9) (p q r : Int64) (hgood : f_X11_isGood (nI b) (nI k) p q r mw = some true) : ∃ w : Int64 × Int64 × Int64 × Int32, (∀ (rx ry rz f1 f2 : Int64) (ub st : Int32), f_X7_begin (nI k) p q r rx ry rz ub st f1 f2 (nI G) (nI (W + G)) (nr b) (qf b) (lf b) us = some (w.1, w.2.1, w.2.2.1, 0, w.2.2.2, (if k = 8 then w.1 else f1), (if k = 8 then w.2.1 else f2))) ∧ (∀ (mx my mz f1 f2 : Int64) (ma : Int32), f_X11_begins (nI b) (nI k) p q r mx my mz f1 f2 ma gf pf uf nr qf lf = some (w.1, w.2.1, w.2.2.1, (if k = 8 then w.1 else f1), (if k = 8 then w.2.1 else f2), w.2.2.2)) ∧ ((k = 5 ∨ k = 7) → -(2 ^ 31) < w.2.2.2.toInt) := by
  rcases (show k = 0 ∨ k = 1 ∨ k = 2 ∨ k = 3 ∨ k = 4 ∨ k = 5 ∨ k = 6 ∨ k = 7 ∨ k = 8 by omega) with rfl | rfl | rfl | rfl | rfl | rfl | rfl | rfl | rfl
  · exact bg_0 U p q r hgood
  · exact bg_1 U p q r hgood
  · exact bg_2 U p q r hgood
  · exact bg_3 U p q r hgood
  · exact bg_4 U p q r hgood
  · exact bg_5 U p q r hgood
  · exact bg_6 U p q r hgood
  · exact bg_7 U p q r hgood
  · exact bg_8 U p q r hgood
