/-! ===== pure part: what a good job gives its beginning ===== -/
theorem g2_nn (m G : Nat) : (2 : Int) ^ (m + G) = 2 ^ m * 2 ^ G := Int.pow_add 2 m G
theorem two_le {a b : Nat} (h : a ≤ b) : (2 : Int) ^ a ≤ 2 ^ b := by exact_mod_cast Nat.pow_le_pow_right (by decide : 0 < 2) h
/-- a number within 2 ^ m, moved by G places -/
theorem shl_in {p : Int64} {m G : Nat} (h : isT p (nI m) = true) (hm : m + G ≤ 60) : (p <<< ((nI G).toInt64 &&& 63)).toInt = p.toInt * 2 ^ G ∧ -(2 ^ (m + G)) ≤ p.toInt * 2 ^ G ∧ p.toInt * 2 ^ G ≤ 2 ^ (m + G) := by
  have h1 := (isT_iff p (by omega)).1 h
  have hG : (0 : Int) < 2 ^ G := Int.pow_pos (by decide)
  have a1 : p.toInt * 2 ^ G ≤ 2 ^ m * 2 ^ G := Int.mul_le_mul_of_nonneg_right h1.2 (Int.le_of_lt hG)
  have a2 : -(2 ^ m) * 2 ^ G ≤ p.toInt * 2 ^ G := Int.mul_le_mul_of_nonneg_right h1.1 (Int.le_of_lt hG)
  rw [Int.neg_mul] at a2
  rw [g2_nn]
  have h6 := two_le hm
  rw [g2_nn] at h6
  have h7 : (2 : Int) ^ 60 < 2 ^ 63 := by decide
  exact ⟨shl_toInt (by omega) (by omega) (by omega), a2, a1⟩
theorem good_2 {b W : Nat} {mw : Nat → Int32} (hb : b < 2) (hw : mw b = nI W) {p q r : Int64} (h : f_X11_isGood (nI b) (nI 2) p q r mw = some true) : isT p (nI (W + 4)) = true ∧ isT q (nI (W + 4)) = true := by
  unfold f_X11_isGood at h
  rw [gv_N hb (by decide), nI_clamp (by omega), lt_eq, hw, if_neg (by decide : ¬ nI 2 = 0), if_neg (by decide : ¬ nI 2 = 1), if_pos (by decide : nI 2 = 2)] at h
  simp only [m_isTo, bd_some, lt_eq, f_X11_isGood_b134] at h
  rw [show nI W + 4 = nI (W + 4) from nI_add W 4] at h
  cases h1 : isT p (nI (W + 4))
  · simp [h1] at h
  · cases h2 : isT q (nI (W + 4))
    · simp [h1, h2] at h
    · exact ⟨rfl, rfl⟩
theorem pre_2 {W G : Nat} {q : Int64} (hW : W ≤ 22) (hG : G ≤ 4) (h : isT q (nI (W + 4)) = true) : ab (q <<< ((nI G).toInt64 &&& 63)) ≤ ((1 : Int64) <<< ((nI (W + G) + nI 4).toInt64 &&& 63)) := by
  have h1 := shl_in h (by omega : W + 4 + G ≤ 60)
  have h6 := two_le (by omega : W + 4 + G ≤ 30)
  have h7 : (2 : Int) ^ 30 < 2 ^ 62 := by decide
  rw [Int64.le_iff_toInt_le, ab_toInt _ (by omega), nI_add, one_shl (by omega), show W + G + 4 = W + 4 + G from by omega]
  omega
theorem good_3 {b W : Nat} {mw : Nat → Int32} (hb : b < 2) (hw : mw b = nI W) {p q r : Int64} (h : f_X11_isGood (nI b) (nI 3) p q r mw = some true) : isT p (nI (W + 4)) = true ∧ isT q (nI (W + 4)) = true ∧ ¬ q = 0 ∧ ¬ (ab q <<< ((nI 6).toInt64 &&& 63)) < ab p := by
  unfold f_X11_isGood at h
  rw [gv_N hb (by decide), nI_clamp (by omega), lt_eq, hw, if_neg (by decide : ¬ nI 3 = 0), if_neg (by decide : ¬ nI 3 = 1), if_neg (by decide : ¬ nI 3 = 2), if_pos (by decide : nI 3 = 3)] at h
  simp only [m_isTo, bd_some, lt_eq, j_abs, f_X11_isGood_b186] at h
  rw [show nI W + 4 = nI (W + 4) from nI_add W 4] at h
  cases h1 : isT p (nI (W + 4))
  · simp [h1] at h
  · cases h2 : isT q (nI (W + 4))
    · simp [h1, h2] at h
    · rw [h1, h2, if_pos rfl, if_pos rfl] at h
      by_cases h3 : q = 0
      · rw [if_pos h3] at h
        exact absurd (Option.some.inj h) (by decide)
      · rw [if_neg h3] at h
        by_cases h4 : (ab q <<< ((6 : Int32).toInt64 &&& 63)) < ab p
        · rw [if_pos h4] at h
          exact absurd (Option.some.inj h) (by decide)
        · exact ⟨rfl, rfl, h3, h4⟩
theorem pre_3 {W G : Nat} {p q : Int64} (hW : W ≤ 22) (hG : G ≤ 4) (h1 : isT p (nI (W + 4)) = true) (h2 : isT q (nI (W + 4)) = true) (h3 : ¬ (ab q <<< ((nI 6).toInt64 &&& 63)) < ab p) : soF (ab (p <<< ((nI G).toInt64 &&& 63))) (ab (q <<< ((nI G).toInt64 &&& 63))) 7 0 < 7 ∧ ab (-(p <<< ((nI G).toInt64 &&& 63))) = ab (p <<< ((nI G).toInt64 &&& 63)) := by
  have a1 := shl_in h1 (by omega : W + 4 + G ≤ 60)
  have a2 := shl_in h2 (by omega : W + 4 + G ≤ 60)
  have h6 := two_le (by omega : W + 4 + G ≤ 30)
  have h8 := two_le (by omega : W + 4 ≤ 26)
  have h7 : (2 : Int) ^ 30 < 2 ^ 50 := by decide
  have b1 := (isT_iff p (by omega)).1 h1
  have b2 := (isT_iff q (by omega)).1 h2
  refine ⟨?_, ab_neg (by omega) (by omega)⟩
  have c1 : (ab p).toInt = p.toInt.natAbs := ab_toInt p (by omega)
  have c2 : (ab q).toInt = q.toInt.natAbs := ab_toInt q (by omega)
  have c3 : (ab (p <<< ((nI G).toInt64 &&& 63))).toInt = (p.toInt * 2 ^ G).natAbs := by rw [ab_toInt _ (by omega), a1.1]
  have c4 : (ab (q <<< ((nI G).toInt64 &&& 63))).toInt = (q.toInt * 2 ^ G).natAbs := by rw [ab_toInt _ (by omega), a2.1]
  rw [Int64.lt_iff_toInt_lt, shl_toInt (by decide) (by omega) (by omega), c1, c2] at h3
  have hlow : ab (p <<< ((nI G).toInt64 &&& 63)) ≤ (ab (q <<< ((nI G).toInt64 &&& 63)) <<< ((nI 6).toInt64 &&& 63)) := by
    rw [Int64.le_iff_toInt_le, shl_toInt (by decide) (by omega) (by omega), c3, c4, Int.natAbs_mul, Int.natAbs_mul]
    have h9 : p.toInt.natAbs ≤ q.toInt.natAbs * 2 ^ 6 := by omega
    have h10 : p.toInt.natAbs * ((2 : Int) ^ G).natAbs ≤ q.toInt.natAbs * 2 ^ 6 * ((2 : Int) ^ G).natAbs := Nat.mul_le_mul_right _ h9
    have h11 : q.toInt.natAbs * 2 ^ 6 * ((2 : Int) ^ G).natAbs = q.toInt.natAbs * ((2 : Int) ^ G).natAbs * 2 ^ 6 := Nat.mul_right_comm _ _ _
    rw [h11] at h10
    omega
  have hq := soF_low (ab (p <<< ((nI G).toInt64 &&& 63))) (ab (q <<< ((nI G).toInt64 &&& 63))) 7 0 6 (by omega) (by omega) hlow
  omega
theorem good_6 {b W : Nat} {mw : Nat → Int32} (hb : b < 2) (hw : mw b = nI W) {p q r : Int64} (h : f_X11_isGood (nI b) (nI 6) p q r mw = some true) : isT p (nI (W + 5)) = true ∧ ¬ p ≤ 0 := by
  unfold f_X11_isGood at h
  rw [gv_N hb (by decide), nI_clamp (by omega), lt_eq, hw, if_neg (by decide : ¬ nI 6 = 0), if_neg (by decide : ¬ nI 6 = 1), if_neg (by decide : ¬ nI 6 = 2), if_neg (by decide : ¬ nI 6 = 3), if_neg (by decide : ¬ nI 6 = 4), if_neg (by decide : ¬ nI 6 = 5), if_pos (by decide : nI 6 = 6)] at h
  simp only [m_isTo, bd_some, lt_eq, f_X11_isGood_b204, f_X11_isGood_b225] at h
  rw [show nI W + 5 = nI (W + 5) from nI_add W 5] at h
  by_cases h3 : p ≤ 0
  · rw [if_pos h3] at h
    exact absurd (Option.some.inj h) (by decide)
  · rw [if_neg h3] at h
    cases h1 : isT p (nI (W + 5))
    · simp [h1] at h
    · exact ⟨rfl, h3⟩
theorem good_7 {b W : Nat} {mw : Nat → Int32} (hb : b < 2) (hw : mw b = nI W) {p q r : Int64} (h : f_X11_isGood (nI b) (nI 7) p q r mw = some true) : isT p (nI (W + 5)) = true ∧ ¬ p ≤ 0 := by
  unfold f_X11_isGood at h
  rw [gv_N hb (by decide), nI_clamp (by omega), lt_eq, hw, if_neg (by decide : ¬ nI 7 = 0), if_neg (by decide : ¬ nI 7 = 1), if_neg (by decide : ¬ nI 7 = 2), if_neg (by decide : ¬ nI 7 = 3), if_neg (by decide : ¬ nI 7 = 4), if_neg (by decide : ¬ nI 7 = 5), if_neg (by decide : ¬ nI 7 = 6), if_pos (by decide : nI 7 = 7)] at h
  simp only [m_isTo, bd_some, lt_eq, f_X11_isGood_b204, f_X11_isGood_b225] at h
  rw [show nI W + 5 = nI (W + 5) from nI_add W 5] at h
  by_cases h3 : p ≤ 0
  · rw [if_pos h3] at h
    exact absurd (Option.some.inj h) (by decide)
  · rw [if_neg h3] at h
    cases h1 : isT p (nI (W + 5))
    · simp [h1] at h
    · exact ⟨rfl, h3⟩
theorem pre_67 {W G : Nat} {p : Int64} (hW : W ≤ 22) (hG : G ≤ 4) (h1 : isT p (nI (W + 5)) = true) (h2 : ¬ p ≤ 0) : ∃ n : Nat, (p <<< ((nI G).toInt64 &&& 63)) = lN n ∧ (lN n).toInt = n ∧ 0 < n ∧ n ≤ 2 ^ 31 := by
  have a1 := shl_in h1 (by omega : W + 5 + G ≤ 60)
  have h6 := two_le (by omega : W + 5 + G ≤ 31)
  rw [Int64.le_iff_toInt_le, show (0 : Int64).toInt = 0 from by decide] at h2
  have hp : 0 < p.toInt * 2 ^ G := Int.mul_pos (by omega) (Int.pow_pos (by decide))
  have hn : ¬ (p <<< ((nI G).toInt64 &&& 63)) < 0 := by
    rw [Int64.lt_iff_toInt_lt, show (0 : Int64).toInt = 0 from by decide, a1.1]
    omega
  obtain ⟨n, hn1, hn2⟩ := pk_lOf hn
  have e : (lN n).toInt = n := Int64.toInt_ofNat_of_lt hn1
  have e3 : ((n : Nat) : Int) = p.toInt * 2 ^ G := by rw [← e, ← hn2, a1.1]
  exact ⟨n, hn2, e, by omega, by omega⟩
