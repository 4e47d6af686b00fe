/-! ===== pure part: scaled and moved ===== -/
theorem sc_mv {b : Nat} (hb : b < 2) {st : Int32} (hst : -(2 ^ 31) < st.toInt) (nr : Nat → Bool) (v : Int64) : ∃ r, f_X8_scaled v st (nr b) = some r ∧ f_X11_moved (nI b) v (-st) nr = some r := by
  have hlt := Int32.toInt_lt st
  have en : (-st).toInt = -st.toInt := by
    rw [Int32.toInt_neg, Int.bmod_eq_of_le_mul_two] <;> omega
  have e0 : (0 : Int32).toInt = 0 := by decide
  unfold f_X8_scaled f_X11_moved
  by_cases h : st < 0
  · have h' := h
    rw [Int32.lt_iff_toInt_lt, e0] at h'
    have h2 : ¬ -st < 0 := by
      rw [Int32.lt_iff_toInt_lt, e0, en]
      omega
    have h3 : -st = nI (-st.toInt).toNat := by
      apply Int32.toInt_inj.1
      rw [en]
      show _ = (Int32.ofNat (-st.toInt).toNat).toInt
      rw [Int32.toInt_ofNat_of_lt (by omega)]
      omega
    rw [if_pos h, if_neg h2, x_shifted, bd_some, h3, m_shifted hb v (by omega) nr, bd_some]
    exact ⟨_, rfl, rfl⟩
  · have h' := h
    rw [Int32.lt_iff_toInt_lt, e0] at h'
    rw [if_neg h]
    by_cases h0 : st = 0
    · rw [h0, shl_0, show -(0 : Int32) = nI 0 from by decide, if_neg (by decide : ¬ nI 0 < 0), m_shifted hb v (by decide) nr, bd_some]
      exact ⟨_, rfl, congrArg some (sh_0 (nr b) v)⟩
    · have h4 : st.toInt ≠ 0 := fun h5 => h0 (Int32.toInt_inj.1 (by rw [h5, e0]))
      have h2 : -st < 0 := by
        rw [Int32.lt_iff_toInt_lt, e0, en]
        omega
      rw [if_pos h2, Int32.neg_neg]
      exact ⟨_, rfl, rfl⟩
theorem div_in {x y : Int64} (hx : -(2 ^ 30) ≤ x.toInt ∧ x.toInt ≤ 2 ^ 30) : -(2 ^ 30) ≤ (x / y).toInt ∧ (x / y).toInt ≤ 2 ^ 30 := by
  have h1 : (x.toInt.tdiv y.toInt).natAbs ≤ x.toInt.natAbs := Int.natAbs_tdiv_le_natAbs _ _
  rw [Int64.toInt_div, Int.bmod_eq_of_le_mul_two] <;> omega
theorem nrs_in {p q : Int64} (hp : -(2 ^ 28) ≤ p.toInt ∧ p.toInt ≤ 2 ^ 28) (hq : 0 ≤ q.toInt ∧ q.toInt ≤ 2 ^ 28) : -(2 ^ 31) < (nrs p q).toInt := by
  have e2 : (2 : Int64).toInt = 2 := by decide
  have e1 : ((2 : Int64) * p + q).toInt = 2 * p.toInt + q.toInt := by
    rw [Int64.toInt_add, Int64.toInt_mul, e2, Int.bmod_add_bmod, Int.bmod_eq_of_le_mul_two] <;> omega
  have h1 := div_in (x := (2 : Int64) * p + q) (y := (2 : Int64) * q) (by omega)
  have h2 : -(2 ^ 30) - 1 ≤ (fd ((2 : Int64) * p + q) ((2 : Int64) * q)).toInt ∧ (fd ((2 : Int64) * p + q) ((2 : Int64) * q)).toInt ≤ 2 ^ 30 := by
    unfold fd
    split
    · omega
    · split
      · omega
      · rw [Int64.toInt_sub, show (1 : Int64).toInt = 1 from by decide, Int.bmod_eq_of_le_mul_two] <;> omega
  unfold nrs
  rw [Int64.toInt_toInt32, Int.bmod_eq_of_le_mul_two] <;> omega
