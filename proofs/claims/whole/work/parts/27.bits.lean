/-! ===== pure part: how many bits ===== -/
theorem shr_toInt {a : Int64} {s : Nat} (hs : s < 64) : (a >>> ((nI s).toInt64 &&& 63)).toInt = a.toInt / 2 ^ s := by
  show (a >>> ((nI s).toInt64 &&& 63)).toBitVec.toInt = a.toBitVec.toInt / 2 ^ s
  rw [Int64.toBitVec_shiftRight, sh_amt s hs, BitVec.toInt_sshiftRight', BitVec.toNat_ofNat, Nat.mod_eq_of_lt (by omega), Int.shiftRight_eq_div_pow]
  rw [Int.natCast_pow]
  rfl
def w1 (n : Nat) : Nat := n / 2
def w2 (n : Nat) : Nat := if n < 4 then w1 n else 2 + w1 (n / 4)
def w3 (n : Nat) : Nat := if n < 16 then w2 n else 4 + w2 (n / 16)
def w4 (n : Nat) : Nat := if n < 256 then w3 n else 8 + w3 (n / 256)
def w5 (n : Nat) : Nat := if n < 65536 then w4 n else 16 + w4 (n / 65536)
theorem w3_is : ∀ n, n < 256 → 0 < n → 2 ^ w3 n ≤ n ∧ n < 2 ^ (w3 n + 1) ∧ w3 n < 8 := by decide +kernel
theorem w4_is {n : Nat} (h : n < 65536) (h0 : 0 < n) : 2 ^ w4 n ≤ n ∧ n < 2 ^ (w4 n + 1) ∧ w4 n < 16 := by
  unfold w4
  split
  · rename_i h1
    have h2 := w3_is n h1 h0
    omega
  · rename_i h1
    have h2 := w3_is (n / 256) (by omega) (by omega)
    rw [show 8 + w3 (n / 256) + 1 = 8 + (w3 (n / 256) + 1) from by omega, Nat.pow_add, Nat.pow_add]
    omega
theorem w5_is {n : Nat} (h : n < 2 ^ 31) (h0 : 0 < n) : 2 ^ w5 n ≤ n ∧ n < 2 ^ (w5 n + 1) ∧ w5 n < 31 := by
  have key : 2 ^ w5 n ≤ n ∧ n < 2 ^ (w5 n + 1) := by
    unfold w5
    split
    · rename_i h1
      have h2 := w4_is h1 h0
      omega
    · rename_i h1
      have h2 := w4_is (n := n / 65536) (by omega) (by omega)
      rw [show 16 + w4 (n / 65536) + 1 = 16 + (w4 (n / 65536) + 1) from by omega, Nat.pow_add, Nat.pow_add]
      omega
  refine ⟨key.1, key.2, ?_⟩
  exact (Nat.pow_lt_pow_iff_right (by decide : 1 < 2)).1 (Nat.lt_of_le_of_lt key.1 h)
theorem c_m2 : ∀ c, c < 32 → 2 ≤ c → nI c + (-2) = nI (c - 2) := by decide +kernel
theorem c_m4 : ∀ c, c < 32 → 4 ≤ c → nI c + (-4) = nI (c - 4) := by decide +kernel
theorem c_m8 : ∀ c, c < 32 → 8 ≤ c → nI c + (-8) = nI (c - 8) := by decide +kernel
theorem c_d1 : ∀ c, c < 32 → ∀ n, n < 4 → 1 ≤ c → nI c - ((nI n).toUInt32 >>> ((1 : Int32).toUInt32 &&& Int32.toUInt32 31)).toInt32 = nI (c - n / 2) := by decide +kernel
theorem z73 {n c : Nat} (hn : n < 4) (hc : 1 ≤ c) (hc2 : c < 32) : f_J6_numberOfLeadingZeros_0f7a4_b73 (nI n) (nI c) = some (nI (c - w1 n)) := by
  unfold f_J6_numberOfLeadingZeros_0f7a4_b73
  rw [c_d1 c hc2 n hn hc]
  rfl
theorem z61 {n c : Nat} (hn : n < 16) (hc : 3 ≤ c) (hc2 : c < 32) : f_J6_numberOfLeadingZeros_0f7a4_b61 (nI n) (nI c) = some (nI (c - w2 n)) := by
  unfold f_J6_numberOfLeadingZeros_0f7a4_b61
  by_cases h : n < 4
  · rw [if_pos (show nI n < (4 : Int32) from nI_lt (b := 4) h (by decide)), z73 h (by omega) hc2]
    unfold w2
    rw [if_pos h]
  · rw [if_neg (show ¬ nI n < (4 : Int32) from nI_nlt (a := n) (b := 4) (by omega) (by omega)), lt_eq, lt_eq, c_m2 c hc2 (by omega), pk_ushrN (by omega) 2 2 (by decide), z73 (by omega) (by omega) (by omega)]
    unfold w2
    rw [if_neg h]
    exact congrArg (fun t => some (nI t)) (Nat.sub_sub c 2 (w1 (n / 4)))
theorem z48 {n c : Nat} (hn : n < 256) (hc : 7 ≤ c) (hc2 : c < 32) : f_J6_numberOfLeadingZeros_0f7a4_b48 (nI n) (nI c) = some (nI (c - w3 n)) := by
  unfold f_J6_numberOfLeadingZeros_0f7a4_b48
  by_cases h : n < 16
  · rw [if_pos (show nI n < (16 : Int32) from nI_lt (b := 16) h (by decide)), z61 h (by omega) hc2]
    unfold w3
    rw [if_pos h]
  · rw [if_neg (show ¬ nI n < (16 : Int32) from nI_nlt (a := n) (b := 16) (by omega) (by omega)), lt_eq, lt_eq, c_m4 c hc2 (by omega), pk_ushrN (by omega) 4 4 (by decide), z61 (by omega) (by omega) (by omega)]
    unfold w3
    rw [if_neg h]
    exact congrArg (fun t => some (nI t)) (Nat.sub_sub c 4 (w2 (n / 16)))
theorem z33 {n c : Nat} (hn : n < 65536) (hc : 15 ≤ c) (hc2 : c < 32) : f_J6_numberOfLeadingZeros_0f7a4_b33 (nI n) (nI c) = some (nI (c - w4 n)) := by
  unfold f_J6_numberOfLeadingZeros_0f7a4_b33
  by_cases h : n < 256
  · rw [if_pos (show nI n < (256 : Int32) from nI_lt (b := 256) h (by decide)), z48 h (by omega) hc2]
    unfold w4
    rw [if_pos h]
  · rw [if_neg (show ¬ nI n < (256 : Int32) from nI_nlt (a := n) (b := 256) (by omega) (by omega)), lt_eq, lt_eq, c_m8 c hc2 (by omega), pk_ushrN (by omega) 8 8 (by decide), z48 (by omega) (by omega) (by omega)]
    unfold w4
    rw [if_neg h]
    exact congrArg (fun t => some (nI t)) (Nat.sub_sub c 8 (w3 (n / 256)))
theorem z_nlz {n : Nat} (h : n < 2 ^ 31) (h0 : 0 < n) : f_J6_numberOfLeadingZeros_0f7a4 (nI n) = some (nI (31 - w5 n)) := by
  unfold f_J6_numberOfLeadingZeros_0f7a4
  rw [if_pos (show (0 : Int32) < nI n from nI_lt (a := 0) h0 h)]
  by_cases h1 : n < 65536
  · rw [if_pos (show nI n < (65536 : Int32) from nI_lt (b := 65536) h1 (by decide)), show (31 : Int32) = nI 31 from rfl, z33 h1 (by decide) (by decide)]
    unfold w5
    rw [if_pos h1]
  · rw [if_neg (show ¬ nI n < (65536 : Int32) from nI_nlt (a := n) (b := 65536) (by omega) h), lt_eq, lt_eq, show (31 : Int32) + (-16) = nI 15 from by decide, pk_ushrN (by omega) 16 16 (by decide), z33 (by omega) (by decide) (by decide)]
    unfold w5
    rw [if_neg h1]
    exact congrArg (fun t => some (nI t)) (Nat.sub_sub 31 16 (w4 (n / 65536)))
/-! the power of a number up to 2 ^ 31, and its bits -/
def pwN (n : Nat) : Nat := if n = 2 ^ 31 then 31 else w5 n
theorem pwN_is {n : Nat} (h : n ≤ 2 ^ 31) (h0 : 0 < n) : 2 ^ pwN n ≤ n ∧ n < 2 ^ (pwN n + 1) ∧ pwN n ≤ 31 := by
  unfold pwN
  split
  · omega
  · have h2 := w5_is (n := n) (by omega) h0
    omega
theorem p_sub : ∀ r, r < 32 → (63 : Int32) - ((32 : Int32) + nI (31 - r)) = nI r := by decide +kernel
theorem us_32 {n : Nat} (h : n < 2 ^ 32) : ((lN n).toUInt64 >>> ((32 : Int32).toInt64.toUInt64 &&& Int64.toUInt64 63)).toInt64.toInt32 = 0 := by
  have e : ((lN n).toUInt64 >>> ((32 : Int32).toInt64.toUInt64 &&& Int64.toUInt64 63)) = 0 := by
    apply UInt64.toNat_inj.1
    rw [UInt64.toNat_shiftRight, show ((32 : Int32).toInt64.toUInt64 &&& Int64.toUInt64 63).toNat % 64 = 32 from by decide]
    have e2 : (lN n).toUInt64.toNat = n := by
      show (BitVec.ofNat 64 n).toNat = n
      rw [BitVec.toNat_ofNat]
      omega
    rw [e2, Nat.shiftRight_eq_div_pow]
    show n / 2 ^ 32 = 0
    omega
  rw [e]
  decide
theorem x_power {n : Nat} (h : n ≤ 2 ^ 31) (h0 : 0 < n) : f_X7_powerOf (lN n) = some (nI (pwN n)) := by
  unfold f_X7_powerOf f_J13_numberOfLeadingZeros_95d88
  rw [lt_eq, us_32 (by omega), if_pos rfl, lN_i]
  unfold pwN
  split
  · rename_i h1
    rw [h1]
    decide +kernel
  · rename_i h1
    have h2 := w5_is (n := n) (by omega) h0
    rw [z_nlz (by omega) h0, bd_some, bd_some, p_sub (w5 n) (by omega)]
theorem m_bitl {n p : Nat} (h : n < 2 ^ 62) (h1 : 2 ^ p ≤ n) (h2 : n < 2 ^ (p + 1)) (hp : p ≤ 60) {v : Int64} (hv : v.toInt = n) : ∀ (r s fuel : Nat), r + s = p + 1 → r < fuel → f_X11_bitsOf_l2 fuel v (nI s) = some (nI (p + 1))
  | 0, s, fuel => by
    intro e1 e2
    obtain ⟨f, rfl⟩ : ∃ f, fuel = f + 1 := ⟨fuel - 1, by omega⟩
    obtain rfl : s = p + 1 := by omega
    rw [f_X11_bitsOf_l2, if_pos]
    rw [Int64.le_iff_toInt_le, shr_toInt (by omega), hv]
    have h3 : n / 2 ^ (p + 1) = 0 := Nat.div_eq_of_lt h2
    have h4 : ((n : Int) / 2 ^ (p + 1)) = ((n / 2 ^ (p + 1) : Nat) : Int) := by
      rw [Int.natCast_ediv, Int.natCast_pow]
      rfl
    rw [h4, h3]
    decide
  | r + 1, s, fuel => by
    intro e1 e2
    obtain ⟨f, rfl⟩ : ∃ f, fuel = f + 1 := ⟨fuel - 1, by omega⟩
    rw [f_X11_bitsOf_l2, if_neg, lt_eq, show nI s + 1 = nI (s + 1) from nI_add s 1]
    · exact m_bitl h h1 h2 hp hv r (s + 1) f (by omega) (by omega)
    · rw [Int64.le_iff_toInt_le, shr_toInt (by omega), hv]
      have h3 : 0 < n / 2 ^ s := Nat.div_pos (Nat.le_trans (Nat.pow_le_pow_right (by decide) (by omega : s ≤ p)) h1) (Nat.pow_pos (by decide))
      have h4 : ((n : Int) / 2 ^ s) = ((n / 2 ^ s : Nat) : Int) := by
        rw [Int.natCast_ediv, Int.natCast_pow]
        rfl
      rw [h4, show (0 : Int64).toInt = 0 from by decide]
      omega
theorem m_bits {n : Nat} (h : n ≤ 2 ^ 31) (h0 : 0 < n) {v : Int64} (hv : v.toInt = n) : f_X11_bitsOf v = some (nI (pwN n + 1)) := by
  have h1 := pwN_is h h0
  exact m_bitl (by omega) h1.1 h1.2.1 (by omega) hv (pwN n + 1) 0 FU (by omega) (by unfold FU; omega)
