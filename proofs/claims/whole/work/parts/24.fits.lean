/-! ===== pure part: what fits ===== -/
def isT (p : Int64) (q : Int32) : Bool := if p < (-((1 : Int64) <<< (q.toInt64 &&& 63))) then false else (if ((1 : Int64) <<< (q.toInt64 &&& 63)) < p then false else true)
theorem x_isTo (p : Int64) (q w : Int32) : f_X7_isTo p q w = some (isT p (w + q)) := rfl
theorem m_isTo (p : Int64) (q : Int32) : f_X11_isTo p q = some (isT p q) := rfl
def ab (v : Int64) : Int64 := if (0 : Int64) ≤ v then v else (-v)
theorem j_abs (v : Int64) : f_J9_abs_067f4 v = some (ab v) := rfl
def soF (A B : Int64) : Nat → Nat → Nat
  | 0, s => s
  | n + 1, s => if A ≤ (B <<< ((nI s).toInt64 &&& 63)) then s else soF A B n (s + 1)
theorem soF_le (A B : Int64) : ∀ n s, s ≤ soF A B n s ∧ soF A B n s ≤ s + n
  | 0, s => ⟨Nat.le_refl _, Nat.le_refl _⟩
  | n + 1, s => by
    have h := soF_le A B n (s + 1)
    unfold soF
    split
    · omega
    · omega
theorem soF_at (A B : Int64) : ∀ n s, soF A B n s < s + n → A ≤ (B <<< ((nI (soF A B n s)).toInt64 &&& 63))
  | 0, s => fun h => absurd h (by unfold soF; omega)
  | n + 1, s => by
    unfold soF
    split
    · rename_i h
      exact fun _ => h
    · exact fun h => soF_at A B n (s + 1) (by omega)
theorem soF_low (A B : Int64) : ∀ n s t, s ≤ t → t < s + n → A ≤ (B <<< ((nI t).toInt64 &&& 63)) → soF A B n s ≤ t
  | 0, s, t => fun h1 h2 _ => by omega
  | n + 1, s, t => by
    intro h1 h2 h3
    unfold soF
    split
    · exact h1
    · rename_i h
      rcases Nat.eq_or_lt_of_le h1 with rfl | h4
      · exact absurd h3 h
      · exact soF_low A B n (s + 1) t (by omega) (by omega) h3
theorem soF_s (A B : Int64) (n s : Nat) : soF A B (n + 1) s = if A ≤ (B <<< ((nI s).toInt64 &&& 63)) then s else soF A B n (s + 1) := rfl
theorem x_sol (a b : Int64) : ∀ (n s fuel : Nat), n + s = 7 → n < fuel → f_X7_stepsOver_l3 fuel a b (nI s) = some (nI (soF (ab a) (ab b) n s))
  | 0, s, fuel => by
    intro h1 h2
    obtain ⟨f, rfl⟩ : ∃ f, fuel = f + 1 := ⟨fuel - 1, by omega⟩
    rw [f_X7_stepsOver_l3, if_pos (ge7 (by omega) (by omega))]
    rfl
  | n + 1, s, fuel => by
    intro h1 h2
    obtain ⟨f, rfl⟩ : ∃ f, fuel = f + 1 := ⟨fuel - 1, by omega⟩
    rw [f_X7_stepsOver_l3, if_neg (ng7 (by omega)), j_abs, bd_some, j_abs, bd_some, lt_eq]
    rw [show nI s + 1 = nI (s + 1) from nI_add s 1, x_sol a b n (s + 1) f (by omega) (by omega), soF_s]
    split
    · rfl
    · rfl
theorem x_steps (a b : Int64) : f_X7_stepsOver a b = some (nI (soF (ab a) (ab b) 7 0)) := x_sol a b 7 0 FU (by decide) (by decide)
/-! shifts to the left, without overflow -/
theorem sh_amt : ∀ s, s < 64 → ((nI s).toInt64 &&& 63).toBitVec.smod 64 = BitVec.ofNat 64 s := by decide +kernel
theorem shl_toInt {a : Int64} {s : Nat} (hs : s < 64) (h1 : -(2 ^ 63) ≤ a.toInt * 2 ^ s) (h2 : a.toInt * 2 ^ s < 2 ^ 63) : (a <<< ((nI s).toInt64 &&& 63)).toInt = a.toInt * 2 ^ s := by
  show (a <<< ((nI s).toInt64 &&& 63)).toBitVec.toInt = a.toBitVec.toInt * 2 ^ s
  have h1' : -(2 ^ 63) ≤ a.toBitVec.toInt * 2 ^ s := h1
  have h2' : a.toBitVec.toInt * 2 ^ s < 2 ^ 63 := h2
  rw [Int64.toBitVec_shiftLeft, sh_amt s hs, BitVec.shiftLeft_eq', BitVec.toNat_ofNat, Nat.mod_eq_of_lt (by omega), BitVec.toInt_shiftLeft, Nat.shiftLeft_eq]
  have e : (((a.toBitVec.toNat * 2 ^ s : Nat) : Int)).bmod (2 ^ 64) = (a.toBitVec.toInt * 2 ^ s).bmod (2 ^ 64) := by
    rw [BitVec.toInt_eq_toNat_bmod, Int.bmod_mul_bmod, Int.natCast_mul, Int.natCast_pow]
    rfl
  rw [e, Int.bmod_eq_of_le_mul_two]
  · omega
  · omega

/-! the bounds that isT tells -/
theorem one_shl {s : Nat} (hs : s < 63) : ((1 : Int64) <<< ((nI s).toInt64 &&& 63)).toInt = 2 ^ s := by
  have hp : (2 : Int) ^ s < 2 ^ 63 := by exact_mod_cast Nat.pow_lt_pow_right (by decide : 1 < 2) hs
  have hz : (0 : Int) < 2 ^ s := Int.pow_pos (by decide)
  have e1 : (1 : Int64).toInt = 1 := by decide
  rw [shl_toInt (by omega) (by rw [e1]; omega) (by rw [e1]; omega), e1]
  omega
theorem isT_iff (p : Int64) {s : Nat} (hs : s < 63) : isT p (nI s) = true ↔ -(2 ^ s) ≤ p.toInt ∧ p.toInt ≤ 2 ^ s := by
  have hp : (2 : Int) ^ s < 2 ^ 63 := by exact_mod_cast Nat.pow_lt_pow_right (by decide : 1 < 2) hs
  have hz : (0 : Int) < 2 ^ s := Int.pow_pos (by decide)
  have e2 : (-((1 : Int64) <<< ((nI s).toInt64 &&& 63))).toInt = -(2 ^ s) := by
    rw [Int64.toInt_neg, one_shl hs, Int.bmod_eq_of_le_mul_two] <;> omega
  unfold isT
  split
  · rename_i h
    rw [Int64.lt_iff_toInt_lt, e2] at h
    simp
    omega
  · rename_i h
    rw [Int64.lt_iff_toInt_lt, e2] at h
    split
    · rename_i h3
      rw [Int64.lt_iff_toInt_lt, one_shl hs] at h3
      simp
      omega
    · rename_i h3
      rw [Int64.lt_iff_toInt_lt, one_shl hs] at h3
      simp
      omega
theorem ab_toInt (v : Int64) (h : -(2 ^ 62) ≤ v.toInt) : (ab v).toInt = v.toInt.natAbs := by
  have h2 := Int64.toInt_lt v
  unfold ab
  have e0 : (0 : Int64).toInt = 0 := by decide
  split
  · rename_i h3
    rw [Int64.le_iff_toInt_le, e0] at h3
    omega
  · rename_i h3
    rw [Int64.le_iff_toInt_le, e0] at h3
    rw [Int64.toInt_neg, Int.bmod_eq_of_le_mul_two] <;> omega
theorem over_same {a b : Int64} {s : Nat} (hs : s ≤ 26) (ha : isT a (nI s) = true) (hb : isT b (nI s) = true) :
    (if (6 : Int32) < nI (soF (ab a) (ab b) 7 0) then false else true) = (if (ab b <<< ((6 : Int32).toInt64 &&& 63)) < ab a then false else true) := by
  have hA := (isT_iff a (by omega)).1 ha
  have hB := (isT_iff b (by omega)).1 hb
  have hp : (2 : Int) ^ s ≤ 2 ^ 26 := by exact_mod_cast Nat.pow_le_pow_right (by decide : 0 < 2) hs
  have hle := (soF_le (ab a) (ab b) 7 0).2
  have eA := ab_toInt a (by omega)
  have eB := ab_toInt b (by omega)
  have hsh : ∀ t, t ≤ 6 → (ab b <<< ((nI t).toInt64 &&& 63)).toInt = (ab b).toInt * 2 ^ t := by
    intro t ht
    have ht2 : (2 : Int) ^ t ≤ 2 ^ 6 := by exact_mod_cast Nat.pow_le_pow_right (by decide : 0 < 2) ht
    have ht0 : (0 : Int) < 2 ^ t := Int.pow_pos (by decide)
    have hm : (ab b).toInt * 2 ^ t ≤ (ab b).toInt * 2 ^ 6 := Int.mul_le_mul_of_nonneg_left ht2 (by omega)
    have hn : 0 ≤ (ab b).toInt * 2 ^ t := Int.mul_nonneg (by omega) (by omega)
    exact shl_toInt (by omega) (by omega) (by omega)
  have h6 : (ab b <<< ((6 : Int32).toInt64 &&& 63)).toInt = (ab b).toInt * 2 ^ 6 := hsh 6 (by omega)
  by_cases h : soF (ab a) (ab b) 7 0 ≤ 6
  · have h1 := soF_at (ab a) (ab b) 7 0 (by omega)
    rw [Int64.le_iff_toInt_le, hsh _ h] at h1
    have ht2 : (2 : Int) ^ soF (ab a) (ab b) 7 0 ≤ 2 ^ 6 := by exact_mod_cast Nat.pow_le_pow_right (by decide : 0 < 2) h
    have hm : (ab b).toInt * 2 ^ soF (ab a) (ab b) 7 0 ≤ (ab b).toInt * 2 ^ 6 := Int.mul_le_mul_of_nonneg_left ht2 (by omega)
    rw [if_neg, if_neg]
    · rw [Int64.lt_iff_toInt_lt, h6]
      omega
    · exact nI_nlt (a := 6) (b := soF (ab a) (ab b) 7 0) h (by decide)
  · have h7 : soF (ab a) (ab b) 7 0 = 7 := by omega
    rw [h7, if_pos (by decide : (6 : Int32) < nI 7), if_pos]
    have h8 : ¬ ab a ≤ (ab b <<< ((nI 6).toInt64 &&& 63)) := fun h9 => h (soF_low (ab a) (ab b) 7 0 6 (by omega) (by omega) h9)
    rw [Int64.le_iff_toInt_le] at h8
    rw [Int64.lt_iff_toInt_lt]
    exact Int.not_le.1 h8

theorem fits_0 {b W : Nat} {mw : Nat → Int32} (hb : b < 2) (hW : W ≤ 22) (hw : mw b = nI W) (p q r : Int64) : f_X7_fits (nI 0) p q r (nI W) = f_X11_isGood (nI b) (nI 0) p q r mw := by
  unfold f_X7_fits f_X11_isGood
  rw [gv_N (by decide : 0 < 9) (by decide), nI_clamp (by decide), show Int32.ofNat 0 = nI 0 from rfl, gv_N (by decide : 0 < 9) (by decide), nI_clamp (by decide), gv_N hb (by decide), nI_clamp (by omega), lt_eq, hw]
  rw [if_pos (by decide : swK 0 = 1), if_pos (by decide : nI 0 = 0)]
  simp only [x_isTo, m_isTo, bd_some, lt_eq, f_X7_fits_b99, f_X7_fits_b124, f_X7_fits_b216, f_X7_fits_b237, f_X11_isGood_b105, f_X11_isGood_b134, f_X11_isGood_b225, f_X11_isGood_b266, f_X11_isGood_b204]
theorem fits_1 {b W : Nat} {mw : Nat → Int32} (hb : b < 2) (hW : W ≤ 22) (hw : mw b = nI W) (p q r : Int64) : f_X7_fits (nI 1) p q r (nI W) = f_X11_isGood (nI b) (nI 1) p q r mw := by
  unfold f_X7_fits f_X11_isGood
  rw [gv_N (by decide : 1 < 9) (by decide), nI_clamp (by decide), show Int32.ofNat 1 = nI 1 from rfl, gv_N (by decide : 1 < 9) (by decide), nI_clamp (by decide), gv_N hb (by decide), nI_clamp (by omega), lt_eq, hw]
  rw [if_neg (by decide : ¬ swK 1 = 1), if_pos (by decide : swK 1 = 2), if_neg (by decide : ¬ nI 1 = 0), if_pos (by decide : nI 1 = 1)]
  simp only [x_isTo, m_isTo, bd_some, lt_eq, f_X7_fits_b99, f_X7_fits_b124, f_X7_fits_b216, f_X7_fits_b237, f_X11_isGood_b105, f_X11_isGood_b134, f_X11_isGood_b225, f_X11_isGood_b266, f_X11_isGood_b204]
theorem fits_2 {b W : Nat} {mw : Nat → Int32} (hb : b < 2) (hW : W ≤ 22) (hw : mw b = nI W) (p q r : Int64) : f_X7_fits (nI 2) p q r (nI W) = f_X11_isGood (nI b) (nI 2) p q r mw := by
  unfold f_X7_fits f_X11_isGood
  rw [gv_N (by decide : 2 < 9) (by decide), nI_clamp (by decide), show Int32.ofNat 2 = nI 2 from rfl, gv_N (by decide : 2 < 9) (by decide), nI_clamp (by decide), gv_N hb (by decide), nI_clamp (by omega), lt_eq, hw]
  rw [if_neg (by decide : ¬ swK 2 = 1), if_neg (by decide : ¬ swK 2 = 2), if_pos (by decide : swK 2 = 3), if_neg (by decide : ¬ nI 2 = 0), if_neg (by decide : ¬ nI 2 = 1), if_pos (by decide : nI 2 = 2)]
  simp only [x_isTo, m_isTo, bd_some, lt_eq, f_X7_fits_b99, f_X7_fits_b124, f_X7_fits_b216, f_X7_fits_b237, f_X11_isGood_b105, f_X11_isGood_b134, f_X11_isGood_b225, f_X11_isGood_b266, f_X11_isGood_b204]
theorem fits_3 {b W : Nat} {mw : Nat → Int32} (hb : b < 2) (hW : W ≤ 22) (hw : mw b = nI W) (p q r : Int64) : f_X7_fits (nI 3) p q r (nI W) = f_X11_isGood (nI b) (nI 3) p q r mw := by
  unfold f_X7_fits f_X11_isGood
  rw [gv_N (by decide : 3 < 9) (by decide), nI_clamp (by decide), show Int32.ofNat 3 = nI 3 from rfl, gv_N (by decide : 3 < 9) (by decide), nI_clamp (by decide), gv_N hb (by decide), nI_clamp (by omega), lt_eq, hw]
  rw [if_neg (by decide : ¬ swK 3 = 1), if_neg (by decide : ¬ swK 3 = 2), if_neg (by decide : ¬ swK 3 = 3), if_pos (by decide : swK 3 = 4), if_neg (by decide : ¬ nI 3 = 0), if_neg (by decide : ¬ nI 3 = 1), if_neg (by decide : ¬ nI 3 = 2), if_pos (by decide : nI 3 = 3)]
  simp only [x_isTo, m_isTo, bd_some, lt_eq, x_steps, j_abs, f_X7_fits_b167, f_X11_isGood_b186]
  rw [show nI W + 4 = nI (W + 4) from nI_add W 4]
  cases ha : isT p (nI (W + 4))
  · simp only [Bool.false_eq_true, if_false]
  · cases hq : isT q (nI (W + 4))
    · simp only [Bool.false_eq_true, if_false]
    · have h9 := over_same (by omega) ha hq
      simp only [if_true, h9]
theorem fits_4 {b W : Nat} {mw : Nat → Int32} (hb : b < 2) (hW : W ≤ 22) (hw : mw b = nI W) (p q r : Int64) : f_X7_fits (nI 4) p q r (nI W) = f_X11_isGood (nI b) (nI 4) p q r mw := by
  unfold f_X7_fits f_X11_isGood
  rw [gv_N (by decide : 4 < 9) (by decide), nI_clamp (by decide), show Int32.ofNat 4 = nI 4 from rfl, gv_N (by decide : 4 < 9) (by decide), nI_clamp (by decide), gv_N hb (by decide), nI_clamp (by omega), lt_eq, hw]
  rw [if_neg (by decide : ¬ swK 4 = 1), if_neg (by decide : ¬ swK 4 = 2), if_neg (by decide : ¬ swK 4 = 3), if_neg (by decide : ¬ swK 4 = 4), if_pos (by decide : swK 4 = 5), if_neg (by decide : ¬ nI 4 = 0), if_neg (by decide : ¬ nI 4 = 1), if_neg (by decide : ¬ nI 4 = 2), if_neg (by decide : ¬ nI 4 = 3), if_pos (by decide : nI 4 = 4)]
  rw [x_isTo, m_isTo, Int32.add_zero]
theorem fits_5 {b W : Nat} {mw : Nat → Int32} (hb : b < 2) (hW : W ≤ 22) (hw : mw b = nI W) (p q r : Int64) : f_X7_fits (nI 5) p q r (nI W) = f_X11_isGood (nI b) (nI 5) p q r mw := by
  unfold f_X7_fits f_X11_isGood
  rw [gv_N (by decide : 5 < 9) (by decide), nI_clamp (by decide), show Int32.ofNat 5 = nI 5 from rfl, gv_N (by decide : 5 < 9) (by decide), nI_clamp (by decide), gv_N hb (by decide), nI_clamp (by omega), lt_eq, hw]
  rw [if_neg (by decide : ¬ swK 5 = 1), if_neg (by decide : ¬ swK 5 = 2), if_neg (by decide : ¬ swK 5 = 3), if_neg (by decide : ¬ swK 5 = 4), if_neg (by decide : ¬ swK 5 = 5), if_pos (by decide : swK 5 = 6), if_neg (by decide : ¬ nI 5 = 0), if_neg (by decide : ¬ nI 5 = 1), if_neg (by decide : ¬ nI 5 = 2), if_neg (by decide : ¬ nI 5 = 3), if_neg (by decide : ¬ nI 5 = 4), if_pos (by decide : nI 5 = 5)]
  simp only [x_isTo, m_isTo, bd_some, lt_eq, f_X7_fits_b99, f_X7_fits_b124, f_X7_fits_b216, f_X7_fits_b237, f_X11_isGood_b105, f_X11_isGood_b134, f_X11_isGood_b225, f_X11_isGood_b266, f_X11_isGood_b204]
theorem fits_6 {b W : Nat} {mw : Nat → Int32} (hb : b < 2) (hW : W ≤ 22) (hw : mw b = nI W) (p q r : Int64) : f_X7_fits (nI 6) p q r (nI W) = f_X11_isGood (nI b) (nI 6) p q r mw := by
  unfold f_X7_fits f_X11_isGood
  rw [gv_N (by decide : 6 < 9) (by decide), nI_clamp (by decide), show Int32.ofNat 6 = nI 6 from rfl, gv_N (by decide : 6 < 9) (by decide), nI_clamp (by decide), gv_N hb (by decide), nI_clamp (by omega), lt_eq, hw]
  rw [if_neg (by decide : ¬ swK 6 = 1), if_neg (by decide : ¬ swK 6 = 2), if_neg (by decide : ¬ swK 6 = 3), if_neg (by decide : ¬ swK 6 = 4), if_neg (by decide : ¬ swK 6 = 5), if_neg (by decide : ¬ swK 6 = 6), if_neg (by decide : ¬ swK 6 = 7), if_neg (by decide : ¬ nI 6 = 0), if_neg (by decide : ¬ nI 6 = 1), if_neg (by decide : ¬ nI 6 = 2), if_neg (by decide : ¬ nI 6 = 3), if_neg (by decide : ¬ nI 6 = 4), if_neg (by decide : ¬ nI 6 = 5), if_pos (by decide : nI 6 = 6)]
  simp only [x_isTo, m_isTo, bd_some, lt_eq, f_X7_fits_b99, f_X7_fits_b124, f_X7_fits_b216, f_X7_fits_b237, f_X11_isGood_b105, f_X11_isGood_b134, f_X11_isGood_b225, f_X11_isGood_b266, f_X11_isGood_b204]
theorem fits_7 {b W : Nat} {mw : Nat → Int32} (hb : b < 2) (hW : W ≤ 22) (hw : mw b = nI W) (p q r : Int64) : f_X7_fits (nI 7) p q r (nI W) = f_X11_isGood (nI b) (nI 7) p q r mw := by
  unfold f_X7_fits f_X11_isGood
  rw [gv_N (by decide : 7 < 9) (by decide), nI_clamp (by decide), show Int32.ofNat 7 = nI 7 from rfl, gv_N (by decide : 7 < 9) (by decide), nI_clamp (by decide), gv_N hb (by decide), nI_clamp (by omega), lt_eq, hw]
  rw [if_neg (by decide : ¬ swK 7 = 1), if_neg (by decide : ¬ swK 7 = 2), if_neg (by decide : ¬ swK 7 = 3), if_neg (by decide : ¬ swK 7 = 4), if_neg (by decide : ¬ swK 7 = 5), if_neg (by decide : ¬ swK 7 = 6), if_neg (by decide : ¬ swK 7 = 7), if_neg (by decide : ¬ nI 7 = 0), if_neg (by decide : ¬ nI 7 = 1), if_neg (by decide : ¬ nI 7 = 2), if_neg (by decide : ¬ nI 7 = 3), if_neg (by decide : ¬ nI 7 = 4), if_neg (by decide : ¬ nI 7 = 5), if_neg (by decide : ¬ nI 7 = 6), if_pos (by decide : nI 7 = 7)]
  simp only [x_isTo, m_isTo, bd_some, lt_eq, f_X7_fits_b99, f_X7_fits_b124, f_X7_fits_b216, f_X7_fits_b237, f_X11_isGood_b105, f_X11_isGood_b134, f_X11_isGood_b225, f_X11_isGood_b266, f_X11_isGood_b204]
theorem fits_8 {b W : Nat} {mw : Nat → Int32} (hb : b < 2) (hW : W ≤ 22) (hw : mw b = nI W) (p q r : Int64) : f_X7_fits (nI 8) p q r (nI W) = f_X11_isGood (nI b) (nI 8) p q r mw := by
  unfold f_X7_fits f_X11_isGood
  rw [gv_N (by decide : 8 < 9) (by decide), nI_clamp (by decide), show Int32.ofNat 8 = nI 8 from rfl, gv_N (by decide : 8 < 9) (by decide), nI_clamp (by decide), gv_N hb (by decide), nI_clamp (by omega), lt_eq, hw]
  rw [if_neg (by decide : ¬ swK 8 = 1), if_neg (by decide : ¬ swK 8 = 2), if_neg (by decide : ¬ swK 8 = 3), if_neg (by decide : ¬ swK 8 = 4), if_neg (by decide : ¬ swK 8 = 5), if_neg (by decide : ¬ swK 8 = 6), if_pos (by decide : swK 8 = 7), if_neg (by decide : ¬ nI 8 = 0), if_neg (by decide : ¬ nI 8 = 1), if_neg (by decide : ¬ nI 8 = 2), if_neg (by decide : ¬ nI 8 = 3), if_neg (by decide : ¬ nI 8 = 4), if_neg (by decide : ¬ nI 8 = 5), if_neg (by decide : ¬ nI 8 = 6), if_neg (by decide : ¬ nI 8 = 7)]
  simp only [x_isTo, m_isTo, bd_some, lt_eq, f_X7_fits_b99, f_X7_fits_b124, f_X7_fits_b216, f_X7_fits_b237, f_X11_isGood_b105, f_X11_isGood_b134, f_X11_isGood_b225, f_X11_isGood_b266, f_X11_isGood_b204]
theorem fits_same {b W k : Nat} {mw : Nat → Int32} (hb : b < 2) (hW : W ≤ 22) (hk : k < 9) (hw : mw b = nI W) (p q r : Int64) : f_X7_fits (nI k) p q r (nI W) = f_X11_isGood (nI b) (nI k) p q r mw := by
  rcases (show k = 0 ∨ k = 1 ∨ k = 2 ∨ k = 3 ∨ k = 4 ∨ k = 5 ∨ k = 6 ∨ k = 7 ∨ k = 8 by omega) with rfl | rfl | rfl | rfl | rfl | rfl | rfl | rfl | rfl
  · exact fits_0 hb hW hw p q r
  · exact fits_1 hb hW hw p q r
  · exact fits_2 hb hW hw p q r
  · exact fits_3 hb hW hw p q r
  · exact fits_4 hb hW hw p q r
  · exact fits_5 hb hW hw p q r
  · exact fits_6 hb hW hw p q r
  · exact fits_7 hb hW hw p q r
  · exact fits_8 hb hW hw p q r
