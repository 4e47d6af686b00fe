/-! ===== pure part: what takes a gain out ===== -/
def tkP (P : Nat) (nr : Bool) (v : Int64) (j : Nat) : Int64 := if j ≤ P then sh nr v (nI (P - j)) else v <<< ((nI (j - P)).toInt64 &&& 63)
def tk (P : Nat) (nr : Bool) (dg : Nat → Int32) (v : Int64) : Nat → Int64 → Int64
  | 0, acc => acc
  | n + 1, acc => if dg (32 - (n + 1)) = 0 then tk P nr dg v n acc else tk P nr dg v n (acc + (dg (32 - (n + 1))).toInt64 * tkP P nr v (32 - (n + 1)))
theorem ir2 (a b : Nat) : nI a * 2 + nI b = nI (a * 2 + b) := by rw [show (2 : Int32) = nI 2 from rfl, nI_mul, nI_add]
theorem ri2 (a b : Nat) : 2 * nI a + nI b = nI (2 * a + b) := by rw [show (2 : Int32) = nI 2 from rfl, nI_mul, nI_add]
theorem ir3 (a b : Nat) : nI a * 3 + nI b = nI (a * 3 + b) := by rw [show (3 : Int32) = nI 3 from rfl, nI_mul, nI_add]
theorem ri3 (a b : Nat) : 3 * nI a + nI b = nI (3 * a + b) := by rw [show (3 : Int32) = nI 3 from rfl, nI_mul, nI_add]
theorem ir4 (a b : Nat) : nI a * 4 + nI b = nI (a * 4 + b) := by rw [show (4 : Int32) = nI 4 from rfl, nI_mul, nI_add]
theorem ri4 (a b : Nat) : 4 * nI a + nI b = nI (4 * a + b) := by rw [show (4 : Int32) = nI 4 from rfl, nI_mul, nI_add]
theorem ir7 (a b : Nat) : nI a * 7 + nI b = nI (a * 7 + b) := by rw [show (7 : Int32) = nI 7 from rfl, nI_mul, nI_add]
theorem ri7 (a b : Nat) : 7 * nI a + nI b = nI (7 * a + b) := by rw [show (7 : Int32) = nI 7 from rfl, nI_mul, nI_add]
theorem ir14 (a b : Nat) : nI a * 14 + nI b = nI (a * 14 + b) := by rw [show (14 : Int32) = nI 14 from rfl, nI_mul, nI_add]
theorem ri14 (a b : Nat) : 14 * nI a + nI b = nI (14 * a + b) := by rw [show (14 : Int32) = nI 14 from rfl, nI_mul, nI_add]
theorem ir24 (a b : Nat) : nI a * 24 + nI b = nI (a * 24 + b) := by rw [show (24 : Int32) = nI 24 from rfl, nI_mul, nI_add]
theorem ri24 (a b : Nat) : 24 * nI a + nI b = nI (24 * a + b) := by rw [show (24 : Int32) = nI 24 from rfl, nI_mul, nI_add]
theorem ir32 (a b : Nat) : nI a * 32 + nI b = nI (a * 32 + b) := by rw [show (32 : Int32) = nI 32 from rfl, nI_mul, nI_add]
theorem ri32 (a b : Nat) : 32 * nI a + nI b = nI (32 * a + b) := by rw [show (32 : Int32) = nI 32 from rfl, nI_mul, nI_add]
theorem ir75 (a b : Nat) : nI a * 75 + nI b = nI (a * 75 + b) := by rw [show (75 : Int32) = nI 75 from rfl, nI_mul, nI_add]
theorem ri75 (a b : Nat) : 75 * nI a + nI b = nI (75 * a + b) := by rw [show (75 : Int32) = nI 75 from rfl, nI_mul, nI_add]
theorem ng2 {j : Nat} (h : j < 2) : ¬ (2 : Int32) ≤ nI j := nI_ge (a := j) (b := 2) h (by decide)
theorem ge2 {j : Nat} (h : 2 ≤ j) (hj : j < 2 ^ 31) : (2 : Int32) ≤ nI j := nI_le (a := 2) (b := j) h hj
theorem ng3 {j : Nat} (h : j < 3) : ¬ (3 : Int32) ≤ nI j := nI_ge (a := j) (b := 3) h (by decide)
theorem ge3 {j : Nat} (h : 3 ≤ j) (hj : j < 2 ^ 31) : (3 : Int32) ≤ nI j := nI_le (a := 3) (b := j) h hj
theorem ng4 {j : Nat} (h : j < 4) : ¬ (4 : Int32) ≤ nI j := nI_ge (a := j) (b := 4) h (by decide)
theorem ge4 {j : Nat} (h : 4 ≤ j) (hj : j < 2 ^ 31) : (4 : Int32) ≤ nI j := nI_le (a := 4) (b := j) h hj
theorem ng5 {j : Nat} (h : j < 5) : ¬ (5 : Int32) ≤ nI j := nI_ge (a := j) (b := 5) h (by decide)
theorem ge5 {j : Nat} (h : 5 ≤ j) (hj : j < 2 ^ 31) : (5 : Int32) ≤ nI j := nI_le (a := 5) (b := j) h hj
theorem ng6 {j : Nat} (h : j < 6) : ¬ (6 : Int32) ≤ nI j := nI_ge (a := j) (b := 6) h (by decide)
theorem ge6 {j : Nat} (h : 6 ≤ j) (hj : j < 2 ^ 31) : (6 : Int32) ≤ nI j := nI_le (a := 6) (b := j) h hj
theorem ng7 {j : Nat} (h : j < 7) : ¬ (7 : Int32) ≤ nI j := nI_ge (a := j) (b := 7) h (by decide)
theorem ge7 {j : Nat} (h : 7 ≤ j) (hj : j < 2 ^ 31) : (7 : Int32) ≤ nI j := nI_le (a := 7) (b := j) h hj
theorem ng9 {j : Nat} (h : j < 9) : ¬ (9 : Int32) ≤ nI j := nI_ge (a := j) (b := 9) h (by decide)
theorem ge9 {j : Nat} (h : 9 ≤ j) (hj : j < 2 ^ 31) : (9 : Int32) ≤ nI j := nI_le (a := 9) (b := j) h hj
theorem ng14 {j : Nat} (h : j < 14) : ¬ (14 : Int32) ≤ nI j := nI_ge (a := j) (b := 14) h (by decide)
theorem ge14 {j : Nat} (h : 14 ≤ j) (hj : j < 2 ^ 31) : (14 : Int32) ≤ nI j := nI_le (a := 14) (b := j) h hj
theorem ng24 {j : Nat} (h : j < 24) : ¬ (24 : Int32) ≤ nI j := nI_ge (a := j) (b := 24) h (by decide)
theorem ge24 {j : Nat} (h : 24 ≤ j) (hj : j < 2 ^ 31) : (24 : Int32) ≤ nI j := nI_le (a := 24) (b := j) h hj
theorem ng32 {j : Nat} (h : j < 32) : ¬ (32 : Int32) ≤ nI j := nI_ge (a := j) (b := 32) h (by decide)
theorem ge32 {j : Nat} (h : 32 ≤ j) (hj : j < 2 ^ 31) : (32 : Int32) ≤ nI j := nI_le (a := 32) (b := j) h hj
theorem ng60 {j : Nat} (h : j < 60) : ¬ (60 : Int32) ≤ nI j := nI_ge (a := j) (b := 60) h (by decide)
theorem ge60 {j : Nat} (h : 60 ≤ j) (hj : j < 2 ^ 31) : (60 : Int32) ≤ nI j := nI_le (a := 60) (b := j) h hj
theorem ng100 {j : Nat} (h : j < 100) : ¬ (100 : Int32) ≤ nI j := nI_ge (a := j) (b := 100) h (by decide)
theorem ge100 {j : Nat} (h : 100 ≤ j) (hj : j < 2 ^ 31) : (100 : Int32) ≤ nI j := nI_le (a := 100) (b := j) h hj
theorem ng128 {j : Nat} (h : j < 128) : ¬ (128 : Int32) ≤ nI j := nI_ge (a := j) (b := 128) h (by decide)
theorem ge128 {j : Nat} (h : 128 ≤ j) (hj : j < 2 ^ 31) : (128 : Int32) ≤ nI j := nI_le (a := 128) (b := j) h hj
theorem ng180 {j : Nat} (h : j < 180) : ¬ (180 : Int32) ≤ nI j := nI_ge (a := j) (b := 180) h (by decide)
theorem ge180 {j : Nat} (h : 180 ≤ j) (hj : j < 2 ^ 31) : (180 : Int32) ≤ nI j := nI_le (a := 180) (b := j) h hj
theorem ng200 {j : Nat} (h : j < 200) : ¬ (200 : Int32) ≤ nI j := nI_ge (a := j) (b := 200) h (by decide)
theorem ge200 {j : Nat} (h : 200 ≤ j) (hj : j < 2 ^ 31) : (200 : Int32) ≤ nI j := nI_le (a := 200) (b := j) h hj
theorem ng400 {j : Nat} (h : j < 400) : ¬ (400 : Int32) ≤ nI j := nI_ge (a := j) (b := 400) h (by decide)
theorem ge400 {j : Nat} (h : 400 ≤ j) (hj : j < 2 ^ 31) : (400 : Int32) ≤ nI j := nI_le (a := 400) (b := j) h hj
theorem x_tkl {P mode : Nat} (hP : P < 100) (hm : mode < 3) (nr : Bool) (dg : Nat → Int32) (v : Int64) : ∀ (n j fuel : Nat) (acc : Int64), n + j = 32 → n < fuel → f_X8_withoutGain_l6 (nI P) nr dg fuel (nI mode) v acc (nI j) = some (tk P nr (fun i => dg (mode * 32 + i)) v n acc) := by
  intro n
  induction n with
  | zero =>
    intro j fuel acc hj hf
    obtain ⟨f, rfl⟩ : ∃ f, fuel = f + 1 := ⟨fuel - 1, by omega⟩
    have : j = 32 := by omega
    subst this
    rw [f_X8_withoutGain_l6, if_pos (by decide : (32 : Int32) ≤ nI 32)]
    rfl
  | succ n ih =>
    intro j fuel acc hj hf
    obtain ⟨f, rfl⟩ : ∃ f, fuel = f + 1 := ⟨fuel - 1, by omega⟩
    have hjj : 32 - (n + 1) = j := by omega
    rw [f_X8_withoutGain_l6, if_neg (ng32 (by omega)), ir32, gv_N (by omega) (by decide), nI_clamp (by omega), lt_eq]
    rw [tk]
    rw [hjj]
    by_cases hd : dg (mode * 32 + j) = 0
    · rw [if_pos hd, if_pos hd]
      unfold f_X8_withoutGain_b74
      rw [lt_eq, nI_1]
      exact ih (j + 1) f acc (by omega) (by omega)
    · rw [if_neg hd, if_neg hd]
      by_cases hl : j ≤ P
      · rw [if_pos (nI_le hl (by omega)), x_shifted, bd_some]
        unfold f_X8_withoutGain_b70 f_X8_withoutGain_b74
        rw [lt_eq, lt_eq, nI_1, pk_sub hl, ih (j + 1) f _ (by omega) (by omega)]
        unfold tkP
        rw [if_pos hl]
      · rw [if_neg (nI_ge (by omega) (by omega))]
        unfold f_X8_withoutGain_b70 f_X8_withoutGain_b74
        rw [lt_eq, lt_eq, nI_1, pk_sub (by omega), ih (j + 1) f _ (by omega) (by omega)]
        unfold tkP
        rw [if_neg hl]
theorem x_take {P mode : Nat} (hP : P < 100) (hm : mode < 3) (nr : Bool) (dg : Nat → Int32) (v : Int64) : f_X8_withoutGain (nI mode) v (nI P) nr dg = some (tk P nr (fun i => dg (mode * 32 + i)) v 32 0) :=
  x_tkl hP hm nr dg v 32 0 FU 0 rfl (by decide)
theorem m_row {b mode : Nat} : f_X11_row (nI b) (nI mode) = some (nI (3 * b + mode)) := by
  unfold f_X11_row
  rw [ri3]
theorem d_one (p : Int64) : (1 : Int32).toInt64 * p = p := by
  have h : (1 : Int32).toInt64 = 1 := by decide
  rw [h]
  simp
theorem d_neg (p : Int64) : (-1 : Int32).toInt64 * p = -p := by
  have h : (-1 : Int32).toInt64 = -1 := by decide
  rw [h, Int64.neg_mul, Int64.one_mul]
theorem m_tkl {b mode : Nat} (hb : b < 2) (hm : mode < 3) (pt : Nat → Int32) {P : Nat} (hP : P < 100) (hpt : pt b = nI P) (nr : Nat → Bool) (dg : Nat → Int32) (hdg : ∀ j, j < 32 → dg (32 * (3 * b + mode) + j) = 0 ∨ dg (32 * (3 * b + mode) + j) = 1 ∨ dg (32 * (3 * b + mode) + j) = -1) (v : Int64) : ∀ (n j fuel : Nat) (acc : Int64), n + j = 32 → n < fuel → f_X11_takenOut_l6 pt nr dg fuel (nI b) (nI mode) v acc (nI j) = some (tk P (nr b) (fun i => dg (32 * (3 * b + mode) + i)) v n acc) := by
  intro n
  induction n with
  | zero =>
    intro j fuel acc hj hf
    obtain ⟨f, rfl⟩ : ∃ f, fuel = f + 1 := ⟨fuel - 1, by omega⟩
    have : j = 32 := by omega
    subst this
    rw [f_X11_takenOut_l6, if_pos (by decide : (32 : Int32) ≤ nI 32)]
    rfl
  | succ n ih =>
    intro j fuel acc hj hf
    obtain ⟨f, rfl⟩ : ∃ f, fuel = f + 1 := ⟨fuel - 1, by omega⟩
    have hjj : 32 - (n + 1) = j := by omega
    rw [f_X11_takenOut_l6, if_neg (ng32 (by omega)), m_row, bd_some, ri32, gv_N (by omega) (by decide), nI_clamp (by omega), lt_eq]
    rw [tk]
    rw [hjj]
    by_cases hd : dg (32 * (3 * b + mode) + j) = 0
    · rw [if_pos hd, if_pos hd]
      unfold f_X11_takenOut_b100
      rw [lt_eq, nI_1]
      exact ih (j + 1) f acc (by omega) (by omega)
    · rw [if_neg hd, if_neg hd, gv_N hb (by decide), nI_clamp (by omega), hpt]
      have key : ∀ q : Int64, f_X11_takenOut_b80 pt nr dg (f_X11_takenOut_l6 pt nr dg f) (nI b) (nI mode) v acc (nI j) (dg (32 * (3 * b + mode) + j)) q = some (tk P (nr b) (fun i => dg (32 * (3 * b + mode) + i)) v n (acc + (dg (32 * (3 * b + mode) + j)).toInt64 * q)) := by
        intro q
        unfold f_X11_takenOut_b80 f_X11_takenOut_b100
        rw [lt_eq, lt_eq, lt_eq, nI_1, ih (j + 1) f _ (by omega) (by omega)]
        rcases hdg j (by omega) with h | h | h
        · exact absurd h hd
        · rw [h, if_neg (by decide), d_one]
        · rw [h, if_pos (by decide), d_neg]
      by_cases hl : j ≤ P
      · rw [if_pos (nI_le hl (by omega)), gv_N hb (by decide), pk_sub hl, m_shifted hb v (by omega) nr, bd_some, key]
        unfold tkP
        rw [if_pos hl]
      · rw [if_neg (nI_ge (by omega) (by omega)), gv_N hb (by decide), pk_sub (by omega), key]
        unfold tkP
        rw [if_neg hl]
theorem m_take {b mode : Nat} (hb : b < 2) (hm : mode < 3) (pt : Nat → Int32) {P : Nat} (hP : P < 100) (hpt : pt b = nI P) (nr : Nat → Bool) (dg : Nat → Int32) (hdg : ∀ j, j < 32 → dg (32 * (3 * b + mode) + j) = 0 ∨ dg (32 * (3 * b + mode) + j) = 1 ∨ dg (32 * (3 * b + mode) + j) = -1) (v : Int64) : f_X11_takenOut (nI b) (nI mode) v pt nr dg = some (tk P (nr b) (fun i => dg (32 * (3 * b + mode) + i)) v 32 0) :=
  m_tkl hb hm pt hP hpt nr dg hdg v 32 0 FU 0 rfl (by decide)
