/-! ===== pure part: what is asked of the tables ===== -/
def inB (n : Nat) (x : Int32) : Bool := decide (0 ≤ x.toInt ∧ x.toInt < n)
theorem inB_of {n : Nat} {x : Int32} (hn : n < 2 ^ 31) (h : inB n x = true) : ∃ j, j < n ∧ x = nI j := vp_in_of (vp_in_iff.2 (of_decide_eq_true h)) hn
theorem inB_n {n j : Nat} (h : j < n) (hn : n < 2 ^ 31) : inB n (nI j) = true := by
  refine decide_eq_true ?_
  rw [nI_toInt (by omega)]
  omega
theorem i0_lt (x : Int32) : x < 0 ↔ x.toInt < 0 := by
  rw [Int32.lt_iff_toInt_lt]
  exact Iff.rfl
theorem sel_lt {α : Type} {x m : Int32} {n : Nat} (hn : n < 2 ^ 31) (hm : m = nI n) (A B : α) : (if x < 0 then A else (if x < m then B else A)) = if inB n x = true then B else A := by
  have e : x < m ↔ x.toInt < n := by rw [Int32.lt_iff_toInt_lt, hm, nI_toInt hn]
  have e0 := i0_lt x
  by_cases h0 : x < 0
  · rw [if_pos h0, if_neg (fun h => by have := of_decide_eq_true h; have := e0.1 h0; omega)]
  · by_cases h1 : x < m
    · have hb : inB n x = true := decide_eq_true ⟨by have : ¬ x.toInt < 0 := fun h => h0 (e0.2 h); omega, e.1 h1⟩
      rw [if_neg h0, if_pos h1, if_pos hb]
    · rw [if_neg h0, if_neg h1, if_neg (fun h => h1 (e.2 (of_decide_eq_true h).2))]
theorem sel_le {α : Type} {x m : Int32} {n : Nat} (hn : n < 2 ^ 31) (hm : m = nI n) (A B : α) : (if x < 0 then A else (if m ≤ x then A else B)) = if inB n x = true then B else A := by
  have e : m ≤ x ↔ (n : Int) ≤ x.toInt := by rw [Int32.le_iff_toInt_le, hm, nI_toInt hn]
  have e0 := i0_lt x
  by_cases h0 : x < 0
  · rw [if_pos h0, if_neg (fun h => by have := of_decide_eq_true h; have := e0.1 h0; omega)]
  · by_cases h1 : m ≤ x
    · rw [if_neg h0, if_pos h1, if_neg (fun h => by have := of_decide_eq_true h; have := e.1 h1; omega)]
    · have hb : inB n x = true := decide_eq_true ⟨by have : ¬ x.toInt < 0 := fun h => h0 (e0.2 h); omega, by have : ¬ (n : Int) ≤ x.toInt := fun h => h1 (e.2 h); omega⟩
      rw [if_neg h0, if_neg h1, if_pos hb]
theorem itB (b : Bool) : (if b = true then true else false) = b := by cases b <;> rfl
theorem itN (b : Bool) : (if b = true then false else true) = !b := by cases b <;> rfl
theorem isin_b (x : Int32) (hi : Int64) {n : Nat} (h : hi.toInt = (n : Int) - 1) : f_X11_isIn x.toInt64 0 hi = some (inB n x) := by
  unfold f_X11_isIn
  rw [lt_eq]
  have e1 : x.toInt64 < 0 ↔ x.toInt < 0 := by
    rw [Int64.lt_iff_toInt_lt, Int32.toInt_toInt64]
    exact Iff.rfl
  have e2 : hi < x.toInt64 ↔ (n : Int) - 1 < x.toInt := by rw [Int64.lt_iff_toInt_lt, Int32.toInt_toInt64, h]
  by_cases h0 : x.toInt64 < 0
  · rw [if_pos h0]
    refine congrArg some (decide_eq_false (fun h => ?_)).symm
    have := e1.1 h0
    omega
  · have h3 : ¬ x.toInt < 0 := fun h => h0 (e1.2 h)
    by_cases h1 : hi < x.toInt64
    · rw [if_neg h0, if_pos h1]
      refine congrArg some (decide_eq_false (fun h => ?_)).symm
      have := e2.1 h1
      omega
    · rw [if_neg h0, if_neg h1]
      have h4 : ¬ (n : Int) - 1 < x.toInt := fun h => h1 (e2.2 h)
      exact congrArg some (decide_eq_true (by omega)).symm
theorem nI_m1 (J : Nat) (hJ : J < 2 ^ 30) : (nI J - 1).toInt64.toInt = (J : Int) - 1 := by
  rw [Int32.toInt_toInt64]
  exact pk_sub_toInt (a := J) (b := 1) hJ (by decide)
theorem inB_x {n : Nat} {x : Int32} (hn : n < 2 ^ 31) (h : ∀ j, j < n → ¬ x = nI j) : inB n x = false := by
  cases hb : inB n x with
  | false => rfl
  | true =>
    obtain ⟨j, h1, h2⟩ := inB_of hn hb
    exact absurd h2 (h j h1)
theorem x_isMode (p : Int32) : f_X10_isMode p true = some (inB 3 p) := by
  unfold f_X10_isMode
  rw [lt_eq, if_pos rfl, sel_le (m := 3) (n := 3) (by decide) rfl, itB]
theorem m_isMode (p : Int32) : f_X11_isMode p true = some (inB 3 p) := by
  unfold f_X11_isMode
  rw [if_pos rfl, isin_b (n := 3) p 2 (by decide), bd_some, lt_eq, itB]
theorem x_isKind (p : Int32) : f_X10_isKind p true = some (inB 9 p) := by
  unfold f_X10_isKind f_X10_isKind_b23
  rw [if_pos rfl, lt_eq]
  have h := sel_le (x := p) (m := 9) (n := 9) (by decide) rfl (some false) (some true)
  by_cases h0 : p < 0
  · rw [if_pos h0] at h ⊢
    rw [h]
    cases inB 9 p <;> rfl
  · rw [if_neg h0] at h ⊢
    by_cases h1 : (9 : Int32) ≤ p
    · rw [if_pos h1] at h ⊢
      rw [h]
      cases inB 9 p <;> rfl
    · rw [if_neg h1] at h ⊢
      rw [h]
      cases inB 9 p <;> rfl
theorem m_isKind (p : Int32) : f_X11_isKind p true = some (inB 9 p) := by
  unfold f_X11_isKind
  rw [if_pos rfl, isin_b (n := 9) p 8 (by decide), bd_some, lt_eq, itB]
theorem x_isJob {J : Nat} (hJ : J ≤ 60) (p : Int32) : f_X10_isJob p true (nI J) = some (inB J p) := by
  unfold f_X10_isJob
  rw [lt_eq, if_pos rfl, sel_le (n := J) (by omega) rfl, itB]
theorem m_isJob {J : Nat} (hJ : J ≤ 60) (p : Int32) : f_X11_isJob p true (nI J) = some (inB J p) := by
  unfold f_X11_isJob
  rw [if_pos rfl, isin_b (n := J) p _ (nI_m1 J (by omega)), bd_some, lt_eq, itB]
theorem x_isOp (p : Int32) : f_X10_isOperand p = some (inB 3 p) := by
  unfold f_X10_isOperand
  rw [lt_eq, sel_le (m := 3) (n := 3) (by decide) rfl, itB]
theorem x_isEi (p : Int32) : f_X10_isEither p = some (inB 2 p) := by
  unfold f_X10_isEither
  rw [lt_eq]
  by_cases h0 : p = 0
  · rw [if_pos h0, h0]
    rfl
  · by_cases h1 : p = 1
    · rw [if_neg h0, if_pos h1, h1]
      rfl
    · rw [if_neg h0, if_neg h1, inB_x (by decide) (fun j hj hp => by
        rcases (show j = 0 ∨ j = 1 by omega) with rfl | rfl
        · exact h0 hp
        · exact h1 hp)]
section AskSec
variable {W G N : Nat} {nr : Bool} {mw gf pf sg mg mu : Nat → Int32} {nf : Nat → Bool} {qf lf am : Nat → Int64} {sm dm : Nat → Int32} {uw ug ub us : Int32} {un : Bool} {uq ue ul : Int64} {sx : Nat → Int32} {ax gx ux : Nat → Int64} {dx : Nat → Int32}
theorem q_constant (T : TR 0 W G N nr mw gf pf sg mg mu nf qf lf am sm dm uw ug ub us un uq ue ul sx ax gx ux dx) (p th : Int32) : ∃ r, f_X10_constant p true uq ue ul = some r ∧ f_X11_constant p th true pf qf lf = some (r, 0) := by
  obtain ⟨hb, B, X, M⟩ := T
  unfold f_X10_constant f_X11_constant
  rw [if_pos rfl, if_pos rfl, isin_b (n := 3) p 2 (by decide), bd_some, X.2.1.1, X.2.1.2.1, X.2.1.2.2]
  unfold f_X11_constant_b65 f_X11_constant_b24
  by_cases h0 : p = 0
  · refine ⟨_, by rw [if_pos h0], ?_⟩
    rw [if_pos (by rw [h0]; decide), if_pos h0, gv_0 (by decide), cl_0, M.2.1.1]
  · by_cases h1 : p = 1
    · refine ⟨_, by rw [if_neg h0, if_pos h1], ?_⟩
      rw [if_pos (by rw [h1]; decide), if_neg h0, if_pos h1, gv_0 (by decide), cl_0, M.2.1.2]
    · by_cases h2 : p = 2
      · refine ⟨_, by rw [if_neg h0, if_neg h1, if_pos h2], ?_⟩
        rw [if_pos (by rw [h2]; decide), if_neg h0, if_neg h1, m_e8, bd_some, gv_0 (by decide), cl_0, m_ro, bd_some, M.1.2.2.1]
      · refine ⟨_, by rw [if_neg h0, if_neg h1, if_neg h2], ?_⟩
        rw [inB_x (by decide) (fun j hj hp => by
          rcases (show j = 0 ∨ j = 1 ∨ j = 2 by omega) with rfl | rfl | rfl
          · exact h0 hp
          · exact h1 hp
          · exact h2 hp), if_neg (by decide)]
theorem m0_dg (M : MT 0 W G N nr mw gf pf sg mg mu nf qf lf am sm dm) {m j : Nat} (hm : m < 3) (hj : j < 32) : dm (32 * m + j) = dX (itX j (unV m N (W + G))) := by
  have h := (M.2.2.2 m hm).2.2.2 j hj
  rw [show 3 * 0 + m = m from by omega] at h
  exact h
theorem m0_am (M : MT 0 W G N nr mw gf pf sg mg mu nf qf lf am sm dm) {m s : Nat} (hm : m < 3) (hs : s < 24) : am (24 * m + s) = anV m s (nI (W + G)) := by
  have h := (M.2.2.2 m hm).1 s hs
  rw [show 3 * 0 + m = m from by omega] at h
  exact h
theorem m0_mg (M : MT 0 W G N nr mw gf pf sg mg mu nf qf lf am sm dm) {m : Nat} (hm : m < 3) : mg m = (gnV m N (W + G)).toInt32 := by
  have h := (M.2.2.2 m hm).2.1
  rw [show 3 * 0 + m = m from by omega] at h
  exact h
theorem m0_mu (M : MT 0 W G N nr mw gf pf sg mg mu nf qf lf am sm dm) {m : Nat} (hm : m < 3) : mu m = (unV m N (W + G)).toInt32 := by
  have h := (M.2.2.2 m hm).2.2.1
  rw [show 3 * 0 + m = m from by omega] at h
  exact h
theorem q_digit (T : TR 0 W G N nr mw gf pf sg mg mu nf qf lf am sm dm uw ug ub us un uq ue ul sx ax gx ux dx) (p q th : Int32) : ∃ r, f_X10_digit p q true dx = some r ∧ f_X11_digit p q th true dm = some (r, 0) := by
  obtain ⟨hb, B, X, M⟩ := T
  unfold f_X10_digit f_X11_digit f_X10_digit_b18 f_X11_digit_b39
  rw [x_isMode, m_isMode, bd_some, bd_some, isin_b (n := 32) q 31 (by decide), bd_some, sel_lt (m := 32) (n := 32) (by decide) rfl]
  cases hp : inB 3 p with
  | false => exact ⟨_, rfl, rfl⟩
  | true =>
    cases hq : inB 32 q with
    | false => exact ⟨_, rfl, rfl⟩
    | true =>
      obtain ⟨m, hm, rfl⟩ := inB_of (by decide) hp
      obtain ⟨j, hj, rfl⟩ := inB_of (by decide) hq
      refine ⟨dX (itX j (unV m N (W + G))), ?_, ?_⟩
      · rw [if_pos rfl, if_pos rfl, ir32, gv_N (by omega) (by decide), nI_clamp (by omega), (X.2.2 m hm).2.2.2.2 j hj]
      · rw [if_pos rfl, if_pos rfl, ri32, gv_N (by omega) (by decide), nI_clamp (by omega), m0_dg M hm hj]
theorem isin_r (x : Int32) (lo hi : Int64) (a b : Int32) (ha : lo.toInt = a.toInt) (hb : hi.toInt = b.toInt) : f_X11_isIn x.toInt64 lo hi = some (if x < a then false else (if x ≤ b then true else false)) := by
  unfold f_X11_isIn
  rw [lt_eq]
  have e1 : x.toInt64 < lo ↔ x < a := by rw [Int64.lt_iff_toInt_lt, Int32.lt_iff_toInt_lt, Int32.toInt_toInt64, ha]
  have e2 : hi < x.toInt64 ↔ ¬ x ≤ b := by
    rw [Int64.lt_iff_toInt_lt, Int32.le_iff_toInt_le, Int32.toInt_toInt64, hb]
    omega
  by_cases h0 : x < a
  · rw [if_pos (e1.2 h0), if_pos h0]
  · rw [if_neg (fun h => h0 (e1.1 h)), if_neg h0]
    by_cases h1 : x ≤ b
    · rw [if_neg (fun h => e2.1 h h1), if_pos h1]
    · rw [if_pos (e2.2 h1), if_neg h1]
theorem q_takenOut (T : TR 0 W G N nr mw gf pf sg mg mu nf qf lf am sm dm uw ug ub us un uq ue ul sx ax gx ux dx) (p q th : Int32) : ∃ r, f_X10_takenOut p q true ub un dx = some r ∧ f_X11_takenOut_ p q th true pf nf dm = some (r, 0) := by
  have U := ur_of T.1 T.2.1 T.2.2.1 T.2.2.2
  obtain ⟨hb, B, X, M⟩ := T
  unfold f_X10_takenOut f_X11_takenOut_ f_X10_takenOut_b22 f_X11_takenOut__b39
  rw [x_isMode, m_isMode, bd_some, bd_some, isin_r q (-536870912 : Int64) 536870912 (-536870912) 536870912 (by decide) (by decide), bd_some]
  cases hp : inB 3 p with
  | false => exact ⟨_, rfl, rfl⟩
  | true =>
    obtain ⟨m, hm, rfl⟩ := inB_of (by decide) hp
    rw [if_pos rfl, if_pos rfl]
    by_cases h0 : q < -536870912
    · rw [if_pos h0, if_pos h0]
      exact ⟨_, rfl, rfl⟩
    · rw [if_neg h0, if_neg h0]
      by_cases h1 : q ≤ 536870912
      · rw [if_pos h1, if_pos h1, if_pos rfl]
        have e1 := x_take (P := W + G) (by have := B.2.1; have := B.2.2.1; omega) hm un dx q.toInt64
        have e2 := m_take (b := 0) (by decide) hm pf (P := W + G) (by have := B.2.1; have := B.2.2.1; omega) M.1.2.2.1 nf dm (fun j hj => by
          rw [(M.2.2.2 m hm).2.2.2 j hj]
          exact chkD_in 32 _ (chkT_of (chk_of B m hm)).2.2.2.2 j hj) q.toInt64
        rw [← X.1.2.2.1] at e1
        refine ⟨_, by rw [e1, bd_some], ?_⟩
        rw [show f_X11_takenOut 0 (nI m) q.toInt64 pf nf dm = _ from e2, bd_some, X.1.2.2.2.2, M.1.2.2.2.2, tk_ext (d := fun i => dm (32 * (3 * 0 + m) + i)) (d' := fun i => dx (m * 32 + i)) (fun j hj => by
          show dm (32 * (3 * 0 + m) + j) = dx (m * 32 + j)
          rw [(M.2.2.2 m hm).2.2.2 j hj, (X.2.2 m hm).2.2.2.2 j hj])]
      · rw [if_neg h1, if_neg h1]
        exact ⟨_, rfl, rfl⟩
end AskSec
