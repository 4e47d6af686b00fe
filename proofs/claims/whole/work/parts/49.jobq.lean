/-! ===== pure part: what is asked of jobs ===== -/
theorem sel_leq {α : Type} {x m : Int32} {n : Nat} (hn : n + 1 < 2 ^ 31) (hm : m = nI n) (A B : α) : (if x < 0 then A else (if x ≤ m then B else A)) = if inB (n + 1) x = true then B else A := by
  have e : x ≤ m ↔ x.toInt ≤ n := by rw [Int32.le_iff_toInt_le, hm, nI_toInt (by omega)]
  have e0 := i0_lt x
  by_cases h0 : x < 0
  · rw [if_pos h0, if_neg (fun h => by have := of_decide_eq_true h; have := e0.1 h0; omega)]
  · have h3 : ¬ x.toInt < 0 := fun h => h0 (e0.2 h)
    by_cases h1 : x ≤ m
    · have hb : inB (n + 1) x = true := decide_eq_true (by have := e.1 h1; omega)
      rw [if_neg h0, if_pos h1, if_pos hb]
    · rw [if_neg h0, if_neg h1, if_neg (fun h => h1 (e.2 (by have := of_decide_eq_true h; omega)))]
theorem sel_gt {α : Type} {x m : Int32} {n : Nat} (hn : n + 1 < 2 ^ 31) (hm : m = nI n) (A B : α) : (if x < 0 then A else (if m < x then A else B)) = if inB (n + 1) x = true then B else A := by
  have e : m < x ↔ (n : Int) < x.toInt := by rw [Int32.lt_iff_toInt_lt, hm, nI_toInt (by omega)]
  have e0 := i0_lt x
  by_cases h0 : x < 0
  · rw [if_pos h0, if_neg (fun h => by have := of_decide_eq_true h; have := e0.1 h0; omega)]
  · have h3 : ¬ x.toInt < 0 := fun h => h0 (e0.2 h)
    by_cases h1 : m < x
    · rw [if_neg h0, if_pos h1, if_neg (fun h => by have := of_decide_eq_true h; have := e.1 h1; omega)]
    · have hb : inB (n + 1) x = true := decide_eq_true (by have : ¬ (n : Int) < x.toInt := fun h => h1 (e.2 h); omega)
      rw [if_neg h0, if_neg h1, if_pos hb]
/-! refused calls -/
def RF (rf mf : Nat → Int32) : Prop := ∀ i, i < 4 → rf i = mf i
theorem rf_n {rf mf : Nat → Int32} (h : RF rf mf) {w : Nat} (hw : w < 4) : ∃ rf' mf', f_X10_refuse (nI w) rf = some (-1, rf') ∧ f_X10_allow (nI w) rf = some (false, rf') ∧ f_X11_refuse (nI w) mf = some (-1, mf') ∧ RF rf' mf' := by
  refine ⟨upd rf w (rf w + 1), upd mf w (mf w + 1), ?_, ?_, ?_, ?_⟩
  · unfold f_X10_refuse
    rw [gv_N hw (by decide), lt_eq, gv_N hw (by decide), nI_clamp (by omega)]
  · unfold f_X10_allow
    rw [gv_N hw (by decide), lt_eq, gv_N hw (by decide), nI_clamp (by omega)]
  · unfold f_X11_refuse
    rw [gv_N hw (by decide), lt_eq, gv_N hw (by decide), nI_clamp (by omega)]
  · intro i hi
    by_cases hiw : i = w
    · rw [hiw, pk_us, pk_us, h w hw]
    · rw [pk_un hiw, pk_un hiw]
      exact h i hi
theorem rf_0 {rf mf : Nat → Int32} (h : RF rf mf) : ∃ rf' mf', f_X10_refuse 0 rf = some (-1, rf') ∧ f_X10_allow 0 rf = some (false, rf') ∧ f_X11_refuse 0 mf = some (-1, mf') ∧ RF rf' mf' := rf_n h (w := 0) (by decide)
theorem rf_1 {rf mf : Nat → Int32} (h : RF rf mf) : ∃ rf' mf', f_X10_refuse 1 rf = some (-1, rf') ∧ f_X10_allow 1 rf = some (false, rf') ∧ f_X11_refuse 1 mf = some (-1, mf') ∧ RF rf' mf' := rf_n h (w := 1) (by decide)
theorem rf_2 {rf mf : Nat → Int32} (h : RF rf mf) : ∃ rf' mf', f_X10_refuse 2 rf = some (-1, rf') ∧ f_X10_allow 2 rf = some (false, rf') ∧ f_X11_refuse 2 mf = some (-1, mf') ∧ RF rf' mf' := rf_n h (w := 2) (by decide)
theorem rf_3 {rf mf : Nat → Int32} (h : RF rf mf) : ∃ rf' mf', f_X10_refuse 3 rf = some (-1, rf') ∧ f_X10_allow 3 rf = some (false, rf') ∧ f_X11_refuse 3 mf = some (-1, mf') ∧ RF rf' mf' := rf_n h (w := 3) (by decide)
theorem q_status {rf mf : Nat → Int32} (h : RF rf mf) (p th : Int32) : ∃ r, f_X10_status p rf = some r ∧ f_X11_status p th mf = some (r, 0) := by
  unfold f_X10_status f_X11_status f_X10_status_b22
  rw [sel_le (m := 4) (n := 4) (by decide) rfl, isin_b (n := 4) p 3 (by decide), bd_some]
  cases hp : inB 4 p with
  | false => exact ⟨_, rfl, rfl⟩
  | true =>
    obtain ⟨m, hm, rfl⟩ := inB_of (by decide) hp
    rw [if_pos rfl, if_pos rfl, gv_N hm (by decide), gv_N hm (by decide), nI_clamp (by omega), h m hm]
    exact ⟨_, rfl, rfl⟩
theorem q_end {L : Int32} (p th : Int32) : ∃ (r : Bool) (L' : Int32), f_X10_end p L = some (r, L') ∧ f_X11_end p th L = some (r, 0, L') ∧ (L' = L ∨ (¬ p < 0 ∧ p ≤ L ∧ L' = p)) := by
  unfold f_X10_end f_X11_end
  by_cases h0 : p < 0
  · rw [if_pos h0, if_pos h0]
    exact ⟨_, _, rfl, rfl, Or.inl rfl⟩
  · by_cases h1 : p ≤ L
    · rw [if_neg h0, if_neg h0, if_pos h1, if_pos h1]
      exact ⟨_, _, rfl, rfl, Or.inr ⟨h0, h1, rfl⟩⟩
    · rw [if_neg h0, if_neg h0, if_neg h1, if_neg h1]
      exact ⟨_, _, rfl, rfl, Or.inl rfl⟩
theorem q_count {L : Int32} (p th : Int32) : ∃ r, f_X10_count p L = some r ∧ f_X11_count p th L = some (r, 0) := ⟨_, rfl, rfl⟩
theorem q_hold {rf mf : Nat → Int32} (h : RF rf mf) (hu hd p : Bool) (th : Int32) : ∃ (r hd' : Bool) (rf' mf' : Nat → Int32), f_X10_hold p hu hd rf = some (r, hd', rf') ∧ f_X11_hold p th hu hd mf = some (r, 0, hd', mf') ∧ RF rf' mf' := by
  unfold f_X10_hold f_X11_hold f_X11_hold_b20
  cases hu with
  | false =>
    obtain ⟨rf', mf', e1, e2, e3, e4⟩ := rf_0 h
    refine ⟨false, hd, rf', mf', ?_, ?_, e4⟩
    · rw [if_neg (by decide), e2, bd_some]
    · rw [if_neg (by decide), lt_eq, if_neg (by decide), e3, bd_some]
  | true =>
    by_cases hh : bI hd = bI p
    · obtain ⟨rf', mf', e1, e2, e3, e4⟩ := rf_3 h
      refine ⟨false, hd, rf', mf', ?_, ?_, e4⟩
      · rw [if_pos rfl, if_pos hh, e2, bd_some]
      · rw [if_pos rfl, if_pos hh, lt_eq, if_pos rfl, e3, bd_some]
    · refine ⟨true, p, rf, mf, ?_, ?_, h⟩
      · rw [if_pos rfl, if_neg hh]
      · rw [if_pos rfl, if_neg hh]
section JobqSec
variable {W G N : Nat} {nr : Bool} {mw gf pf sg mg mu : Nat → Int32} {nf : Nat → Bool} {qf lf am : Nat → Int64} {sm dm : Nat → Int32} {uw ug ub us : Int32} {un : Bool} {uq ue ul : Int64} {sx : Nat → Int32} {ax gx ux : Nat → Int64} {dx : Nat → Int32} {J ov : Nat} {kd op ti st gn tl br dn mj mr : Nat → Int32} {mt : Nat → Int64}
theorem q_rule (T : TR 0 W G N nr mw gf pf sg mg mu nf qf lf am sm dm uw ug ub us un uq ue ul sx ax gx ux dx) (R : BR W G N nr J ov kd op ti st gn tl br dn mj mr mt) {pl : Int32} (hd : Bool) (clk p th : Int32) : ∃ r, f_X10_rule p true uw ug us pl un (nI J) clk hd st = some r ∧ f_X11_rule p th true pl clk hd (nI J) mw gf sg nf mj = some (r, 0) := by
  obtain ⟨hb, B, X, M⟩ := T
  obtain ⟨c0, _, u0, m0, _⟩ := hm_both R.1 (fun j hj => R.st4 hj) 0
  obtain ⟨c1, _, u1, m1, _⟩ := hm_both R.1 (fun j hj => R.st4 hj) 1
  obtain ⟨c2, _, u2, m2, _⟩ := hm_both R.1 (fun j hj => R.st4 hj) 2
  obtain ⟨c3, _, u3, m3, _⟩ := hm_both R.1 (fun j hj => R.st4 hj) 3
  unfold f_X10_rule f_X11_rule
  rw [if_pos rfl, if_pos rfl, u0, u1, u2, u3, m0, m1, m2, m3]
  simp only [gv_0 (by decide : 0 < 2), cl_0, M.1.1, M.1.2.1, M.1.2.2.2.1, M.1.2.2.2.2, X.1.1, X.1.2.1, X.1.2.2.2.1, X.1.2.2.2.2, lt_eq, bd_some]
  by_cases h0 : p = 0
  · simp only [if_pos h0]; exact ⟨_, rfl, rfl⟩
  simp only [if_neg h0]
  by_cases h1 : p = 1
  · simp only [if_pos h1]; exact ⟨_, rfl, rfl⟩
  simp only [if_neg h1]
  by_cases h2 : p = 2
  · simp only [if_pos h2]; exact ⟨_, rfl, rfl⟩
  simp only [if_neg h2]
  by_cases h3 : p = 3
  · simp only [if_pos h3]; exact ⟨_, rfl, rfl⟩
  simp only [if_neg h3]
  by_cases h4 : p = 4
  · simp only [if_pos h4]; exact ⟨_, rfl, rfl⟩
  simp only [if_neg h4]
  by_cases h5 : p = 5
  · simp only [if_pos h5]; exact ⟨_, rfl, rfl⟩
  simp only [if_neg h5]
  by_cases h6 : p = 6
  · simp only [if_pos h6]; exact ⟨_, rfl, rfl⟩
  simp only [if_neg h6]
  by_cases h7 : p = 7
  · simp only [if_pos h7]; exact ⟨_, rfl, rfl⟩
  simp only [if_neg h7]
  by_cases h8 : p = 8
  · simp only [if_pos h8]; exact ⟨_, rfl, rfl⟩
  simp only [if_neg h8]
  by_cases h9 : p = 9
  · simp only [if_pos h9]; exact ⟨_, rfl, rfl⟩
  simp only [if_neg h9]
  by_cases h10 : p = 10
  · simp only [if_pos h10]; exact ⟨_, rfl, rfl⟩
  simp only [if_neg h10]
  by_cases h11 : p = 11
  · simp only [if_pos h11]; exact ⟨_, rfl, rfl⟩
  simp only [if_neg h11]
  exact ⟨_, rfl, rfl⟩
theorem q_linked (R : BR W G N nr J ov kd op ti st gn tl br dn mj mr mt) (p q th : Int32) : ∃ r, f_X10_linked p q true (nI J) ti = some r ∧ f_X11_linked p q th true (nI J) mj = some (r, 0) := by
  unfold f_X10_linked f_X11_linked f_X10_linked_b31 f_X11_linked_b37
  rw [x_isJob R.1, m_isJob R.1, bd_some, bd_some, x_isOp, isin_b (n := 3) q 2 (by decide), bd_some, bd_some]
  cases hp : inB J p with
  | false => exact ⟨_, rfl, rfl⟩
  | true =>
    cases hq : inB 3 q with
    | false => exact ⟨_, rfl, rfl⟩
    | true =>
      have hJ := R.1
      obtain ⟨j, hj, rfl⟩ := inB_of (by omega) hp
      obtain ⟨w, hw, rfl⟩ := inB_of (by decide) hq
      rw [if_pos rfl, if_pos rfl, if_pos rfl, if_pos rfl, ir3, gv_N (by omega) (by decide), nI_clamp (by omega), m_of10w (by omega) hw, bd_some, ((jb_tie (R.jb hj)).1 w hw).1]
      exact ⟨_, rfl, rfl⟩
theorem q_told (R : BR W G N nr J ov kd op ti st gn tl br dn mj mr mt) (p q th : Int32) : ∃ (t : Option Int32) (r k : Int32), f_X10_told p q true (nI J) kd op st gn br dn = some t ∧ f_X11_told p q th true (nI J) mj = some (r, k) ∧ ((t = none ∧ k = 1) ∨ (t = some r ∧ k = 0)) := by
  unfold f_X10_told f_X11_told f_X10_told_b18
  rw [x_isJob R.1, m_isJob R.1, bd_some, bd_some, isin_b (n := 10) q 9 (by decide), bd_some, lt_eq, sel_leq (m := 9) (n := 9) (by decide) rfl]
  cases hp : inB J p with
  | false =>
    refine ⟨none, 0, 1, rfl, ?_, Or.inl ⟨rfl, rfl⟩⟩
    rfl
  | true =>
    cases hq : inB 10 q with
    | false =>
      refine ⟨none, 0, 1, rfl, ?_, Or.inl ⟨rfl, rfl⟩⟩
      rfl
    | true =>
      have hJ := R.1
      obtain ⟨i, hj, rfl⟩ := inB_of (by omega) hp
      obtain ⟨w, hw10, rfl⟩ := inB_of (by decide) hq
      obtain ⟨k, s, g, hb, ⟨a1, a2, a3⟩, ⟨b1, b2, b3, b4, b5, b6⟩, hw, hrest⟩ := R.jb hj
      rw [if_pos rfl, if_pos rfl, if_pos rfl, if_pos rfl, if_pos (by decide : bI false ≤ 0)]
      rcases (show w = 0 ∨ w = 1 ∨ w = 2 ∨ w = 3 ∨ w = 4 ∨ w = 5 ∨ w = 6 ∨ w = 7 ∨ w = 8 ∨ w = 9 by omega) with rfl | rfl | rfl | rfl | rfl | rfl | rfl | rfl | rfl | rfl
      · refine ⟨some (kd i), kd i, 0, ?_, ?_, Or.inr ⟨rfl, rfl⟩⟩
        · rw [if_pos (by decide : nI 0 = 0), gv_N (by omega) (by decide), nI_clamp (by omega)]
        · rw [if_neg (by decide : ¬ nI 0 = 8), if_neg (by decide : ¬ nI 0 = 9), m_of (c := 0) (by omega) (by decide), bd_some]
          exact congrArg (fun v => some (v, (0 : Int32))) (b1.trans a1.symm)
      · refine ⟨some (op (i * 3)), op (i * 3), 0, ?_, ?_, Or.inr ⟨rfl, rfl⟩⟩
        · rw [if_neg (by decide : ¬ nI 1 = 0), if_pos (by decide : nI 1 = 1)]
          unfold f_X10_told_b160
          rw [ir3, show i * 3 + 1 = (i * 3 + 0) + 1 from rfl, nI_pred, gv_N (by omega) (by decide), nI_clamp (by omega)]
        · rw [if_neg (by decide : ¬ nI 1 = 8), if_neg (by decide : ¬ nI 1 = 9), m_of (c := 1) (by omega) (by decide), bd_some]
          exact congrArg (fun v => some (v, (0 : Int32))) (hw 0 (by decide)).1
      · refine ⟨some (op (i * 3 + 1)), op (i * 3 + 1), 0, ?_, ?_, Or.inr ⟨rfl, rfl⟩⟩
        · rw [if_neg (by decide : ¬ nI 2 = 0), if_neg (by decide : ¬ nI 2 = 1), if_pos (by decide : nI 2 = 2)]
          unfold f_X10_told_b160
          rw [ir3, show i * 3 + 2 = (i * 3 + 1) + 1 from rfl, nI_pred, gv_N (by omega) (by decide), nI_clamp (by omega)]
        · rw [if_neg (by decide : ¬ nI 2 = 8), if_neg (by decide : ¬ nI 2 = 9), m_of (c := 2) (by omega) (by decide), bd_some]
          exact congrArg (fun v => some (v, (0 : Int32))) (hw 1 (by decide)).1
      · refine ⟨some (op (i * 3 + 2)), op (i * 3 + 2), 0, ?_, ?_, Or.inr ⟨rfl, rfl⟩⟩
        · rw [if_neg (by decide : ¬ nI 3 = 0), if_neg (by decide : ¬ nI 3 = 1), if_neg (by decide : ¬ nI 3 = 2), if_pos (by decide : nI 3 = 3)]
          unfold f_X10_told_b160
          rw [ir3, show i * 3 + 3 = (i * 3 + 2) + 1 from rfl, nI_pred, gv_N (by omega) (by decide), nI_clamp (by omega)]
        · rw [if_neg (by decide : ¬ nI 3 = 8), if_neg (by decide : ¬ nI 3 = 9), m_of (c := 3) (by omega) (by decide), bd_some]
          exact congrArg (fun v => some (v, (0 : Int32))) (hw 2 (by decide)).1
      · refine ⟨some (st i), st i, 0, ?_, ?_, Or.inr ⟨rfl, rfl⟩⟩
        · rw [if_neg (by decide : ¬ nI 4 = 0), if_neg (by decide : ¬ nI 4 = 1), if_neg (by decide : ¬ nI 4 = 2), if_neg (by decide : ¬ nI 4 = 3), if_pos (by decide : nI 4 = 4), gv_N (by omega) (by decide), nI_clamp (by omega)]
        · rw [if_neg (by decide : ¬ nI 4 = 8), if_neg (by decide : ¬ nI 4 = 9), m_of (c := 4) (by omega) (by decide), bd_some]
          exact congrArg (fun v => some (v, (0 : Int32))) (b2.trans a2.symm)
      · refine ⟨some (gn i), gn i, 0, ?_, ?_, Or.inr ⟨rfl, rfl⟩⟩
        · rw [if_neg (by decide : ¬ nI 5 = 0), if_neg (by decide : ¬ nI 5 = 1), if_neg (by decide : ¬ nI 5 = 2), if_neg (by decide : ¬ nI 5 = 3), if_neg (by decide : ¬ nI 5 = 4), if_pos (by decide : nI 5 = 5), gv_N (by omega) (by decide), nI_clamp (by omega)]
        · rw [if_neg (by decide : ¬ nI 5 = 8), if_neg (by decide : ¬ nI 5 = 9), m_of (c := 5) (by omega) (by decide), bd_some]
          exact congrArg (fun v => some (v, (0 : Int32))) (b3.trans a3.symm)
      · refine ⟨some (br i), br i, 0, ?_, ?_, Or.inr ⟨rfl, rfl⟩⟩
        · rw [if_neg (by decide : ¬ nI 6 = 0), if_neg (by decide : ¬ nI 6 = 1), if_neg (by decide : ¬ nI 6 = 2), if_neg (by decide : ¬ nI 6 = 3), if_neg (by decide : ¬ nI 6 = 4), if_neg (by decide : ¬ nI 6 = 5), if_pos (by decide : nI 6 = 6), gv_N (by omega) (by decide), nI_clamp (by omega)]
        · rw [if_neg (by decide : ¬ nI 6 = 8), if_neg (by decide : ¬ nI 6 = 9), m_of (c := 6) (by omega) (by decide), bd_some]
          exact congrArg (fun v => some (v, (0 : Int32))) (b4)
      · refine ⟨some (dn i), dn i, 0, ?_, ?_, Or.inr ⟨rfl, rfl⟩⟩
        · rw [if_neg (by decide : ¬ nI 7 = 0), if_neg (by decide : ¬ nI 7 = 1), if_neg (by decide : ¬ nI 7 = 2), if_neg (by decide : ¬ nI 7 = 3), if_neg (by decide : ¬ nI 7 = 4), if_neg (by decide : ¬ nI 7 = 5), if_neg (by decide : ¬ nI 7 = 6), if_pos (by decide : nI 7 = 7), gv_N (by omega) (by decide), nI_clamp (by omega)]
        · rw [if_neg (by decide : ¬ nI 7 = 8), if_neg (by decide : ¬ nI 7 = 9), m_of (c := 7) (by omega) (by decide), bd_some]
          exact congrArg (fun v => some (v, (0 : Int32))) (b5)
      · refine ⟨some (kMode k), kMode k, 0, ?_, ?_, Or.inr ⟨rfl, rfl⟩⟩
        · rw [if_neg (by decide : ¬ nI 8 = 0), if_neg (by decide : ¬ nI 8 = 1), if_neg (by decide : ¬ nI 8 = 2), if_neg (by decide : ¬ nI 8 = 3), if_neg (by decide : ¬ nI 8 = 4), if_neg (by decide : ¬ nI 8 = 5), if_neg (by decide : ¬ nI 8 = 6), if_neg (by decide : ¬ nI 8 = 7), if_pos (by decide : nI 8 = 8)]
          unfold f_X10_kindOf
          rw [gv_N (by omega) (by decide), nI_clamp (by omega), a1, gv_N hb.1 (by decide), bd_some, nI_clamp (by omega)]
        · rw [if_pos (by decide : nI 8 = 8), m_of00 (by omega), bd_some, b1, gv_N hb.1 (by decide), nI_clamp (by omega), (kMode_n k hb.1).2.1, (kMode_n k hb.1).1]
          rfl
      · refine ⟨some (bI (kTurn k)), bI (kTurn k), 0, ?_, ?_, Or.inr ⟨rfl, rfl⟩⟩
        · rw [if_neg (by decide : ¬ nI 9 = 0), if_neg (by decide : ¬ nI 9 = 1), if_neg (by decide : ¬ nI 9 = 2), if_neg (by decide : ¬ nI 9 = 3), if_neg (by decide : ¬ nI 9 = 4), if_neg (by decide : ¬ nI 9 = 5), if_neg (by decide : ¬ nI 9 = 6), if_neg (by decide : ¬ nI 9 = 7), if_neg (by decide : ¬ nI 9 = 8), if_pos (by decide : nI 9 = 9)]
          unfold f_X10_kindOf
          rw [gv_N (by omega) (by decide), nI_clamp (by omega), a1, gv_N hb.1 (by decide), bd_some, nI_clamp (by omega), lt_eq, itB]
        · rw [if_neg (by decide : ¬ nI 9 = 8), if_pos (by decide : nI 9 = 9), m_of00 (by omega), bd_some, b1, m_turning k hb.1, bd_some, lt_eq, itB]
          rfl
theorem q_result (T : TR 0 W G N nr mw gf pf sg mg mu nf qf lf am sm dm uw ug ub us un uq ue ul sx ax gx ux dx) (R : BR W G N nr J ov kd op ti st gn tl br dn mj mr mt) (p q th : Int32) (rx ry rz : Int64) (rb rs : Int32) (f1 f2 : Int64) : ∃ (r : Int32) (c1 c2 c3 : Int64) (c4 c5 : Int32) (c6 c7 : Int64), f_X10_result p q true uw ug ub us un uq ul sx ax ux dx rx ry rz rb rs f1 f2 (nI J) kd op st = some (r, c1, c2, c3, c4, c5, c6, c7) ∧ f_X11_result p q th true (nI J) mj mr = some (r, 0) := by
  unfold f_X10_result f_X11_result f_X10_result_b28 f_X11_result_b46
  rw [x_isJob R.1, m_isJob R.1, bd_some, bd_some, x_isEi, isin_b (n := 2) q 1 (by decide), bd_some, bd_some]
  cases hp : inB J p with
  | false => exact ⟨_, _, _, _, _, _, _, _, rfl, rfl⟩
  | true =>
    cases hq : inB 2 q with
    | false => exact ⟨_, _, _, _, _, _, _, _, rfl, rfl⟩
    | true =>
      have hJ := R.1
      obtain ⟨j, hj, rfl⟩ := inB_of (by omega) hp
      obtain ⟨i, hi, rfl⟩ := inB_of (by decide) hq
      rw [if_pos rfl, if_pos rfl, if_pos rfl, if_pos rfl, gv_N (by omega) (by decide), nI_clamp (by omega), m_of4 (by omega), bd_some, R.st4 hj]
      by_cases h2 : st j = 2
      · obtain ⟨x', y', z', b', s', a1, a2, e1, e2⟩ := lk_val T (show j < 60 by omega) hi (R.jb hj) h2 rx ry rz f1 f2 rb rs
        rw [if_pos h2, if_pos h2, lt_eq, i3_0, gv_N (by omega) (by decide), gv_N (by omega) (by decide), nI_p1, gv_N (by omega) (by decide), nI_p2, gv_N (by omega) (by decide)]
        simp only [nI_clamp (show j * 3 < 2 ^ 31 by omega), nI_clamp (show j * 3 + 1 < 2 ^ 31 by omega), nI_clamp (show j * 3 + 2 < 2 ^ 31 by omega)]
        rw [e1, bd_some]
        dsimp only
        rw [an_x hi, bd_some, e2, ri2, gv_N (by omega) (by decide), nI_clamp (by omega)]
        exact ⟨_, _, _, _, _, _, _, _, rfl, rfl⟩
      · rw [if_neg h2, if_neg h2]
        exact ⟨_, _, _, _, _, _, _, _, rfl, rfl⟩
theorem ta (T : TR 0 W G N nr mw gf pf sg mg mu nf qf lf am sm dm uw ug ub us un uq ue ul sx ax gx ux dx) (R : BR W G N nr J ov kd op ti st gn tl br dn mj mr mt) {j n : Nat} (hj : j < J) (hn : n ≤ 24) (h12 : st j = 1 ∨ st j = 2) (rx ry rz : Int64) (rb rs : Int32) (f1 f2 : Int64) : ∃ (k g : Nat) (c6 c7 : Int64), k < 9 ∧ g ≤ N ∧ kd j = nI k ∧ gn j = nI g ∧ JT W G N nr j k g (op (j * 3)).toInt64 (op (j * 3 + 1)).toInt64 (op (j * 3 + 2)).toInt64 mj mt ∧ (st j = 2 → g = N) ∧ f_X1_turnAgain (nI j) (nI n) kd op rx ry rz rb rs f1 f2 ug ub un uq ul sx ax ux = some ((jx W G N nr k (op (j * 3)).toInt64 (op (j * 3 + 1)).toInt64 (op (j * 3 + 2)).toInt64 n).1, (jx W G N nr k (op (j * 3)).toInt64 (op (j * 3 + 1)).toInt64 (op (j * 3 + 2)).toInt64 n).2.1, (jx W G N nr k (op (j * 3)).toInt64 (op (j * 3 + 1)).toInt64 (op (j * 3 + 2)).toInt64 n).2.2, jb W G N nr k (op (j * 3)).toInt64 (op (j * 3 + 1)).toInt64 (op (j * 3 + 2)).toInt64 n, (bw W G N nr k (op (j * 3)).toInt64 (op (j * 3 + 1)).toInt64 (op (j * 3 + 2)).toInt64).2.2.2, c6, c7) := by
  have hJ := R.1
  obtain ⟨k, s, g, ⟨hk, hs, hg⟩, ⟨a1, a2, a3⟩, hb, hw, hs0, hs2, hT, hr⟩ := R.jb hj
  have hs12 : s = 1 ∨ s = 2 := by
    rcases h12 with h | h
    · exact Or.inl (n1_is hs (by rw [← a2]; exact h))
    · exact Or.inr (n2_is hs (by rw [← a2]; exact h))
  have tT := hT hs12
  refine ⟨k, g, (if k = 8 then (bw W G N nr k (op (j * 3)).toInt64 (op (j * 3 + 1)).toInt64 (op (j * 3 + 2)).toInt64).1 else f1), (if k = 8 then (bw W G N nr k (op (j * 3)).toInt64 (op (j * 3 + 1)).toInt64 (op (j * 3 + 2)).toInt64).2.1 else f2), hk, hg, a1, a3, tT, fun h => hs2 (n2_is hs (by rw [← a2]; exact h)), ?_⟩
  unfold f_X1_turnAgain
  rw [lt_eq, i3_0, gv_N (by omega) (by decide), gv_N (by omega) (by decide), nI_p1, gv_N (by omega) (by decide), nI_p2, gv_N (by omega) (by decide)]
  simp only [nI_clamp (show j < 2 ^ 31 by omega), nI_clamp (show j * 3 < 2 ^ 31 by omega), nI_clamp (show j * 3 + 1 < 2 ^ 31 by omega), nI_clamp (show j * 3 + 2 < 2 ^ 31 by omega)]
  rw [a1, bg_x T hk tT.1, bd_some, gv_N (by omega) (by decide)]
  have e := gt_x T.2.2.1 hk hn ((bw W G N nr k (op (j * 3)).toInt64 (op (j * 3 + 1)).toInt64 (op (j * 3 + 2)).toInt64).1, (bw W G N nr k (op (j * 3)).toInt64 (op (j * 3 + 1)).toInt64 (op (j * 3 + 2)).toInt64).2.1, (bw W G N nr k (op (j * 3)).toInt64 (op (j * 3 + 1)).toInt64 (op (j * 3 + 2)).toInt64).2.2.1)
  rw [e, bd_some]
  rfl
theorem hb_same (R : BR W G N nr J ov kd op ti st gn tl br dn mj mr mt) (p : Int32) : ∃ b, f_X10_hasBegun p true (nI J) st = some b ∧ f_X11_hasBegun p true (nI J) mj = some b ∧ (b = true → ∃ j, j < J ∧ p = nI j ∧ (st j = 1 ∨ st j = 2)) := by
  unfold f_X10_hasBegun f_X11_hasBegun f_X10_hasBegun_b38 f_X11_hasBegun_b32 f_X10_hasBegun_b34 f_X11_hasBegun_b28
  rw [x_isJob R.1, m_isJob R.1, bd_some, bd_some]
  cases hp : inB J p with
  | false => exact ⟨false, rfl, rfl, fun h => absurd h (by decide)⟩
  | true =>
    have hJ := R.1
    obtain ⟨j, hj, rfl⟩ := inB_of (by omega) hp
    rw [if_pos rfl, if_pos rfl, gv_N (by omega) (by decide), nI_clamp (by omega), m_of4 (by omega), bd_some, R.st4 hj]
    by_cases h1 : st j = 1
    · rw [if_pos h1, if_pos h1]
      exact ⟨true, rfl, rfl, fun _ => ⟨j, hj, rfl, Or.inl h1⟩⟩
    · rw [if_neg h1, if_neg h1, gv_N (by omega) (by decide), bd_some, lt_eq]
      by_cases h2 : st j = 2
      · rw [if_pos h2]
        exact ⟨true, rfl, rfl, fun _ => ⟨j, hj, rfl, Or.inr h2⟩⟩
      · rw [if_neg h2]
        exact ⟨false, rfl, rfl, fun h => absurd h (by decide)⟩
theorem q_trace (T : TR 0 W G N nr mw gf pf sg mg mu nf qf lf am sm dm uw ug ub us un uq ue ul sx ax gx ux dx) (R : BR W G N nr J ov kd op ti st gn tl br dn mj mr mt) (p q w th : Int32) (rx ry rz : Int64) (rb rs : Int32) (f1 f2 : Int64) : ∃ (r c1 c2 c3 : Int64) (c4 c5 : Int32) (c6 c7 : Int64), f_X10_trace p q w true ug ub un uq ul sx ax ux rx ry rz rb rs f1 f2 (nI J) kd op st gn = some (r, c1, c2, c3, c4, c5, c6, c7) ∧ f_X11_trace p q w th true (nI J) mj mt = some (r, 0) := by
  obtain ⟨b, e1, e2, e3⟩ := hb_same R p
  have hN := T.2.1.2.2.2.2
  unfold f_X10_trace f_X11_trace f_X10_trace_b34 f_X11_trace_b59
  rw [e1, e2, bd_some, bd_some]
  cases b with
  | false => exact ⟨_, _, _, _, _, _, _, _, rfl, rfl⟩
  | true =>
    have hJ := R.1
    obtain ⟨j, hj, rfl, h12⟩ := e3 rfl
    obtain ⟨_, g, hg, hgn⟩ := R.gn5 hj
    rw [if_pos rfl, if_pos rfl, gv_N (by omega) (by decide), nI_clamp (by omega), m_of5 (by omega), bd_some, (R.gn5 hj).1, isin_b (n := g + 1) q (gn j).toInt64 (by rw [Int32.toInt_toInt64, hgn, nI_toInt (by omega)]; omega), bd_some, isin_b (n := 3) w 2 (by decide), bd_some, sel_leq (m := 2) (n := 2) (by decide) rfl, sel_gt (n := g) (by omega) hgn]
    cases hq : inB (g + 1) q with
    | false => exact ⟨_, _, _, _, _, _, _, _, rfl, rfl⟩
    | true =>
      cases hw : inB (2 + 1) w with
      | false =>
        exact ⟨_, _, _, _, _, _, _, _, rfl, rfl⟩
      | true =>
        obtain ⟨s, hs, rfl⟩ := inB_of (by omega) hq
        obtain ⟨i, hi, rfl⟩ := inB_of (by decide) hw
        obtain ⟨k, g', c6, c7, hk, hg', hkd, hgn', hT, _, hta⟩ := ta T R hj (n := s) (by omega) h12 rx ry rz rb rs f1 f2
        have hgg : g' = g := (nI_eq (by omega) (by omega)).1 (hgn'.symm.trans hgn)
        have ht := hT.2.2.2 s (by omega)
        rw [if_pos rfl, if_pos rfl, if_pos rfl, if_pos rfl, hta, bd_some, r75, nI_add, gv_N (by omega) (by decide), nI_clamp (by omega)]
        dsimp only
        rcases (show i = 0 ∨ i = 1 ∨ i = 2 by omega) with rfl | rfl | rfl
        · rw [if_pos (by decide : nI 0 = 0), show 75 * j + 3 * s + 0 = 75 * j + 3 * s from rfl, ht.1]
          exact ⟨_, _, _, _, _, _, _, _, rfl, rfl⟩
        · rw [if_neg (by decide : ¬ nI 1 = 0), lt_eq, if_pos (by decide : nI 1 = 1), ht.2.1]
          exact ⟨_, _, _, _, _, _, _, _, rfl, rfl⟩
        · rw [if_neg (by decide : ¬ nI 2 = 0), lt_eq, if_neg (by decide : ¬ nI 2 = 1), ht.2.2]
          exact ⟨_, _, _, _, _, _, _, _, rfl, rfl⟩
theorem q_signs (T : TR 0 W G N nr mw gf pf sg mg mu nf qf lf am sm dm uw ug ub us un uq ue ul sx ax gx ux dx) (R : BR W G N nr J ov kd op ti st gn tl br dn mj mr mt) (p th : Int32) (rx ry rz : Int64) (rb rs : Int32) (f1 f2 : Int64) : ∃ (r : Int32) (c1 c2 c3 : Int64) (c4 c5 : Int32) (c6 c7 : Int64), f_X10_signs p true ug ub un uq ul sx ax ux rx ry rz rb rs f1 f2 (nI J) kd op st gn = some (r, c1, c2, c3, c4, c5, c6, c7) ∧ f_X11_signs p th true (nI J) mj = some (r, 0) := by
  obtain ⟨b, e1, e2, e3⟩ := hb_same R p
  have hN := T.2.1.2.2.2.2
  unfold f_X10_signs f_X11_signs
  rw [e1, e2, bd_some, bd_some]
  cases b with
  | false => exact ⟨_, _, _, _, _, _, _, _, rfl, rfl⟩
  | true =>
    have hJ := R.1
    obtain ⟨j, hj, rfl, h12⟩ := e3 rfl
    obtain ⟨_, g, hg, hgn⟩ := R.gn5 hj
    obtain ⟨k, g', c6, c7, hk, hg', hkd, hgn', hT, _, hta⟩ := ta T R hj (n := g) (by omega) h12 rx ry rz rb rs f1 f2
    have hgg : g' = g := (nI_eq (by omega) (by omega)).1 (hgn'.symm.trans hgn)
    subst hgg
    rw [if_pos rfl, if_pos rfl, gv_N (by omega) (by decide), nI_clamp (by omega), hgn, hta, bd_some, m_of9 (by omega), bd_some, hT.2.2.1]
    exact ⟨_, _, _, _, _, _, _, _, rfl, rfl⟩
def agB (x : Int32) (st gn : Nat → Int32) (i : Nat) : Bool := if st i = 1 then decide (gn i = x) else false
theorem ag_x (hJ : J ≤ 60) (x : Int32) (o : Int32) (st gn : Nat → Int32) : ∀ (r j f : Nat), r + j = J → r < f → f_X1_aheadOf_l5 (nI J) o st gn f x (nI j) = some (fst1 (agB x st gn) r j)
  | 0, j, f => by
    intro h1 h2
    obtain ⟨f, rfl⟩ : ∃ f', f = f' + 1 := ⟨f - 1, by omega⟩
    rw [f_X1_aheadOf_l5, if_pos (nI_le (by omega) (by omega))]
    rfl
  | r + 1, j, f => by
    intro h1 h2
    obtain ⟨f, rfl⟩ : ∃ f', f = f' + 1 := ⟨f - 1, by omega⟩
    have hk : f_X1_aheadOf_b35 (nI J) o st gn (f_X1_aheadOf_l5 (nI J) o st gn f) x (nI j) = some (fst1 (agB x st gn) r (j + 1)) := by
      unfold f_X1_aheadOf_b35
      rw [lt_eq, nI_p1]
      exact ag_x hJ x o st gn r (j + 1) f (by omega) (by omega)
    rw [f_X1_aheadOf_l5, if_neg (nI_ge (by omega) (by omega)), gv_N (by omega) (by decide), nI_clamp (by omega), fst1]
    by_cases h1' : st j = 1
    · rw [if_pos h1', gv_N (by omega) (by decide)]
      by_cases hq : gn j = x
      · rw [if_pos hq, if_pos (by unfold agB; rw [if_pos h1']; exact decide_eq_true hq)]
      · rw [if_neg hq, hk, if_neg (by unfold agB; rw [if_pos h1', decide_eq_false hq]; decide)]
    · rw [if_neg h1', hk, if_neg (by unfold agB; rw [if_neg h1']; decide)]
theorem ag_m (hJ : J ≤ 60) (x : Int32) (hu : Bool) (sg : Nat → Int32) (hm : ∀ j, j < J → mj (14 * j + 4) = st j) (hg5 : ∀ j, j < J → mj (14 * j + 5) = gn j) : ∀ (r j f : Nat), r + j = J → r < f → f_X11_register_l32 hu (nI J) sg mj f x (nI j) 0 = some (fst1 (agB x st gn) r j, 0)
  | 0, j, f => by
    intro h1 h2
    obtain ⟨f, rfl⟩ : ∃ f', f = f' + 1 := ⟨f - 1, by omega⟩
    rw [f_X11_register_l32, if_pos (nI_le (by omega) (by omega))]
    rfl
  | r + 1, j, f => by
    intro h1 h2
    obtain ⟨f, rfl⟩ : ∃ f', f = f' + 1 := ⟨f - 1, by omega⟩
    have hk : f_X11_register_b62 hu (nI J) sg mj (f_X11_register_l32 hu (nI J) sg mj f) x (nI j) 0 = some (fst1 (agB x st gn) r (j + 1), 0) := by
      unfold f_X11_register_b62
      rw [lt_eq, nI_p1]
      exact ag_m hJ x hu sg hm hg5 r (j + 1) f (by omega) (by omega)
    rw [f_X11_register_l32, if_neg (nI_ge (by omega) (by omega)), m_of4 (by omega), bd_some, hm j (by omega), fst1]
    by_cases h1' : st j = 1
    · rw [if_pos h1', m_of5 (by omega), bd_some, hg5 j (by omega)]
      by_cases hq : gn j = x
      · rw [if_pos hq, if_pos (by unfold agB; rw [if_pos h1']; exact decide_eq_true hq)]
      · rw [if_neg hq, hk, if_neg (by unfold agB; rw [if_pos h1', decide_eq_false hq]; decide)]
    · rw [if_neg h1', hk, if_neg (by unfold agB; rw [if_neg h1']; decide)]
theorem no1 (R : BR W G N nr J ov kd op ti st gn tl br dn mj mr mt) {i : Nat} (hi : i < ov) : ¬ st i = 1 := fun h => by
  rcases R.2.2.2.1 i hi with h2 | h2
  · rw [h2] at h; exact absurd h (by decide)
  · rw [h2] at h; exact absurd h (by decide)
theorem no0 (R : BR W G N nr J ov kd op ti st gn tl br dn mj mr mt) {i : Nat} (hi : i < ov) : ¬ st i = 0 := fun h => by
  rcases R.2.2.2.1 i hi with h2 | h2
  · rw [h2] at h; exact absurd h (by decide)
  · rw [h2] at h; exact absurd h (by decide)
theorem fst_ov (R : BR W G N nr J ov kd op ti st gn tl br dn mj mr mt) {p : Nat → Bool} (h : ∀ i, i < ov → p i = false) : fst1 p J 0 = fst1 p (J - ov) ov := by
  have e := fst_skip (p := p) ov (J - ov) 0 (fun i _ hi => h i (by omega))
  have := R.2.1
  rw [show ov + (J - ov) = J from by omega, Nat.zero_add] at e
  exact e
theorem q_register (T : TR 0 W G N nr mw gf pf sg mg mu nf qf lf am sm dm uw ug ub us un uq ue ul sx ax gx ux dx) (R : BR W G N nr J ov kd op ti st gn tl br dn mj mr mt) (p th : Int32) : ∃ r, f_X10_register p true us (nI J) (nI ov) st gn = some r ∧ f_X11_register p th true (nI J) sg mj = some (r, 0) := by
  obtain ⟨hb, B, X, M⟩ := T
  have hJ := R.1
  have hov := R.2.1
  have hN := B.2.2.2.2
  unfold f_X10_register f_X11_register f_X10_register_b33 f_X11_register_b28
  rw [if_pos rfl, if_pos rfl, gv_0 (by decide), cl_0, M.1.2.2.2.1, isin_b (n := N + 1) p (nI N).toInt64 (by rw [Int32.toInt_toInt64, nI_toInt (by omega)]; omega), bd_some, X.1.2.2.2.1, sel_gt (n := N) (by omega) rfl]
  cases hp : inB (N + 1) p with
  | false => exact ⟨_, rfl, rfl⟩
  | true =>
    rw [if_pos rfl, if_pos rfl, show f_X1_aheadOf p (nI J) (nI ov) st gn = _ from ag_x hJ p (nI ov) st gn (J - ov) ov FU (by omega) (by show J - ov < 5000; omega), bd_some]
    refine ⟨_, rfl, ?_⟩
    rw [← fst_ov R (p := agB p st gn) (fun i hi => if_neg (no1 R hi))]
    exact ag_m hJ p true sg (fun j hj => R.st4 hj) (fun j hj => (R.gn5 hj).1) J 0 FU (by omega) (by show J < 5000; omega)
theorem q_place (T : TR 0 W G N nr mw gf pf sg mg mu nf qf lf am sm dm uw ug ub us un uq ue ul sx ax gx ux dx) (R : BR W G N nr J ov kd op ti st gn tl br dn mj mr mt) {pl : Nat} (hp1 : 1 ≤ pl) (hp2 : pl ≤ 24) (p th : Int32) : ∃ r, f_X10_place p true us (nI pl) (nI J) (nI ov) st gn = some r ∧ f_X11_place p th true (nI pl) (nI J) sg mj = some (r, 0) := by
  obtain ⟨hb, B, X, M⟩ := T
  have hJ := R.1
  have hov := R.2.1
  unfold f_X10_place f_X11_place f_X10_place_b37 f_X11_place_b36
  rw [if_pos rfl, if_pos rfl, isin_b (n := pl) p _ (nI_m1 pl (by omega)), bd_some, sel_le (n := pl) (by omega) rfl, X.1.2.2.2.1]
  cases hp : inB pl p with
  | false => exact ⟨_, rfl, rfl⟩
  | true =>
    rw [if_pos rfl, if_pos rfl, show f_X1_standsIn p (nI J) (nI ov) st gn (nI N) (nI pl) = _ from sp_x (N := N) hJ hp1 hp2 p (nI ov) gn R.2.2.2.2 (J - ov) ov FU (by omega) (by show J - ov < 5000; omega), bd_some]
    refine ⟨_, rfl, ?_⟩
    rw [show f_X11_standsIn p (nI pl) (nI J) sg mj = _ from sp_m hJ hp1 hp2 p M.1.2.2.2.1 (fun j hj => R.st4 hj) (fun j hj => (R.gn5 hj).1) J 0 FU (by omega) (by show J < 5000; omega), bd_some, fst_ov R (p := spB N pl p st gn) (fun i hi => spB_n1 (no1 R hi))]
theorem i32_dec (x n : Int32) : x - n + (-1) = x - (n + 1) := by
  rw [Int32.sub_eq_add_neg x n, Int32.sub_eq_add_neg x (n + 1), Int32.neg_add, Int32.sub_eq_add_neg (-n) 1, Int32.add_assoc]
theorem i32_z (x n : Int32) : x - n = 0 ↔ n = x := by
  constructor
  · intro h
    have h2 : x - n + n = 0 + n := by rw [h]
    rw [Int32.sub_add_cancel, Int32.zero_add] at h2
    exact h2.symm
  · intro h
    rw [h, Int32.sub_self]
theorem wa_same (hJ : J ≤ 60) (x o : Int32) (hu : Bool) (hm : ∀ j, j < J → mj (14 * j + 4) = st j) : ∀ (r j : Nat) (n : Int32), r + j = J → ∃ v, (∀ f, r < f → f_X1_waiting_l7 (nI J) o st f (x - n) (nI j) = some v) ∧ (∀ f, r < f → f_X11_waits_l34 hu (nI J) mj f x n (nI j) 0 = some (v, 0))
  | 0, j, n => by
    intro h1
    refine ⟨-1, ?_, ?_⟩
    · intro f h2
      obtain ⟨f, rfl⟩ : ∃ f', f = f' + 1 := ⟨f - 1, by omega⟩
      rw [f_X1_waiting_l7, if_pos (nI_le (by omega) (by omega))]
    · intro f h2
      obtain ⟨f, rfl⟩ : ∃ f', f = f' + 1 := ⟨f - 1, by omega⟩
      rw [f_X11_waits_l34, if_pos (nI_le (by omega) (by omega))]
  | r + 1, j, n => by
    intro h1
    by_cases h0 : st j = 0
    · by_cases hn : n = x
      · refine ⟨nI j, ?_, ?_⟩
        · intro f h2
          obtain ⟨f, rfl⟩ : ∃ f', f = f' + 1 := ⟨f - 1, by omega⟩
          rw [f_X1_waiting_l7, if_neg (nI_ge (by omega) (by omega)), gv_N (by omega) (by decide), nI_clamp (by omega), if_pos h0, if_pos ((i32_z x n).2 hn)]
        · intro f h2
          obtain ⟨f, rfl⟩ : ∃ f', f = f' + 1 := ⟨f - 1, by omega⟩
          rw [f_X11_waits_l34, if_neg (nI_ge (by omega) (by omega)), m_of4 (by omega), bd_some, hm j (by omega), if_pos h0, if_pos hn]
      · obtain ⟨v, e1, e2⟩ := wa_same hJ x o hu hm r (j + 1) (n + 1) (by omega)
        refine ⟨v, ?_, ?_⟩
        · intro f h2
          obtain ⟨f, rfl⟩ : ∃ f', f = f' + 1 := ⟨f - 1, by omega⟩
          rw [f_X1_waiting_l7, if_neg (nI_ge (by omega) (by omega)), gv_N (by omega) (by decide), nI_clamp (by omega), if_pos h0, if_neg (fun h => hn ((i32_z x n).1 h)), lt_eq]
          unfold f_X1_waiting_b33
          rw [lt_eq, nI_p1, i32_dec]
          exact e1 f (by omega)
        · intro f h2
          obtain ⟨f, rfl⟩ : ∃ f', f = f' + 1 := ⟨f - 1, by omega⟩
          rw [f_X11_waits_l34, if_neg (nI_ge (by omega) (by omega)), m_of4 (by omega), bd_some, hm j (by omega), if_pos h0, if_neg hn, lt_eq]
          unfold f_X11_waits_b64
          rw [lt_eq, nI_p1]
          exact e2 f (by omega)
    · obtain ⟨v, e1, e2⟩ := wa_same hJ x o hu hm r (j + 1) n (by omega)
      refine ⟨v, ?_, ?_⟩
      · intro f h2
        obtain ⟨f, rfl⟩ : ∃ f', f = f' + 1 := ⟨f - 1, by omega⟩
        rw [f_X1_waiting_l7, if_neg (nI_ge (by omega) (by omega)), gv_N (by omega) (by decide), nI_clamp (by omega), if_neg h0]
        unfold f_X1_waiting_b33
        rw [lt_eq, nI_p1]
        exact e1 f (by omega)
      · intro f h2
        obtain ⟨f, rfl⟩ : ∃ f', f = f' + 1 := ⟨f - 1, by omega⟩
        rw [f_X11_waits_l34, if_neg (nI_ge (by omega) (by omega)), m_of4 (by omega), bd_some, hm j (by omega), if_neg h0]
        unfold f_X11_waits_b64
        rw [lt_eq, nI_p1]
        exact e2 f (by omega)
theorem wa_neg (hJ : J ≤ 60) {x : Int32} (hx : x < 0) (o : Int32) (st : Nat → Int32) : ∀ (r j f c : Nat), r + j = J → r < f → c ≤ j → f_X1_waiting_l7 (nI J) o st f (x - nI c) (nI j) = some (-1)
  | 0, j, f, c => by
    intro h1 h2 h3
    obtain ⟨f, rfl⟩ : ∃ f', f = f' + 1 := ⟨f - 1, by omega⟩
    rw [f_X1_waiting_l7, if_pos (nI_le (by omega) (by omega))]
  | r + 1, j, f, c => by
    intro h1 h2 h3
    obtain ⟨f, rfl⟩ : ∃ f', f = f' + 1 := ⟨f - 1, by omega⟩
    rw [f_X1_waiting_l7, if_neg (nI_ge (by omega) (by omega)), gv_N (by omega) (by decide), nI_clamp (by omega)]
    unfold f_X1_waiting_b33
    by_cases h0 : st j = 0
    · rw [if_pos h0, if_neg (fun h => by
        rw [← (i32_z x (nI c)).1 h] at hx
        exact nI_pos (by omega) hx), lt_eq, lt_eq, nI_p1, i32_dec, nI_p1]
      exact wa_neg hJ hx o st r (j + 1) f (c + 1) (by omega) (by omega) (by omega)
    · rw [if_neg h0, lt_eq, nI_p1]
      exact wa_neg hJ hx o st r (j + 1) f c (by omega) (by omega) (by omega)
theorem wm_skip (hJ : J ≤ 60) {x n : Int32} {hu : Bool} {F e : Nat} (he : e ≤ J) (hm : ∀ j, j < e → ¬ mj (14 * j + 4) = 0) : ∀ (r j : Nat), r + j = e → f_X11_waits_l34 hu (nI J) mj (r + F) x n (nI j) 0 = f_X11_waits_l34 hu (nI J) mj F x n (nI e) 0
  | 0, j => by
    intro h1
    obtain rfl : j = e := by omega
    rw [Nat.zero_add]
  | r + 1, j => by
    intro h1
    rw [show r + 1 + F = (r + F) + 1 from by omega, f_X11_waits_l34, if_neg (nI_ge (by omega) (by omega)), m_of4 (by omega), bd_some, if_neg (hm j (by omega))]
    unfold f_X11_waits_b64
    rw [lt_eq, nI_p1]
    exact wm_skip hJ he hm r (j + 1) (by omega)
theorem q_waits (R : BR W G N nr J ov kd op ti st gn tl br dn mj mr mt) (p th : Int32) : ∃ r, f_X10_waits p true (nI J) (nI ov) st = some r ∧ f_X11_waits p th true (nI J) mj = some (r, 0) := by
  have hJ := R.1
  have hov := R.2.1
  unfold f_X10_waits f_X11_waits f_X11_waits_b17
  rw [if_pos rfl, if_pos rfl]
  by_cases h1 : p = -1
  · obtain ⟨c, _, c2, c3, _⟩ := hm_both R.1 (fun j hj => R.st4 hj) 0
    rw [if_pos h1, if_pos (by rw [h1]; decide), if_pos h1, c2, c3]
    exact ⟨_, rfl, rfl⟩
  · rw [if_neg h1]
    by_cases h2 : (-1 : Int32) ≤ p
    · rw [if_pos h2, if_neg h1]
      obtain ⟨v, e1, e2⟩ := wa_same (mj := mj) hJ p (nI ov) true (fun j hj => R.st4 hj) (J - ov) ov 0 (by omega)
      have e3 := e1 FU (by show J - ov < 5000; omega)
      rw [Int32.sub_zero] at e3
      rw [show f_X1_waiting p (nI J) (nI ov) st = some v from e3, bd_some]
      refine ⟨v, rfl, ?_⟩
      rw [show FU = ov + (5000 - ov) from by show 5000 = _; omega]
      exact (wm_skip (e := ov) hJ hov (fun j hj => by rw [R.st4 (by omega)]; exact no0 R hj) ov 0 rfl).trans (e2 (5000 - ov) (by omega))
    · rw [if_neg h2]
      have h0 : p < 0 := by
        rw [Int32.le_iff_toInt_le, show (-1 : Int32).toInt = -1 from by decide] at h2
        rw [i0_lt]
        omega
      have e := wa_neg hJ h0 (nI ov) st (J - ov) ov FU 0 (by omega) (by show J - ov < 5000; omega) (Nat.zero_le ov)
      rw [show nI 0 = 0 from rfl, Int32.sub_zero] at e
      rw [show f_X1_waiting p (nI J) (nI ov) st = some (-1) from e]
      exact ⟨_, rfl, rfl⟩
end JobqSec
