/-! ===== pure part: solve and comes alike ===== -/
theorem ite_ex {α : Type} {c : Prop} {d : Decidable c} {x y : Option α} (hx : ∃ g, x = some g) (hy : ∃ g, y = some g) : ∃ g, (@ite (Option α) c d x y) = some g := by
  by_cases h : c
  · rw [if_pos h]
    exact hx
  · rw [if_neg h]
    exact hy
theorem good_some {b k : Nat} {mw : Nat → Int32} (hb : b < 2) (p q r : Int64) : ∃ g, f_X11_isGood (nI b) (nI k) p q r mw = some g := by
  unfold f_X11_isGood
  rw [gv_N hb (by decide)]
  simp only [m_isTo, bd_some, lt_eq, j_abs, f_X11_isGood_b105, f_X11_isGood_b134, f_X11_isGood_b186, f_X11_isGood_b204, f_X11_isGood_b225, f_X11_isGood_b266]
  repeat' (first | refine ite_ex ?_ ?_ | exact ⟨_, rfl⟩)
theorem en_same {b W G N k : Nat} {mw gf pf sg uf sm dm : Nat → Int32} {nr : Nat → Bool} {qf lf am : Nat → Int64} {sx dx : Nat → Int32} {ax us : Nat → Int64} (U : UR b W G N mw gf pf sg uf sm dm nr qf lf am sx dx ax us) (hk : k < 9) (x y z f1 f2 g1 g2 : Int64) (st : Int32) (hst : (k = 5 ∨ k = 7) → -(2 ^ 31) < st.toInt) : ∃ q : Int64 × Int64, f_X7_finish (nI k) x y z st f1 f2 (nI G) (nI (W + G)) (nr b) (lf b) dx = some q ∧ f_X11_ends (nI b) (nI k) x y z g1 g2 st gf pf nr lf dm = some q := by
  obtain ⟨⟨hb, hW2, hW, hG, hN⟩, ⟨hw, hg, hp, hsg⟩, hu, hq, hl, hS, hA, hd, hd3⟩ := U
  rcases (show k = 0 ∨ k = 1 ∨ k = 2 ∨ k = 3 ∨ k = 4 ∨ k = 5 ∨ k = 6 ∨ k = 7 ∨ k = 8 by omega) with rfl | rfl | rfl | rfl | rfl | rfl | rfl | rfl | rfl
  · exact en_0 hb (by omega) hg hp hd hd3 x y z f1 f2 g1 g2 st
  · exact en_1 hb (by omega) hg hp hd hd3 x y z f1 f2 g1 g2 st
  · exact en_2 hb (by omega) hg hp hd hd3 x y z f1 f2 g1 g2 st
  · exact en_3 hb (by omega) hg hp hd hd3 x y z f1 f2 g1 g2 st
  · exact en_4 hb (by omega) hg hp hd hd3 x y z f1 f2 g1 g2 st
  · exact en_5 hb (by omega) hg hp hd hd3 x y z f1 f2 g1 g2 st (fun v => sc_mv hb (hst (by decide)) nr v)
  · exact en_6 hb (by omega) hg hp hd hd3 x y z f1 f2 g1 g2 st
  · exact en_7 hb (by omega) hg hp hd hd3 x y z f1 f2 g1 g2 st (fun v => sc_mv hb (hst (by decide)) nr v)
  · exact en_8 hb (by omega) hg hp hd hd3 x y z f1 f2 g1 g2 st
theorem solve_good {b W G N k : Nat} {mw gf pf sg uf sm dm : Nat → Int32} {nr : Nat → Bool} {qf lf am : Nat → Int64} {sx dx : Nat → Int32} {ax us : Nat → Int64} (U : UR b W G N mw gf pf sg uf sm dm nr qf lf am sx dx ax us) (hk : k < 9) (p q r : Int64) (hgood : f_X11_isGood (nI b) (nI k) p q r mw = some true) : ∃ (w : Int64 × Int64 × Int64 × Int32) (a : Int64 × Int64), (∀ (rx ry rz f1 f2 : Int64) (ub st : Int32), f_X7_solve (nI k) p q r rx ry rz ub st f1 f2 (nI W) (nI G) (nI (W + G)) (nI N) (nr b) (qf b) (lf b) sx ax us dx = some (true, (stN (kMd k) (kTurn k) (nr b) (fun i => sx (kMd k * 24 + i)) (fun i => ax (kMd k * 24 + i)) (w.1, w.2.1, w.2.2.1) N).1, (stN (kMd k) (kTurn k) (nr b) (fun i => sx (kMd k * 24 + i)) (fun i => ax (kMd k * 24 + i)) (w.1, w.2.1, w.2.2.1) N).2.1, (stN (kMd k) (kTurn k) (nr b) (fun i => sx (kMd k * 24 + i)) (fun i => ax (kMd k * 24 + i)) (w.1, w.2.1, w.2.2.1) N).2.2, (bitN (kMd k) (kTurn k) (nr b) (fun i => sx (kMd k * 24 + i)) (fun i => ax (kMd k * 24 + i)) (w.1, w.2.1, w.2.2.1) N), w.2.2.2, a.1, a.2)) ∧ (∀ (mx my mz f1 f2 : Int64) (ma : Int32), f_X11_comes (nI b) (nI k) p q r mx my mz f1 f2 ma mw gf pf sg uf nr qf lf am sm dm = some (true, (stN (kMd k) (kTurn k) (nr b) (fun i => sx (kMd k * 24 + i)) (fun i => ax (kMd k * 24 + i)) (w.1, w.2.1, w.2.2.1) N).1, (stN (kMd k) (kTurn k) (nr b) (fun i => sx (kMd k * 24 + i)) (fun i => ax (kMd k * 24 + i)) (w.1, w.2.1, w.2.2.1) N).2.1, (stN (kMd k) (kTurn k) (nr b) (fun i => sx (kMd k * 24 + i)) (fun i => ax (kMd k * 24 + i)) (w.1, w.2.1, w.2.2.1) N).2.2, a.1, a.2, w.2.2.2)) := by
  obtain ⟨w, h1, h2, h3⟩ := bg_same U hk p q r hgood
  obtain ⟨a, ha1, ha2⟩ := en_same U hk (stN (kMd k) (kTurn k) (nr b) (fun i => sx (kMd k * 24 + i)) (fun i => ax (kMd k * 24 + i)) (w.1, w.2.1, w.2.2.1) N).1 (stN (kMd k) (kTurn k) (nr b) (fun i => sx (kMd k * 24 + i)) (fun i => ax (kMd k * 24 + i)) (w.1, w.2.1, w.2.2.1) N).2.1 (stN (kMd k) (kTurn k) (nr b) (fun i => sx (kMd k * 24 + i)) (fun i => ax (kMd k * 24 + i)) (w.1, w.2.1, w.2.2.1) N).2.2 0 0 0 0 w.2.2.2 h3
  have U' := U
  obtain ⟨⟨hb, hW2, hW, hG, hN⟩, ⟨hw, hg, hp, hsg⟩, hu, hq, hl, hS, hA, hd, hd3⟩ := U'
  have hmd := (kMode_n k hk).2.2
  refine ⟨w, a, ?_, ?_⟩
  · intro rx ry rz f1 f2 ub st
    unfold f_X7_solve
    rw [fits_same hb hW hk hw, hgood, bd_some, if_pos rfl, h1, bd_some, x_through hk hN, bd_some]
    obtain ⟨a', hb1, hb2⟩ := en_same U hk (stN (kMd k) (kTurn k) (nr b) (fun i => sx (kMd k * 24 + i)) (fun i => ax (kMd k * 24 + i)) (w.1, w.2.1, w.2.2.1) N).1 (stN (kMd k) (kTurn k) (nr b) (fun i => sx (kMd k * 24 + i)) (fun i => ax (kMd k * 24 + i)) (w.1, w.2.1, w.2.2.1) N).2.1 (stN (kMd k) (kTurn k) (nr b) (fun i => sx (kMd k * 24 + i)) (fun i => ax (kMd k * 24 + i)) (w.1, w.2.1, w.2.2.1) N).2.2 (if k = 8 then w.1 else f1) (if k = 8 then w.2.1 else f2) 0 0 w.2.2.2 h3
    have e : a' = a := Option.some.inj (hb2.symm.trans ha2)
    rw [hb1, bd_some, e]
  · intro mx my mz f1 f2 ma
    unfold f_X11_comes
    rw [hgood, bd_some, if_pos rfl, h2, bd_some]
    have hl := m_loop (mw := mw) (gf := gf) (pf := pf) (uf := uf) (dm := dm) (nr := nr) (qf := qf) (lf := lf) hb hk hN hsg (S := fun i => sx (kMd k * 24 + i)) (An := fun i => ax (kMd k * 24 + i)) (hS (kMd k) hmd) (hA (kMd k) hmd) (w.1, w.2.1, w.2.2.1) (if k = 8 then w.1 else f1) (if k = 8 then w.2.1 else f2) w.2.2.2 N 0 FU (by omega) (by show N < 5000; omega)
    obtain ⟨a', hb1, hb2⟩ := en_same U hk (stN (kMd k) (kTurn k) (nr b) (fun i => sx (kMd k * 24 + i)) (fun i => ax (kMd k * 24 + i)) (w.1, w.2.1, w.2.2.1) N).1 (stN (kMd k) (kTurn k) (nr b) (fun i => sx (kMd k * 24 + i)) (fun i => ax (kMd k * 24 + i)) (w.1, w.2.1, w.2.2.1) N).2.1 (stN (kMd k) (kTurn k) (nr b) (fun i => sx (kMd k * 24 + i)) (fun i => ax (kMd k * 24 + i)) (w.1, w.2.1, w.2.2.1) N).2.2 0 0 (if k = 8 then w.1 else f1) (if k = 8 then w.2.1 else f2) w.2.2.2 h3
    have e : a' = a := Option.some.inj (hb1.symm.trans ha1)
    rw [hb2, bd_some, e] at hl
    exact hl
theorem solve_bad {b W k : Nat} {mw gf pf sg uf sm dm : Nat → Int32} {nr : Nat → Bool} {qf lf am : Nat → Int64} (hb : b < 2) (hW : W ≤ 22) (hk : k < 9) (hw : mw b = nI W) (p q r : Int64) (hgood : f_X11_isGood (nI b) (nI k) p q r mw = some false) : (∀ (rx ry rz f1 f2 qr ln : Int64) (ub st g pt ns : Int32) (n : Bool) (sx dx : Nat → Int32) (ax us : Nat → Int64), f_X7_solve (nI k) p q r rx ry rz ub st f1 f2 (nI W) g pt ns n qr ln sx ax us dx = some (false, rx, ry, rz, ub, st, f1, f2)) ∧ (∀ (mx my mz f1 f2 : Int64) (ma : Int32), f_X11_comes (nI b) (nI k) p q r mx my mz f1 f2 ma mw gf pf sg uf nr qf lf am sm dm = some (false, mx, my, mz, f1, f2, ma)) := by
  refine ⟨?_, ?_⟩
  · intros
    unfold f_X7_solve
    rw [fits_same hb hW hk hw, hgood, bd_some, if_neg (by decide)]
  · intros
    unfold f_X11_comes
    rw [hgood, bd_some, if_neg (by decide)]
