/-! ===== pure part: orders become jobs ===== -/
section TakeSec
variable {W G N : Nat} {nr : Bool} {mw gf pf sg mg mu : Nat → Int32} {nf : Nat → Bool} {qf lf am : Nat → Int64} {sm dm : Nat → Int32} {uw ug ub us : Int32} {un : Bool} {uq ue ul : Int64} {sx : Nat → Int32} {ax gx ux : Nat → Int64} {dx : Nat → Int32} {J ov : Nat} {kd op ti st gn tl br dn mj mr : Nat → Int32} {mt : Nat → Int64}
theorem it_same {l j : Nat} (hl : l ≤ 60) (hj : j < l) {ok oo ot mo : Nat → Int32} (R : LR l ok oo ot mo) : ∃ b, f_X3_isTied (nI j) ot = some b ∧ f_X11_isLinked (nI (7 * j)) mo = some b := by
  have q := (R j hj).2
  have q0 := (q 0 (by decide)).2.1
  have q1 := (q 1 (by decide)).2.1
  have q2 := (q 2 (by decide)).2.1
  unfold f_X3_isTied f_X11_isLinked f_X3_isTied_b38 f_X11_isLinked_b37
  rw [lt_eq, i3_0, nI_p1, nI_p2, show nI (7 * j) + 4 = nI (7 * j + 4) from nI_add _ 4, show nI (7 * j) + 5 = nI (7 * j + 5) from nI_add _ 5, show nI (7 * j) + 6 = nI (7 * j + 6) from nI_add _ 6, gv_N (by omega) (by decide), gv_N (by omega) (by decide), gv_N (by omega) (by decide), gv_N (by omega) (by decide), gv_N (by omega) (by decide), gv_N (by omega) (by decide), nI_clamp (by omega), nI_clamp (by omega), nI_clamp (by omega), nI_clamp (by omega), nI_clamp (by omega), nI_clamp (by omega), lt_eq, lt_eq]
  rw [show mo (7 * j + 4) = ot (j * 3) from q0, show mo (7 * j + 5) = ot (j * 3 + 1) from q1, show mo (7 * j + 6) = ot (j * 3 + 2) from q2]
  by_cases h0 : ot (j * 3) = -1
  · rw [if_pos h0]
    by_cases h1 : ot (j * 3 + 1) = -1
    · rw [if_pos h1]
      exact ⟨_, rfl, rfl⟩
    · rw [if_neg h1]
      exact ⟨_, rfl, rfl⟩
  · rw [if_neg h0]
    exact ⟨_, rfl, rfl⟩
theorem lf_same (T : TR 0 W G N nr mw gf pf sg mg mu nf qf lf am sm dm uw ug ub us un uq ue ul sx ax gx ux dx) {l : Nat} (hl : l ≤ 60) {ok oo ot mo : Nat → Int32} (R : LR l ok oo ot mo) : ∀ (r j f : Nat), r + j = l → r < f → ∃ b, f_X10_linesFit_l2 (nI l) ok oo ot uw f (nI j) = some b ∧ f_X11_areGood_l2 (nI l) mo mw f (nI j) = some b
  | 0, j, f => by
    intro h1 h2
    obtain ⟨f, rfl⟩ : ∃ f', f = f' + 1 := ⟨f - 1, by omega⟩
    rw [f_X10_linesFit_l2, f_X11_areGood_l2, if_pos (nI_le (by omega) (by omega)), if_pos (nI_le (by omega) (by omega))]
    exact ⟨_, rfl, rfl⟩
  | r + 1, j, f => by
    intro h1 h2
    obtain ⟨f, rfl⟩ : ∃ f', f = f' + 1 := ⟨f - 1, by omega⟩
    have hj : j < l := by omega
    obtain ⟨b, i1, i2⟩ := it_same hl hj R
    obtain ⟨⟨k, hk, k1, k2⟩, q⟩ := R j hj
    have q0 : mo (7 * j + 1) = oo (j * 3) := (q 0 (by decide)).1
    have q1 : mo (7 * j + 2) = oo (j * 3 + 1) := (q 1 (by decide)).1
    have q2 : mo (7 * j + 3) = oo (j * 3 + 2) := (q 2 (by decide)).1
    have ih := lf_same T hl R r (j + 1) f (by omega) (by omega)
    rw [f_X10_linesFit_l2, f_X11_areGood_l2, if_neg (nI_ge hj (by omega)), if_neg (nI_ge hj (by omega)), lt_eq, lt_eq, i3_0, show (7 : Int32) * nI j = nI (7 * j) from nI_mul 7 j, i1, i2, bd_some, bd_some]
    unfold f_X10_linesFit_b83 f_X11_areGood_b66
    cases b with
    | true =>
      rw [if_pos rfl, if_pos rfl, lt_eq, lt_eq, nI_p1]
      exact ih
    | false =>
      rw [if_neg (by decide), if_neg (by decide), show nI (j * 3) + 1 = nI (j * 3 + 1) from nI_add _ 1, show nI (j * 3) + 2 = nI (j * 3 + 2) from nI_add _ 2, show nI (7 * j) + 1 = nI (7 * j + 1) from nI_add _ 1, show nI (7 * j) + 2 = nI (7 * j + 2) from nI_add _ 2, show nI (7 * j) + 3 = nI (7 * j + 3) from nI_add _ 3]
      rw [gv_N (by omega) (by decide), gv_N (by omega) (by decide), gv_N (by omega) (by decide), gv_N (by omega) (by decide), gv_N (by omega) (by decide), gv_N (by omega) (by decide), gv_N (by omega) (by decide), gv_N (by omega) (by decide)]
      simp only [nI_clamp (show j < 2 ^ 31 by omega), nI_clamp (show j * 3 < 2 ^ 31 by omega), nI_clamp (show j * 3 + 1 < 2 ^ 31 by omega), nI_clamp (show j * 3 + 2 < 2 ^ 31 by omega), nI_clamp (show 7 * j < 2 ^ 31 by omega), nI_clamp (show 7 * j + 1 < 2 ^ 31 by omega), nI_clamp (show 7 * j + 2 < 2 ^ 31 by omega), nI_clamp (show 7 * j + 3 < 2 ^ 31 by omega)]
      rw [k1, k2, q0, q1, q2, T.2.2.1.1.1, gd_x (b := 0) T.1 T.2.1 T.2.2.2 hk, gd_m0 T.2.1 T.2.2.2 hk, bd_some, bd_some]
      rw [T.2.2.1.1.1] at ih
      cases gd W k (oo (j * 3)).toInt64 (oo (j * 3 + 1)).toInt64 (oo (j * 3 + 2)).toInt64 with
      | true =>
        rw [if_pos rfl, if_pos rfl, lt_eq, lt_eq, nI_p1]
        exact ih
      | false => exact ⟨_, rfl, rfl⟩
theorem tk_loop (hN : N ≤ 24) {l j : Nat} (hl : l ≤ 60) (hj : j < l) (hJ : J + l ≤ 60) {ok oo ot mo : Nat → Int32} (R : LR l ok oo ot mo) (clk : Int32) (tp : Nat → Int32) (h0 : st (J + j) = 0) : ∀ (r w : Nat) (op ti mj : Nat → Int32), r + w = 3 → BR W G N nr (J + j + 1) ov kd op ti st gn tl br dn mj mr mt → (∀ t, w ≤ t → t < 3 → op ((J + j) * 3 + t) = oo (j * 3 + t)) → ∃ op' ti' mj', (∀ f k10, r < f → f_X10_takeLines_l77 (nI l) ok oo ot clk k10 f (nI J) (nI j) (nI (j * 3)) (nI (J + j)) (nI w) (nI (J + j + 1)) kd op ti st gn tl br dn = k10 (nI J) (nI (j + 1)) (nI (J + j + 1)) kd op' ti' st gn tl br dn) ∧ (∀ f k71 th ln ma mf od mv rf, r < f → f_X11_orders_l121 true clk tp mw k71 f (nI J) (nI j) (nI (7 * j)) (nI w) th ln ma mf od mv (nI (J + j + 1)) mo rf mj = k71 (nI J) (nI (j + 1)) th ln ma mf od mv (nI (J + j + 1)) mo rf mj') ∧ BR W G N nr (J + j + 1) ov kd op' ti' st gn tl br dn mj' mr mt
  | 0, w, op, ti, mj => by
    intro h1 B _
    refine ⟨op, ti, mj, ?_, ?_, B⟩
    · intro f k10 hf
      obtain ⟨f, rfl⟩ : ∃ f', f = f' + 1 := ⟨f - 1, by omega⟩
      rw [f_X10_takeLines_l77, if_pos (ge3 (by omega) (by omega)), lt_eq, nI_p1]
    · intro f k71 th ln ma mf od mv rf hf
      obtain ⟨f, rfl⟩ : ∃ f', f = f' + 1 := ⟨f - 1, by omega⟩
      rw [f_X11_orders_l121, if_pos (ge3 (by omega) (by omega)), lt_eq, nI_p1]
  | r + 1, w, op, ti, mj => by
    intro h1 B ho
    have q := (R j hj).2 w (by omega)
    by_cases hv : ot (j * 3 + w) = -1
    · obtain ⟨op', ti', mj', e1, e2, B'⟩ := tk_loop hN hl hj hJ R clk tp h0 r (w + 1) op ti mj (by omega) B (fun t h2 h3 => ho t (by omega) h3)
      refine ⟨op', ti', mj', ?_, ?_, B'⟩
      · intro f k10 hf
        obtain ⟨f, rfl⟩ : ∃ f', f = f' + 1 := ⟨f - 1, by omega⟩
        rw [f_X10_takeLines_l77, if_neg (ng3 (by omega)), nI_add, gv_N (by omega) (by decide), nI_clamp (by omega), if_pos hv]
        unfold f_X10_takeLines_b126
        rw [lt_eq, nI_p1]
        exact e1 f k10 (by omega)
      · intro f k71 th ln ma mf od mv rf hf
        obtain ⟨f, rfl⟩ : ∃ f', f = f' + 1 := ⟨f - 1, by omega⟩
        rw [f_X11_orders_l121, if_neg (ng3 (by omega)), r7_4, gv_N (by omega) (by decide), nI_clamp (by omega), q.2.1, if_pos hv]
        unfold f_X11_orders_b174
        rw [lt_eq, nI_p1]
        exact e2 f k71 th ln ma mf od mv rf (by omega)
    · obtain ⟨o, i, ho2, hi2, hv2⟩ := q.2.2.1.resolve_left hv
      have hz : op ((J + j) * 3 + w) = 0 := by
        rw [ho w (Nat.le_refl w) (by omega)]
        exact q.2.2.2 hv
      have hz2 : mj (14 * (J + j) + 1 + w) = 0 := by
        obtain ⟨k, s, g, hb, _, _, hw', _⟩ := B.jb (show J + j < J + j + 1 by omega)
        rw [(hw' w (by omega)).1, hz]
      have B1 : BR W G N nr (J + j + 1) ov kd (upd op ((J + j) * 3 + w) 0) (upd ti ((J + j) * 3 + w) (nI (2 * (J + o) + i))) st gn tl br dn (upd mj (14 * (J + j) + 10 + w) (nI (2 * (J + o) + i))) mr mt := br_tied hN B (show J + j < J + j + 1 by omega) (show w < 3 by omega) (Or.inr ⟨J + o, i, by omega, hi2, rfl⟩) h0 pk_us (by rw [pk_un (by omega)]; exact hz2) (fun i' h3 h4 => pk_un h3)
      obtain ⟨op', ti', mj', e1, e2, B'⟩ := tk_loop hN hl hj hJ R clk tp h0 r (w + 1) _ _ _ (by omega) B1 (fun t h2 h3 => by rw [pk_un (by omega)]; exact ho t (by omega) h3)
      refine ⟨op', ti', mj', ?_, ?_, B'⟩
      · intro f k10 hf
        obtain ⟨f, rfl⟩ : ∃ f', f = f' + 1 := ⟨f - 1, by omega⟩
        rw [f_X10_takeLines_l77, if_neg (ng3 (by omega)), nI_add, gv_N (by omega) (by decide), nI_clamp (by omega), if_neg hv, gv_N (by omega) (by decide), hv2, ri2, show 2 * J + (2 * o + i) = 2 * (J + o) + i from by omega]
        unfold f_X1_tie
        rw [ir3, gv_N (by omega) (by decide), gv_N (by omega) (by decide), nI_clamp (by omega), bd_some]
        unfold f_X10_takeLines_b126
        rw [lt_eq, nI_p1]
        exact e1 f k10 (by omega)
      · intro f k71 th ln ma mf od mv rf hf
        obtain ⟨f, rfl⟩ : ∃ f', f = f' + 1 := ⟨f - 1, by omega⟩
        rw [f_X11_orders_l121, if_neg (ng3 (by omega)), r7_4, gv_N (by omega) (by decide), nI_clamp (by omega), q.2.1, if_neg hv, gv_N (by omega) (by decide), hv2, lt_eq, r2_0, nI_add, nI_add, show 2 * o + i + 2 * J = 2 * (J + o) + i from by omega, r14_10, nI_add, gv_N (by omega) (by decide), nI_clamp (by omega)]
        unfold f_X11_orders_b174
        rw [lt_eq, nI_p1]
        exact e2 f k71 th ln ma mf od mv rf (by omega)
theorem tl_loop (hN : N ≤ 24) {l : Nat} (hl : l ≤ 60) (hJ : J + l ≤ 60) {ok oo ot mo : Nat → Int32} (R : LR l ok oo ot mo) (clk : Int32) (tp : Nat → Int32) : ∀ (r j : Nat) (kd op ti st gn tl br dn mj : Nat → Int32), r + j = l → BR W G N nr (J + j) ov kd op ti st gn tl br dn mj mr mt → ∃ (kd' op' ti' st' gn' tl' br' dn' mj' : Nat → Int32), (∀ f, r < f → f_X10_takeLines_l10 (nI l) ok oo ot clk f (nI J) (nI j) (nI (J + j)) kd op ti st gn tl br dn = some (nI (J + l), kd', op', ti', st', gn', tl', br', dn')) ∧ (∀ f th ln ma mf mv rf, r < f → f_X11_orders_l71 true clk tp mw f (nI J) (nI j) th ln ma mf (nI l) mv (nI (J + j)) mo rf mj = some (nI l, th, ln, ma, mf, nI l, mv, nI (J + l), mo, rf, mj')) ∧ BR W G N nr (J + l) ov kd' op' ti' st' gn' tl' br' dn' mj' mr mt
  | 0, j, kd, op, ti, st, gn, tl, br, dn, mj => by
    intro h1 B
    obtain rfl : j = l := by omega
    refine ⟨kd, op, ti, st, gn, tl, br, dn, mj, ?_, ?_, B⟩
    · intro f hf
      obtain ⟨f, rfl⟩ : ∃ f', f = f' + 1 := ⟨f - 1, by omega⟩
      rw [f_X10_takeLines_l10, if_pos (nI_le (Nat.le_refl _) (by omega))]
    · intro f th ln ma mf mv rf hf
      obtain ⟨f, rfl⟩ : ∃ f', f = f' + 1 := ⟨f - 1, by omega⟩
      rw [f_X11_orders_l71, if_pos (nI_le (Nat.le_refl _) (by omega))]
  | r + 1, j, kd, op, ti, st, gn, tl, br, dn, mj => by
    intro h1 B
    have hj : j < l := by omega
    obtain ⟨⟨k, hk, k1, k2⟩, q⟩ := R j hj
    have q0 : mo (7 * j + 1) = oo (j * 3) := (q 0 (by decide)).1
    have q1 : mo (7 * j + 2) = oo (j * 3 + 1) := (q 1 (by decide)).1
    have q2 : mo (7 * j + 3) = oo (j * 3 + 2) := (q 2 (by decide)).1
    obtain ⟨kd1, op1, ti1, st1, gn1, tl1, br1, dn1, mj1, a1, a2, B1, z0, z1, z2, z3⟩ := add_same hN B (show J + j < 60 by omega) hk (oo (j * 3)) (oo (j * 3 + 1)) (oo (j * 3 + 2)) clk
    obtain ⟨op2, ti2, mj2, e1, e2, B2⟩ := tk_loop hN hl hj hJ R clk tp z0 3 0 op1 ti1 mj1 rfl B1 (fun t _ ht => by
      rcases (show t = 0 ∨ t = 1 ∨ t = 2 by omega) with rfl | rfl | rfl
      · exact z1
      · exact z2
      · exact z3)
    obtain ⟨kd', op', ti', st', gn', tl', br', dn', mj', g1, g2, B'⟩ := tl_loop hN hl hJ R clk tp r (j + 1) kd1 op2 ti2 st1 gn1 tl1 br1 dn1 mj2 (by omega) B2
    refine ⟨kd', op', ti', st', gn', tl', br', dn', mj', ?_, ?_, B'⟩
    · intro f hf
      obtain ⟨f, rfl⟩ : ∃ f', f = f' + 1 := ⟨f - 1, by omega⟩
      rw [f_X10_takeLines_l10, if_neg (nI_ge hj (by omega)), lt_eq, i3_0, gv_N (by omega) (by decide), gv_N (by omega) (by decide), nI_p1, gv_N (by omega) (by decide), nI_p2, gv_N (by omega) (by decide)]
      simp only [nI_clamp (show j < 2 ^ 31 by omega), nI_clamp (show j * 3 < 2 ^ 31 by omega), nI_clamp (show j * 3 + 1 < 2 ^ 31 by omega), nI_clamp (show j * 3 + 2 < 2 ^ 31 by omega)]
      rw [k1, a1, bd_some]
      exact (e1 FU _ (by decide)).trans (g1 f (by omega))
    · intro f th ln ma mf mv rf hf
      obtain ⟨f, rfl⟩ : ∃ f', f = f' + 1 := ⟨f - 1, by omega⟩
      rw [f_X11_orders_l71, if_neg (nI_ge hj (by omega)), lt_eq, show (7 : Int32) * nI j = nI (7 * j) from nI_mul 7 j, gv_N (by omega) (by decide), nI_p1, gv_N (by omega) (by decide), nI_p2, gv_N (by omega) (by decide), show nI (7 * j) + 3 = nI (7 * j + 3) from nI_add _ 3, gv_N (by omega) (by decide)]
      simp only [nI_clamp (show 7 * j < 2 ^ 31 by omega), nI_clamp (show 7 * j + 1 < 2 ^ 31 by omega), nI_clamp (show 7 * j + 2 < 2 ^ 31 by omega), nI_clamp (show 7 * j + 3 < 2 ^ 31 by omega)]
      rw [k2, q0, q1, q2, a2, bd_some]
      exact (e2 FU _ th ln ma mf (nI l) mv rf (by decide)).trans (g2 f th ln ma mf mv rf (by omega))
theorem q_orders (T : TR 0 W G N nr mw gf pf sg mg mu nf qf lf am sm dm uw ug ub us un uq ue ul sx ax gx ux dx) (R : BR W G N nr J ov kd op ti st gn tl br dn mj mr mt) {L : Nat} {tb tp : Nat → Int32} (h : TP L tb tp) {rf mf : Nat → Int32} (hr : RF rf mf) (clk th : Int32) (o1 o2 : Int32) (ok oo ot : Nat → Int32) (ma mfa mod mv : Int32) (mo : Nat → Int32) :
    ∃ (r : Int32) (L' J' : Nat) (o1' o2' : Int32) (ok' oo' ot' kd' op' ti' st' gn' tl' br' dn' rf' : Nat → Int32) (m1 m2 m3 m4 : Int32) (mo' mf' mj' : Nat → Int32),
      f_X10_orders true (nI L) tb o1 o2 ok oo ot uw (nI J) clk kd op ti st gn tl br dn rf = some (r, nI L', o1', o2', ok', oo', ot', nI J', kd', op', ti', st', gn', tl', br', dn', rf') ∧
      f_X11_orders th (nI L) ma mfa mod mv true clk (nI J) tp mo mw mf mj = some (r, 0, nI L', m1, m2, m3, m4, nI J', mo', mf', mj') ∧
      TP L' tb tp ∧ BR W G N nr J' ov kd' op' ti' st' gn' tl' br' dn' mj' mr mt ∧ RF rf' mf' := by
  have hL := h.1
  have hJ := R.1
  obtain ⟨rf1, mf1, s1, s2, s3, s4⟩ := rf_1 hr
  obtain ⟨rf2, mf2, t1, t2, t3, t4⟩ := rf_2 hr
  unfold f_X10_orders f_X11_orders f_X10_orders_b31 f_X11_orders_b33
  rw [if_pos rfl, if_pos rfl, s1, s3, t1, t3]
  simp only [bd_some]
  rcases ot_same h o1 o2 ok oo ot ma mfa mod mv mo with ⟨F, c2, c3, c4, c5, c6, m1, m2, m3, m4, m5, hF, eX, eM⟩ | ⟨l, c3, m1, m2, m4, ok', oo', ot', mo', hl, eX, eM, LRl⟩
  · rw [eX, eM, bd_some, bd_some]
    dsimp only
    rw [if_neg (nm1_ne (by omega)), if_neg (nm1_ne (by omega))]
    exact ⟨_, L, J, _, _, _, _, _, _, _, _, _, _, _, _, _, _, _, _, _, _, _, _, _, rfl, rfl, h, R, s4⟩
  · obtain ⟨b, f1, f2⟩ := lf_same T hl LRl l 0 FU (by omega) (by show l < 5000; omega)
    rw [eX, eM, bd_some, bd_some]
    dsimp only
    rw [if_pos rfl, if_pos rfl, show f_X10_linesFit (nI l) ok' oo' ot' uw = _ from f1, show f_X11_areGood (nI l) mo' mw = _ from f2, bd_some, bd_some]
    cases b with
    | false =>
      rw [if_neg (by decide), if_neg (by decide)]
      exact ⟨_, L, J, _, _, _, _, _, _, _, _, _, _, _, _, _, _, _, _, _, _, _, _, _, rfl, rfl, h, R, s4⟩
    | true =>
      rw [if_pos rfl, if_pos rfl, nI_add]
      by_cases h60 : J + l ≤ 60
      · have hle : nI (J + l) ≤ 60 := nI_le (a := J + l) (b := 60) h60 (by decide)
        obtain ⟨kd', op', ti', st', gn', tl', br', dn', mj', g1, g2, B'⟩ := tl_loop T.2.1.2.2.2.2 hl h60 LRl clk tp l 0 kd op ti st gn tl br dn mj (by omega) R
        rw [if_pos hle, if_pos hle, show f_X10_takeLines (nI l) ok' oo' ot' (nI J) clk kd op ti st gn tl br dn = _ from g1 FU (by show l < 5000; omega), bd_some]
        exact ⟨_, 0, J + l, _, _, _, _, _, _, _, _, _, _, _, _, _, _, _, _, _, _, _, _, _, rfl, g2 FU 0 0 m1 m2 m4 mf (by show l < 5000; omega), ⟨Nat.zero_le 400, fun i hi => absurd hi (Nat.not_lt_zero i)⟩, B', hr⟩
      · have hle : ¬ nI (J + l) ≤ 60 := nI_ge (a := 60) (b := J + l) (by omega) (by omega)
        rw [if_neg hle, if_neg hle]
        exact ⟨_, L, J, _, _, _, _, _, _, _, _, _, _, _, _, _, _, _, _, _, _, _, _, _, rfl, rfl, h, R, t4⟩
end TakeSec
