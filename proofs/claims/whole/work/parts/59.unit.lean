/-! ===== pure part: a unit is made ===== -/
theorem br_0 (W G N : Nat) (nr : Bool) (kd op ti st gn tl br dn mj mr : Nat → Int32) (mt : Nat → Int64) : BR W G N nr 0 0 kd op ti st gn tl br dn mj mr mt := ⟨by decide, Nat.le_refl 0, fun j hj => absurd hj (Nat.not_lt_zero j), fun j hj => absurd hj (Nat.not_lt_zero j), fun j hj => absurd hj (Nat.not_lt_zero j)⟩
theorem q_unit {L : Nat} {tb tp : Nat → Int32} (h : TP L tb tp) {mw gf pf sg mg mu : Nat → Int32} {nf : Nat → Bool} {qf lf am : Nat → Int64} {sm dm : Nat → Int32} (S : MT 1 22 4 24 true mw gf pf sg mg mu nf qf lf am sm dm) (hu hi : Bool) (x1 x2 x3 x4 : Int32) (x5 x6 : Bool) (x7 : Int32) (uw ug ub us up : Int32) (un : Bool) (uq ue ul : Int64) (sx : Nat → Int32) (ax gx ux : Nat → Int64) (dx : Nat → Int32) (bj bo bc : Int32) (bh : Bool) (th ma mf mtw : Int32) (mhu : Bool) (mpl mcl : Int32) (mhd : Bool) (mjb : Int32) (mhi : Bool) (rd : Nat → Int32) :
    (∃ (c1 c2 c3 c4 : Int32) (c5 c6 : Bool) (c7 m1 m2 m3 : Int32) (m4 : Nat → Int32),
      f_X10_unit hu hi (nI L) tb x1 x2 x3 x4 x5 x6 x7 uw ug ub us up un uq ue ul sx ax gx ux dx bj bo bc bh = some (-1, hu, hi, nI L, c1, c2, c3, c4, c5, c6, c7, uw, ug, ub, us, up, un, uq, ue, ul, sx, ax, gx, ux, dx, bj, bo, bc, bh) ∧
      f_X11_unit th (nI L) ma mf mtw mhu mpl mcl mhd mjb mhi tp rd mw gf pf sg mg mu nf qf lf am sm dm = some (-1, 0, nI L, m1, m2, m3, mhu, mpl, mcl, mhd, mjb, mhi, m4, mw, gf, pf, sg, mg, mu, nf, qf, lf, am, dm)) ∨
    (∃ (W G N pl : Nat) (nr : Bool) (c1 c2 c3 c4 : Int32) (c5 c6 : Bool) (c7 m1 m2 m3 : Int32) (m4 : Nat → Int32) (uw' ug' ub' us' : Int32) (un' : Bool) (uq' ue' ul' : Int64) (sx' : Nat → Int32) (ax' gx' ux' : Nat → Int64) (dx' mw' gf' pf' sg' mg' mu' : Nat → Int32) (nf' : Nat → Bool) (qf' lf' am' : Nat → Int64) (dm' : Nat → Int32),
      f_X10_unit hu hi (nI L) tb x1 x2 x3 x4 x5 x6 x7 uw ug ub us up un uq ue ul sx ax gx ux dx bj bo bc bh = some (nI N, true, false, 0, c1, c2, c3, c4, c5, c6, c7, uw', ug', ub', us', nI pl, un', uq', ue', ul', sx', ax', gx', ux', dx', 0, 0, 0, false) ∧
      f_X11_unit th (nI L) ma mf mtw mhu mpl mcl mhd mjb mhi tp rd mw gf pf sg mg mu nf qf lf am sm dm = some (nI N, 0, 0, m1, m2, m3, true, nI pl, 0, false, 0, false, m4, mw', gf', pf', sg', mg', mu', nf', qf', lf', am', dm') ∧
      TR 0 W G N nr mw' gf' pf' sg' mg' mu' nf' qf' lf' am' sm dm' uw' ug' ub' us' un' uq' ue' ul' sx' ax' gx' ux' dx' ∧ MT 1 22 4 24 true mw' gf' pf' sg' mg' mu' nf' qf' lf' am' sm dm' ∧ 1 ≤ pl ∧ pl ≤ 24) := by
  have hL := h.1
  rcases ut_same h x1 x2 x3 x4 x5 x6 x7 ma mf mtw rd with ⟨F, c1, c2, c3, c4, c5, c6, c7, m1, m2, m3, m4, hF, eX, eM⟩ | ⟨b1, b3, b4, b5, w, g, s, f, pp, nn, c7, m1, m2, tw, rd', eX, eM, U⟩
  · refine Or.inl ⟨c1, c2, c3, c4, c5, c6, c7, m1, m2, m3, m4, ?_, ?_⟩
    · unfold f_X10_unit
      rw [eX, bd_some]
      dsimp only
      rw [if_neg (nm1_ne (by omega))]
    · unfold f_X11_unit
      rw [eM, bd_some]
      dsimp only
      rw [if_neg (nm1_ne (by omega))]
  · obtain ⟨u0, u1, u2, u3, u4, ⟨u5, u6⟩, u7⟩ := U
    obtain ⟨W, hW1, hW2, hw, hr0⟩ : ∃ v, 6 ≤ v ∧ v ≤ 22 ∧ w = nI v ∧ rd' 0 = nI v := by
      rcases u1 with ⟨_, hh⟩ | ⟨hh, _⟩
      · exact hh
      · exact absurd hh (by decide)
    obtain ⟨N, hN1, hN2, hs, hr2⟩ : ∃ v, 5 ≤ v ∧ v ≤ 24 ∧ s = nI v ∧ rd' 2 = nI v := by
      rcases u3 with ⟨_, hh⟩ | ⟨hh, _⟩
      · exact hh
      · exact absurd hh (by decide)
    obtain ⟨G, hG, hg, hr1⟩ : ∃ v, v ≤ 4 ∧ f_X9_guardOrUsual g = some (nI v) ∧ rd' 1 = nI v := by
      unfold f_X9_guardOrUsual
      rw [lt_eq]
      rcases u2 with ⟨_, v, hv, hg, hr⟩ | ⟨_, hg, hr⟩
      · exact ⟨v, hv, by rw [if_neg (by rw [hg]; exact nI_nm1 (by omega)), hg], hr⟩
      · exact ⟨2, by decide, by rw [if_pos hg]; rfl, hr⟩
    obtain ⟨pl, hp1, hp2, hp, hr3⟩ : ∃ v, 1 ≤ v ∧ v ≤ 24 ∧ f_X9_placesOrStages s f = some (nI v) ∧ (if rd' 3 = 0 then nI N else rd' 3) = nI v := by
      unfold f_X9_placesOrStages
      rw [lt_eq]
      rcases u4 with ⟨_, v, hv1, hv2, hf, hr⟩ | ⟨_, hf, hr⟩
      · exact ⟨v, hv1, by omega, by rw [if_neg (by rw [hf]; exact nI_nm1 (by omega)), hf], by rw [hr, if_neg (nI_ne0 hv1 (by omega))]⟩
      · exact ⟨N, by omega, hN2, by rw [if_pos hf, hs], by rw [if_pos hr]⟩
    have B : BD W G N := ⟨hW1, hW2, hG, hN1, hN2⟩
    obtain ⟨sx', ax', gx', ux', dx', bX, hX⟩ := x_build (W := W) (G := G) hN2 (chk_of B) (nI pl) nn uw ug ub us up un uq ue ul sx ax gx ux dx
    obtain ⟨mw', gf', pf', sg', mg', mu', nf', qf', lf', am', dm', bM, hM, hK⟩ := m_lays (b := 0) (by decide) hN2 (chk_of B) S.2.2.1 nn mw gf pf sg mg mu nf qf lf am dm
    have X : XT W G N nn (nI W) (nI G) (nI (W + G)) (nI N) nn ((2 : Int64) * ro e8 (nI (W + G))) (ro e8 (nI (W + G))) (ro ((2 : Int64) * l3) (nI (W + G))) sx' ax' gx' ux' dx' := ⟨⟨rfl, rfl, rfl, rfl, rfl⟩, ⟨rfl, rfl, rfl⟩, hX⟩
    have hnn : (if rd' 4 = (1 : Int32) then true else false) = nn := by
      rw [u6, ← u5]
      cases nn <;> rfl
    refine Or.inr ⟨W, G, N, pl, nn, w, g, s, f, pp, nn, c7, m1, m2, tw, rd', nI W, nI G, nI (W + G), nI N, nn, _, _, _, sx', ax', gx', ux', dx', mw', gf', pf', sg', mg', mu', nf', qf', lf', am', dm', ?_, ?_, ⟨by decide, B, X, hM⟩, hK 1 22 4 24 true (by decide) S, hp1, hp2⟩
    · unfold f_X10_unit
      rw [eX, bd_some]
      dsimp only
      rw [if_pos rfl, hg, bd_some, hp, bd_some, hw, hs, bX, bd_some]
      unfold f_X1_clear
      rw [bd_some]
    · have hfin : ∀ t1 : Int32, f_X11_unit_b88 tp sm t1 0 0 m1 m2 tw true mpl mcl mhd mjb mhi rd' mw' gf' pf' sg' mg' mu' nf' qf' lf' am' dm' = some (nI N, 0, 0, m1, m2, tw, true, t1, 0, false, 0, false, rd', mw', gf', pf', sg', mg', mu', nf', qf', lf', am', dm') := by
        intro t1
        unfold f_X11_unit_b88
        rw [gv_0 (by decide), cl_0, hM.1.2.2.2.1]
      unfold f_X11_unit
      rw [eM, bd_some]
      dsimp only
      rw [if_pos rfl, gv_0 (by decide), gvL1, gvL2, gvL4, cl_0, clL1, clL2, clL4, hr0, hr1, hr2, hnn, lt_eq, show f_X11_lays 0 (nI W) (nI G) (nI N) nn mw gf pf sg mg mu nf qf lf am sm dm = _ from bM, bd_some, gvL3, clL3]
      dsimp only
      by_cases h3 : rd' 3 = 0
      · rw [if_pos h3, gv_0 (by decide), hM.1.2.2.2.1, hfin]
        rw [if_pos h3] at hr3
        rw [hr3]
      · rw [if_neg h3, gvL3, hfin]
        rw [if_neg h3] at hr3
        rw [hr3]
