/-! ===== pure part: results at once ===== -/
def fi (W : Nat) (v : Int64) : Int64 := v <<< (((22 : Int32) - nI W).toInt64 &&& 63)
section AtSec
variable {W G N : Nat} {nr : Bool} {mw gf pf sg mg mu : Nat → Int32} {nf : Nat → Bool} {qf lf am : Nat → Int64} {sm dm : Nat → Int32} {uw ug ub us : Int32} {un : Bool} {uq ue ul : Int64} {sx : Nat → Int32} {ax gx ux : Nat → Int64} {dx : Nat → Int32} {vw vg vb vs : Int32} {vn : Bool} {vq ve vl : Int64} {vsx : Nat → Int32} {vax vgx vux : Nat → Int64} {vdx : Nat → Int32}
theorem q_value (T : TR 0 W G N nr mw gf pf sg mg mu nf qf lf am sm dm uw ug ub us un uq ue ul sx ax gx ux dx) (p a b c i th : Int32) (rx ry rz : Int64) (rb rs : Int32) (f1 f2 : Int64) (x y z g1 g2 : Int64) (as : Int32) : ∃ (r : Int32) (c1 c2 c3 : Int64) (c4 c5 : Int32) (c6 c7 d1 d2 d3 d4 d5 : Int64) (d6 : Int32), f_X10_value p a b c i true uw ug ub us un uq ul sx ax ux dx rx ry rz rb rs f1 f2 = some (r, c1, c2, c3, c4, c5, c6, c7) ∧ f_X11_value p a b c i th true x y z g1 g2 as mw gf pf sg mu nf qf lf am sm dm = some (r, 0, d1, d2, d3, d4, d5, d6) := by
  unfold f_X10_value f_X11_value
  rw [x_isKind, m_isKind, bd_some, bd_some, x_isEi, isin_b (n := 2) i 1 (by decide), bd_some, bd_some]
  cases hp : inB 9 p with
  | false => exact ⟨_, _, _, _, _, _, _, _, _, _, _, _, _, _, rfl, rfl⟩
  | true =>
    cases hi : inB 2 i with
    | false => exact ⟨_, _, _, _, _, _, _, _, _, _, _, _, _, _, rfl, rfl⟩
    | true =>
      obtain ⟨k, hk, rfl⟩ := inB_of (by decide) hp
      obtain ⟨j, hj, rfl⟩ := inB_of (by decide) hi
      rw [if_pos rfl, if_pos rfl, if_pos rfl, if_pos rfl]
      cases hg : gd W k a.toInt64 b.toInt64 c.toInt64 with
      | false =>
        have h := sol_b T hk hg
        rw [h.1, show f_X11_comes 0 (nI k) a.toInt64 b.toInt64 c.toInt64 x y z g1 g2 as mw gf pf sg mu nf qf lf am sm dm = _ from h.2 x y z g1 g2 as]
        exact ⟨_, _, _, _, _, _, _, _, _, _, _, _, _, _, rfl, rfl⟩
      | true =>
        rw [sol_x T hk hg, show f_X11_comes 0 (nI k) a.toInt64 b.toInt64 c.toInt64 x y z g1 g2 as mw gf pf sg mu nf qf lf am sm dm = _ from sol_m (b := 0) T.1 T.2.1 T.2.2.2 hk hg x y z g1 g2 as, bd_some, bd_some]
        dsimp only
        rw [if_pos rfl, if_pos rfl, an_x hj, bd_some, lt_eq]
        rcases (show j = 0 ∨ j = 1 by omega) with rfl | rfl
        · exact ⟨_, _, _, _, _, _, _, _, _, _, _, _, _, _, rfl, rfl⟩
        · exact ⟨_, _, _, _, _, _, _, _, _, _, _, _, _, _, rfl, rfl⟩
theorem sb (T : TR 0 W G N nr mw gf pf sg mg mu nf qf lf am sm dm uw ug ub us un uq ue ul sx ax gx ux dx) (S : TR 1 22 4 24 true mw gf pf sg mg mu nf qf lf am sm dm vw vg vb vs vn vq ve vl vsx vax vgx vux vdx) {k : Nat} (hk : k < 9) (p q r : Int64) (rx ry rz : Int64) (rb rs : Int32) (f1 f2 : Int64) (kx ky kz : Int64) (kb ks : Int32) (h1 h2 : Int64) : ∃ (c1 c2 c3 : Int64) (c4 c5 : Int32) (c6 c7 e1 e2 e3 : Int64) (e4 e5 : Int32) (e6 e7 : Int64), f_X10_solveBoth (nI k) p q r uw ug ub us un uq ul sx ax ux dx rx ry rz rb rs f1 f2 vw vg vb vs vn vq vl vsx vax vux vdx kx ky kz kb ks h1 h2 = some (gd W k p q r && gd 22 k (fi W p) (fi W q) (fi W r), c1, c2, c3, c4, c5, c6, c7, e1, e2, e3, e4, e5, e6, e7) ∧ (gd W k p q r = true → gd 22 k (fi W p) (fi W q) (fi W r) = true → c6 = (aw W G N nr k p q r).1 ∧ c7 = (aw W G N nr k p q r).2 ∧ e6 = (aw 22 4 24 true k (fi W p) (fi W q) (fi W r)).1 ∧ e7 = (aw 22 4 24 true k (fi W p) (fi W q) (fi W r)).2) := by
  unfold f_X10_solveBoth
  rw [lt_eq]
  cases hg : gd W k p q r with
  | false =>
    rw [(sol_b T hk hg).1]
    exact ⟨_, _, _, _, _, _, _, _, _, _, _, _, _, _, rfl, fun h => absurd h (by decide)⟩
  | true =>
    rw [sol_x T hk hg, bd_some]
    dsimp only
    rw [if_pos rfl, T.2.2.1.1.1]
    cases hg2 : gd 22 k (fi W p) (fi W q) (fi W r) with
    | false =>
      have h := (sol_b S hk hg2).1 kx ky kz h1 h2 kb ks
      unfold fi at h
      rw [h]
      exact ⟨_, _, _, _, _, _, _, _, _, _, _, _, _, _, rfl, fun _ h => absurd h (by decide)⟩
    | true =>
      have h := sol_x S hk hg2 kx ky kz h1 h2 kb ks
      unfold fi at h
      rw [h]
      exact ⟨_, _, _, _, _, _, _, _, _, _, _, _, _, _, rfl, fun _ _ => ⟨rfl, rfl, rfl, rfl⟩⟩
theorem q_finest (T : TR 0 W G N nr mw gf pf sg mg mu nf qf lf am sm dm uw ug ub us un uq ue ul sx ax gx ux dx) (S : TR 1 22 4 24 true mw gf pf sg mg mu nf qf lf am sm dm vw vg vb vs vn vq ve vl vsx vax vgx vux vdx) (p a b c i th : Int32) (rx ry rz : Int64) (rb rs : Int32) (f1 f2 : Int64) (kx ky kz : Int64) (kb ks : Int32) (h1 h2 : Int64) (x y z g1 g2 : Int64) (as : Int32) : ∃ (r : Int32) (c1 c2 c3 : Int64) (c4 c5 : Int32) (c6 c7 e1 e2 e3 : Int64) (e4 e5 : Int32) (e6 e7 d1 d2 d3 d4 d5 : Int64) (d6 : Int32), f_X10_finest p a b c i true uw ug ub us un uq ul sx ax ux dx rx ry rz rb rs f1 f2 vw vg vb vs vn vq vl vsx vax vux vdx kx ky kz kb ks h1 h2 = some (r, c1, c2, c3, c4, c5, c6, c7, e1, e2, e3, e4, e5, e6, e7) ∧ f_X11_finest p a b c i th true x y z g1 g2 as mw gf pf sg mu nf qf lf am sm dm = some (r, 0, d1, d2, d3, d4, d5, d6) := by
  unfold f_X10_finest f_X11_finest
  rw [x_isKind, m_isKind, bd_some, bd_some, x_isEi, isin_b (n := 2) i 1 (by decide), bd_some, bd_some]
  cases hp : inB 9 p with
  | false => exact ⟨_, _, _, _, _, _, _, _, _, _, _, _, _, _, _, _, _, _, _, _, _, rfl, rfl⟩
  | true =>
    cases hi : inB 2 i with
    | false => exact ⟨_, _, _, _, _, _, _, _, _, _, _, _, _, _, _, _, _, _, _, _, _, rfl, rfl⟩
    | true =>
      obtain ⟨k, hk, rfl⟩ := inB_of (by decide) hp
      obtain ⟨j, hj, rfl⟩ := inB_of (by decide) hi
      rw [if_pos rfl, if_pos rfl, if_pos rfl, if_pos rfl]
      obtain ⟨c1, c2, c3, c4, c5, c6, c7, e1, e2, e3, e4, e5, e6, e7, h1', h2'⟩ := sb T S hk a.toInt64 b.toInt64 c.toInt64 rx ry rz rb rs f1 f2 kx ky kz kb ks h1 h2
      rw [h1', bd_some, gd_m0 T.2.1 T.2.2.2 hk, bd_some, gv_0 (by decide), lt_eq, cl_0, T.2.2.2.1.1]
      dsimp only
      cases hg : gd W k a.toInt64 b.toInt64 c.toInt64 with
      | false => exact ⟨_, _, _, _, _, _, _, _, _, _, _, _, _, _, _, _, _, _, _, _, _, rfl, rfl⟩
      | true =>
        rw [if_pos rfl]
        cases hg2 : gd 22 k (fi W a.toInt64) (fi W b.toInt64) (fi W c.toInt64) with
        | false =>
          have h := (sol_b S hk hg2).2 x y z g1 g2 as
          unfold fi at h
          rw [show f_X11_comes 1 (nI k) (a.toInt64 <<< (((22 : Int32) - nI W).toInt64 &&& 63)) (b.toInt64 <<< (((22 : Int32) - nI W).toInt64 &&& 63)) (c.toInt64 <<< (((22 : Int32) - nI W).toInt64 &&& 63)) x y z g1 g2 as mw gf pf sg mu nf qf lf am sm dm = _ from h]
          exact ⟨_, _, _, _, _, _, _, _, _, _, _, _, _, _, _, _, _, _, _, _, _, rfl, rfl⟩
        | true =>
          obtain ⟨w1, w2, w3, w4⟩ := h2' hg hg2
          have h := sol_m (b := 1) S.1 S.2.1 S.2.2.2 hk hg2 x y z g1 g2 as
          unfold fi at h
          rw [show f_X11_comes 1 (nI k) (a.toInt64 <<< (((22 : Int32) - nI W).toInt64 &&& 63)) (b.toInt64 <<< (((22 : Int32) - nI W).toInt64 &&& 63)) (c.toInt64 <<< (((22 : Int32) - nI W).toInt64 &&& 63)) x y z g1 g2 as mw gf pf sg mu nf qf lf am sm dm = _ from h, bd_some]
          dsimp only
          rw [if_pos rfl, if_pos (by decide : (true && true) = true), an_x hj, bd_some, lt_eq, w3, w4]
          rcases (show j = 0 ∨ j = 1 by omega) with rfl | rfl
          · exact ⟨_, _, _, _, _, _, _, _, _, _, _, _, _, _, _, _, _, _, _, _, _, rfl, rfl⟩
          · exact ⟨_, _, _, _, _, _, _, _, _, _, _, _, _, _, _, _, _, _, _, _, _, rfl, rfl⟩
theorem q_apart (T : TR 0 W G N nr mw gf pf sg mg mu nf qf lf am sm dm uw ug ub us un uq ue ul sx ax gx ux dx) (S : TR 1 22 4 24 true mw gf pf sg mg mu nf qf lf am sm dm vw vg vb vs vn vq ve vl vsx vax vgx vux vdx) (p a b c i th : Int32) (rx ry rz : Int64) (rb rs : Int32) (f1 f2 : Int64) (kx ky kz : Int64) (kb ks : Int32) (h1 h2 : Int64) (x y z g1 g2 : Int64) (as : Int32) : ∃ (r : Int64) (c1 c2 c3 : Int64) (c4 c5 : Int32) (c6 c7 e1 e2 e3 : Int64) (e4 e5 : Int32) (e6 e7 d1 d2 d3 d4 d5 : Int64) (d6 : Int32), f_X10_apart p a b c i true uw ug ub us un uq ul sx ax ux dx rx ry rz rb rs f1 f2 vw vg vb vs vn vq vl vsx vax vux vdx kx ky kz kb ks h1 h2 = some (r, c1, c2, c3, c4, c5, c6, c7, e1, e2, e3, e4, e5, e6, e7) ∧ f_X11_apart p a b c i th true x y z g1 g2 as mw gf pf sg mu nf qf lf am sm dm = some (r, 0, d1, d2, d3, d4, d5, d6) := by
  unfold f_X10_apart f_X11_apart
  rw [x_isKind, m_isKind, bd_some, bd_some, x_isEi, isin_b (n := 2) i 1 (by decide), bd_some, bd_some]
  cases hp : inB 9 p with
  | false => exact ⟨_, _, _, _, _, _, _, _, _, _, _, _, _, _, _, _, _, _, _, _, _, rfl, rfl⟩
  | true =>
    cases hi : inB 2 i with
    | false => exact ⟨_, _, _, _, _, _, _, _, _, _, _, _, _, _, _, _, _, _, _, _, _, rfl, rfl⟩
    | true =>
      obtain ⟨k, hk, rfl⟩ := inB_of (by decide) hp
      obtain ⟨j, hj, rfl⟩ := inB_of (by decide) hi
      rw [if_pos rfl, if_pos rfl, if_pos rfl, if_pos rfl]
      obtain ⟨c1, c2, c3, c4, c5, c6, c7, e1, e2, e3, e4, e5, e6, e7, h1', h2'⟩ := sb T S hk a.toInt64 b.toInt64 c.toInt64 rx ry rz rb rs f1 f2 kx ky kz kb ks h1 h2
      rw [h1', bd_some]
      dsimp only
      cases hg : gd W k a.toInt64 b.toInt64 c.toInt64 with
      | false =>
        rw [show f_X11_comes 0 (nI k) a.toInt64 b.toInt64 c.toInt64 x y z g1 g2 as mw gf pf sg mu nf qf lf am sm dm = _ from (sol_b T hk hg).2 x y z g1 g2 as]
        exact ⟨_, _, _, _, _, _, _, _, _, _, _, _, _, _, _, _, _, _, _, _, _, rfl, rfl⟩
      | true =>
        rw [show f_X11_comes 0 (nI k) a.toInt64 b.toInt64 c.toInt64 x y z g1 g2 as mw gf pf sg mu nf qf lf am sm dm = _ from sol_m (b := 0) T.1 T.2.1 T.2.2.2 hk hg x y z g1 g2 as, bd_some]
        dsimp only
        rw [if_pos rfl, gv_0 (by decide), lt_eq, cl_0, T.2.2.2.1.1, lt_eq, lt_eq]
        cases hg2 : gd 22 k (fi W a.toInt64) (fi W b.toInt64) (fi W c.toInt64) with
        | false =>
          have h := (sol_b S hk hg2).2
          unfold fi at h
          rw [show f_X11_comes 1 (nI k) (a.toInt64 <<< (((22 : Int32) - nI W).toInt64 &&& 63)) (b.toInt64 <<< (((22 : Int32) - nI W).toInt64 &&& 63)) (c.toInt64 <<< (((22 : Int32) - nI W).toInt64 &&& 63)) _ _ _ _ _ _ mw gf pf sg mu nf qf lf am sm dm = _ from h _ _ _ _ _ _]
          exact ⟨_, _, _, _, _, _, _, _, _, _, _, _, _, _, _, _, _, _, _, _, _, rfl, rfl⟩
        | true =>
          obtain ⟨w1, w2, w3, w4⟩ := h2' hg hg2
          have h := sol_m (b := 1) S.1 S.2.1 S.2.2.2 hk hg2
          unfold fi at h
          rw [show f_X11_comes 1 (nI k) (a.toInt64 <<< (((22 : Int32) - nI W).toInt64 &&& 63)) (b.toInt64 <<< (((22 : Int32) - nI W).toInt64 &&& 63)) (c.toInt64 <<< (((22 : Int32) - nI W).toInt64 &&& 63)) _ _ _ _ _ _ mw gf pf sg mu nf qf lf am sm dm = _ from h _ _ _ _ _ _, bd_some]
          dsimp only
          unfold f_X10_distance
          rw [if_pos rfl, if_pos (by decide : (true && true) = true), an_x hj, bd_some, an_x hj, bd_some, j_abs, bd_some, bd_some, lt_eq, j_abs, bd_some, w1, w2, w3, w4, T.2.2.1.1.1]
          rcases (show j = 0 ∨ j = 1 by omega) with rfl | rfl
          · exact ⟨_, _, _, _, _, _, _, _, _, _, _, _, _, _, _, _, _, _, _, _, _, rfl, rfl⟩
          · exact ⟨_, _, _, _, _, _, _, _, _, _, _, _, _, _, _, _, _, _, _, _, _, rfl, rfl⟩
end AtSec
