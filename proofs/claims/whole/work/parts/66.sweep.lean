/-! ===== pure part: a sweep ===== -/
def own (W G N : Nat) (nr : Bool) (k : Nat) (v : Int64) : Int64 := (aw W G N nr k v 0 0).1
def fin (W k : Nat) (v : Int64) : Int64 := (aw 22 4 24 true k (fi W v) 0 0).1
def dsw (W G N : Nat) (nr : Bool) (k : Nat) (v : Int64) : Int64 := ab ((own W G N nr k v <<< (((22 : Int32) - nI W).toInt64 &&& 63)) - fin W k v)
theorem ab_nn {v : Int64} (h : -(2 ^ 63) < v.toInt) : (0 : Int64) ≤ ab v := by
  have h2 := Int64.toInt_lt v
  unfold ab
  split
  · assumption
  · rename_i h3
    rw [Int64.le_iff_toInt_le, show (0 : Int64).toInt = 0 from by decide] at h3 ⊢
    rw [Int64.toInt_neg, Int.bmod_eq_of_le_mul_two] <;> omega
theorem dsw_nn {W G N k : Nat} {nr : Bool} (B : BD W G N) (hk : k = 0 ∨ k = 4 ∨ k = 5 ∨ k = 6 ∨ k = 7) {v : Int64} (hg : gd W k v 0 0 = true) : (0 : Int64) ≤ dsw W G N nr k v := by
  have hW1 := B.1
  have hW2 := B.2.1
  have h1 : AB (2 ^ 46) (own W G N nr k v) := awb B hk hg
  have h2 : AB (2 ^ 46) (fin W k v) := awb (W := 22) (G := 4) (N := 24) ⟨by decide, by decide, by decide, by decide, by decide⟩ hk (gd_up v hk hW2 hg)
  unfold dsw
  rw [fi_n W (by omega)]
  have h3 := h1.shl (k := 22 - W) (by omega) (by decide)
  have h4 : 2 ^ 46 * 2 ^ (22 - W) ≤ 2 ^ 46 * 2 ^ 16 := Nat.mul_le_mul_left _ (Nat.pow_le_pow_right (by decide) (by omega))
  have h5 := h3.mono h4
  refine ab_nn ?_
  unfold AB at h2 h5
  rw [Int64.toInt_sub, Int.bmod_eq_of_le_mul_two] <;> omega
theorem ds_x (uw : Int32) (a b c d : Int64) : f_X10_distance 0 uw a b c d = some (ab ((a <<< (((22 : Int32) - uw).toInt64 &&& 63)) - c)) := rfl
theorem p1_64 : ∀ m, m < 201 → (nI m).toInt64 + 1 = (nI (m + 1)).toInt64 := by decide +kernel
def SW (i : Nat) (x6 x8 x7 x9 : Int64) (m : Nat) : Prop := (m = i ∧ x6 = -1 ∧ x7 = -1 ∧ x8 = (-9223372036854775808 : Int64)) ∨ (m < i ∧ x6 = x7 ∧ x8 = x9 ∧ (0 : Int64) ≤ x6)
theorem SW.bad {i m : Nat} {x6 x8 x7 x9 : Int64} (h : SW i x6 x8 x7 x9 m) : SW (i + 1) x6 x8 x7 x9 (m + 1) := by
  rcases h with ⟨h1, h2⟩ | ⟨h1, h2⟩
  · exact Or.inl ⟨by omega, h2⟩
  · exact Or.inr ⟨by omega, h2⟩
theorem SW.le {i m : Nat} {x6 x8 x7 x9 : Int64} (h : SW i x6 x8 x7 x9 m) : m ≤ i := by
  rcases h with ⟨h1, h2⟩ | ⟨h1, h2⟩ <;> omega
/-- the greatest distance behind one more good job -/
theorem SW.good {i m : Nat} {x6 x8 x7 x9 d v : Int64} (h : SW i x6 x8 x7 x9 m) (hd : (0 : Int64) ≤ d) : SW (i + 1) (if d ≤ x6 then x6 else d) (if d ≤ x6 then x8 else v) (if x7 < d then d else x7) (if x7 < d then v else x9) m := by
  rcases h with ⟨h1, h2, h3, h4⟩ | ⟨h1, h2, h3, h4⟩
  · have e1 : ¬ d ≤ x6 := by
      rw [h2, Int64.le_iff_toInt_le, show (-1 : Int64).toInt = -1 from by decide]
      rw [Int64.le_iff_toInt_le, show (0 : Int64).toInt = 0 from by decide] at hd
      omega
    have e2 : x7 < d := by
      rw [h3, ← h2]
      exact Int64.not_le.1 e1
    rw [if_neg e1, if_neg e1, if_pos e2, if_pos e2]
    exact Or.inr ⟨by omega, rfl, rfl, hd⟩
  · subst h2
    by_cases e1 : d ≤ x6
    · rw [if_pos e1, if_pos e1, if_neg (Int64.not_lt.2 e1), if_neg (Int64.not_lt.2 e1)]
      exact Or.inr ⟨by omega, rfl, h3, h4⟩
    · rw [if_neg e1, if_neg e1, if_pos (Int64.not_le.1 e1), if_pos (Int64.not_le.1 e1)]
      exact Or.inr ⟨by omega, rfl, rfl, hd⟩
section SweepSec
variable {W G N : Nat} {nr : Bool} {mw gf pf sg mg mu : Nat → Int32} {nf : Nat → Bool} {qf lf am : Nat → Int64} {sm dm : Nat → Int32} {uw ug ub us : Int32} {un : Bool} {uq ue ul : Int64} {sx : Nat → Int32} {ax gx ux : Nat → Int64} {dx : Nat → Int32} {vw vg vb vs : Int32} {vn : Bool} {vq ve vl : Int64} {vsx : Nat → Int32} {vax vgx vux : Nat → Int64} {vdx : Nat → Int32}
theorem sw_end {n fl m o : Nat} (hn : n ≤ 200) (hn1 : 1 ≤ n) (ho : o < 4) {x6 x8 x7 x9 : Int64} (h : SW n x6 x8 x7 x9 m) (a s : Int32) (f : Nat) (x12 : Int64) (rx ry rz : Int64) (rb rs : Int32) (f1 f2 : Int64) (kx ky kz : Int64) (kb ks : Int32) (h1 h2 : Int64) (th : Int32) (x y z g1 g2 : Int64) (as : Int32) (kk w6 : Int32) : ∃ v, f_X10_sweep_l73 true uw ug ub us un uq ul sx ax ux dx vw vg vb vs vn vq vl vsx vax vux vdx (f + 1) kk a s (nI n) (nI o) x6 x8 (nI fl).toInt64 x12 (nI m).toInt64 (nI n) rx ry rz rb rs f1 f2 kx ky kz kb ks h1 h2 = some (v, rx, ry, rz, rb, rs, f1, f2, kx, ky, kz, kb, ks, h1, h2) ∧ f_X11_sweep_l84 true mw gf pf sg mu nf qf lf am sm dm (f + 1) kk a s (nI n) (nI o) w6 x7 x9 x12 (nI fl) (nI m) (nI n) th x y z g1 g2 as = some (v, th, x, y, z, g1, g2, as) := by
  have hle : nI n ≤ nI n := nI_le (a := n) (b := n) (Nat.le_refl n) (by omega)
  have hm := h.le
  rw [f_X10_sweep_l73, f_X11_sweep_l84, if_pos hle, if_pos hle, lt_eq, lt_eq, lt_eq]
  rcases (show o = 0 ∨ o = 1 ∨ o = 2 ∨ o = 3 by omega) with rfl | rfl | rfl | rfl
  · rw [if_pos (by decide : nI 0 = 0), if_pos (by decide : nI 0 ≤ 1), if_pos (by decide : nI 0 = 0)]
    rcases h with ⟨e1, e2, e3, e4⟩ | ⟨e1, e2, e3, e4⟩
    · rw [if_neg (by rw [e2]; decide : ¬ (0 : Int64) ≤ x6), if_pos (by rw [e1] : nI m = nI n)]
      exact ⟨_, rfl, rfl⟩
    · rw [if_pos e4, if_neg (fun hh => by have := (nI_eq (by omega) (by omega)).1 hh; omega : ¬ nI m = nI n), e2]
      exact ⟨_, rfl, rfl⟩
  · rw [if_neg (by decide : ¬ nI 1 = 0), if_pos (by decide : nI 1 = 1), if_pos (by decide : nI 1 ≤ 1), if_neg (by decide : ¬ nI 1 = 0)]
    rcases h with ⟨e1, e2, e3, e4⟩ | ⟨e1, e2, e3, e4⟩
    · rw [if_pos (by rw [e1] : nI m = nI n), e4]
      exact ⟨_, rfl, rfl⟩
    · rw [if_neg (fun hh => by have := (nI_eq (by omega) (by omega)).1 hh; omega : ¬ nI m = nI n), e3]
      exact ⟨_, rfl, rfl⟩
  · rw [if_neg (by decide : ¬ nI 2 = 0), if_neg (by decide : ¬ nI 2 = 1), if_pos (by decide : nI 2 = 2), if_neg (by decide : ¬ nI 2 ≤ 1), if_pos (by decide : nI 2 = 2)]
    exact ⟨_, rfl, rfl⟩
  · rw [if_neg (by decide : ¬ nI 3 = 0), if_neg (by decide : ¬ nI 3 = 1), if_neg (by decide : ¬ nI 3 = 2), if_neg (by decide : ¬ nI 3 ≤ 1), if_neg (by decide : ¬ nI 3 = 2)]
    exact ⟨_, rfl, rfl⟩
theorem sw_same (T : TR 0 W G N nr mw gf pf sg mg mu nf qf lf am sm dm uw ug ub us un uq ue ul sx ax gx ux dx) (S : TR 1 22 4 24 true mw gf pf sg mg mu nf qf lf am sm dm vw vg vb vs vn vq ve vl vsx vax vgx vux vdx) {k n o : Nat} (hk9 : k < 9) (hk : k = 0 ∨ k = 4 ∨ k = 5 ∨ k = 6 ∨ k = 7) (hn : n ≤ 200) (hn1 : 1 ≤ n) (ho : o < 4) (a s : Int32) (th : Int32) : ∀ (r i f fl m : Nat) (x6 x8 x7 x9 x12 : Int64) (rx ry rz : Int64) (rb rs : Int32) (f1 f2 : Int64) (kx ky kz : Int64) (kb ks : Int32) (h1 h2 : Int64) (x y z g1 g2 : Int64) (as : Int32), r + i = n → r < f → fl ≤ i → SW i x6 x8 x7 x9 m → ∃ (v : Int64) (c1 c2 c3 : Int64) (c4 c5 : Int32) (c6 c7 e1 e2 e3 : Int64) (e4 e5 : Int32) (e6 e7 d1 d2 d3 d4 d5 : Int64) (d6 : Int32), f_X10_sweep_l73 true uw ug ub us un uq ul sx ax ux dx vw vg vb vs vn vq vl vsx vax vux vdx f (nI k) a s (nI n) (nI o) x6 x8 (nI fl).toInt64 x12 (nI m).toInt64 (nI i) rx ry rz rb rs f1 f2 kx ky kz kb ks h1 h2 = some (v, c1, c2, c3, c4, c5, c6, c7, e1, e2, e3, e4, e5, e6, e7) ∧ f_X11_sweep_l84 true mw gf pf sg mu nf qf lf am sm dm f (nI k) a s (nI n) (nI o) ((22 : Int32) - nI W) x7 x9 x12 (nI fl) (nI m) (nI i) th x y z g1 g2 as = some (v, th, d1, d2, d3, d4, d5, d6)
  | 0, i, f, fl, m, x6, x8, x7, x9, x12, rx, ry, rz, rb, rs, f1, f2, kx, ky, kz, kb, ks, h1, h2, x, y, z, g1, g2, as => by
    intro e1 e2 e3 e4
    obtain ⟨f, rfl⟩ : ∃ f', f = f' + 1 := ⟨f - 1, by omega⟩
    obtain rfl : i = n := by omega
    obtain ⟨v, a1, a2⟩ := sw_end (fl := fl) hn hn1 ho e4 a s f x12 rx ry rz rb rs f1 f2 kx ky kz kb ks h1 h2 th x y z g1 g2 as (nI k) ((22 : Int32) - nI W)
    exact ⟨_, _, _, _, _, _, _, _, _, _, _, _, _, _, _, _, _, _, _, _, _, a1, a2⟩
  | r + 1, i, f, fl, m, x6, x8, x7, x9, x12, rx, ry, rz, rb, rs, f1, f2, kx, ky, kz, kb, ks, h1, h2, x, y, z, g1, g2, as => by
    intro q1 q2 q3 q4
    obtain ⟨f, rfl⟩ : ∃ f', f = f' + 1 := ⟨f - 1, by omega⟩
    have hm := q4.le
    have hW := T.2.1.2.1
    have hlt : ¬ nI n ≤ nI i := nI_ge (a := i) (b := n) (by omega) (by omega)
    rw [f_X10_sweep_l73, f_X11_sweep_l84, if_neg hlt, if_neg hlt, lt_eq, lt_eq, Int64.mul_comm (nI i).toInt64 s.toInt64]
    generalize a.toInt64 + s.toInt64 * (nI i).toInt64 = v3
    obtain ⟨c1, c2, c3, c4, c5, c6, c7, e1, e2, e3, e4, e5, e6, e7, b1, b2⟩ := sb T S hk9 v3 0 0 rx ry rz rb rs f1 f2 kx ky kz kb ks h1 h2
    rw [b1, bd_some]
    dsimp only
    rw [fi_0 hW] at b2 ⊢
    cases hg : gd W k v3 0 0 with
    | false =>
      rw [show f_X11_comes 0 (nI k) v3 0 0 x y z g1 g2 as mw gf pf sg mu nf qf lf am sm dm = _ from (sol_b T hk9 hg).2 x y z g1 g2 as, bd_some]
      dsimp only
      rw [Bool.false_and, if_neg (by decide), if_neg (by decide), lt_eq, lt_eq]
      unfold f_X10_sweep_b166 f_X11_sweep_b198
      rw [lt_eq, lt_eq, nI_p1, nI_p1, p1_64 m (by omega)]
      exact sw_same T S hk9 hk hn hn1 ho a s th r (i + 1) f fl (m + 1) x6 x8 x7 x9 x12 c1 c2 c3 c4 c5 c6 c7 e1 e2 e3 e4 e5 e6 e7 _ _ _ _ _ _ (by omega) (by omega) (by omega) q4.bad
    | true =>
      have hg2 := gd_up v3 hk hW hg
      obtain ⟨w1, w2, w3, w4⟩ := b2 hg hg2
      have hA : f_X11_comes 0 (nI k) v3 0 0 x y z g1 g2 as mw gf pf sg mu nf qf lf am sm dm = _ := sol_m (b := 0) T.1 T.2.1 T.2.2.2 hk9 hg x y z g1 g2 as
      have hB := sol_m (b := 1) S.1 S.2.1 S.2.2.2 hk9 hg2
      have hd := dsw_nn (nr := nr) T.2.1 hk hg
      rw [hg2, if_pos (by decide : (true && true) = true), hA, bd_some]
      dsimp only
      rw [if_pos rfl, lt_eq, lt_eq, lt_eq, lt_eq]
      unfold fi at hB
      rw [show f_X11_comes 1 (nI k) (v3 <<< (((22 : Int32) - nI W).toInt64 &&& 63)) 0 0 _ _ _ _ _ _ mw gf pf sg mu nf qf lf am sm dm = _ from hB _ _ _ _ _ _, bd_some]
      dsimp only
      rw [ds_x, bd_some, bd_some, j_abs, bd_some, w1, w3, T.2.2.1.1.1, lt_eq, lt_eq]
      have hD : ab (((aw W G N nr k v3 0 0).1 <<< (((22 : Int32) - nI W).toInt64 &&& 63)) - (aw 22 4 24 true k (fi W v3) 0 0).1) = dsw W G N nr k v3 := rfl
      have hD2 : ab (((aw W G N nr k v3 0 0).1 <<< (((22 : Int32) - nI W).toInt64 &&& 63)) - (aw 22 4 24 true k (v3 <<< (((22 : Int32) - nI W).toInt64 &&& 63)) 0 0).1) = dsw W G N nr k v3 := rfl
      rw [hD, hD2]
      have q5 := q4.good (v := v3) hd
      generalize dsw W G N nr k v3 = d at *
      unfold f_X10_sweep_b166 f_X11_sweep_b198
      rw [lt_eq, lt_eq, lt_eq, nI_p1]
      have hfall : ∃ fl', fl' ≤ i + 1 ∧ ((nI fl).toInt64 + (if x12 ≤ (aw W G N nr k v3 0 0).1 then (0 : Int64) else 1)) = (nI fl').toInt64 ∧ nI fl + bI (if x12 ≤ (aw W G N nr k v3 0 0).1 then false else true) = nI fl' := by
        by_cases hx : x12 ≤ (aw W G N nr k v3 0 0).1
        · rw [if_pos hx, if_pos hx]
          exact ⟨fl, by omega, Int64.add_zero _, Int32.add_zero _⟩
        · rw [if_neg hx, if_neg hx]
          exact ⟨fl + 1, by omega, p1_64 fl (by omega), nI_p1 fl⟩
      obtain ⟨fl', u1, u2, u3⟩ := hfall
      rw [u2, u3]
      have key := fun (x' y' z' g1' g2' : Int64) (as' : Int32) => sw_same T S hk9 hk hn hn1 ho a s th r (i + 1) f fl' m _ _ _ _ (aw W G N nr k v3 0 0).1 c1 c2 c3 c4 c5 (aw W G N nr k v3 0 0).1 c7 e1 e2 e3 e4 e5 (aw 22 4 24 true k (fi W v3) 0 0).1 e7 x' y' z' g1' g2' as' (by omega) (by omega) u1 q5
      by_cases hc : d ≤ x6
      · rw [if_pos hc]
        rw [if_pos hc, if_pos hc, T.2.2.1.1.1] at key
        exact key _ _ _ _ _ _
      · rw [if_neg hc]
        rw [if_neg hc, if_neg hc, T.2.2.1.1.1] at key
        exact key _ _ _ _ _ _
theorem q_sweep (T : TR 0 W G N nr mw gf pf sg mg mu nf qf lf am sm dm uw ug ub us un uq ue ul sx ax gx ux dx) (S : TR 1 22 4 24 true mw gf pf sg mg mu nf qf lf am sm dm vw vg vb vs vn vq ve vl vsx vax vgx vux vdx) (p a s n o th : Int32) (rx ry rz : Int64) (rb rs : Int32) (f1 f2 : Int64) (kx ky kz : Int64) (kb ks : Int32) (h1 h2 : Int64) (x y z g1 g2 : Int64) (as : Int32) : ∃ (v : Int64) (c1 c2 c3 : Int64) (c4 c5 : Int32) (c6 c7 e1 e2 e3 : Int64) (e4 e5 : Int32) (e6 e7 d1 d2 d3 d4 d5 : Int64) (d6 : Int32), f_X10_sweep p a s n o true uw ug ub us un uq ul sx ax ux dx rx ry rz rb rs f1 f2 vw vg vb vs vn vq vl vsx vax vux vdx kx ky kz kb ks h1 h2 = some (v, c1, c2, c3, c4, c5, c6, c7, e1, e2, e3, e4, e5, e6, e7) ∧ f_X11_sweep p a s n o th true x y z g1 g2 as mw gf pf sg mu nf qf lf am sm dm = some (v, 0, d1, d2, d3, d4, d5, d6) := by
  unfold f_X10_sweep f_X11_sweep
  rw [x_isKind, m_isKind, bd_some, bd_some]
  cases hp : inB 9 p with
  | false => exact ⟨_, _, _, _, _, _, _, _, _, _, _, _, _, _, _, _, _, _, _, _, _, rfl, rfl⟩
  | true =>
    obtain ⟨k, hk, rfl⟩ := inB_of (by decide) hp
    rw [if_pos rfl, if_pos rfl, gv_N hk (by decide), nI_clamp (by omega), (kNm_is k hk).1, (kNm_is k hk).2.1, bd_some]
    by_cases hk1 : nI (kNm k) = 1
    · have hks : k = 0 ∨ k = 4 ∨ k = 5 ∨ k = 6 ∨ k = 7 := by
        have : ∀ k, k < 9 → nI (kNm k) = 1 → k = 0 ∨ k = 4 ∨ k = 5 ∨ k = 6 ∨ k = 7 := by decide
        exact this k hk hk1
      rw [if_pos hk1, if_pos hk1, isin_r n 1 200 1 200 (by decide) (by decide), bd_some]
      by_cases n1 : n < 1
      · rw [if_pos n1, if_pos n1]
        exact ⟨_, _, _, _, _, _, _, _, _, _, _, _, _, _, _, _, _, _, _, _, _, rfl, rfl⟩
      · rw [if_neg n1, if_neg n1]
        by_cases n2 : (200 : Int32) < n
        · rw [if_pos n2, if_neg (Int32.not_le.2 n2)]
          exact ⟨_, _, _, _, _, _, _, _, _, _, _, _, _, _, _, _, _, _, _, _, _, rfl, rfl⟩
        · rw [if_neg n2, if_pos (Int32.not_lt.1 n2), if_pos rfl, isin_b (n := 4) o 3 (by decide), bd_some, sel_leq (n := 3) (x := o) (m := 3) (by decide) rfl]
          cases ho : inB 4 o with
          | false => exact ⟨_, _, _, _, _, _, _, _, _, _, _, _, _, _, _, _, _, _, _, _, _, rfl, rfl⟩
          | true =>
            obtain ⟨j, hj, rfl⟩ := inB_of (by decide) ho
            have n3 : 1 ≤ n.toInt ∧ n.toInt ≤ 200 := by
              rw [Int32.lt_iff_toInt_lt, show (1 : Int32).toInt = 1 from by decide] at n1
              rw [Int32.lt_iff_toInt_lt, show (200 : Int32).toInt = 200 from by decide] at n2
              omega
            obtain ⟨t, ht, rfl⟩ := nI_of (x := n) (fun hh => by rw [i0_lt] at hh; omega)
            rw [nI_toInt ht] at n3
            rw [if_pos rfl, if_pos rfl, gv_0 (by decide), lt_eq, cl_0, T.2.2.2.1.1]
            exact sw_same T S hk hks (by omega) (by omega) hj a s 0 t 0 FU 0 0 (-1) (-9223372036854775808 : Int64) (-1) 0 (-9223372036854775808 : Int64) rx ry rz rb rs f1 f2 kx ky kz kb ks h1 h2 x y z g1 g2 as (by omega) (Nat.lt_of_le_of_lt (by omega : t ≤ 200) (by decide)) (Nat.le_refl 0) (Or.inl ⟨rfl, rfl, rfl, rfl⟩)
    · rw [if_neg hk1, if_neg hk1]
      exact ⟨_, _, _, _, _, _, _, _, _, _, _, _, _, _, _, _, _, _, _, _, _, rfl, rfl⟩
end SweepSec
