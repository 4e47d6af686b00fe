/-! ===== pure part: a clock ===== -/
theorem BR.jb {W G N : Nat} {nr : Bool} {J ov : Nat} {kd op ti st gn tl br dn mj mr : Nat → Int32} {mt : Nat → Int64} (h : BR W G N nr J ov kd op ti st gn tl br dn mj mr mt) {j : Nat} (hj : j < J) : JB W G N nr j kd op ti st gn tl br dn mj mr mt := h.2.2.1 j hj
theorem jb_tie {W G N : Nat} {nr : Bool} {j : Nat} {kd op ti st gn tl br dn mj mr : Nat → Int32} {mt : Nat → Int64} (h : JB W G N nr j kd op ti st gn tl br dn mj mr mt) : (∀ w, w < 3 → mj (14 * j + 10 + w) = ti (j * 3 + w) ∧ TIE j (ti (j * 3 + w))) ∧ mj (14 * j + 4) = st j ∧ (st j = 0 ∨ st j = 1 ∨ st j = 2 ∨ st j = 3) ∧ mj (14 * j + 5) = gn j := by
  obtain ⟨k, s, g, hb, ⟨a1, a2, a3⟩, ⟨b1, b2, b3, b4, b5, b6⟩, hw, hrest⟩ := h
  refine ⟨fun w hw3 => (hw w hw3).2, by rw [b2, a2], ?_, by rw [b3, a3]⟩
  rw [a2]
  rcases (show s = 0 ∨ s = 1 ∨ s = 2 ∨ s = 3 by omega) with rfl | rfl | rfl | rfl
  · exact Or.inl rfl
  · exact Or.inr (Or.inl rfl)
  · exact Or.inr (Or.inr (Or.inl rfl))
  · exact Or.inr (Or.inr (Or.inr rfl))
section TickSec
variable {W G N : Nat} {nr : Bool} {mw gf pf sg mg mu : Nat → Int32} {nf : Nat → Bool} {qf lf am : Nat → Int64} {sm dm : Nat → Int32} {uw ug ub us : Int32} {un : Bool} {uq ue ul : Int64} {sx : Nat → Int32} {ax gx ux : Nat → Int64} {dx : Nat → Int32}
theorem go_skip2 {hd : Bool} {pl : Int32} {J e : Nat} (hJ : J ≤ 60) (he : e ≤ J) {mj mr : Nat → Int32} {mt : Nat → Int64} {clk : Int32} {x y z f1 f2 : Int64} {as : Int32} {acc : Int32} {F : Nat} : ∀ (r j : Nat), r + j = e → (∀ i, j ≤ i → i < e → ¬ mj (14 * i + 4) = 1) → f_X11_ticks_l23 pl hd (nI J) mw gf pf sg mu nf qf lf am sm dm (r + F) acc (nI j) clk x y z f1 f2 as mj mr mt = f_X11_ticks_l23 pl hd (nI J) mw gf pf sg mu nf qf lf am sm dm F acc (nI e) clk x y z f1 f2 as mj mr mt
  | 0, j => by
    intro h1 _
    obtain rfl : j = e := by omega
    rw [Nat.zero_add]
  | r + 1, j => by
    intro h1 h2
    rw [show r + 1 + F = (r + F) + 1 from by omega, f_X11_ticks_l23, if_neg (nI_ge (by omega) (by omega)), m_of4 (by omega), bd_some, if_neg (h2 j (Nat.le_refl j) (by omega))]
    unfold f_X11_ticks_b49
    rw [lt_eq, nI_p1]
    exact go_skip2 hJ he r (j + 1) (by omega) (fun i h3 h4 => h2 i (by omega) h4)
theorem tick_same (T : TR 0 W G N nr mw gf pf sg mg mu nf qf lf am sm dm uw ug ub us un uq ue ul sx ax gx ux dx) {pl : Nat} (hp1 : 1 ≤ pl) (hp2 : pl ≤ 24) {J ov : Nat} {kd op ti st gn tl br dn mj mr : Nat → Int32} {mt : Nat → Int64} (R : BR W G N nr J ov kd op ti st gn tl br dn mj mr mt) (hd : Bool) (clk : Int32) (rx ry rz f1 f2 : Int64) (rb rs : Int32) (x y z g1 g2 : Int64) (as : Int32) :
    ∃ (d : Int32) (ov' : Nat) (op' st' gn' br' dn' mj' mr' : Nat → Int32) (mt' : Nat → Int64) (rx' ry' rz' f1' f2' : Int64) (rb' rs' : Int32) (x' y' z' g1' g2' : Int64) (as' : Int32),
      f_X1_tick (nI J) (nI ov) clk hd kd op ti st gn br dn rx ry rz rb rs f1 f2 uw ug ub us (nI pl) un uq ul sx ax ux dx = some (d, nI ov', clk + 1, op', st', gn', br', dn', rx', ry', rz', rb', rs', f1', f2') ∧
      f_X11_ticks (nI pl) clk hd x y z g1 g2 as (nI J) mw gf pf sg mu nf qf lf am sm dm mj mr mt = some (d, clk + 1, x', y', z', g1', g2', as', mj', mr', mt') ∧
      BR W G N nr J ov' kd op' ti st' gn' tl br' dn' mj' mr' mt' ∧
      (hd = false → (∀ i, i < J → wt N (st' i) (gn' i) ≤ wt N (st i) (gn i)) ∧ ((∃ i, i < J ∧ (st i = 0 ∨ st i = 1)) → ∃ i, i < J ∧ wt N (st' i) (gn' i) < wt N (st i) (gn i))) := by
  have T' := T
  obtain ⟨hb0, B, X, M⟩ := T'
  have hN := B.2.2.2.2
  have hJ := R.1
  have hus : us = nI N := X.1.2.2.2.1
  cases hd with
  | true =>
    refine ⟨0, ov, op, st, gn, br, dn, mj, mr, mt, rx, ry, rz, f1, f2, rb, rs, x, y, z, g1, g2, as, ?_, ?_, R, fun h => absurd h (by decide)⟩
    · unfold f_X1_tick
      rw [lt_eq, if_pos rfl]
    · unfold f_X11_ticks
      rw [lt_eq, if_pos rfl]
  | false =>
    obtain ⟨ov', v1, v2, v3, v4, v5⟩ := busy_x hJ R.2.1 (fun j hj => R.stc hj) R.2.2.2.1
    by_cases hb : ov' < J
    · obtain ⟨acc', st', gn', dn', mj', mr', mt', x', y', z', g1', g2', as', c1, c2, c3, c4⟩ := go_loop B M hJ kd op ti tl br (clk + 1) (J - ov') ov' 0 st gn dn mj mr mt x y z g1 g2 as (by omega) R.2.2.1 R.2.2.2.2
      have hO' : ∀ i, i < J → st' i = 1 → ∀ t, t < i → ¬ st' t = 0 := fun i hi h1 t ht h0 => R.2.2.2.2 i hi ((c4 i hi).2.1 h1) t ht ((c4 t (by omega)).1.1 h0)
      have h23 : ∀ i, i < ov' → st' i = 2 ∨ st' i = 3 := fun i hi => by
        rw [(c4 i (by omega)).2.2.1 (v4 i hi)]
        exact v4 i hi
      have hm4 : ∀ i, i < J → mj' (14 * i + 4) = st' i := fun i hi => (jb_tie (c3 i hi)).2.1
      have hm5 : ∀ i, i < J → mj' (14 * i + 5) = gn' i := fun i hi => (jb_tie (c3 i hi)).2.2.2
      have eM : f_X11_ticks (nI pl) clk false x y z g1 g2 as (nI J) mw gf pf sg mu nf qf lf am sm dm mj mr mt = f_X11_ticks_l23 (nI pl) false (nI J) mw gf pf sg mu nf qf lf am sm dm ((4999 - J) + 1) acc' (nI J) (clk + 1) x' y' z' g1' g2' as' mj' mr' mt' := by
        unfold f_X11_ticks
        rw [lt_eq, if_neg (by decide), show FU = ov' + ((J - ov') + ((4999 - J) + 1)) from by show 5000 = _; omega]
        refine Eq.trans (go_skip2 (e := ov') hJ v2 ov' 0 rfl (fun i _ hi => ?_)) (c2 (4999 - J) false (nI pl))
        rw [R.st4 (by omega)]
        rcases v4 i hi with h | h
        · rw [h]; decide
        · rw [h]; decide
      have eW : fst1 (w0 st') J 0 = fst1 (w0 st') (J - ov') ov' := by
        have h := fst_skip (p := w0 st') ov' (J - ov') 0 (fun i _ hi => w0_f (fun h0 => by
          rcases h23 i (by omega) with h | h
          · rw [h] at h0; exact absurd h0 (by decide)
          · rw [h] at h0; exact absurd h0 (by decide)))
        rw [show ov' + (J - ov') = J from by omega, Nat.zero_add] at h
        exact h
      have eS : fst1 (spB N pl 0 st' gn') J 0 = fst1 (spB N pl 0 st' gn') (J - ov') ov' := by
        have h := fst_skip (p := spB N pl 0 st' gn') ov' (J - ov') 0 (fun i _ hi => spB_n1 (fun h0 => by
          rcases h23 i (by omega) with h | h
          · rw [h] at h0; exact absurd h0 (by decide)
          · rw [h] at h0; exact absurd h0 (by decide)))
        rw [show ov' + (J - ov') = J from by omega, Nat.zero_add] at h
        exact h
      have fW : f_X11_firstWaiting (nI J) mj' = some (fst1 (w0 st') (J - ov') ov') := by
        rw [← eW]
        exact fw_m hJ hm4 J 0 FU (by omega) (by show J < 5000; omega)
      have fS : f_X11_standsIn 0 (nI pl) (nI J) sg mj' = some (fst1 (spB N pl 0 st' gn') (J - ov') ov') := by
        rw [← eS]
        exact sp_m hJ hp1 hp2 0 M.1.2.2.2.1 hm4 hm5 J 0 FU (by omega) (by show J < 5000; omega)
      have xW : f_X1_waiting 0 (nI J) (nI ov') st' = some (fst1 (w0 st') (J - ov') ov') := fw_x hJ (nI ov') st' (J - ov') ov' FU (by omega) (by show J - ov' < 5000; omega)
      have xS : f_X1_standsIn 0 (nI J) (nI ov') st' gn' (nI N) (nI pl) = some (fst1 (spB N pl 0 st' gn') (J - ov') ov') := sp_x (N := N) hJ hp1 hp2 0 (nI ov') gn' hO' (J - ov') ov' FU (by omega) (by show J - ov' < 5000; omega)
      have eX : f_X1_tick (nI J) (nI ov) clk false kd op ti st gn br dn rx ry rz rb rs f1 f2 uw ug ub us (nI pl) un uq ul sx ax ux dx = (if fst1 (w0 st') (J - ov') ov' = (-1 : Int32) then some (acc', nI ov', clk + 1, op, st', gn', br, dn', rx, ry, rz, rb, rs, f1, f2) else (if fst1 (spB N pl 0 st' gn') (J - ov') ov' = (-1 : Int32) then (bd (f_X1_mustWait (fst1 (w0 st') (J - ov') ov') ti st') (fun o6 => if o6 = true then some (acc', nI ov', clk + 1, op, st', gn', br, dn', rx, ry, rz, rb, rs, f1, f2) else (bd (f_X1_bringIn (fst1 (w0 st') (J - ov') ov') (clk + 1) kd op ti st' br rx ry rz rb rs f1 f2 uw ug ub us un uq ul sx ax ux dx) (fun o7 => some (acc', nI ov', clk + 1, o7.1, o7.2.1, gn', o7.2.2.1, dn', o7.2.2.2.1, o7.2.2.2.2.1, o7.2.2.2.2.2.1, o7.2.2.2.2.2.2.1, o7.2.2.2.2.2.2.2.1, o7.2.2.2.2.2.2.2.2.1, o7.2.2.2.2.2.2.2.2.2))))) else some (acc', nI ov', clk + 1, op, st', gn', br, dn', rx, ry, rz, rb, rs, f1, f2))) := by
        unfold f_X1_tick
        rw [lt_eq, if_neg (by decide), v3, bd_some, decide_eq_true hb, if_pos rfl, hus]
        rw [show f_X1_goOn (nI N) (nI J) (nI ov') (clk + 1) st gn dn = some (acc', st', gn', dn') from c1 FU (nI ov') (by show J - ov' < 5000; omega), bd_some]
        dsimp only
        rw [xW, bd_some, xS, bd_some]
        rfl
      have eM2 : f_X11_ticks (nI pl) clk false x y z g1 g2 as (nI J) mw gf pf sg mu nf qf lf am sm dm mj mr mt = (if fst1 (w0 st') (J - ov') ov' = (-1 : Int32) then some (acc', clk + 1, x', y', z', g1', g2', as', mj', mr', mt') else (if fst1 (spB N pl 0 st' gn') (J - ov') ov' = (-1 : Int32) then (bd (f_X11_hangs (fst1 (w0 st') (J - ov') ov') mj') (fun o4 => if o4 = true then some (acc', clk + 1, x', y', z', g1', g2', as', mj', mr', mt') else (bd (f_X11_comesIn (fst1 (w0 st') (J - ov') ov') (clk + 1) x' y' z' g1' g2' as' mw gf pf mu nf qf lf mj' mr' mt') (fun o5 => some (acc', clk + 1, o5.1, o5.2.1, o5.2.2.1, o5.2.2.2.1, o5.2.2.2.2.1, o5.2.2.2.2.2.1, o5.2.2.2.2.2.2.1, mr', o5.2.2.2.2.2.2.2))))) else some (acc', clk + 1, x', y', z', g1', g2', as', mj', mr', mt'))) := by
        rw [eM, f_X11_ticks_l23, if_pos (nI_le (Nat.le_refl J) (by omega)), fW, bd_some, fS, bd_some]
        rfl
      have R1 : BR W G N nr J ov' kd op ti st' gn' tl br dn' mj' mr' mt' := ⟨hJ, v2, c3, h23, hO'⟩
      have hle : ∀ i, i < J → wt N (st' i) (gn' i) ≤ wt N (st i) (gn i) := fun i hi => (c4 i hi).2.2.2.1
      have hge : ∀ i, i < J → st i = 1 → ov' ≤ i := fun i hi h1 => by
        by_cases h : i < ov'
        · rcases v4 i h with h2 | h2
          · rw [h2] at h1; exact absurd h1 (by decide)
          · rw [h2] at h1; exact absurd h1 (by decide)
        · omega
      have hlt1 : ∀ i, i < J → st i = 1 → wt N (st' i) (gn' i) < wt N (st i) (gn i) := fun i hi h1 => (c4 i hi).2.2.2.2 (hge i hi h1) h1
      rcases fst_cases (w0 st') (J - ov') ov' with ⟨e, hnone⟩ | ⟨n, n1, n2, n3, n4, e⟩
      · refine ⟨acc', ov', op, st', gn', br, dn', mj', mr', mt', rx, ry, rz, f1, f2, rb, rs, x', y', z', g1', g2', as', ?_, ?_, R1, fun _ => ⟨hle, fun ⟨i, hi, h01⟩ => ?_⟩⟩
        · rw [eX, if_pos e]
        · rw [eM2, if_pos e]
        · rcases h01 with h0 | h1
          · exfalso
            have h0' := (c4 i hi).1.2 h0
            by_cases h : i < ov'
            · rcases h23 i h with h2 | h2
              · rw [h2] at h0'; exact absurd h0' (by decide)
              · rw [h2] at h0'; exact absurd h0' (by decide)
            · have := hnone i (by omega) (by omega)
              rw [w0_t h0'] at this
              exact absurd this (by decide)
          · exact ⟨i, hi, hlt1 i hi h1⟩
      · have hnJ : n < J := by omega
        have hn0 : st' n = 0 := of_decide_eq_true n3
        have hlow : ∀ t, t < n → ¬ st' t = 0 := fun t ht h0 => by
          by_cases h : t < ov'
          · rcases h23 t h with h2 | h2
            · rw [h2] at h0; exact absurd h0 (by decide)
            · rw [h2] at h0; exact absurd h0 (by decide)
          · have := n4 t (by omega) ht
            rw [w0_t h0] at this
            exact absurd this (by decide)
        have hne : ¬ nI n = (-1 : Int32) := nI_nm1 (by omega)
        rw [e] at eX eM2
        rw [if_neg hne] at eX eM2
        have tn := jb_tie (c3 n hnJ)
        have xH : f_X1_mustWait (nI n) ti st' = some (anyB (fun w => twB st' (ti (n * 3 + w))) 3 0) := by
          unfold f_X1_mustWait
          rw [lt_eq, i3_0]
          exact mw_x (show n < 60 by omega) (fun w hw => (tn.1 w hw).2) 3 0 FU rfl (by decide)
        have mH : f_X11_hangs (nI n) mj' = some (anyB (fun w => twB st' (ti (n * 3 + w))) 3 0) := hg_m (show n < 60 by omega) tn.1 (fun o ho => ⟨(jb_tie (c3 o (by omega))).2.1, (jb_tie (c3 o (by omega))).2.2.1⟩) 3 0 FU rfl (by decide)
        rw [xH, bd_some] at eX
        rw [mH, bd_some] at eM2
        have stay : (∃ i, i < J ∧ st i = 1) → f_X1_tick (nI J) (nI ov) clk false kd op ti st gn br dn rx ry rz rb rs f1 f2 uw ug ub us (nI pl) un uq ul sx ax ux dx = some (acc', nI ov', clk + 1, op, st', gn', br, dn', rx, ry, rz, rb, rs, f1, f2) → f_X11_ticks (nI pl) clk false x y z g1 g2 as (nI J) mw gf pf sg mu nf qf lf am sm dm mj mr mt = some (acc', clk + 1, x', y', z', g1', g2', as', mj', mr', mt') → ∃ (d : Int32) (ov' : Nat) (op' st' gn' br' dn' mj' mr' : Nat → Int32) (mt' : Nat → Int64) (rx' ry' rz' f1' f2' : Int64) (rb' rs' : Int32) (x' y' z' g1' g2' : Int64) (as' : Int32), f_X1_tick (nI J) (nI ov) clk false kd op ti st gn br dn rx ry rz rb rs f1 f2 uw ug ub us (nI pl) un uq ul sx ax ux dx = some (d, nI ov', clk + 1, op', st', gn', br', dn', rx', ry', rz', rb', rs', f1', f2') ∧ f_X11_ticks (nI pl) clk false x y z g1 g2 as (nI J) mw gf pf sg mu nf qf lf am sm dm mj mr mt = some (d, clk + 1, x', y', z', g1', g2', as', mj', mr', mt') ∧ BR W G N nr J ov' kd op' ti st' gn' tl br' dn' mj' mr' mt' ∧ (false = false → (∀ i, i < J → wt N (st' i) (gn' i) ≤ wt N (st i) (gn i)) ∧ ((∃ i, i < J ∧ (st i = 0 ∨ st i = 1)) → ∃ i, i < J ∧ wt N (st' i) (gn' i) < wt N (st i) (gn i))) := fun ⟨i, hi, h1⟩ q1 q2 => ⟨acc', ov', op, st', gn', br, dn', mj', mr', mt', rx, ry, rz, f1, f2, rb, rs, x', y', z', g1', g2', as', q1, q2, R1, fun _ => ⟨hle, fun _ => ⟨i, hi, hlt1 i hi h1⟩⟩⟩
        rcases fst_cases (spB N pl 0 st' gn') (J - ov') ov' with ⟨eq, hq⟩ | ⟨n', q1, q2, q3, q4, eq⟩
        · rw [if_pos eq] at eX eM2
          by_cases ha : anyB (fun w => twB st' (ti (n * 3 + w))) 3 0 = true
          · rw [if_pos ha] at eX eM2
            refine stay ?_ eX eM2
            by_cases hx : ∃ i, i < J ∧ st i = 1
            · exact hx
            · exfalso
              have hf : anyB (fun w => twB st' (ti (n * 3 + w))) 3 0 = false := any_f 3 0 (fun w _ hw => by
                rcases (tn.1 w (by omega)).2 with hv | ⟨o, i, ho, hi, hv⟩
                · unfold twB
                  rw [if_pos hv]
                · rw [hv, tw_o (by omega) hi, if_neg (hlow o ho)]
                  exact decide_eq_false (fun h1 => hx ⟨o, by omega, (c4 o (by omega)).2.1 h1⟩))
              rw [hf] at ha
              exact absurd ha (by decide)
          · rw [if_neg ha] at eX eM2
            obtain ⟨s', op', mj2, mt2, rx2, ry2, rz2, f12, f22, rb2, rs2, k0, k1, k2, k3, k4, k5, k6⟩ := bring T (show n < 60 by omega) (fun o ho => c3 o (by omega)) (c3 n hnJ) hn0 (clk + 1) rx ry rz f1 f2 rb rs
            obtain ⟨x2, y2, z2, g12, g22, as2, k7⟩ := k2 x' y' z' g1' g2' as'
            rw [k1, bd_some] at eX
            rw [k7, bd_some] at eM2
            have hs0 : ¬ nI s' = 0 := by
              rcases k0 with rfl | rfl
              · decide
              · decide
            have hwn : wt N (upd st' n (nI s') n) (gn' n) < wt N (st n) (gn n) := by
              rw [pk_us]
              unfold wt
              rw [if_neg hs0, if_pos ((c4 n hnJ).1.1 hn0)]
              split
              · omega
              · omega
            refine ⟨acc', ov', op', upd st' n (nI s'), gn', upd br n (clk + 1), dn', mj2, mr', mt2, rx2, ry2, rz2, f12, f22, rb2, rs2, x2, y2, z2, g12, g22, as2, eX, eM2, ⟨hJ, v2, ?_, ?_, ?_⟩, fun _ => ⟨?_, fun _ => ⟨n, hnJ, hwn⟩⟩⟩
            · intro i hi
              by_cases hin : i = n
              · rw [hin]
                exact k3
              · exact (c3 i hi).congr hN rfl (k4 i hin) (fun _ _ => rfl) (pk_un hin) rfl rfl (pk_un hin) rfl (k5 i hin) (fun _ _ => rfl) (k6 i hin)
            · intro i hi
              rw [pk_un (by omega)]
              exact h23 i hi
            · intro i hi h1 t ht
              by_cases hin : i = n
              · rw [pk_un (by omega)]
                exact hlow t (by omega)
              · rw [pk_un hin] at h1
                by_cases htn : t = n
                · rw [htn, pk_us]
                  exact hs0
                · rw [pk_un htn]
                  exact hO' i hi h1 t ht
            · intro i hi
              by_cases hin : i = n
              · rw [hin]
                exact Nat.le_of_lt hwn
              · rw [pk_un hin]
                exact hle i hi
        · have hne' : ¬ nI n' = (-1 : Int32) := nI_nm1 (by omega)
          rw [eq, if_neg hne'] at eX eM2
          refine stay ⟨n', by omega, (c4 n' (by omega)).2.1 ?_⟩ eX eM2
          by_cases h1 : st' n' = 1
          · exact h1
          · rw [spB_n1 h1] at q3
            exact absurd q3 (by decide)
    · have hno : ∀ i, i < J → st i = 2 ∨ st i = 3 := fun i hi => v4 i (by omega)
      have hJv : ov' = J := by omega
      refine ⟨0, ov', op, st, gn, br, dn, mj, mr, mt, rx, ry, rz, f1, f2, rb, rs, x, y, z, g1, g2, as, ?_, ?_, ⟨hJ, v2, R.2.2.1, v4, R.2.2.2.2⟩, fun _ => ⟨fun _ _ => Nat.le_refl _, fun ⟨i, hi, h01⟩ => ?_⟩⟩
      · unfold f_X1_tick
        rw [lt_eq, if_neg (by decide), v3, bd_some, decide_eq_false hb, if_neg (show ¬ (false, nI ov').1 = true from Bool.false_ne_true)]
      · unfold f_X11_ticks
        rw [lt_eq, if_neg (by decide), show FU = J + ((4999 - J) + 1) from by show 5000 = _; omega]
        refine Eq.trans (go_skip2 (e := J) hJ (Nat.le_refl J) J 0 rfl (fun i _ hi => ?_)) ?_
        · rw [R.st4 hi]
          rcases hno i hi with h | h
          · rw [h]; decide
          · rw [h]; decide
        · rw [f_X11_ticks_l23, if_pos (nI_le (Nat.le_refl J) (by omega)), show f_X11_firstWaiting (nI J) mj = some (fst1 (w0 st) J 0) from fw_m hJ (fun i hi => R.st4 hi) J 0 FU (by omega) (by show J < 5000; omega), bd_some, fst_none J 0 (fun i _ hi => w0_f (fun h0 => by
            rcases hno i (by omega) with h | h
            · rw [h] at h0; exact absurd h0 (by decide)
            · rw [h] at h0; exact absurd h0 (by decide))), if_pos rfl]
          rfl
      · exfalso
        rcases hno i hi with h | h
        · rw [h] at h01
          exact absurd h01 (by decide)
        · rw [h] at h01
          exact absurd h01 (by decide)
end TickSec
