/-! ===== pure part: a job is brought in ===== -/
theorem an_x {i : Nat} (hi : i < 2) (a b : Int64) : f_X7_answer (nI i) a b = some (if i = 0 then a else b) := by
  unfold f_X7_answer
  rw [lt_eq]
  rcases (show i = 0 ∨ i = 1 by omega) with rfl | rfl
  · rw [if_pos (by decide : nI 0 = 0), if_pos rfl]
  · rw [if_neg (by decide : ¬ nI 1 = 0), if_neg (by decide)]
section BringSec
variable {W G N : Nat} {nr : Bool} {mw gf pf sg mg mu : Nat → Int32} {nf : Nat → Bool} {qf lf am : Nat → Int64} {sm dm : Nat → Int32} {uw ug ub us : Int32} {un : Bool} {uq ue ul : Int64} {sx : Nat → Int32} {ax gx ux : Nat → Int64} {dx : Nat → Int32}
/-- what a link that is over tells, both sides -/
theorem lk_val (T : TR 0 W G N nr mw gf pf sg mg mu nf qf lf am sm dm uw ug ub us un uq ue ul sx ax gx ux dx) {o i : Nat} (ho : o < 60) (hi : i < 2) {kd op ti st gn tl br dn mj mr : Nat → Int32} {mt : Nat → Int64} (h : JB W G N nr o kd op ti st gn tl br dn mj mr mt) (h2 : st o = 2) (rx ry rz f1 f2 : Int64) (rb rs : Int32) : ∃ (x' y' z' : Int64) (b' s' : Int32) (a1 a2 : Int64), f_X7_solve (kd o) (op (o * 3)).toInt64 (op (o * 3 + 1)).toInt64 (op (o * 3 + 2)).toInt64 rx ry rz rb rs f1 f2 uw ug ub us un uq ul sx ax ux dx = some (true, x', y', z', b', s', a1, a2) ∧ (if i = 0 then a1 else a2).toInt32 = mr (2 * o + i) := by
  obtain ⟨k, s, g, ⟨hk, hs, hg⟩, ⟨a1, a2, a3⟩, hb, hw, hs0, hs2, hT, hr⟩ := h
  obtain rfl : s = 2 := n2_is hs (by rw [← a2]; exact h2)
  have hgd := (hT (Or.inr rfl)).1
  have hrr := hr rfl
  have e := sol_x T hk hgd rx ry rz f1 f2 rb rs
  rw [← a1] at e
  refine ⟨_, _, _, _, _, _, _, e, ?_⟩
  rcases (show i = 0 ∨ i = 1 by omega) with rfl | rfl
  · exact hrr.1.symm
  · exact hrr.2.symm
theorem bi_loop (T : TR 0 W G N nr mw gf pf sg mg mu nf qf lf am sm dm uw ug ub us un uq ue ul sx ax gx ux dx) {j : Nat} (hj : j < 60) {kd ti st gn tl br dn mr : Nat → Int32} {mt : Nat → Int64} (clk : Int32) : ∀ (r w : Nat) (fl : Bool) (op mj : Nat → Int32) (rx ry rz f1 f2 : Int64) (rb rs : Int32), r + w = 3 → (∀ o, o < j → JB W G N nr o kd op ti st gn tl br dn mj mr mt) → (∀ w, w < 3 → mj (14 * j + 1 + w) = op (j * 3 + w) ∧ mj (14 * j + 10 + w) = ti (j * 3 + w) ∧ TIE j (ti (j * 3 + w))) →
    ∃ (fl' : Bool) (op' mj' : Nat → Int32) (rx' ry' rz' f1' f2' : Int64) (rb' rs' : Int32),
      (∀ f0, f_X1_bringIn_l7 clk kd ti uw ug ub us un uq ul sx ax ux dx (r + (f0 + 1)) (nI j) fl (nI (j * 3 + w)) op st br rx ry rz rb rs f1 f2 = f_X1_bringIn_l7 clk kd ti uw ug ub us un uq ul sx ax ux dx (f0 + 1) (nI j) fl' (nI (j * 3 + 3)) op' st br rx' ry' rz' rb' rs' f1' f2') ∧
      (∀ (f0 : Nat) (x y z g1 g2 : Int64) (as : Int32), f_X11_comesIn_l4 clk mw gf pf mu nf qf lf mr (r + (f0 + 1)) (nI j) (!fl) (nI w) x y z g1 g2 as mj mt = f_X11_comesIn_l4 clk mw gf pf mu nf qf lf mr (f0 + 1) (nI j) (!fl') (nI 3) x y z g1 g2 as mj' mt) ∧
      (∀ w, w < 3 → mj' (14 * j + 1 + w) = op' (j * 3 + w) ∧ mj' (14 * j + 10 + w) = ti (j * 3 + w) ∧ TIE j (ti (j * 3 + w))) ∧ (∀ i, i < j * 3 ∨ j * 3 + 3 ≤ i → op' i = op i) ∧ (∀ i, i < 14 * j + 1 ∨ 14 * j + 4 ≤ i → mj' i = mj i)
  | 0, w, fl, op, mj, rx, ry, rz, f1, f2, rb, rs => by
    intro h1 hB hc
    obtain rfl : w = 3 := by omega
    refine ⟨fl, op, mj, rx, ry, rz, f1, f2, rb, rs, ?_, ?_, hc, fun _ _ => rfl, fun _ _ => rfl⟩
    · intro f0
      rw [Nat.zero_add]
    · intro f0 x y z g1 g2 as
      rw [Nat.zero_add]
  | r + 1, w, fl, op, mj, rx, ry, rz, f1, f2, rb, rs => by
    intro h1 hB hc
    have hN := T.2.1.2.2.2.2
    have hcw := hc w (by omega)
    rcases hcw.2.2 with hv | ⟨o, i, ho, hi, hv⟩
    · obtain ⟨fl', op', mj', rx', ry', rz', f1', f2', rb', rs', c1, c2, c3, c4, c5⟩ := bi_loop T hj clk r (w + 1) fl op mj rx ry rz f1 f2 rb rs (by omega) hB hc
      refine ⟨fl', op', mj', rx', ry', rz', f1', f2', rb', rs', ?_, ?_, c3, c4, c5⟩
      · intro f0
        rw [show r + 1 + (f0 + 1) = (r + (f0 + 1)) + 1 from by omega, f_X1_bringIn_l7, j3e, if_neg (nI_ge (by omega) (by omega)), gv_N (by omega) (by decide), nI_clamp (by omega), lt_eq, gv_N (by omega) (by decide), if_pos hv]
        unfold f_X1_bringIn_b120 f_X1_bringIn_b133
        rw [gv_N (by omega) (by decide), nI_clamp (by omega), if_pos hv, lt_eq, lt_eq, nI_p1]
        exact c1 f0
      · intro f0 x y z g1 g2 as
        rw [show r + 1 + (f0 + 1) = (r + (f0 + 1)) + 1 from by omega, f_X11_comesIn_l4, if_neg (ng3 (by omega)), m_of10w hj (by omega), bd_some, hcw.2.1, if_pos hv]
        unfold f_X11_comesIn_b85
        rw [lt_eq, nI_p1]
        exact c2 f0 x y z g1 g2 as
    · have ho6 : o < 60 := by omega
      have hbo := hB o ho
      have h4o : mj (14 * o + 4) = st o := by
        obtain ⟨k, s, g, hb, ⟨a1, a2, a3⟩, ⟨b1, b2, b3, b4, b5, b6⟩, hrest⟩ := hbo
        rw [b2, a2]
      by_cases h2 : st o = 2
      · obtain ⟨x1, y1, z1, b1, s1, a1, a2, e1, e2⟩ := lk_val T ho6 hi hbo h2 rx ry rz f1 f2 rb rs
        have hB1 : ∀ o', o' < j → JB W G N nr o' kd (upd op (j * 3 + w) (mr (2 * o + i))) ti st gn tl br dn (upd mj (14 * j + 1 + w) (mr (2 * o + i))) mr mt := fun o' ho' => (hB o' ho').congr hN rfl (fun w' hw' => pk_un (by omega)) (fun _ _ => rfl) rfl rfl rfl rfl rfl (fun c hc' => pk_un (by omega)) (fun _ _ => rfl) (fun _ _ => rfl)
        have hc1 : ∀ w', w' < 3 → (upd mj (14 * j + 1 + w) (mr (2 * o + i))) (14 * j + 1 + w') = (upd op (j * 3 + w) (mr (2 * o + i))) (j * 3 + w') ∧ (upd mj (14 * j + 1 + w) (mr (2 * o + i))) (14 * j + 10 + w') = ti (j * 3 + w') ∧ TIE j (ti (j * 3 + w')) := fun w' hw' => by
          refine ⟨?_, ?_, (hc w' hw').2.2⟩
          · by_cases hww : w' = w
            · rw [hww, pk_us, pk_us]
            · rw [pk_un (by omega), pk_un (by omega)]
              exact (hc w' hw').1
          · rw [pk_un (by omega)]
            exact (hc w' hw').2.1
        obtain ⟨fl', op', mj', rx', ry', rz', f1', f2', rb', rs', c1, c2, c3, c4, c5⟩ := bi_loop T hj clk r (w + 1) fl (upd op (j * 3 + w) (mr (2 * o + i))) (upd mj (14 * j + 1 + w) (mr (2 * o + i))) x1 y1 z1 a1 a2 b1 s1 (by omega) hB1 hc1
        refine ⟨fl', op', mj', rx', ry', rz', f1', f2', rb', rs', ?_, ?_, c3, ?_, ?_⟩
        · intro f0
          rw [show r + 1 + (f0 + 1) = (r + (f0 + 1)) + 1 from by omega, f_X1_bringIn_l7, j3e, if_neg (nI_ge (by omega) (by omega)), gv_N (by omega) (by decide), nI_clamp (by omega), lt_eq, gv_N (by omega) (by decide), hv, if_neg (tie_ne ho6 hi), tie_shr ho6 hi, gv_N ho6 (by decide), nI_clamp (by omega), if_pos h2, lt_eq, i3_0, gv_N ho6 (by decide), gv_N (by omega) (by decide), nI_p1, gv_N (by omega) (by decide), nI_p2, gv_N (by omega) (by decide)]
          simp only [nI_clamp (show o * 3 < 2 ^ 31 by omega), nI_clamp (show o * 3 + 1 < 2 ^ 31 by omega), nI_clamp (show o * 3 + 2 < 2 ^ 31 by omega)]
          rw [e1, bd_some, gv_N (by omega) (by decide), tie_and ho6 hi]
          dsimp only
          rw [an_x hi, bd_some, gv_N (by omega) (by decide), e2]
          unfold f_X1_bringIn_b133
          rw [lt_eq, nI_p1]
          exact c1 f0
        · intro f0 x y z g1 g2 as
          rw [show r + 1 + (f0 + 1) = (r + (f0 + 1)) + 1 from by omega, f_X11_comesIn_l4, if_neg (ng3 (by omega)), m_of10w hj (by omega), bd_some, hcw.2.1, hv, if_neg (tie_ne ho6 hi)]
          have hk := c2 f0 x y z g1 g2 as
          cases fl with
          | false =>
            rw [if_pos (by decide : (!false) = true), gz_n (by decide), tie_div ho6 hi, m_of4 ho6, bd_some, h4o, if_pos h2, lt_eq, gz_n (by decide), bd_some, if_pos h2, gv_N (by omega) (by decide), lt_eq, r14_1, nI_add, gv_N (by omega) (by decide), nI_clamp (by omega), nI_clamp (by omega)]
            unfold f_X11_comesIn_b85
            rw [lt_eq, nI_p1]
            exact hk
          | true =>
            rw [if_neg (by decide)]
            unfold f_X11_comesIn_b50 f_X11_comesIn_b51
            rw [gz_n (by decide), tie_div ho6 hi, m_of4 ho6, bd_some, h4o, if_pos h2, gv_N (by omega) (by decide), lt_eq, r14_1, nI_add, gv_N (by omega) (by decide), nI_clamp (by omega), nI_clamp (by omega)]
            unfold f_X11_comesIn_b85
            rw [lt_eq, nI_p1]
            exact hk
        · intro i' hi'
          rw [c4 i' hi', pk_un (by omega)]
        · intro i' hi'
          rw [c5 i' hi', pk_un (by omega)]
      · obtain ⟨fl', op', mj', rx', ry', rz', f1', f2', rb', rs', c1, c2, c3, c4, c5⟩ := bi_loop T hj clk r (w + 1) true op mj rx ry rz f1 f2 rb rs (by omega) hB hc
        refine ⟨fl', op', mj', rx', ry', rz', f1', f2', rb', rs', ?_, ?_, c3, c4, c5⟩
        · intro f0
          rw [show r + 1 + (f0 + 1) = (r + (f0 + 1)) + 1 from by omega, f_X1_bringIn_l7, j3e, if_neg (nI_ge (by omega) (by omega)), gv_N (by omega) (by decide), nI_clamp (by omega), lt_eq, gv_N (by omega) (by decide), hv, if_neg (tie_ne ho6 hi), tie_shr ho6 hi, gv_N ho6 (by decide), nI_clamp (by omega), if_neg h2]
          unfold f_X1_bringIn_b120 f_X1_bringIn_b133
          rw [gv_N (by omega) (by decide), nI_clamp (by omega), hv, if_neg (tie_ne ho6 hi), lt_eq, lt_eq, nI_p1]
          exact c1 f0
        · intro f0 x y z g1 g2 as
          rw [show r + 1 + (f0 + 1) = (r + (f0 + 1)) + 1 from by omega, f_X11_comesIn_l4, if_neg (ng3 (by omega)), m_of10w hj (by omega), bd_some, hcw.2.1, hv, if_neg (tie_ne ho6 hi)]
          have hk := c2 f0 x y z g1 g2 as
          cases fl with
          | false =>
            rw [if_pos (by decide : (!false) = true), gz_n (by decide), tie_div ho6 hi, m_of4 ho6, bd_some, h4o, if_neg h2, lt_eq, gz_n (by decide), bd_some, if_neg h2]
            unfold f_X11_comesIn_b85
            rw [lt_eq, nI_p1]
            exact hk
          | true =>
            rw [if_neg (by decide)]
            unfold f_X11_comesIn_b50 f_X11_comesIn_b51
            rw [gz_n (by decide), tie_div ho6 hi, m_of4 ho6, bd_some, h4o, if_neg h2]
            unfold f_X11_comesIn_b85
            rw [lt_eq, nI_p1]
            exact hk
theorem bring (T : TR 0 W G N nr mw gf pf sg mg mu nf qf lf am sm dm uw ug ub us un uq ue ul sx ax gx ux dx) {j : Nat} (hj : j < 60) {kd op ti st gn tl br dn mj mr : Nat → Int32} {mt : Nat → Int64} (hB : ∀ o, o < j → JB W G N nr o kd op ti st gn tl br dn mj mr mt) (hjb : JB W G N nr j kd op ti st gn tl br dn mj mr mt) (h0 : st j = 0) (clk : Int32) (rx ry rz f1 f2 : Int64) (rb rs : Int32) :
    ∃ (s' : Nat) (op' mj' : Nat → Int32) (mt' : Nat → Int64) (rx' ry' rz' f1' f2' : Int64) (rb' rs' : Int32), (s' = 1 ∨ s' = 3) ∧
      f_X1_bringIn (nI j) clk kd op ti st br rx ry rz rb rs f1 f2 uw ug ub us un uq ul sx ax ux dx = some (op', upd st j (nI s'), upd br j clk, rx', ry', rz', rb', rs', f1', f2') ∧
      (∀ (x y z g1 g2 : Int64) (as : Int32), ∃ (x' y' z' g1' g2' : Int64) (as' : Int32), f_X11_comesIn (nI j) clk x y z g1 g2 as mw gf pf mu nf qf lf mj mr mt = some (x', y', z', g1', g2', as', mj', mt')) ∧
      JB W G N nr j kd op' ti (upd st j (nI s')) gn tl (upd br j clk) dn mj' mr mt' ∧ (∀ i, ¬ i = j → ∀ w, w < 3 → op' (i * 3 + w) = op (i * 3 + w)) ∧ (∀ i, ¬ i = j → ∀ c, c < 14 → mj' (14 * i + c) = mj (14 * i + c)) ∧ (∀ i, ¬ i = j → ∀ c, c < 75 → mt' (75 * i + c) = mt (75 * i + c)) := by
  obtain ⟨k, s, g, ⟨hk, hs, hg⟩, ⟨a1, a2, a3⟩, ⟨b1, b2, b3, b4, b5, b6⟩, hw, hs0, hs2, hT, hr⟩ := hjb
  obtain rfl : s = 0 := n0_is hs (by rw [← a2]; exact h0)
  obtain ⟨rfl, hz9⟩ := hs0 rfl
  obtain ⟨fl, op', mj1, rx', ry', rz', f1', f2', rb', rs', c1, c2, c3, c4, c5⟩ := bi_loop T hj clk 3 0 false op mj rx ry rz f1 f2 rb rs rfl hB hw
  have T' := T
  obtain ⟨hb0, B, X, M⟩ := T'
  have hw1 := c3 0 (by decide)
  have hw2 := c3 1 (by decide)
  have hw3 := c3 2 (by decide)
  have eX : f_X1_bringIn (nI j) clk kd op ti st br rx ry rz rb rs f1 f2 uw ug ub us un uq ul sx ax ux dx = f_X1_bringIn_l7 clk kd ti uw ug ub us un uq ul sx ax ux dx (4996 + 1) (nI j) fl (nI (j * 3 + 3)) op' st br rx' ry' rz' rb' rs' f1' f2' := by
    unfold f_X1_bringIn
    rw [lt_eq, i3_0]
    exact c1 4996
  have eM : ∀ (x y z g1 g2 : Int64) (as : Int32), f_X11_comesIn (nI j) clk x y z g1 g2 as mw gf pf mu nf qf lf mj mr mt = f_X11_comesIn_l4 clk mw gf pf mu nf qf lf mr (4996 + 1) (nI j) (!fl) (nI 3) x y z g1 g2 as mj1 mt := fun x y z g1 g2 as => c2 4996 x y z g1 g2 as
  have r0 : mj1 (14 * j) = nI k := (c5 _ (by omega)).trans b1
  have r1 : mj1 (14 * j + 1) = op' (j * 3) := hw1.1
  have r2 : mj1 (14 * j + 2) = op' (j * 3 + 1) := hw2.1
  have r3 : mj1 (14 * j + 3) = op' (j * 3 + 2) := hw3.1
  have fro : ∀ i, ¬ i = j → ∀ w, w < 3 → op' (i * 3 + w) = op (i * 3 + w) := fun i hi w hw => c4 _ (by omega)
  have bad : ∀ mjF : Nat → Int32, mjF = upd (upd mj1 (14 * j + 6) clk) (14 * j + 4) 3 → JB W G N nr j kd op' ti (upd st j (nI 3)) gn tl (upd br j clk) dn mjF mr mt ∧ (∀ i, ¬ i = j → ∀ c, c < 14 → mjF (14 * i + c) = mj (14 * i + c)) := by
    intro mjF hF
    subst hF
    refine ⟨⟨k, 3, 0, ⟨hk, by decide, Nat.zero_le N⟩, ⟨a1, pk_us, a3⟩, ⟨?_, ?_, ?_, ?_, ?_, ?_⟩, ?_, fun h => absurd h (by decide), fun h => absurd h (by decide), fun h => by omega, fun h => absurd h (by decide)⟩, ?_⟩
    · rw [pk_un (by omega), pk_un (by omega)]; exact r0
    · rw [pk_us]; rfl
    · rw [pk_un (by omega), pk_un (by omega), c5 _ (by omega)]; exact b3
    · rw [pk_un (by omega), pk_us, pk_us]
    · rw [pk_un (by omega), pk_un (by omega), c5 _ (by omega)]; exact b5
    · rw [pk_un (by omega), pk_un (by omega), c5 _ (by omega)]; exact b6
    · intro w hw3
      rw [pk_un (by omega), pk_un (by omega), pk_un (by omega), pk_un (by omega)]
      exact c3 w hw3
    · intro i hi c hc
      rw [pk_un (by omega), pk_un (by omega), c5 _ (by omega)]
  cases fl with
  | true =>
    have hbad := bad _ rfl
    refine ⟨3, op', upd (upd mj1 (14 * j + 6) clk) (14 * j + 4) 3, mt, rx', ry', rz', f1', f2', rb', rs', Or.inr rfl, ?_, ?_, hbad.1, fro, hbad.2, fun _ _ _ _ => rfl⟩
    · rw [eX, f_X1_bringIn_l7, j3e, if_pos (nI_le (Nat.le_refl _) (by omega)), lt_eq, if_pos rfl]
      unfold f_X1_bringIn_b189 f_X1_bringIn_b194
      rw [lt_eq, if_pos rfl, gv_N hj (by decide), gv_N hj (by decide), nI_clamp (by omega)]
      rfl
    · intro x y z g1 g2 as
      refine ⟨x, y, z, g1, g2, as, ?_⟩
      rw [eM, f_X11_comesIn_l4, if_pos (by decide : (3 : Int32) ≤ nI 3), r14_6, gv_N (by omega) (by decide), nI_clamp (by omega), if_neg (by decide)]
      unfold f_X11_comesIn_b150 f_X11_comesIn_b151
      rw [lt_eq, r14_4, gv_N (by omega) (by decide), nI_clamp (by omega), if_neg (by decide), if_neg (by decide)]
  | false =>
    have fX : ∀ v : Bool, gd W k (op' (j * 3)).toInt64 (op' (j * 3 + 1)).toInt64 (op' (j * 3 + 2)).toInt64 = v → f_X1_bringIn (nI j) clk kd op ti st br rx ry rz rb rs f1 f2 uw ug ub us un uq ul sx ax ux dx = some (op', upd st j (if v = true then 1 else 3), upd br j clk, rx', ry', rz', rb', rs', f1', f2') := by
      intro v hv
      rw [eX, f_X1_bringIn_l7, j3e, if_pos (nI_le (Nat.le_refl _) (by omega)), lt_eq, if_neg (by decide), i3_0, gv_N hj (by decide), gv_N (by omega) (by decide), nI_p1, gv_N (by omega) (by decide), nI_p2, gv_N (by omega) (by decide)]
      simp only [nI_clamp (show j < 2 ^ 31 by omega), nI_clamp (show j * 3 < 2 ^ 31 by omega), nI_clamp (show j * 3 + 1 < 2 ^ 31 by omega), nI_clamp (show j * 3 + 2 < 2 ^ 31 by omega)]
      rw [a1, X.1.1, gd_x (b := 0) hb0 B M hk, hv, bd_some, lt_eq, lt_eq, gv_N hj (by decide), gv_N hj (by decide)]
      cases v with
      | true => rfl
      | false => rfl
    have m6 : ∀ c, c < 14 → ¬ c = 6 → (upd mj1 (14 * j + 6) clk) (14 * j + c) = mj1 (14 * j + c) := fun c hc hne => pk_un (by omega)
    have fM : ∀ v : Bool, gd W k (op' (j * 3)).toInt64 (op' (j * 3 + 1)).toInt64 (op' (j * 3 + 2)).toInt64 = v → ∀ (x y z g1 g2 : Int64) (as : Int32), f_X11_comesIn (nI j) clk x y z g1 g2 as mw gf pf mu nf qf lf mj mr mt = (if v = true then some ((bw W G N nr k (op' (j * 3)).toInt64 (op' (j * 3 + 1)).toInt64 (op' (j * 3 + 2)).toInt64).1, (bw W G N nr k (op' (j * 3)).toInt64 (op' (j * 3 + 1)).toInt64 (op' (j * 3 + 2)).toInt64).2.1, (bw W G N nr k (op' (j * 3)).toInt64 (op' (j * 3 + 1)).toInt64 (op' (j * 3 + 2)).toInt64).2.2.1, (if k = 8 then (bw W G N nr k (op' (j * 3)).toInt64 (op' (j * 3 + 1)).toInt64 (op' (j * 3 + 2)).toInt64).1 else g1), (if k = 8 then (bw W G N nr k (op' (j * 3)).toInt64 (op' (j * 3 + 1)).toInt64 (op' (j * 3 + 2)).toInt64).2.1 else g2), (bw W G N nr k (op' (j * 3)).toInt64 (op' (j * 3 + 1)).toInt64 (op' (j * 3 + 2)).toInt64).2.2.2, upd (upd (upd mj1 (14 * j + 6) clk) (14 * j + 4) 1) (14 * j + 8) (bw W G N nr k (op' (j * 3)).toInt64 (op' (j * 3 + 1)).toInt64 (op' (j * 3 + 2)).toInt64).2.2.2, upd3 mt (75 * j + 3 * 0) (bw W G N nr k (op' (j * 3)).toInt64 (op' (j * 3 + 1)).toInt64 (op' (j * 3 + 2)).toInt64).1 (bw W G N nr k (op' (j * 3)).toInt64 (op' (j * 3 + 1)).toInt64 (op' (j * 3 + 2)).toInt64).2.1 (bw W G N nr k (op' (j * 3)).toInt64 (op' (j * 3 + 1)).toInt64 (op' (j * 3 + 2)).toInt64).2.2.1) else some (x, y, z, g1, g2, as, upd (upd mj1 (14 * j + 6) clk) (14 * j + 4) 3, mt)) := by
      intro v hv x y z g1 g2 as
      rw [eM, f_X11_comesIn_l4, if_pos (by decide : (3 : Int32) ≤ nI 3), r14_6, gv_N (by omega) (by decide), nI_clamp (by omega), if_pos (by decide : (!false) = true), m_of00 hj, bd_some, m_of1 hj, bd_some, m_of2 hj, bd_some, m_of3 hj, bd_some, pk_un (by omega), pk_un (by omega), pk_un (by omega), pk_un (by omega), r0, r1, r2, r3, gd_m0 B M hk, hv, bd_some, lt_eq, lt_eq, r14_4, gv_N (by omega) (by decide), nI_clamp (by omega)]
      cases v with
      | false => rfl
      | true =>
        rw [if_pos rfl, if_pos rfl, if_pos rfl, m_of00 hj, bd_some, m_of1 hj, bd_some, m_of2 hj, bd_some, m_of3 hj, bd_some]
        rw [show (upd (upd mj1 (14 * j + 6) clk) (14 * j + 4) 1) (14 * j) = nI k from by rw [pk_un (by omega), pk_un (by omega)]; exact r0, show (upd (upd mj1 (14 * j + 6) clk) (14 * j + 4) 1) (14 * j + 1) = op' (j * 3) from by rw [pk_un (by omega), pk_un (by omega)]; exact r1, show (upd (upd mj1 (14 * j + 6) clk) (14 * j + 4) 1) (14 * j + 2) = op' (j * 3 + 1) from by rw [pk_un (by omega), pk_un (by omega)]; exact r2, show (upd (upd mj1 (14 * j + 6) clk) (14 * j + 4) 1) (14 * j + 3) = op' (j * 3 + 2) from by rw [pk_un (by omega), pk_un (by omega)]; exact r3]
        rw [bg_m0 B M hk hv, bd_some, r14_8, gv_N (by omega) (by decide), nI_clamp (by omega), m_puts (g := 0) hj (by decide) (by rw [pk_un (by omega), pk_un (by omega), pk_un (by omega), c5 _ (by omega)]; exact b3), bd_some]
        rfl
    cases hv : gd W k (op' (j * 3)).toInt64 (op' (j * 3 + 1)).toInt64 (op' (j * 3 + 2)).toInt64 with
    | false =>
      have hbad := bad _ rfl
      exact ⟨3, op', upd (upd mj1 (14 * j + 6) clk) (14 * j + 4) 3, mt, rx', ry', rz', f1', f2', rb', rs', Or.inr rfl, fX false hv, fun x y z g1 g2 as => ⟨x, y, z, g1, g2, as, fM false hv x y z g1 g2 as⟩, hbad.1, fro, hbad.2, fun _ _ _ _ => rfl⟩
    | true =>
      refine ⟨1, op', _, _, rx', ry', rz', f1', f2', rb', rs', Or.inl rfl, fX true hv, fun x y z g1 g2 as => ⟨_, _, _, _, _, _, fM true hv x y z g1 g2 as⟩, ?_, fro, ?_, ?_⟩
      · refine ⟨k, 1, 0, ⟨hk, by decide, Nat.zero_le N⟩, ⟨a1, pk_us, a3⟩, ⟨?_, ?_, ?_, ?_, ?_, ?_⟩, ?_, fun h => absurd h (by decide), fun h => absurd h (by decide), fun _ => ⟨hv, pk_us, ?_, ?_⟩, fun h => absurd h (by decide)⟩
        · rw [pk_un (by omega), pk_un (by omega), pk_un (by omega)]; exact r0
        · rw [pk_un (by omega), pk_us]; rfl
        · rw [pk_un (by omega), pk_un (by omega), pk_un (by omega), c5 _ (by omega)]; exact b3
        · rw [pk_un (by omega), pk_un (by omega), pk_us, pk_us]
        · rw [pk_un (by omega), pk_un (by omega), pk_un (by omega), c5 _ (by omega)]; exact b5
        · rw [pk_un (by omega), pk_un (by omega), pk_un (by omega), c5 _ (by omega)]; exact b6
        · intro w hw3
          rw [pk_un (by omega), pk_un (by omega), pk_un (by omega), pk_un (by omega), pk_un (by omega), pk_un (by omega)]
          exact c3 w hw3
        · rw [pk_un (by omega), pk_un (by omega), pk_un (by omega), c5 _ (by omega), hz9]
          rfl
        · intro t ht
          obtain rfl : t = 0 := by omega
          exact ⟨upd3_0, upd3_1, upd3_2⟩
      · intro i hi c hc
        rw [pk_un (by omega), pk_un (by omega), pk_un (by omega), c5 _ (by omega)]
      · intro i hi c hc
        exact upd3_n (by omega)
end BringSec
