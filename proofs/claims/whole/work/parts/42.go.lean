/-! ===== pure part: a job goes on by a clock ===== -/
def upd3 (mt : Nat → Int64) (i : Nat) (x y z : Int64) : Nat → Int64 := vp_updL (vp_updL (vp_updL mt i x) (i + 1) y) (i + 2) z
theorem upd3_0 {mt : Nat → Int64} {i : Nat} {x y z : Int64} : upd3 mt i x y z i = x := by
  unfold upd3
  rw [pk_uLn (by omega), pk_uLn (by omega), pk_uLs]
theorem upd3_1 {mt : Nat → Int64} {i : Nat} {x y z : Int64} : upd3 mt i x y z (i + 1) = y := by
  unfold upd3
  rw [pk_uLn (by omega), pk_uLs]
theorem upd3_2 {mt : Nat → Int64} {i : Nat} {x y z : Int64} : upd3 mt i x y z (i + 2) = z := by
  unfold upd3
  rw [pk_uLs]
theorem upd3_n {mt : Nat → Int64} {i j : Nat} {x y z : Int64} (h : j < i ∨ i + 3 ≤ j) : upd3 mt i x y z j = mt j := by
  unfold upd3
  rw [pk_uLn (by omega), pk_uLn (by omega), pk_uLn (by omega)]
theorem m_of00 {j : Nat} (hj : j < 60) (mj : Nat → Int32) : f_X11_of (nI j) 0 mj = some (mj (14 * j)) := m_of0 hj mj
theorem m_takes {j g : Nat} (hj : j < 60) (hg : g ≤ 24) {mj : Nat → Int32} (h5 : mj (14 * j + 5) = nI g) (mt : Nat → Int64) (x y z : Int64) (a : Int32) : f_X11_takes (nI j) x y z a mj mt = some (mt (75 * j + 3 * g), mt (75 * j + 3 * g + 1), mt (75 * j + 3 * g + 2), mj (14 * j + 8)) := by
  unfold f_X11_takes
  rw [m_of5 hj, bd_some, h5, lt_eq, r75, gv_N (by omega) (by decide), lt_eq, nI_p1, gv_N (by omega) (by decide), lt_eq, nI_p2, gv_N (by omega) (by decide), lt_eq, m_of8 hj, bd_some, nI_clamp (by omega), nI_clamp (by omega), nI_clamp (by omega)]
theorem m_puts {j g : Nat} (hj : j < 60) (hg : g ≤ 24) {mj : Nat → Int32} (h5 : mj (14 * j + 5) = nI g) (mt : Nat → Int64) (x y z : Int64) : f_X11_puts (nI j) x y z mj mt = some (upd3 mt (75 * j + 3 * g) x y z) := by
  unfold f_X11_puts
  rw [m_of5 hj, bd_some, h5, lt_eq, r75, gv_N (by omega) (by decide), nI_p1, gv_N (by omega) (by decide), nI_p2, gv_N (by omega) (by decide), nI_clamp (by omega), nI_clamp (by omega), nI_clamp (by omega)]
  rfl
section GoSec
variable {W G N : Nat} {nr : Bool} {mw gf pf sg mg mu : Nat → Int32} {nf : Nat → Bool} {qf lf am : Nat → Int64} {sm dm : Nat → Int32}
theorem en_m0 (B : BD W G N) (M : MT 0 W G N nr mw gf pf sg mg mu nf qf lf am sm dm) {k : Nat} (hk : k < 9) {p q r : Int64} (hg : gd W k p q r = true) (f1 f2 : Int64) : f_X11_ends 0 (nI k) (jx W G N nr k p q r N).1 (jx W G N nr k p q r N).2.1 (jx W G N nr k p q r N).2.2 f1 f2 (bw W G N nr k p q r).2.2.2 gf pf nf lf dm = some (aw W G N nr k p q r) := en_m (b := 0) (by decide) B M hk hg f1 f2
theorem st_m0 (B : BD W G N) (M : MT 0 W G N nr mw gf pf sg mg mu nf qf lf am sm dm) {k s : Nat} (hk : k < 9) (hs : s < N) (p q r : Int64) : f_X11_steps 0 (nI k) (nI s) (jx W G N nr k p q r s).1 (jx W G N nr k p q r s).2.1 (jx W G N nr k p q r s).2.2 nf am sm = some (upS (kTurn k) (jx W G N nr k p q r s).2.1 (jx W G N nr k p q r s).2.2, (jx W G N nr k p q r (s + 1)).1, (jx W G N nr k p q r (s + 1)).2.1, (jx W G N nr k p q r (s + 1)).2.2) := st_m (b := 0) (by decide) B M hk hs p q r
theorem gd_m0 (B : BD W G N) (M : MT 0 W G N nr mw gf pf sg mg mu nf qf lf am sm dm) {k : Nat} (hk : k < 9) (p q r : Int64) : f_X11_isGood 0 (nI k) p q r mw = some (gd W k p q r) := gd_m (b := 0) (by decide) B M hk p q r
theorem bg_m0 (B : BD W G N) (M : MT 0 W G N nr mw gf pf sg mg mu nf qf lf am sm dm) {k : Nat} (hk : k < 9) {p q r : Int64} (hg : gd W k p q r = true) (mx my mz f1 f2 : Int64) (ma : Int32) : f_X11_begins 0 (nI k) p q r mx my mz f1 f2 ma gf pf mu nf qf lf = some ((bw W G N nr k p q r).1, (bw W G N nr k p q r).2.1, (bw W G N nr k p q r).2.2.1, (if k = 8 then (bw W G N nr k p q r).1 else f1), (if k = 8 then (bw W G N nr k p q r).2.1 else f2), (bw W G N nr k p q r).2.2.2) := (bg_m (b := 0) (by decide) B M hk hg mx my mz f1 f2 ma).1
theorem m_done (B : BD W G N) (M : MT 0 W G N nr mw gf pf sg mg mu nf qf lf am sm dm) {j k : Nat} (hj : j < 60) (hk : k < 9) {a b c : Int64} {mj mr : Nat → Int32} {mt : Nat → Int64} (h0 : mj (14 * j) = nI k) (h5 : mj (14 * j + 5) = nI N) (T : JT W G N nr j k N a b c mj mt) (clk : Int32) (x y z f1 f2 : Int64) (as : Int32) : f_X11_goesOn (nI j) clk x y z f1 f2 as gf pf sg nf lf am sm dm mj mr mt = some (1, (jx W G N nr k a b c N).1, (jx W G N nr k a b c N).2.1, (jx W G N nr k a b c N).2.2, (aw W G N nr k a b c).1, (aw W G N nr k a b c).2, (bw W G N nr k a b c).2.2.2, upd (upd mj (14 * j + 4) 2) (14 * j + 7) clk, upd (upd mr (2 * j) (aw W G N nr k a b c).1.toInt32) (2 * j + 1) (aw W G N nr k a b c).2.toInt32, mt) := by
  obtain ⟨t1, t2, t3, t4⟩ := T
  have e := t4 N (Nat.le_refl N)
  unfold f_X11_goesOn
  rw [m_takes hj B.2.2.2.2 h5, bd_some, m_of5 hj, bd_some, gv_0 (by decide), cl_0, h5, M.1.2.2.2.1, if_pos rfl, m_of00 hj, bd_some, h0]
  dsimp only
  rw [e.1, e.2.1, e.2.2, t2, en_m0 B M hk t1, bd_some, r2_1, r2_0, r14_4, r14_7, gv_N (by omega) (by decide), gv_N (by omega) (by decide), gv_N (by omega) (by decide), gv_N (by omega) (by decide), nI_clamp (by omega), nI_clamp (by omega), nI_clamp (by omega), nI_clamp (by omega)]
theorem m_step (B : BD W G N) (M : MT 0 W G N nr mw gf pf sg mg mu nf qf lf am sm dm) {j k g : Nat} (hj : j < 60) (hk : k < 9) (hg : g < N) {a b c : Int64} {mj mr : Nat → Int32} {mt : Nat → Int64} (h0 : mj (14 * j) = nI k) (h5 : mj (14 * j + 5) = nI g) (T : JT W G N nr j k g a b c mj mt) (clk : Int32) (x y z f1 f2 : Int64) (as : Int32) : ∃ mj', f_X11_goesOn (nI j) clk x y z f1 f2 as gf pf sg nf lf am sm dm mj mr mt = some (0, (jx W G N nr k a b c (g + 1)).1, (jx W G N nr k a b c (g + 1)).2.1, (jx W G N nr k a b c (g + 1)).2.2, f1, f2, (bw W G N nr k a b c).2.2.2, mj', mr, upd3 mt (75 * j + 3 * (g + 1)) (jx W G N nr k a b c (g + 1)).1 (jx W G N nr k a b c (g + 1)).2.1 (jx W G N nr k a b c (g + 1)).2.2) ∧ mj' (14 * j + 5) = nI (g + 1) ∧ mj' (14 * j + 9) = jb W G N nr k a b c (g + 1) ∧ (∀ i, ¬ i = 14 * j + 5 → ¬ i = 14 * j + 9 → mj' i = mj i) := by
  obtain ⟨t1, t2, t3, t4⟩ := T
  have e := t4 g (Nat.le_refl g)
  have hN := B.2.2.2.2
  have key : ∀ mj1 : Nat → Int32, mj1 (14 * j + 5) = nI g → f_X11_goesOn_b132 clk gf pf sg nf lf am sm dm (nI j) (jx W G N nr k a b c (g + 1)).1 (jx W G N nr k a b c (g + 1)).2.1 (jx W G N nr k a b c (g + 1)).2.2 f1 f2 (bw W G N nr k a b c).2.2.2 mj1 mr mt = some (0, (jx W G N nr k a b c (g + 1)).1, (jx W G N nr k a b c (g + 1)).2.1, (jx W G N nr k a b c (g + 1)).2.2, f1, f2, (bw W G N nr k a b c).2.2.2, upd mj1 (14 * j + 5) (nI (g + 1)), mr, upd3 mt (75 * j + 3 * (g + 1)) (jx W G N nr k a b c (g + 1)).1 (jx W G N nr k a b c (g + 1)).2.1 (jx W G N nr k a b c (g + 1)).2.2) := by
    intro mj1 h51
    unfold f_X11_goesOn_b132
    rw [lt_eq, r14_5, gv_N (by omega) (by decide), lt_eq, gv_N (by omega) (by decide), nI_clamp (by omega), h51, nI_p1, m_puts (g := g + 1) hj (by omega) pk_us, bd_some]
  have hne : ¬ nI g = nI N := fun h => by
    have := (nI_eq (by omega) (by omega)).1 h
    omega
  have hst := st_m0 B M hk hg a b c
  by_cases hu : upS (kTurn k) (jx W G N nr k a b c g).2.1 (jx W G N nr k a b c g).2.2 = true
  · refine ⟨upd (upd mj (14 * j + 9) (mj (14 * j + 9) ||| ((1 : Int32) <<< (nI g &&& 31)))) (14 * j + 5) (nI (g + 1)), ?_, pk_us, ?_, ?_⟩
    · unfold f_X11_goesOn
      rw [m_takes hj (by omega) h5, bd_some, m_of5 hj, bd_some, gv_0 (by decide), cl_0, h5, M.1.2.2.2.1, if_neg hne, m_of00 hj, bd_some, bd_some, h0]
      dsimp only
      rw [e.1, e.2.1, e.2.2, t2, hst, bd_some]
      dsimp only
      rw [if_pos hu, lt_eq, r14_9, gv_N (by omega) (by decide), bd_some, lt_eq, gv_N (by omega) (by decide), nI_clamp (by omega)]
      exact key _ (by rw [pk_un (by omega)]; exact h5)
    · rw [pk_un (by omega), pk_us, t3, jb_s, if_pos hu]
    · intro i h1 h2
      rw [pk_un h1, pk_un h2]
  · refine ⟨upd mj (14 * j + 5) (nI (g + 1)), ?_, pk_us, ?_, ?_⟩
    · unfold f_X11_goesOn
      rw [m_takes hj (by omega) h5, bd_some, m_of5 hj, bd_some, gv_0 (by decide), cl_0, h5, M.1.2.2.2.1, if_neg hne, m_of00 hj, bd_some, bd_some, h0]
      dsimp only
      rw [e.1, e.2.1, e.2.2, t2, hst, bd_some]
      dsimp only
      rw [if_neg hu]
      exact key _ h5
    · rw [pk_un (by omega), t3, jb_s, if_neg hu, Int32.or_zero]
    · intro i h1 h2
      rw [pk_un h1]
theorem n1_is {s : Nat} (hs : s < 4) (h : nI s = 1) : s = 1 := (nI_eq (a := s) (b := 1) (by omega) (by decide)).1 h
theorem n0_is {s : Nat} (hs : s < 4) (h : nI s = 0) : s = 0 := (nI_eq (a := s) (b := 0) (by omega) (by decide)).1 h
theorem n2_is {s : Nat} (hs : s < 4) (h : nI s = 2) : s = 2 := (nI_eq (a := s) (b := 2) (by omega) (by decide)).1 h
theorem go1 (B : BD W G N) (M : MT 0 W G N nr mw gf pf sg mg mu nf qf lf am sm dm) {j : Nat} (hj : j < 60) {kd op ti st gn tl br dn mj mr : Nat → Int32} {mt : Nat → Int64} (h : JB W G N nr j kd op ti st gn tl br dn mj mr mt) (h1 : st j = 1) (clk : Int32) (x y z f1 f2 : Int64) (as : Int32) :
    ∃ (d : Int32) (x' y' z' f1' f2' : Int64) (as' : Int32) (mj' mr' : Nat → Int32) (mt' : Nat → Int64), f_X11_goesOn (nI j) clk x y z f1 f2 as gf pf sg nf lf am sm dm mj mr mt = some (d, x', y', z', f1', f2', as', mj', mr', mt') ∧
    (∀ i, ¬ i = j → ∀ c, c < 14 → mj' (14 * i + c) = mj (14 * i + c)) ∧ (∀ i, ¬ i = j → ∀ c, c < 2 → mr' (2 * i + c) = mr (2 * i + c)) ∧ (∀ i, ¬ i = j → ∀ c, c < 75 → mt' (75 * i + c) = mt (75 * i + c)) ∧
    ((gn j = nI N ∧ d = 1 ∧ JB W G N nr j kd op ti (upd st j 2) gn tl br (upd dn j clk) mj' mr' mt') ∨ (∃ g, g < N ∧ gn j = nI g ∧ d = 0 ∧ JB W G N nr j kd op ti st (upd gn j (nI (g + 1))) tl br dn mj' mr' mt')) := by
  have hN := B.2.2.2.2
  obtain ⟨k, s, g, ⟨hk, hs, hg⟩, ⟨a1, a2, a3⟩, ⟨b1, b2, b3, b4, b5, b6⟩, hw, hs0, hs2, hT, hr⟩ := h
  obtain rfl : s = 1 := n1_is hs (by rw [← a2]; exact h1)
  have T := hT (Or.inl rfl)
  rcases Nat.eq_or_lt_of_le hg with rfl | hlt
  · refine ⟨_, _, _, _, _, _, _, _, _, _, m_done B M hj hk b1 b3 T clk x y z f1 f2 as, ?_, ?_, ?_, ?_⟩
    · intro i hi c hc
      rw [pk_un (by omega), pk_un (by omega)]
    · intro i hi c hc
      rw [pk_un (by omega), pk_un (by omega)]
    · intro i hi c hc
      rfl
    · refine Or.inl ⟨a3, rfl, ⟨k, 2, g, ⟨hk, by decide, Nat.le_refl g⟩, ⟨a1, pk_us, a3⟩, ⟨?_, ?_, ?_, ?_, ?_, ?_⟩, ?_, fun h => absurd h (by decide), fun _ => rfl, ?_, ?_⟩⟩
      · rw [pk_un (by omega), pk_un (by omega)]; exact b1
      · rw [pk_un (by omega), pk_us]; rfl
      · rw [pk_un (by omega), pk_un (by omega)]; exact b3
      · rw [pk_un (by omega), pk_un (by omega)]; exact b4
      · rw [pk_us, pk_us]
      · rw [pk_un (by omega), pk_un (by omega)]; exact b6
      · intro w hw3
        rw [pk_un (by omega), pk_un (by omega), pk_un (by omega), pk_un (by omega)]
        exact hw w hw3
      · intro _
        obtain ⟨t1, t2, t3, t4⟩ := T
        refine ⟨t1, ?_, ?_, t4⟩
        · rw [pk_un (by omega), pk_un (by omega)]; exact t2
        · rw [pk_un (by omega), pk_un (by omega)]; exact t3
      · intro _
        refine ⟨?_, pk_us⟩
        rw [pk_un (by omega), pk_us]
  · obtain ⟨mj', e1, e2, e3, e4⟩ := m_step B M hj hk hlt b1 b3 T (mr := mr) clk x y z f1 f2 as
    refine ⟨_, _, _, _, _, _, _, _, _, _, e1, ?_, ?_, ?_, ?_⟩
    · intro i hi c hc
      exact e4 _ (by omega) (by omega)
    · intro i hi c hc
      rfl
    · intro i hi c hc
      exact upd3_n (by omega)
    · refine Or.inr ⟨g, hlt, a3, rfl, ⟨k, 1, g + 1, ⟨hk, by decide, hlt⟩, ⟨a1, a2, pk_us⟩, ⟨?_, ?_, e2, ?_, ?_, ?_⟩, ?_, fun h => absurd h (by decide), fun h => absurd h (by decide), ?_, fun h => absurd h (by decide)⟩⟩
      · rw [e4 _ (by omega) (by omega)]; exact b1
      · rw [e4 _ (by omega) (by omega)]; exact b2
      · rw [e4 _ (by omega) (by omega)]; exact b4
      · rw [e4 _ (by omega) (by omega)]; exact b5
      · rw [e4 _ (by omega) (by omega)]; exact b6
      · intro w hw3
        rw [e4 _ (by omega) (by omega), e4 _ (by omega) (by omega)]
        exact hw w hw3
      · intro _
        obtain ⟨t1, t2, t3, t4⟩ := T
        refine ⟨t1, ?_, e3, ?_⟩
        · rw [e4 _ (by omega) (by omega)]; exact t2
        · intro t ht
          rcases Nat.eq_or_lt_of_le ht with rfl | ht2
          · exact ⟨upd3_0, upd3_1, upd3_2⟩
          · rw [upd3_n (by omega), upd3_n (by omega), upd3_n (by omega)]
            exact t4 t (by omega)
/-- how many clocks a job may still want -/
def wt (N : Nat) (s g : Int32) : Nat := if s = 0 then N + 2 else if s = 1 then N + 1 - g.toNatClampNeg else 0
theorem go_skip {hd : Bool} {pl : Int32} {J : Nat} (hJ : J ≤ 60) {mj mr : Nat → Int32} {mt : Nat → Int64} {clk : Int32} {x y z f1 f2 : Int64} {as : Int32} {acc : Int32} {f0 : Nat} : ∀ (r j : Nat), r + j = J → (∀ i, j ≤ i → i < J → ¬ mj (14 * i + 4) = 1) → f_X11_ticks_l23 pl hd (nI J) mw gf pf sg mu nf qf lf am sm dm (r + (f0 + 1)) acc (nI j) clk x y z f1 f2 as mj mr mt = f_X11_ticks_l23 pl hd (nI J) mw gf pf sg mu nf qf lf am sm dm (f0 + 1) acc (nI J) clk x y z f1 f2 as mj mr mt
  | 0, j => by
    intro h1 _
    obtain rfl : j = J := by omega
    rw [Nat.zero_add]
  | r + 1, j => by
    intro h1 h2
    rw [show r + 1 + (f0 + 1) = (r + (f0 + 1)) + 1 from by omega, f_X11_ticks_l23, if_neg (nI_ge (by omega) (by omega)), m_of4 (by omega), bd_some, if_neg (h2 j (Nat.le_refl j) (by omega))]
    unfold f_X11_ticks_b49
    rw [lt_eq, nI_p1]
    exact go_skip hJ r (j + 1) (by omega) (fun i h3 h4 => h2 i (by omega) h4)
theorem go_loop (B : BD W G N) (M : MT 0 W G N nr mw gf pf sg mg mu nf qf lf am sm dm) {J : Nat} (hJ : J ≤ 60) (kd op ti tl br : Nat → Int32) (clk : Int32) : ∀ (r j : Nat) (acc : Int32) (st gn dn mj mr : Nat → Int32) (mt : Nat → Int64) (x y z f1 f2 : Int64) (as : Int32), r + j = J → (∀ i, i < J → JB W G N nr i kd op ti st gn tl br dn mj mr mt) → (∀ i, i < J → st i = 1 → ∀ t, t < i → ¬ st t = 0) →
    ∃ (acc' : Int32) (st' gn' dn' mj' mr' : Nat → Int32) (mt' : Nat → Int64) (x' y' z' f1' f2' : Int64) (as' : Int32),
      (∀ (f : Nat) (ov : Int32), r < f → f_X1_goOn_l7 (nI J) ov clk f (nI N) acc (nI j) st gn dn = some (acc', st', gn', dn')) ∧
      (∀ (f0 : Nat) (hd : Bool) (pl : Int32), f_X11_ticks_l23 pl hd (nI J) mw gf pf sg mu nf qf lf am sm dm (r + (f0 + 1)) acc (nI j) clk x y z f1 f2 as mj mr mt = f_X11_ticks_l23 pl hd (nI J) mw gf pf sg mu nf qf lf am sm dm (f0 + 1) acc' (nI J) clk x' y' z' f1' f2' as' mj' mr' mt') ∧
      (∀ i, i < J → JB W G N nr i kd op ti st' gn' tl br dn' mj' mr' mt') ∧ (∀ i, i < J → (st' i = 0 ↔ st i = 0) ∧ (st' i = 1 → st i = 1) ∧ (st i = 2 ∨ st i = 3 → st' i = st i) ∧ wt N (st' i) (gn' i) ≤ wt N (st i) (gn i) ∧ (j ≤ i → st i = 1 → wt N (st' i) (gn' i) < wt N (st i) (gn i)))
  | 0, j, acc, st, gn, dn, mj, mr, mt, x, y, z, f1, f2, as => by
    intro h1 hB hO
    obtain rfl : j = J := by omega
    refine ⟨acc, st, gn, dn, mj, mr, mt, x, y, z, f1, f2, as, ?_, ?_, hB, ?_⟩
    · intro f ov hf
      obtain ⟨f, rfl⟩ : ∃ f', f = f' + 1 := ⟨f - 1, by omega⟩
      rw [f_X1_goOn_l7, if_pos (nI_le (by omega) (by omega))]
      rfl
    · intro f0 hd pl
      rw [Nat.zero_add]
    · intro i hi
      exact ⟨Iff.rfl, id, fun _ => rfl, Nat.le_refl _, fun h => by omega⟩
  | r + 1, j, acc, st, gn, dn, mj, mr, mt, x, y, z, f1, f2, as => by
    intro h1 hB hO
    have hN := B.2.2.2.2
    have hjb := hB j (by omega)
    have hm4 : ∀ i, i < J → mj (14 * i + 4) = st i := fun i hi => by
      obtain ⟨k, s, g, hb, ⟨a1, a2, a3⟩, ⟨b1, b2, b3, b4, b5, b6⟩, hrest⟩ := hB i hi
      rw [b2, a2]
    by_cases h0 : st j = 0
    · have hno : ∀ i, j ≤ i → i < J → ¬ st i = 1 := fun i h3 h4 h5 => by
        rcases Nat.eq_or_lt_of_le h3 with rfl | h6
        · rw [h0] at h5
          exact absurd h5 (by decide)
        · exact hO i h4 h5 j h6 h0
      refine ⟨acc, st, gn, dn, mj, mr, mt, x, y, z, f1, f2, as, ?_, ?_, hB, ?_⟩
      · intro f ov hf
        obtain ⟨f, rfl⟩ : ∃ f', f = f' + 1 := ⟨f - 1, by omega⟩
        rw [f_X1_goOn_l7, if_neg (nI_ge (by omega) (by omega)), gv_N (by omega) (by decide), nI_clamp (by omega), if_pos h0]
        rfl
      · intro f0 hd pl
        exact go_skip hJ (r + 1) j h1 (fun i h3 h4 => by rw [hm4 i h4]; exact hno i h3 h4)
      · intro i hi
        exact ⟨Iff.rfl, id, fun _ => rfl, Nat.le_refl _, fun h h5 => absurd h5 (hno i h hi)⟩
    · by_cases h1' : st j = 1
      · obtain ⟨d, x1, y1, z1, f11, f21, as1, mj1, mr1, mt1, e1, e2, e3, e4, e5⟩ := go1 B M (show j < 60 by omega) hjb h1' clk x y z f1 f2 as
        rcases e5 with ⟨g1, g2, g3⟩ | ⟨g, g0, g1, g2, g3⟩
        · have hB' : ∀ i, i < J → JB W G N nr i kd op ti (upd st j 2) gn tl br (upd dn j clk) mj1 mr1 mt1 := fun i hi => by
            by_cases hij : i = j
            · rw [hij]
              exact g3
            · exact (hB i hi).congr hN rfl (fun _ _ => rfl) (fun _ _ => rfl) (pk_un hij) rfl rfl rfl (pk_un hij) (e2 i hij) (e3 i hij) (e4 i hij)
          have hO' : ∀ i, i < J → upd st j 2 i = 1 → ∀ t, t < i → ¬ upd st j 2 t = 0 := fun i hi hi1 t ht => by
            by_cases hij : i = j
            · rw [hij, pk_us] at hi1
              exact absurd hi1 (by decide)
            · rw [pk_un hij] at hi1
              by_cases htj : t = j
              · rw [htj, pk_us]
                decide
              · rw [pk_un htj]
                exact hO i hi hi1 t ht
          obtain ⟨acc', st', gn', dn', mj', mr', mt', x', y', z', f1', f2', as', c1, c2, c3, c4⟩ := go_loop B M hJ kd op ti tl br clk r (j + 1) (acc + d) (upd st j 2) gn (upd dn j clk) mj1 mr1 mt1 x1 y1 z1 f11 f21 as1 (by omega) hB' hO'
          refine ⟨acc', st', gn', dn', mj', mr', mt', x', y', z', f1', f2', as', ?_, ?_, c3, ?_⟩
          · intro f ov hf
            obtain ⟨f, rfl⟩ : ∃ f', f = f' + 1 := ⟨f - 1, by omega⟩
            rw [f_X1_goOn_l7, if_neg (nI_ge (by omega) (by omega)), gv_N (by omega) (by decide), nI_clamp (by omega), if_neg h0, gv_N (by omega) (by decide), if_pos h1', gv_N (by omega) (by decide), g1, if_pos (nI_le (Nat.le_refl N) (by omega)), gv_N (by omega) (by decide), gv_N (by omega) (by decide), lt_eq]
            unfold f_X1_goOn_b80
            rw [lt_eq, nI_p1]
            rw [g2] at c1
            exact c1 f ov (by omega)
          · intro f0 hd pl
            rw [show r + 1 + (f0 + 1) = (r + (f0 + 1)) + 1 from by omega, f_X11_ticks_l23, if_neg (nI_ge (by omega) (by omega)), m_of4 (by omega), bd_some, hm4 j (by omega), if_pos h1', e1, bd_some, lt_eq]
            unfold f_X11_ticks_b49
            rw [lt_eq, nI_p1]
            exact c2 f0 hd pl
          · intro i hi
            obtain ⟨d1, d2, d3, d4, d5⟩ := c4 i hi
            by_cases hij : i = j
            · rw [hij, pk_us] at d1 d2 d3 d4 d5
              rw [hij]
              refine ⟨⟨fun h => absurd (d1.1 h) (by decide), fun h => absurd h h0⟩, fun _ => h1', fun h => ?_, ?_, ?_⟩
              · rcases h with h | h
                · rw [h1'] at h
                  exact absurd h (by decide)
                · rw [h1'] at h
                  exact absurd h (by decide)
              · refine Nat.le_trans d4 ?_
                unfold wt
                rw [if_neg (by decide), if_neg (by decide)]
                exact Nat.zero_le _
              · intro _ _
                refine Nat.lt_of_le_of_lt d4 ?_
                unfold wt
                rw [if_neg (by decide), if_neg (by decide), if_neg h0, if_pos h1', g1, nI_clamp (by omega)]
                omega
            · rw [pk_un hij] at d1 d2 d3 d4 d5
              exact ⟨d1, d2, d3, d4, fun h => d5 (by omega)⟩
        · have hB' : ∀ i, i < J → JB W G N nr i kd op ti st (upd gn j (nI (g + 1))) tl br dn mj1 mr1 mt1 := fun i hi => by
            by_cases hij : i = j
            · rw [hij]
              exact g3
            · exact (hB i hi).congr hN rfl (fun _ _ => rfl) (fun _ _ => rfl) rfl (pk_un hij) rfl rfl rfl (e2 i hij) (e3 i hij) (e4 i hij)
          obtain ⟨acc', st', gn', dn', mj', mr', mt', x', y', z', f1', f2', as', c1, c2, c3, c4⟩ := go_loop B M hJ kd op ti tl br clk r (j + 1) (acc + d) st (upd gn j (nI (g + 1))) dn mj1 mr1 mt1 x1 y1 z1 f11 f21 as1 (by omega) hB' hO
          refine ⟨acc', st', gn', dn', mj', mr', mt', x', y', z', f1', f2', as', ?_, ?_, c3, ?_⟩
          · intro f ov hf
            obtain ⟨f, rfl⟩ : ∃ f', f = f' + 1 := ⟨f - 1, by omega⟩
            rw [f_X1_goOn_l7, if_neg (nI_ge (by omega) (by omega)), gv_N (by omega) (by decide), nI_clamp (by omega), if_neg h0, gv_N (by omega) (by decide), if_pos h1', gv_N (by omega) (by decide), g1, if_neg (nI_ge g0 (by omega)), gv_N (by omega) (by decide), lt_eq, gv_N (by omega) (by decide), nI_p1]
            unfold f_X1_goOn_b80
            rw [lt_eq, nI_p1]
            rw [g2, Int32.add_zero] at c1
            exact c1 f ov (by omega)
          · intro f0 hd pl
            rw [show r + 1 + (f0 + 1) = (r + (f0 + 1)) + 1 from by omega, f_X11_ticks_l23, if_neg (nI_ge (by omega) (by omega)), m_of4 (by omega), bd_some, hm4 j (by omega), if_pos h1', e1, bd_some, lt_eq]
            unfold f_X11_ticks_b49
            rw [lt_eq, nI_p1]
            exact c2 f0 hd pl
          · intro i hi
            obtain ⟨d1, d2, d3, d4, d5⟩ := c4 i hi
            by_cases hij : i = j
            · rw [hij, pk_us] at d4 d5
              rw [hij] at d1 d2 d3
              rw [hij]
              have hlt : wt N (st j) (nI (g + 1)) < wt N (st j) (gn j) := by
                unfold wt
                rw [if_neg h0, if_pos h1', if_neg h0, if_pos h1', g1, nI_clamp (by omega), nI_clamp (by omega)]
                omega
              exact ⟨d1, d2, d3, Nat.le_of_lt (Nat.lt_of_le_of_lt d4 hlt), fun _ _ => Nat.lt_of_le_of_lt d4 hlt⟩
            · rw [pk_un hij] at d4 d5
              exact ⟨d1, d2, d3, d4, fun h => d5 (by omega)⟩
      · obtain ⟨acc', st', gn', dn', mj', mr', mt', x', y', z', f1', f2', as', c1, c2, c3, c4⟩ := go_loop B M hJ kd op ti tl br clk r (j + 1) acc st gn dn mj mr mt x y z f1 f2 as (by omega) hB hO
        refine ⟨acc', st', gn', dn', mj', mr', mt', x', y', z', f1', f2', as', ?_, ?_, c3, ?_⟩
        · intro f ov hf
          obtain ⟨f, rfl⟩ : ∃ f', f = f' + 1 := ⟨f - 1, by omega⟩
          rw [f_X1_goOn_l7, if_neg (nI_ge (by omega) (by omega)), gv_N (by omega) (by decide), nI_clamp (by omega), if_neg h0, gv_N (by omega) (by decide), if_neg h1']
          unfold f_X1_goOn_b80
          rw [lt_eq, nI_p1]
          exact c1 f ov (by omega)
        · intro f0 hd pl
          rw [show r + 1 + (f0 + 1) = (r + (f0 + 1)) + 1 from by omega, f_X11_ticks_l23, if_neg (nI_ge (by omega) (by omega)), m_of4 (by omega), bd_some, hm4 j (by omega), if_neg h1']
          unfold f_X11_ticks_b49
          rw [lt_eq, nI_p1]
          exact c2 f0 hd pl
        · intro i hi
          obtain ⟨d1, d2, d3, d4, d5⟩ := c4 i hi
          refine ⟨d1, d2, d3, d4, fun h h5 => d5 ?_ h5⟩
          rcases Nat.eq_or_lt_of_le h with rfl | h6
          · exact absurd h5 h1'
          · omega
end GoSec
