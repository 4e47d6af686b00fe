/-! ===== pure part: images, clocks, all over ===== -/
theorem cp_l (nn : Nat) (hn : nn < 2 ^ 30) (fr : Nat → Int32) : ∀ (r i f : Nat) (to : Nat → Int32), r + i = nn → r < f → ∃ g, f_X11_copies_l2 nn fr f (nI i) to = some g ∧ (∀ t, i ≤ t → t < nn → g t = fr t)
  | 0, i, f, to => by
    intro h1 h2
    obtain ⟨f, rfl⟩ : ∃ f', f = f' + 1 := ⟨f - 1, by omega⟩
    refine ⟨to, ?_, fun t h3 h4 => by omega⟩
    rw [f_X11_copies_l2, if_pos (show Int32.ofNat nn ≤ nI i from nI_le (by omega) (by omega))]
  | r + 1, i, f, to => by
    intro h1 h2
    obtain ⟨f, rfl⟩ : ∃ f', f = f' + 1 := ⟨f - 1, by omega⟩
    have key : ∀ (r i f : Nat) (to : Nat → Int32), r + i = nn → r < f → ∃ g, f_X11_copies_l2 nn fr f (nI i) to = some g ∧ (∀ t, i ≤ t → t < nn → g t = fr t) ∧ (∀ t, t < i → g t = to t) := by
      intro r
      induction r with
      | zero =>
        intro i f to h1 h2
        obtain ⟨f, rfl⟩ : ∃ f', f = f' + 1 := ⟨f - 1, by omega⟩
        refine ⟨to, ?_, fun t h3 h4 => by omega, fun _ _ => rfl⟩
        rw [f_X11_copies_l2, if_pos (show Int32.ofNat nn ≤ nI i from nI_le (by omega) (by omega))]
      | succ r ih =>
        intro i f to h1 h2
        obtain ⟨f, rfl⟩ : ∃ f', f = f' + 1 := ⟨f - 1, by omega⟩
        obtain ⟨g, e1, e2, e3⟩ := ih (i + 1) f (upd to i (fr i)) (by omega) (by omega)
        refine ⟨g, ?_, ?_, ?_⟩
        · rw [f_X11_copies_l2, if_neg (show ¬ Int32.ofNat nn ≤ nI i from nI_ge (by omega) (by omega)), gv_N (by omega) (by omega), lt_eq, gv_N (by omega) (by omega), lt_eq, nI_p1, nI_clamp (by omega)]
          exact e1
        · intro t h3 h4
          rcases Nat.eq_or_lt_of_le h3 with rfl | h5
          · rw [e3 _ (by omega), pk_us]
          · exact e2 t (by omega) h4
        · intro t h3
          rw [e3 t (by omega), pk_un (by omega)]
    obtain ⟨g, e1, e2, e3⟩ := key (r + 1) i (f + 1) to h1 h2
    exact ⟨g, e1, e2⟩
theorem cp_i {nn : Nat} (hn : nn < 5000) (fr to : Nat → Int32) : ∃ g, f_X11_copies nn fr to = some g ∧ (∀ t, t < nn → g t = fr t) := by
  obtain ⟨g, e1, e2⟩ := cp_l nn (by omega) fr nn 0 FU to (by omega) (by show nn < 5000; omega)
  exact ⟨g, e1, fun t ht => e2 t (Nat.zero_le t) ht⟩
theorem cp_L {nn : Nat} (hn : nn < 5000) (fr : Nat → Int64) : ∀ (r i f : Nat) (to : Nat → Int64), r + i = nn → r < f → ∃ g, f_X11_copies__l2 nn fr f (nI i) to = some g ∧ (∀ t, i ≤ t → t < nn → g t = fr t) ∧ (∀ t, t < i → g t = to t) := by
  intro r
  induction r with
  | zero =>
    intro i f to h1 h2
    obtain ⟨f, rfl⟩ : ∃ f', f = f' + 1 := ⟨f - 1, by omega⟩
    refine ⟨to, ?_, fun t h3 h4 => by omega, fun _ _ => rfl⟩
    rw [f_X11_copies__l2, if_pos (show Int32.ofNat nn ≤ nI i from nI_le (by omega) (by omega))]
  | succ r ih =>
    intro i f to h1 h2
    obtain ⟨f, rfl⟩ : ∃ f', f = f' + 1 := ⟨f - 1, by omega⟩
    obtain ⟨g, e1, e2, e3⟩ := ih (i + 1) f (vp_updL to i (fr i)) (by omega) (by omega)
    refine ⟨g, ?_, ?_, ?_⟩
    · rw [f_X11_copies__l2, if_neg (show ¬ Int32.ofNat nn ≤ nI i from nI_ge (by omega) (by omega)), gv_N (by omega) (by omega), lt_eq, gv_N (by omega) (by omega), lt_eq, nI_p1, nI_clamp (by omega)]
      exact e1
    · intro t h3 h4
      rcases Nat.eq_or_lt_of_le h3 with rfl | h5
      · rw [e3 _ (by omega), pk_uLs]
      · exact e2 t (by omega) h4
    · intro t h3
      rw [e3 t (by omega), pk_uLn (by omega)]
theorem cp_t {nn : Nat} (hn : nn < 5000) (fr to : Nat → Int64) : ∃ g, f_X11_copies_ nn fr to = some g ∧ (∀ t, t < nn → g t = fr t) := by
  obtain ⟨g, e1, e2, _⟩ := cp_L hn fr nn 0 FU to (by omega) (by show nn < 5000; omega)
  exact ⟨g, e1, fun t ht => e2 t (Nat.zero_le t) ht⟩
theorem cpy_0 {α : Type} {f g : Nat → α} {n j : Nat} (h : j < n) : va_cpy f g 0 0 n j = f j := by
  rw [pk_cpy_in (Nat.zero_le j) (by omega), Nat.sub_zero, Nat.zero_add]
theorem BR.congr {W G N : Nat} {nr : Bool} {J ov : Nat} {kd op ti st gn tl br dn mj mr : Nat → Int32} {mt : Nat → Int64} {kd' op' ti' st' gn' tl' br' dn' mj' mr' : Nat → Int32} {mt' : Nat → Int64} (R : BR W G N nr J ov kd op ti st gn tl br dn mj mr mt) (hN : N ≤ 24) (h1 : ∀ j, j < 60 → kd' j = kd j) (h2 : ∀ j, j < 180 → op' j = op j) (h3 : ∀ j, j < 180 → ti' j = ti j) (h4 : ∀ j, j < 60 → st' j = st j) (h5 : ∀ j, j < 60 → gn' j = gn j) (h6 : ∀ j, j < 60 → tl' j = tl j) (h7 : ∀ j, j < 60 → br' j = br j) (h8 : ∀ j, j < 60 → dn' j = dn j) (h9 : ∀ j, j < 840 → mj' j = mj j) (h10 : ∀ j, j < 120 → mr' j = mr j) (h11 : ∀ j, j < 4500 → mt' j = mt j) : BR W G N nr J ov kd' op' ti' st' gn' tl' br' dn' mj' mr' mt' := by
  have hJ := R.1
  have hov := R.2.1
  refine ⟨hJ, hov, ?_, ?_, ?_⟩
  · intro j hj
    exact (R.jb hj).congr hN (h1 j (by omega)) (fun w hw => h2 _ (by omega)) (fun w hw => h3 _ (by omega)) (h4 j (by omega)) (h5 j (by omega)) (h6 j (by omega)) (h7 j (by omega)) (h8 j (by omega)) (fun c hc => h9 _ (by omega)) (fun c hc => h10 _ (by omega)) (fun c hc => h11 _ (by omega))
  · intro j hj
    rw [h4 j (by omega)]
    exact R.2.2.2.1 j hj
  · intro j hj hs i hi
    rw [h4 j (by omega)] at hs
    rw [h4 i (by omega)]
    exact R.2.2.2.2 j hj hs i hi
theorem g1586 {n : Nat} (h : n < 1586) : ¬ (1586 : Int32) ≤ nI n := nI_ge (a := n) (b := 1586) h (by decide)
section ClockSec
variable {W G N : Nat} {nr : Bool} {mw gf pf sg mg mu : Nat → Int32} {nf : Nat → Bool} {qf lf am : Nat → Int64} {sm dm : Nat → Int32} {uw ug ub us : Int32} {un : Bool} {uq ue ul : Int64} {sx : Nat → Int32} {ax gx ux : Nat → Int64} {dx : Nat → Int32} {J ov : Nat} {kd op ti st gn tl br dn mj mr : Nat → Int32} {mt : Nat → Int64}
theorem q_image (hN : N ≤ 24) (R : BR W G N nr J ov kd op ti st gn tl br dn mj mr mt) (clk th : Int32) (hd hi : Bool) (c1 c2 c3 : Int32) (c4 : Bool) (c5 c6 c7 c8 c9 c10 c11 c12 : Nat → Int32) (m1 m2 : Int32) (m3 : Bool) (m4 : Bool) (mji mri : Nat → Int32) (mti : Nat → Int64) : ∃ (c5' c6' c7' c8' c9' c10' c11' c12' mji' mri' : Nat → Int32) (mti' : Nat → Int64), f_X10_image true hi (nI J) (nI ov) clk hd kd op ti st gn tl br dn c1 c2 c3 c4 c5 c6 c7 c8 c9 c10 c11 c12 = some (clk, true, nI J, nI ov, clk, hd, c5', c6', c7', c8', c9', c10', c11', c12') ∧ f_X11_image th true clk hd (nI J) m1 m2 m3 m4 mj mr mt mji mri mti = some (clk, 0, nI J, clk, hd, true, mji', mri', mti') ∧ BR W G N nr J ov c5' c6' c7' c8' c9' c10' c11' c12' mji' mri' mti' := by
  obtain ⟨g1, a1, a2⟩ := cp_i (nn := 840) (by decide) mj mji
  obtain ⟨g2, b1, b2⟩ := cp_i (nn := 120) (by decide) mr mri
  obtain ⟨g3, d1, d2⟩ := cp_t (nn := 4500) (by decide) mt mti
  refine ⟨_, _, _, _, _, _, _, _, g1, g2, g3, rfl, ?_, R.congr hN (fun _ h => cpy_0 h) (fun _ h => cpy_0 h) (fun _ h => cpy_0 h) (fun _ h => cpy_0 h) (fun _ h => cpy_0 h) (fun _ h => cpy_0 h) (fun _ h => cpy_0 h) (fun _ h => cpy_0 h) a2 b2 d2⟩
  unfold f_X11_image
  rw [if_pos rfl, a1, bd_some, b1, bd_some, d1, bd_some]
theorem q_back (hN : N ≤ 24) {c5 c6 c7 c8 c9 c10 c11 c12 mji mri : Nat → Int32} {mti : Nat → Int64} (R : BR W G N nr J ov c5 c6 c7 c8 c9 c10 c11 c12 mji mri mti) (clk th : Int32) (hd : Bool) (b1 b2 b3 : Int32) (b4 : Bool) (kd op ti st gn tl br dn : Nat → Int32) (m1 : Int32) (m2 : Bool) (m3 : Int32) (mj mr : Nat → Int32) (mt : Nat → Int64) : ∃ (kd' op' ti' st' gn' tl' br' dn' mj' mr' : Nat → Int32) (mt' : Nat → Int64), f_X10_back true b1 b2 b3 b4 kd op ti st gn tl br dn (nI J) (nI ov) clk hd c5 c6 c7 c8 c9 c10 c11 c12 = some (clk, nI J, nI ov, clk, hd, kd', op', ti', st', gn', tl', br', dn') ∧ f_X11_back th m1 m2 m3 (nI J) clk hd true mj mr mt mji mri mti = some (clk, 0, clk, hd, nI J, mj', mr', mt') ∧ BR W G N nr J ov kd' op' ti' st' gn' tl' br' dn' mj' mr' mt' := by
  obtain ⟨g1, a1, a2⟩ := cp_i (nn := 840) (by decide) mji mj
  obtain ⟨g2, e1, e2⟩ := cp_i (nn := 120) (by decide) mri mr
  obtain ⟨g3, d1, d2⟩ := cp_t (nn := 4500) (by decide) mti mt
  refine ⟨_, _, _, _, _, _, _, _, g1, g2, g3, rfl, ?_, R.congr hN (fun _ h => cpy_0 h) (fun _ h => cpy_0 h) (fun _ h => cpy_0 h) (fun _ h => cpy_0 h) (fun _ h => cpy_0 h) (fun _ h => cpy_0 h) (fun _ h => cpy_0 h) (fun _ h => cpy_0 h) a2 e2 d2⟩
  unfold f_X11_back
  rw [if_pos rfl, a1, bd_some, e1, bd_some, d1, bd_some]
theorem cl_loop (T : TR 0 W G N nr mw gf pf sg mg mu nf qf lf am sm dm uw ug ub us un uq ue ul sx ax gx ux dx) {pl : Nat} (hp1 : 1 ≤ pl) (hp2 : pl ≤ 24) (hd : Bool) {n : Nat} (hn : n ≤ 100) (rf mf : Nat → Int32) (th : Int32) : ∀ (r i : Nat) (acc clk : Int32) (ov : Nat) (op st gn br dn mj mr : Nat → Int32) (mt : Nat → Int64) (rx ry rz : Int64) (rb rs : Int32) (f1 f2 : Int64) (x y z g1 g2 : Int64) (as : Int32), r + i = n → BR W G N nr J ov kd op ti st gn tl br dn mj mr mt →
    ∃ (acc' clk' : Int32) (ov' : Nat) (op' st' gn' br' dn' mj' mr' : Nat → Int32) (mt' : Nat → Int64) (rx' ry' rz' : Int64) (rb' rs' : Int32) (f1' f2' x' y' z' g1' g2' : Int64) (as' : Int32),
      (∀ f, r < f → f_X10_clock_l34 true uw ug ub us (nI pl) un uq ul sx ax ux dx (nI J) hd kd ti f (nI n) acc (nI i) rx ry rz rb rs f1 f2 (nI ov) clk op st gn br dn rf = some (acc', rx', ry', rz', rb', rs', f1', f2', nI ov', clk', op', st', gn', br', dn', rf)) ∧
      (∀ f, r < f → f_X11_clock_l40 true (nI pl) hd (nI J) mw gf pf sg mu nf qf lf am sm dm f (nI n) acc (nI i) th clk x y z g1 g2 as mf mj mr mt = some (acc', th, clk', x', y', z', g1', g2', as', mf, mj', mr', mt')) ∧
      BR W G N nr J ov' kd op' ti st' gn' tl br' dn' mj' mr' mt'
  | 0, i, acc, clk, ov, op, st, gn, br, dn, mj, mr, mt, rx, ry, rz, rb, rs, f1, f2, x, y, z, g1, g2, as => by
    intro h1 R
    refine ⟨acc, clk, ov, op, st, gn, br, dn, mj, mr, mt, rx, ry, rz, rb, rs, f1, f2, x, y, z, g1, g2, as, ?_, ?_, R⟩
    · intro f hf
      obtain ⟨f, rfl⟩ : ∃ f', f = f' + 1 := ⟨f - 1, by omega⟩
      rw [f_X10_clock_l34, if_pos (nI_le (by omega) (by omega))]
    · intro f hf
      obtain ⟨f, rfl⟩ : ∃ f', f = f' + 1 := ⟨f - 1, by omega⟩
      rw [f_X11_clock_l40, if_pos (nI_le (by omega) (by omega))]
  | r + 1, i, acc, clk, ov, op, st, gn, br, dn, mj, mr, mt, rx, ry, rz, rb, rs, f1, f2, x, y, z, g1, g2, as => by
    intro h1 R
    obtain ⟨d, ov1, op1, st1, gn1, br1, dn1, mj1, mr1, mt1, rx1, ry1, rz1, f11, f21, rb1, rs1, x1, y1, z1, g11, g21, as1, t1, t2, R1, _⟩ := tick_same T hp1 hp2 R hd clk rx ry rz f1 f2 rb rs x y z g1 g2 as
    obtain ⟨acc', clk', ov', op', st', gn', br', dn', mj', mr', mt', rx', ry', rz', rb', rs', f1', f2', x', y', z', g1', g2', as', c1, c2, R2⟩ := cl_loop T hp1 hp2 hd hn rf mf th r (i + 1) (acc + d) (clk + 1) ov1 op1 st1 gn1 br1 dn1 mj1 mr1 mt1 rx1 ry1 rz1 rb1 rs1 f11 f21 x1 y1 z1 g11 g21 as1 (by omega) R1
    refine ⟨acc', clk', ov', op', st', gn', br', dn', mj', mr', mt', rx', ry', rz', rb', rs', f1', f2', x', y', z', g1', g2', as', ?_, ?_, R2⟩
    · intro f hf
      obtain ⟨f, rfl⟩ : ∃ f', f = f' + 1 := ⟨f - 1, by omega⟩
      rw [f_X10_clock_l34, if_neg (nI_ge (by omega) (by omega)), t1, bd_some, lt_eq, lt_eq, nI_p1]
      exact c1 f (by omega)
    · intro f hf
      obtain ⟨f, rfl⟩ : ∃ f', f = f' + 1 := ⟨f - 1, by omega⟩
      rw [f_X11_clock_l40, if_neg (nI_ge (by omega) (by omega)), t2, bd_some, lt_eq, lt_eq, nI_p1]
      exact c2 f (by omega)
theorem q_clock (T : TR 0 W G N nr mw gf pf sg mg mu nf qf lf am sm dm uw ug ub us un uq ue ul sx ax gx ux dx) (R : BR W G N nr J ov kd op ti st gn tl br dn mj mr mt) {rf mf : Nat → Int32} (hr : RF rf mf) {pl : Nat} (hp1 : 1 ≤ pl) (hp2 : pl ≤ 24) (hd : Bool) (p clk th : Int32) (rx ry rz : Int64) (rb rs : Int32) (f1 f2 : Int64) (x y z g1 g2 : Int64) (as : Int32) :
    ∃ (r clk' : Int32) (ov' : Nat) (op' st' gn' br' dn' mj' mr' : Nat → Int32) (mt' : Nat → Int64) (rx' ry' rz' : Int64) (rb' rs' : Int32) (f1' f2' x' y' z' g1' g2' : Int64) (as' : Int32) (rf' mf' : Nat → Int32),
      f_X10_clock p true uw ug ub us (nI pl) un uq ul sx ax ux dx rx ry rz rb rs f1 f2 (nI J) (nI ov) clk hd kd op ti st gn br dn rf = some (r, rx', ry', rz', rb', rs', f1', f2', nI ov', clk', op', st', gn', br', dn', rf') ∧
      f_X11_clock p th true (nI pl) clk hd x y z g1 g2 as (nI J) mw gf pf sg mu nf qf lf am sm dm mf mj mr mt = some (r, 0, clk', x', y', z', g1', g2', as', mf', mj', mr', mt') ∧
      BR W G N nr J ov' kd op' ti st' gn' tl br' dn' mj' mr' mt' ∧ RF rf' mf' := by
  obtain ⟨rf1, mf1, o1, o2, o3, o4⟩ := rf_1 hr
  unfold f_X10_clock f_X11_clock f_X10_clock_b24
  rw [if_pos rfl, if_pos rfl, isin_r p 1 100 1 100 (by decide) (by decide), bd_some, o1, o3, bd_some, bd_some]
  by_cases h1 : p < 1
  · rw [if_pos h1, if_pos h1, if_neg (by decide)]
    exact ⟨_, _, ov, _, _, _, _, _, _, _, _, _, _, _, _, _, _, _, _, _, _, _, _, _, _, _, rfl, rfl, R, o4⟩
  · rw [if_neg h1, if_neg h1]
    by_cases h2 : p ≤ 100
    · rw [if_pos h2, if_pos h2, if_pos rfl]
      obtain ⟨n, hn, rfl⟩ : ∃ n, n ≤ 100 ∧ p = nI n := nI_of2 (M := 100) (n := 100) (by decide) (fun h => h1 (by
        rw [Int32.lt_iff_toInt_lt] at h ⊢
        rw [show (0 : Int32).toInt = 0 from by decide] at h
        rw [show (1 : Int32).toInt = 1 from by decide]
        omega)) h2
      obtain ⟨acc', clk', ov', op', st', gn', br', dn', mj', mr', mt', rx', ry', rz', rb', rs', f1', f2', x', y', z', g1', g2', as', c1, c2, R2⟩ := cl_loop T hp1 hp2 hd hn rf mf 0 n 0 0 clk ov op st gn br dn mj mr mt rx ry rz rb rs f1 f2 x y z g1 g2 as (by omega) R
      exact ⟨_, _, ov', _, _, _, _, _, _, _, _, _, _, _, _, _, _, _, _, _, _, _, _, _, _, _, c1 FU (by show n < 5000; omega), c2 FU (by show n < 5000; omega), R2, hr⟩
    · rw [if_neg h2, if_neg h2, if_neg (by decide)]
      exact ⟨_, _, ov, _, _, _, _, _, _, _, _, _, _, _, _, _, _, _, _, _, _, _, _, _, _, _, rfl, rfl, R, o4⟩
/-! all over -/
def mus (f : Nat → Nat) : Nat → Nat
  | 0 => 0
  | n + 1 => mus f n + f n
theorem mus_le {f g : Nat → Nat} : ∀ n, (∀ i, i < n → f i ≤ g i) → mus f n ≤ mus g n
  | 0, _ => Nat.le_refl _
  | n + 1, h => Nat.add_le_add (mus_le n (fun i hi => h i (by omega))) (h n (by omega))
theorem mus_lt {f g : Nat → Nat} : ∀ n, (∀ i, i < n → f i ≤ g i) → (∃ i, i < n ∧ f i < g i) → mus f n < mus g n
  | 0, _, ⟨i, hi, _⟩ => absurd hi (Nat.not_lt_zero i)
  | n + 1, h, ⟨i, hi, hlt⟩ => by
    rw [mus, mus]
    rcases Nat.eq_or_lt_of_le (Nat.le_of_lt_succ hi) with rfl | h2
    · have := mus_le (f := f) (g := g) i (fun t ht => h t (by omega))
      omega
    · have := mus_lt (f := f) (g := g) n (fun t ht => h t (by omega)) ⟨i, h2, hlt⟩
      have := h n (by omega)
      omega
theorem mus_b {f : Nat → Nat} {b : Nat} : ∀ n, (∀ i, i < n → f i ≤ b) → mus f n ≤ n * b
  | 0, _ => by rw [Nat.zero_mul]; exact Nat.le_refl _
  | n + 1, h => by
    have h1 := mus_b (f := f) n (fun i hi => h i (by omega))
    have h2 := h n (by omega)
    rw [mus, Nat.succ_mul]
    omega
theorem wt_pos {s g : Int32} {n : Nat} (hn : n ≤ N) (hg : g = nI n) (hN : N ≤ 24) (h : s = 0 ∨ s = 1) : 0 < wt N s g := by
  unfold wt
  rcases h with h | h
  · rw [if_pos h]
    omega
  · rw [if_neg (by rw [h]; decide), if_pos h, hg, nI_clamp (by omega)]
    omega
theorem wt_le (s g : Int32) : wt N s g ≤ N + 2 := by
  unfold wt
  split
  · exact Nat.le_refl _
  · split
    · omega
    · exact Nat.zero_le _
theorem ao_loop (T : TR 0 W G N nr mw gf pf sg mg mu nf qf lf am sm dm uw ug ub us un uq ue ul sx ax gx ux dx) {pl : Nat} (hp1 : 1 ≤ pl) (hp2 : pl ≤ 24) (b1 b2 b3 : Int32) (b4 : Bool) (b5 b6 b7 b8 b9 b10 b11 b12 : Nat → Int32) (mjk mrk : Nat → Int32) (mtk : Nat → Int64) (clk0 th : Int32) (hd0 : Bool) : ∀ (m n : Nat) (clk : Int32) (ov : Nat) (op st gn br dn mj mr : Nat → Int32) (mt : Nat → Int64) (rx ry rz : Int64) (rb rs : Int32) (f1 f2 : Int64) (x y z g1 g2 : Int64) (as : Int32), mus (fun i => wt N (st i) (gn i)) J ≤ m → n + m ≤ 1586 → BR W G N nr J ov kd op ti st gn tl br dn mj mr mt →
    ∃ (n' : Int32) (clk' : Int32) (ov' : Nat) (op' st' gn' br' dn' mj' mr' : Nat → Int32) (mt' : Nat → Int64) (rx' ry' rz' : Int64) (rb' rs' : Int32) (f1' f2' x' y' z' g1' g2' : Int64) (as' : Int32),
      (∀ f, m < f → f_X10_allOver_l34 true uw ug ub us (nI pl) un uq ul sx ax ux dx b1 b2 b3 b4 b5 b6 b7 b8 b9 b10 b11 b12 f 1586 (nI n) rx ry rz rb rs f1 f2 (nI J) (nI ov) clk false kd op ti st gn tl br dn = some (n', rx', ry', rz', rb', rs', f1', f2', nI J, nI ov', clk', false, kd, op', ti, st', gn', tl, br', dn')) ∧
      (∀ f, m < f → f_X11_allOver_l64 true (nI pl) (nI J) mw gf pf sg mu nf qf lf am sm dm f clk0 hd0 (nI n) th clk false x y z g1 g2 as mj mjk mr mrk mt mtk = bd (f_X11_copies 840 mjk mj') (fun o6 => bd (f_X11_copies 120 mrk mr') (fun o7 => bd (f_X11_copies_ 4500 mtk mt') (fun o8 => some (n', th, clk0, hd0, x', y', z', g1', g2', as', o6, mjk, o7, mrk, o8, mtk))))) := by
  have hN := T.2.1.2.2.2.2
  intro m
  induction m with
  | zero =>
    intro n clk ov op st gn br dn mj mr mt rx ry rz rb rs f1 f2 x y z g1 g2 as hm hnm R
    have hJ := R.1
    have hno : ∀ i, i < J → ¬ (st i = 0 ∨ st i = 1) := fun i hi h => by
      obtain ⟨_, g, hg, hgn⟩ := R.gn5 hi
      have h1 := wt_pos hg hgn hN h
      have h2 := mus_lt (f := fun _ => 0) (g := fun i => wt N (st i) (gn i)) J (fun _ _ => Nat.zero_le _) ⟨i, hi, h1⟩
      omega
    obtain ⟨ov', v1, v2, v3, v4, v5⟩ := busy_x hJ R.2.1 (fun j hj => R.stc hj) R.2.2.2.1
    have hb : ¬ ov' < J := fun h => hno ov' h (v5 h)
    obtain ⟨c0, _, _, k0, z0⟩ := hm_both hJ (fun j hj => R.st4 hj) 0
    obtain ⟨c1, _, _, k1, z1⟩ := hm_both hJ (fun j hj => R.st4 hj) 1
    have e0 : c0 = 0 := z0.2 (fun i hi h => hno i hi (Or.inl h))
    have e1 : c1 = 0 := z1.2 (fun i hi h => hno i hi (Or.inr h))
    refine ⟨nI n, clk, ov', op, st, gn, br, dn, mj, mr, mt, rx, ry, rz, rb, rs, f1, f2, x, y, z, g1, g2, as, ?_, ?_⟩
    · intro f hf
      obtain ⟨f, rfl⟩ : ∃ f', f = f' + 1 := ⟨f - 1, by omega⟩
      rw [f_X10_allOver_l34, v3, bd_some, decide_eq_false hb]
      rfl
    · intro f hf
      obtain ⟨f, rfl⟩ : ∃ f', f = f' + 1 := ⟨f - 1, by omega⟩
      rw [f_X11_allOver_l64, k0, k1, bd_some, bd_some, e0, e1, if_pos (by decide)]
  | succ m ih =>
    intro n clk ov op st gn br dn mj mr mt rx ry rz rb rs f1 f2 x y z g1 g2 as hm hnm R
    have hJ := R.1
    obtain ⟨ov1, v1, v2, v3, v4, v5⟩ := busy_x hJ R.2.1 (fun j hj => R.stc hj) R.2.2.2.1
    obtain ⟨c0, q0, _, k0, z0⟩ := hm_both hJ (fun j hj => R.st4 hj) 0
    obtain ⟨c1, q1, _, k1, z1⟩ := hm_both hJ (fun j hj => R.st4 hj) 1
    by_cases hb : ov1 < J
    · have R0 : BR W G N nr J ov1 kd op ti st gn tl br dn mj mr mt := ⟨hJ, v2, R.2.2.1, v4, R.2.2.2.2⟩
      obtain ⟨d, ov2, op1, st1, gn1, br1, dn1, mj1, mr1, mt1, rx1, ry1, rz1, f11, f21, rb1, rs1, x1, y1, z1', g11, g21, as1, t1, t2, R1, hwt⟩ := tick_same T hp1 hp2 R0 false clk rx ry rz f1 f2 rb rs x y z g1 g2 as
      have hlt := mus_lt (f := fun i => wt N (st1 i) (gn1 i)) (g := fun i => wt N (st i) (gn i)) J (hwt rfl).1 ((hwt rfl).2 ⟨ov1, hb, v5 hb⟩)
      obtain ⟨n', clk', ov', op', st', gn', br', dn', mj', mr', mt', rx', ry', rz', rb', rs', f1', f2', x', y', z', g1', g2', as', w1, w2⟩ := ih (n + 1) (clk + 1) ov2 op1 st1 gn1 br1 dn1 mj1 mr1 mt1 rx1 ry1 rz1 rb1 rs1 f11 f21 x1 y1 z1' g11 g21 as1 (by omega) (by omega) R1
      refine ⟨n', clk', ov', op', st', gn', br', dn', mj', mr', mt', rx', ry', rz', rb', rs', f1', f2', x', y', z', g1', g2', as', ?_, ?_⟩
      · intro f hf
        obtain ⟨f, rfl⟩ : ∃ f', f = f' + 1 := ⟨f - 1, by omega⟩
        rw [f_X10_allOver_l34, v3, bd_some, decide_eq_true hb]
        dsimp only
        rw [if_pos rfl, if_neg (g1586 (by omega)), t1, bd_some, lt_eq, nI_p1]
        exact w1 f (by omega)
      · intro f hf
        obtain ⟨f, rfl⟩ : ∃ f', f = f' + 1 := ⟨f - 1, by omega⟩
        have hpos : 0 < c0 + c1 := by
          rcases v5 hb with h | h
          · have : ¬ c0 = 0 := fun e => z0.1 e ov1 hb h
            omega
          · have : ¬ c1 = 0 := fun e => z1.1 e ov1 hb h
            omega
        rw [f_X11_allOver_l64, k0, k1, bd_some, bd_some, nI_add, if_neg (nI_nle hpos (by omega)), t2, bd_some, lt_eq, nI_p1]
        exact w2 f (by omega)
    · have hno : ∀ i, i < J → ¬ (st i = 0 ∨ st i = 1) := fun i hi h => by
        rcases v4 i (by omega) with h2 | h2
        · rw [h2] at h
          exact absurd h (by decide)
        · rw [h2] at h
          exact absurd h (by decide)
      have e0 : c0 = 0 := z0.2 (fun i hi h => hno i hi (Or.inl h))
      have e1 : c1 = 0 := z1.2 (fun i hi h => hno i hi (Or.inr h))
      refine ⟨nI n, clk, ov1, op, st, gn, br, dn, mj, mr, mt, rx, ry, rz, rb, rs, f1, f2, x, y, z, g1, g2, as, ?_, ?_⟩
      · intro f hf
        obtain ⟨f, rfl⟩ : ∃ f', f = f' + 1 := ⟨f - 1, by omega⟩
        rw [f_X10_allOver_l34, v3, bd_some, decide_eq_false hb]
        rfl
      · intro f hf
        obtain ⟨f, rfl⟩ : ∃ f', f = f' + 1 := ⟨f - 1, by omega⟩
        rw [f_X11_allOver_l64, k0, k1, bd_some, bd_some, e0, e1, if_pos (by decide)]
theorem q_allOver (T : TR 0 W G N nr mw gf pf sg mg mu nf qf lf am sm dm uw ug ub us un uq ue ul sx ax gx ux dx) (R : BR W G N nr J ov kd op ti st gn tl br dn mj mr mt) {pl : Nat} (hp1 : 1 ≤ pl) (hp2 : pl ≤ 24) (hd : Bool) (clk th : Int32) (d1 d2 d3 : Int32) (d4 : Bool) (d5 d6 d7 d8 d9 d10 d11 d12 mjk mrk : Nat → Int32) (mtk : Nat → Int64) (rx ry rz : Int64) (rb rs : Int32) (f1 f2 : Int64) (x y z g1 g2 : Int64) (as : Int32) :
    ∃ (r : Int32) (rx' ry' rz' : Int64) (rb' rs' : Int32) (f1' f2' : Int64) (d1' d2' d3' : Int32) (d4' : Bool) (d5' d6' d7' d8' d9' d10' d11' d12' : Nat → Int32) (x' y' z' g1' g2' : Int64) (as' : Int32) (mj' mjk' mr' mrk' : Nat → Int32) (mt' mtk' : Nat → Int64),
      f_X10_allOver true uw ug ub us (nI pl) un uq ul sx ax ux dx rx ry rz rb rs f1 f2 (nI J) (nI ov) clk hd kd op ti st gn tl br dn d1 d2 d3 d4 d5 d6 d7 d8 d9 d10 d11 d12 = some (r, rx', ry', rz', rb', rs', f1', f2', d1', d2', d3', d4', d5', d6', d7', d8', d9', d10', d11', d12') ∧
      f_X11_allOver th true (nI pl) clk hd x y z g1 g2 as (nI J) mw gf pf sg mu nf qf lf am sm dm mj mjk mr mrk mt mtk = some (r, 0, clk, hd, x', y', z', g1', g2', as', mj', mjk', mr', mrk', mt', mtk') ∧
      BR W G N nr J ov kd op ti st gn tl br dn mj' mr' mt' := by
  have hN := T.2.1.2.2.2.2
  have hJ := R.1
  obtain ⟨g1', a1, a2⟩ := cp_i (nn := 840) (by decide) mj mjk
  obtain ⟨g2', e1, e2⟩ := cp_i (nn := 120) (by decide) mr mrk
  obtain ⟨g3', k1, k2⟩ := cp_t (nn := 4500) (by decide) mt mtk
  have R' : BR W G N nr J ov (va_cpy kd d5 0 0 60) (va_cpy op d6 0 0 180) (va_cpy ti d7 0 0 180) (va_cpy st d8 0 0 60) (va_cpy gn d9 0 0 60) (va_cpy tl d10 0 0 60) (va_cpy br d11 0 0 60) (va_cpy dn d12 0 0 60) mj mr mt := R.congr hN (fun _ h => cpy_0 h) (fun _ h => cpy_0 h) (fun _ h => cpy_0 h) (fun _ h => cpy_0 h) (fun _ h => cpy_0 h) (fun _ h => cpy_0 h) (fun _ h => cpy_0 h) (fun _ h => cpy_0 h) (fun _ _ => rfl) (fun _ _ => rfl) (fun _ _ => rfl)
  have hmu : mus (fun i => wt N ((va_cpy st d8 0 0 60) i) ((va_cpy gn d9 0 0 60) i)) J ≤ 1560 := by
    have h1 := mus_b (f := fun i => wt N ((va_cpy st d8 0 0 60) i) ((va_cpy gn d9 0 0 60) i)) (b := 26) J (fun i _ => Nat.le_trans (wt_le _ _) (by omega))
    omega
  obtain ⟨n', clk', ov', op', st', gn', br', dn', mj', mr', mt', rx', ry', rz', rb', rs', f1', f2', x', y', z', h1', h2', as', w1, w2⟩ := ao_loop T hp1 hp2 (nI J) (nI ov) clk hd kd op ti st gn tl br dn g1' g2' g3' clk 0 hd 1560 0 clk ov _ _ _ _ _ mj mr mt rx ry rz rb rs f1 f2 x y z g1 g2 as hmu (by decide) R'
  obtain ⟨o6, y1, y2⟩ := cp_i (nn := 840) (by decide) g1' mj'
  obtain ⟨o7, y3, y4⟩ := cp_i (nn := 120) (by decide) g2' mr'
  obtain ⟨o8, y5, y6⟩ := cp_t (nn := 4500) (by decide) g3' mt'
  have wX := w1 FU (by decide)
  have wM := w2 FU (by decide)
  rw [y1, bd_some, y3, bd_some, y5, bd_some] at wM
  have wX2 : f_X10_allOver true uw ug ub us (nI pl) un uq ul sx ax ux dx rx ry rz rb rs f1 f2 (nI J) (nI ov) clk hd kd op ti st gn tl br dn d1 d2 d3 d4 d5 d6 d7 d8 d9 d10 d11 d12 = some (n', rx', ry', rz', rb', rs', f1', f2', nI J, nI ov', clk', false, va_cpy kd d5 0 0 60, op', va_cpy ti d7 0 0 180, st', gn', va_cpy tl d10 0 0 60, br', dn') := by
    unfold f_X10_allOver
    rw [if_pos rfl]
    unfold f_X1_copyFrom
    rw [bd_some]
    exact wX
  refine ⟨n', rx', ry', rz', rb', rs', f1', f2', _, _, _, _, _, _, _, _, _, _, _, _, x', y', z', h1', h2', as', o6, g1', o7, g2', o8, g3', wX2, ?_, ?_⟩
  · unfold f_X11_allOver
    rw [if_pos rfl, a1, bd_some, e1, bd_some, k1, bd_some]
    exact wM
  · exact R.congr hN (fun _ _ => rfl) (fun _ _ => rfl) (fun _ _ => rfl) (fun _ _ => rfl) (fun _ _ => rfl) (fun _ _ => rfl) (fun _ _ => rfl) (fun _ _ => rfl) (fun t ht => (y2 t ht).trans (a2 t ht)) (fun t ht => (y4 t ht).trans (e2 t ht)) (fun t ht => (y6 t ht).trans (k2 t ht))
end ClockSec
