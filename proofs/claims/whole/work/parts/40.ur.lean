/-! ===== pure part: what a unit's tables make of a job, both sides, told by width, guard, stages and near alone ===== -/
theorem t_qu : ∀ P, P < 27 → 6 ≤ P → (0 < ((2 : Int64) * ro e8 (nI P)).toInt ∧ ((2 : Int64) * ro e8 (nI P)).toInt ≤ 2 ^ 28) ∧ (0 < (ro ((2 : Int64) * l3) (nI P)).toInt ∧ (ro ((2 : Int64) * l3) (nI P)).toInt ≤ 2 ^ 28) := by decide +kernel
theorem shT_lt : ∀ m, m < 3 → ∀ s, s < 24 → shT m s < 64 := by decide
def BD (W G N : Nat) : Prop := 6 ≤ W ∧ W ≤ 22 ∧ G ≤ 4 ∧ 5 ≤ N ∧ N ≤ 24
theorem chk_of {W G N : Nat} (B : BD W G N) : ∀ m, m < 3 → chkT m N (W + G) = true := by
  obtain ⟨h1, h2, h3, h4, h5⟩ := B
  intro m hm
  exact chk_all m hm N (by omega) h4 (W + G) (by omega) (by omega)
theorem ur_of {b W G N : Nat} {nr : Bool} {mw gf pf sg mg mu : Nat → Int32} {nf : Nat → Bool} {qf lf am : Nat → Int64} {sm dm : Nat → Int32} {uw ug ub us : Int32} {un : Bool} {uq ue ul : Int64} {sx : Nat → Int32} {ax gx ux : Nat → Int64} {dx : Nat → Int32} (hb : b < 2) (B : BD W G N) (X : XT W G N nr uw ug ub us un uq ue ul sx ax gx ux dx) (M : MT b W G N nr mw gf pf sg mg mu nf qf lf am sm dm) : UR b W G N mw gf pf sg mu sm dm nf qf lf am sx dx ax ux := by
  have hc := chk_of B
  obtain ⟨h1, h2, h3, h4, h5⟩ := B
  obtain ⟨⟨x1, x2, x3, x4, x5⟩, ⟨x6, x7, x8⟩, x9⟩ := X
  obtain ⟨⟨m1, m2, m3, m4, m5⟩, ⟨m6, m7⟩, m8, m9⟩ := M
  have hq := t_qu (W + G) (by omega) (by omega)
  refine ⟨⟨hb, by omega, by omega, by omega, by omega⟩, ⟨m1, m2, m3, m4⟩, ?_, ?_, ?_, ?_, ?_, ?_, ?_⟩
  · intro i hi
    rw [(m9 i hi).2.2.1, (x9 i hi).2.2.2.1, (chkT_of (hc i hi)).2.2.2.1]
  · rw [m6]
    exact hq.1
  · rw [m7]
    exact hq.2
  · intro m hm s hs
    exact ⟨shT m s, shT_lt m hm s hs, m8 m hm s hs, (x9 m hm).1 s hs⟩
  · intro m hm s hs
    rw [(m9 m hm).1 s hs, (x9 m hm).2.1 s hs]
  · intro m hm j hj
    rw [(m9 m hm).2.2.2 j hj, (x9 m hm).2.2.2.2 j hj]
  · intro m hm j hj
    rw [(m9 m hm).2.2.2 j hj]
    exact chkD_in 32 _ (chkT_of (hc m hm)).2.2.2.2 j hj
/-! tables told by formulas -/
def cs (i : Nat) : Int32 := nI (shT (i / 24) (i % 24))
def ca (P i : Nat) : Int64 := anV (i / 24) (i % 24) (nI P)
def cu (N P m : Nat) : Int64 := unV m N P
def cd (N P i : Nat) : Int32 := dX (itX (i % 32) (unV (i / 32) N P))
theorem xt_c {W G N : Nat} {nr : Bool} : XT W G N nr (nI W) (nI G) (nI (W + G)) (nI N) nr ((2 : Int64) * ro e8 (nI (W + G))) (ro e8 (nI (W + G))) (ro ((2 : Int64) * l3) (nI (W + G))) cs (ca (W + G)) (fun m => gnV m N (W + G)) (cu N (W + G)) (cd N (W + G)) := by
  refine ⟨⟨rfl, rfl, rfl, rfl, rfl⟩, ⟨rfl, rfl, rfl⟩, ?_⟩
  intro m hm
  refine ⟨?_, ?_, rfl, rfl, ?_⟩
  · intro s hs
    unfold cs
    rw [show (m * 24 + s) / 24 = m from by omega, show (m * 24 + s) % 24 = s from by omega]
  · intro s hs
    unfold ca
    rw [show (m * 24 + s) / 24 = m from by omega, show (m * 24 + s) % 24 = s from by omega]
  · intro j hj
    unfold cd
    rw [show (m * 32 + j) / 32 = m from by omega, show (m * 32 + j) % 32 = j from by omega]
/-- whether a kind can be of p, q, r -/
def gd (W k : Nat) (p q r : Int64) : Bool := (f_X7_fits (nI k) p q r (nI W)).getD false
/-- x, y, z ahead of stage 0, and what was put aside -/
def bw (W G N : Nat) (nr : Bool) (k : Nat) (p q r : Int64) : Int64 × Int64 × Int64 × Int32 := ((f_X7_begin (nI k) p q r 0 0 0 0 0 0 0 (nI G) (nI (W + G)) nr ((2 : Int64) * ro e8 (nI (W + G))) (ro ((2 : Int64) * l3) (nI (W + G))) (cu N (W + G))).map (fun o => (o.1, o.2.1, o.2.2.1, o.2.2.2.2.1))).getD (0, 0, 0, 0)
/-- behind s stages of kind k -/
def stF (P : Nat) (nr : Bool) (k : Nat) (q : Int64 × Int64 × Int64) (s : Nat) : Int64 × Int64 × Int64 := stN (kMd k) (kTurn k) nr (fun i => nI (shT (kMd k) i)) (fun i => anV (kMd k) i (nI P)) q s
def biF (P : Nat) (nr : Bool) (k : Nat) (q : Int64 × Int64 × Int64) (s : Nat) : Int32 := bitN (kMd k) (kTurn k) nr (fun i => nI (shT (kMd k) i)) (fun i => anV (kMd k) i (nI P)) q s
/-- the two results -/
def aw (W G N : Nat) (nr : Bool) (k : Nat) (p q r : Int64) : Int64 × Int64 := ((f_X7_solve (nI k) p q r 0 0 0 0 0 0 0 (nI W) (nI G) (nI (W + G)) (nI N) nr ((2 : Int64) * ro e8 (nI (W + G))) (ro ((2 : Int64) * l3) (nI (W + G))) cs (ca (W + G)) (cu N (W + G)) (cd N (W + G))).map (fun o => (o.2.2.2.2.2.2.1, o.2.2.2.2.2.2.2))).getD (0, 0)
/-- x, y, z of a job ahead of stage s -/
def jx (W G N : Nat) (nr : Bool) (k : Nat) (p q r : Int64) (s : Nat) : Int64 × Int64 × Int64 := stF (W + G) nr k ((bw W G N nr k p q r).1, (bw W G N nr k p q r).2.1, (bw W G N nr k p q r).2.2.1) s
def jb (W G N : Nat) (nr : Bool) (k : Nat) (p q r : Int64) (s : Nat) : Int32 := biF (W + G) nr k ((bw W G N nr k p q r).1, (bw W G N nr k p q r).2.1, (bw W G N nr k p q r).2.2.1) s
theorem stN_ext {md : Nat} {tn nr : Bool} {S S' : Nat → Int32} {An An' : Nat → Int64} (q : Int64 × Int64 × Int64) : ∀ n, (∀ i, i < n → S i = S' i ∧ An i = An' i) → stN md tn nr S An q n = stN md tn nr S' An' q n
  | 0, _ => rfl
  | n + 1, h => by
    rw [stN, stN, stN_ext q n (fun i hi => h i (by omega)), (h n (by omega)).1, (h n (by omega)).2]
theorem bitN_ext {md : Nat} {tn nr : Bool} {S S' : Nat → Int32} {An An' : Nat → Int64} (q : Int64 × Int64 × Int64) : ∀ n, (∀ i, i < n → S i = S' i ∧ An i = An' i) → bitN md tn nr S An q n = bitN md tn nr S' An' q n
  | 0, _ => rfl
  | n + 1, h => by
    rw [bitN, bitN, bitN_ext q n (fun i hi => h i (by omega)), upN, upN, stN_ext q n (fun i hi => h i (by omega))]
/-- the tables of both sides: bank b of the reference, one unit of the class -/
def TR (b W G N : Nat) (nr : Bool) (mw gf pf sg mg mu : Nat → Int32) (nf : Nat → Bool) (qf lf am : Nat → Int64) (sm dm : Nat → Int32) (uw ug ub us : Int32) (un : Bool) (uq ue ul : Int64) (sx : Nat → Int32) (ax gx ux : Nat → Int64) (dx : Nat → Int32) : Prop :=
  b < 2 ∧ BD W G N ∧ XT W G N nr uw ug ub us un uq ue ul sx ax gx ux dx ∧ MT b W G N nr mw gf pf sg mg mu nf qf lf am sm dm
section UrSec
variable {b W G N : Nat} {nr : Bool} {mw gf pf sg mg mu : Nat → Int32} {nf : Nat → Bool} {qf lf am : Nat → Int64} {sm dm : Nat → Int32} {uw ug ub us : Int32} {un : Bool} {uq ue ul : Int64} {sx : Nat → Int32} {ax gx ux : Nat → Int64} {dx : Nat → Int32}
theorem gd_m (hb : b < 2) (B : BD W G N) (M : MT b W G N nr mw gf pf sg mg mu nf qf lf am sm dm) {k : Nat} (hk : k < 9) (p q r : Int64) : f_X11_isGood (nI b) (nI k) p q r mw = some (gd W k p q r) := by
  obtain ⟨g, hg⟩ := good_some (b := b) (k := k) (mw := mw) hb p q r
  unfold gd
  rw [fits_same hb B.2.1 hk M.1.1, hg]
  rfl
theorem gd_x (hb : b < 2) (B : BD W G N) (M : MT b W G N nr mw gf pf sg mg mu nf qf lf am sm dm) {k : Nat} (hk : k < 9) (p q r : Int64) : f_X7_fits (nI k) p q r (nI W) = some (gd W k p q r) := by
  rw [fits_same hb B.2.1 hk M.1.1, gd_m hb B M hk]
theorem bg_m (hb : b < 2) (B : BD W G N) (M : MT b W G N nr mw gf pf sg mg mu nf qf lf am sm dm) {k : Nat} (hk : k < 9) {p q r : Int64} (hg : gd W k p q r = true) (mx my mz f1 f2 : Int64) (ma : Int32) : f_X11_begins (nI b) (nI k) p q r mx my mz f1 f2 ma gf pf mu nf qf lf = some ((bw W G N nr k p q r).1, (bw W G N nr k p q r).2.1, (bw W G N nr k p q r).2.2.1, (if k = 8 then (bw W G N nr k p q r).1 else f1), (if k = 8 then (bw W G N nr k p q r).2.1 else f2), (bw W G N nr k p q r).2.2.2) ∧ ((k = 5 ∨ k = 7) → -(2 ^ 31) < (bw W G N nr k p q r).2.2.2.toInt) := by
  have U := ur_of hb B (xt_c (W := W) (G := G) (N := N) (nr := nr)) M
  have hgd := gd_m hb B M hk p q r
  rw [hg] at hgd
  obtain ⟨w, h1, h2, h3⟩ := bg_same U hk p q r hgd
  have e := h1 0 0 0 0 0 0 0
  rw [M.1.2.2.2.2, M.2.1.1, M.2.1.2] at e
  have hw : bw W G N nr k p q r = w := by
    unfold bw
    rw [e]
    rfl
  rw [hw]
  exact ⟨h2 mx my mz f1 f2 ma, h3⟩
theorem bg_x (T : TR b W G N nr mw gf pf sg mg mu nf qf lf am sm dm uw ug ub us un uq ue ul sx ax gx ux dx) {k : Nat} (hk : k < 9) {p q r : Int64} (hg : gd W k p q r = true) (rx ry rz f1 f2 : Int64) (rb st : Int32) : f_X7_begin (nI k) p q r rx ry rz rb st f1 f2 ug ub un uq ul ux = some ((bw W G N nr k p q r).1, (bw W G N nr k p q r).2.1, (bw W G N nr k p q r).2.2.1, 0, (bw W G N nr k p q r).2.2.2, (if k = 8 then (bw W G N nr k p q r).1 else f1), (if k = 8 then (bw W G N nr k p q r).2.1 else f2)) := by
  obtain ⟨hb, B, X, M⟩ := T
  have U := ur_of hb B X M
  have hgd := gd_m hb B M hk p q r
  rw [hg] at hgd
  obtain ⟨w, h1, h2, h3⟩ := bg_same U hk p q r hgd
  have e := (bg_m hb B M hk hg 0 0 0 0 0 0).1
  rw [h2] at e
  have e2 := Option.some.inj e
  have w1 : w.1 = (bw W G N nr k p q r).1 := congrArg (fun o => o.1) e2
  have w2 : w.2.1 = (bw W G N nr k p q r).2.1 := congrArg (fun o => o.2.1) e2
  have w3 : w.2.2.1 = (bw W G N nr k p q r).2.2.1 := congrArg (fun o => o.2.2.1) e2
  have w4 : w.2.2.2 = (bw W G N nr k p q r).2.2.2 := congrArg (fun o => o.2.2.2.2.2) e2
  rw [X.1.2.1, X.1.2.2.1, X.1.2.2.2.2, X.2.1.1, X.2.1.2.2, ← w1, ← w2, ← w3, ← w4]
  have e3 := h1 rx ry rz f1 f2 rb st
  rw [M.1.2.2.2.2, M.2.1.1, M.2.1.2] at e3
  exact e3
theorem gt_x (X : XT W G N nr uw ug ub us un uq ue ul sx ax gx ux dx) {k n : Nat} (hk : k < 9) (hn : n ≤ 24) (q : Int64 × Int64 × Int64) : f_X7_goThrough (nI k) (nI n) q.1 q.2.1 q.2.2 0 un sx ax = some ((stF (W + G) nr k q n).1, (stF (W + G) nr k q n).2.1, (stF (W + G) nr k q n).2.2, biF (W + G) nr k q n) := by
  obtain ⟨⟨x1, x2, x3, x4, x5⟩, ⟨x6, x7, x8⟩, x9⟩ := X
  have hmd := (kMode_n k hk).2.2
  have ex : ∀ i, i < n → (fun i => sx (kMd k * 24 + i)) i = (fun i => nI (shT (kMd k) i)) i ∧ (fun i => ax (kMd k * 24 + i)) i = (fun i => anV (kMd k) i (nI (W + G))) i := fun i hi => ⟨(x9 (kMd k) hmd).1 i (by omega), (x9 (kMd k) hmd).2.1 i (by omega)⟩
  rw [x_through hk hn, stN_ext _ n ex, bitN_ext _ n ex, x5]
  rfl
theorem sol_b (T : TR b W G N nr mw gf pf sg mg mu nf qf lf am sm dm uw ug ub us un uq ue ul sx ax gx ux dx) {k : Nat} (hk : k < 9) {p q r : Int64} (hg : gd W k p q r = false) : (∀ (rx ry rz f1 f2 : Int64) (rb st : Int32), f_X7_solve (nI k) p q r rx ry rz rb st f1 f2 uw ug ub us un uq ul sx ax ux dx = some (false, rx, ry, rz, rb, st, f1, f2)) ∧ (∀ (mx my mz f1 f2 : Int64) (ma : Int32), f_X11_comes (nI b) (nI k) p q r mx my mz f1 f2 ma mw gf pf sg mu nf qf lf am sm dm = some (false, mx, my, mz, f1, f2, ma)) := by
  obtain ⟨hb, B, X, M⟩ := T
  have hgd := gd_m hb B M hk p q r
  rw [hg] at hgd
  have h := solve_bad (gf := gf) (pf := pf) (sg := sg) (uf := mu) (sm := sm) (dm := dm) (nr := nf) (qf := qf) (lf := lf) (am := am) hb B.2.1 hk M.1.1 p q r hgd
  rw [X.1.1]
  exact ⟨fun rx ry rz f1 f2 rb st => h.1 rx ry rz f1 f2 uq ul rb st ug ub us un sx dx ax ux, h.2⟩
/-- what the reference makes of a good job -/
theorem sol_m (hb : b < 2) (B : BD W G N) (M : MT b W G N nr mw gf pf sg mg mu nf qf lf am sm dm) {k : Nat} (hk : k < 9) {p q r : Int64} (hg : gd W k p q r = true) (mx my mz f1 f2 : Int64) (ma : Int32) : f_X11_comes (nI b) (nI k) p q r mx my mz f1 f2 ma mw gf pf sg mu nf qf lf am sm dm = some (true, (jx W G N nr k p q r N).1, (jx W G N nr k p q r N).2.1, (jx W G N nr k p q r N).2.2, (aw W G N nr k p q r).1, (aw W G N nr k p q r).2, (bw W G N nr k p q r).2.2.2) := by
  have XC := xt_c (W := W) (G := G) (N := N) (nr := nr)
  have U := ur_of hb B XC M
  have hgd := gd_m hb B M hk p q r
  rw [hg] at hgd
  obtain ⟨w, a, h1, h2⟩ := solve_good U hk p q r hgd
  have e1 := h1 0 0 0 0 0 0 0
  rw [M.1.2.2.2.2, M.2.1.1, M.2.1.2] at e1
  have ha : aw W G N nr k p q r = a := by
    unfold aw
    rw [e1]
    rfl
  have T : TR b W G N nr mw gf pf sg mg mu nf qf lf am sm dm (nI W) (nI G) (nI (W + G)) (nI N) nr ((2 : Int64) * ro e8 (nI (W + G))) (ro e8 (nI (W + G))) (ro ((2 : Int64) * l3) (nI (W + G))) cs (ca (W + G)) (fun m => gnV m N (W + G)) (cu N (W + G)) (cd N (W + G)) := ⟨hb, B, XC, M⟩
  have e2 : f_X7_solve (nI k) p q r 0 0 0 0 0 0 0 (nI W) (nI G) (nI (W + G)) (nI N) nr ((2 : Int64) * ro e8 (nI (W + G))) (ro ((2 : Int64) * l3) (nI (W + G))) cs (ca (W + G)) (cu N (W + G)) (cd N (W + G)) = bd (f_X7_finish (nI k) (jx W G N nr k p q r N).1 (jx W G N nr k p q r N).2.1 (jx W G N nr k p q r N).2.2 (bw W G N nr k p q r).2.2.2 (if k = 8 then (bw W G N nr k p q r).1 else 0) (if k = 8 then (bw W G N nr k p q r).2.1 else 0) (nI G) (nI (W + G)) nr (ro ((2 : Int64) * l3) (nI (W + G))) (cd N (W + G))) (fun o4 => some (true, (jx W G N nr k p q r N).1, (jx W G N nr k p q r N).2.1, (jx W G N nr k p q r N).2.2, jb W G N nr k p q r N, (bw W G N nr k p q r).2.2.2, o4.1, o4.2)) := by
    unfold f_X7_solve
    rw [gd_x hb B M hk, hg, bd_some, if_pos rfl, bg_x T hk hg, bd_some]
    have e3 := gt_x XC hk B.2.2.2.2 ((bw W G N nr k p q r).1, (bw W G N nr k p q r).2.1, (bw W G N nr k p q r).2.2.1)
    rw [e3, bd_some]
    rfl
  rw [e1] at e2
  obtain ⟨o4, o5, o6⟩ := bd_of e2.symm
  have e7 := Option.some.inj o6
  have r1 := congrArg (fun o => o.2.1) e7
  have r2 := congrArg (fun o => o.2.2.1) e7
  have r3 := congrArg (fun o => o.2.2.2.1) e7
  have r4 := congrArg (fun o => o.2.2.2.2.2.1) e7
  have e8 := h2 mx my mz f1 f2 ma
  rw [M.1.2.2.2.2] at e8
  rw [e8, ha]
  exact congrArg some (by
    refine Prod.ext rfl (Prod.ext r1.symm (Prod.ext r2.symm (Prod.ext r3.symm (Prod.ext rfl (Prod.ext rfl r4.symm)))))
    )
theorem sol_x (T : TR b W G N nr mw gf pf sg mg mu nf qf lf am sm dm uw ug ub us un uq ue ul sx ax gx ux dx) {k : Nat} (hk : k < 9) {p q r : Int64} (hg : gd W k p q r = true) (rx ry rz f1 f2 : Int64) (rb st : Int32) : f_X7_solve (nI k) p q r rx ry rz rb st f1 f2 uw ug ub us un uq ul sx ax ux dx = some (true, (jx W G N nr k p q r N).1, (jx W G N nr k p q r N).2.1, (jx W G N nr k p q r N).2.2, jb W G N nr k p q r N, (bw W G N nr k p q r).2.2.2, (aw W G N nr k p q r).1, (aw W G N nr k p q r).2) := by
  have T' := T
  obtain ⟨hb, B, X, M⟩ := T
  have U := ur_of hb B X M
  have hgd := gd_m hb B M hk p q r
  rw [hg] at hgd
  obtain ⟨w, a, h1, h2⟩ := solve_good U hk p q r hgd
  have e1 := h1 rx ry rz f1 f2 rb st
  rw [M.1.2.2.2.2, M.2.1.1, M.2.1.2, ← X.2.1.1, ← X.2.1.2.2, ← X.1.1, ← X.1.2.1, ← X.1.2.2.1, ← X.1.2.2.2.1] at e1
  have e2 := h2 0 0 0 0 0 0
  rw [sol_m hb B M hk hg] at e2
  have e3 := Option.some.inj e2
  have a1 : (aw W G N nr k p q r).1 = a.1 := congrArg (fun o => o.2.2.2.2.1) e3
  have a2 : (aw W G N nr k p q r).2 = a.2 := congrArg (fun o => o.2.2.2.2.2.1) e3
  have e4 : f_X7_solve (nI k) p q r rx ry rz rb st f1 f2 uw ug ub us un uq ul sx ax ux dx = bd (f_X7_finish (nI k) (jx W G N nr k p q r N).1 (jx W G N nr k p q r N).2.1 (jx W G N nr k p q r N).2.2 (bw W G N nr k p q r).2.2.2 (if k = 8 then (bw W G N nr k p q r).1 else f1) (if k = 8 then (bw W G N nr k p q r).2.1 else f2) ug ub un ul dx) (fun o4 => some (true, (jx W G N nr k p q r N).1, (jx W G N nr k p q r N).2.1, (jx W G N nr k p q r N).2.2, jb W G N nr k p q r N, (bw W G N nr k p q r).2.2.2, o4.1, o4.2)) := by
    unfold f_X7_solve
    rw [X.1.1, gd_x hb B M hk, hg, bd_some, if_pos rfl, bg_x T' hk hg, bd_some, X.1.2.2.2.1]
    have e3 := gt_x X hk B.2.2.2.2 ((bw W G N nr k p q r).1, (bw W G N nr k p q r).2.1, (bw W G N nr k p q r).2.2.1)
    rw [e3, bd_some]
    rfl
  rw [X.1.2.2.2.2] at e4 ⊢
  rw [e1] at e4
  obtain ⟨o4, o5, o6⟩ := bd_of e4.symm
  have e7 := Option.some.inj o6
  have q1 : o4.1 = a.1 := congrArg (fun o => o.2.2.2.2.2.2.1) e7
  have q2 : o4.2 = a.2 := congrArg (fun o => o.2.2.2.2.2.2.2) e7
  rw [e1, ← o6, a1, a2, q1, q2]
/-- the end of a good job, the reference -/
theorem en_m (hb : b < 2) (B : BD W G N) (M : MT b W G N nr mw gf pf sg mg mu nf qf lf am sm dm) {k : Nat} (hk : k < 9) {p q r : Int64} (hg : gd W k p q r = true) (f1 f2 : Int64) : f_X11_ends (nI b) (nI k) (jx W G N nr k p q r N).1 (jx W G N nr k p q r N).2.1 (jx W G N nr k p q r N).2.2 f1 f2 (bw W G N nr k p q r).2.2.2 gf pf nf lf dm = some (aw W G N nr k p q r) := by
  have XC := xt_c (W := W) (G := G) (N := N) (nr := nr)
  have U := ur_of hb B XC M
  have T : TR b W G N nr mw gf pf sg mg mu nf qf lf am sm dm (nI W) (nI G) (nI (W + G)) (nI N) nr ((2 : Int64) * ro e8 (nI (W + G))) (ro e8 (nI (W + G))) (ro ((2 : Int64) * l3) (nI (W + G))) cs (ca (W + G)) (fun m => gnV m N (W + G)) (cu N (W + G)) (cd N (W + G)) := ⟨hb, B, XC, M⟩
  obtain ⟨a, h1, h2⟩ := en_same U hk (jx W G N nr k p q r N).1 (jx W G N nr k p q r N).2.1 (jx W G N nr k p q r N).2.2 (if k = 8 then (bw W G N nr k p q r).1 else 0) (if k = 8 then (bw W G N nr k p q r).2.1 else 0) f1 f2 (bw W G N nr k p q r).2.2.2 (bg_m hb B M hk hg 0 0 0 0 0 0).2
  rw [h2]
  have e1 := sol_x T hk hg 0 0 0 0 0 0 0
  unfold f_X7_solve at e1
  rw [gd_x hb B M hk, hg, bd_some, if_pos rfl, bg_x T hk hg, bd_some] at e1
  have e3 := gt_x XC hk B.2.2.2.2 ((bw W G N nr k p q r).1, (bw W G N nr k p q r).2.1, (bw W G N nr k p q r).2.2.1)
  rw [e3, bd_some] at e1
  rw [M.1.2.2.2.2, M.2.1.2] at h1
  obtain ⟨o4, o5, o6⟩ := bd_of e1
  have e9 : o4 = a := Option.some.inj (o5.symm.trans h1)
  have e7 := Option.some.inj o6
  have q1 : o4.1 = (aw W G N nr k p q r).1 := congrArg (fun o => o.2.2.2.2.2.2.1) e7
  have q2 : o4.2 = (aw W G N nr k p q r).2 := congrArg (fun o => o.2.2.2.2.2.2.2) e7
  rw [← e9]
  exact congrArg some (Prod.ext q1 q2)
/-- a stage of the reference -/
theorem st_m (hb : b < 2) (B : BD W G N) (M : MT b W G N nr mw gf pf sg mg mu nf qf lf am sm dm) {k s : Nat} (hk : k < 9) (hs : s < N) (p q r : Int64) : f_X11_steps (nI b) (nI k) (nI s) (jx W G N nr k p q r s).1 (jx W G N nr k p q r s).2.1 (jx W G N nr k p q r s).2.2 nf am sm = some (upS (kTurn k) (jx W G N nr k p q r s).2.1 (jx W G N nr k p q r s).2.2, (jx W G N nr k p q r (s + 1)).1, (jx W G N nr k p q r (s + 1)).2.1, (jx W G N nr k p q r (s + 1)).2.2) := by
  have hmd := (kMode_n k hk).2.2
  have hs24 : s < 24 := Nat.lt_of_lt_of_le hs B.2.2.2.2
  rw [m_stage hb hk hs24 (Nat.lt_trans (shT_lt _ hmd s hs24) (by decide)) (M.2.2.1 (kMd k) hmd s hs24), (M.2.2.2 (kMd k) hmd).1 s hs24, M.1.2.2.2.2]
  rfl
theorem jb_s (k s : Nat) (p q r : Int64) : jb W G N nr k p q r (s + 1) = jb W G N nr k p q r s ||| (if upS (kTurn k) (jx W G N nr k p q r s).2.1 (jx W G N nr k p q r s).2.2 = true then (1 : Int32) <<< (nI s &&& 31) else 0) := rfl
theorem jx_0 (k : Nat) (p q r : Int64) : jx W G N nr k p q r 0 = ((bw W G N nr k p q r).1, (bw W G N nr k p q r).2.1, (bw W G N nr k p q r).2.2.1) := rfl
end UrSec
