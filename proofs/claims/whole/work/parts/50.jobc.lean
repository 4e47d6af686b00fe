/-! ===== pure part: jobs are told, linked, dropped ===== -/
theorem lt60 {J : Nat} (h : J < 60) : nI J < 60 := nI_lt (a := J) (b := 60) h (by decide)
theorem ne60 {J : Nat} (h : J < 60) : ¬ nI J = 60 := fun h1 => by
  have := (nI_eq (a := J) (b := 60) (by omega) (by decide)).1 h1
  omega
theorem al_x {J : Nat} (hJ : J < 60) (clk jb : Int32) (kd op st gn tl br dn : Nat → Int32) : ∀ (r w f : Nat) (ti : Nat → Int32), r + w = 3 → r < f → ∃ ti', f_X1_add_l73 clk f (nI J) (nI w) jb kd op ti st gn tl br dn = some (nI J, jb, kd, op, ti', upd st J 0, upd gn J 0, upd tl J clk, upd br J (-1), upd dn J (-1)) ∧ (∀ t, w ≤ t → t < 3 → ti' (J * 3 + t) = -1) ∧ (∀ i, i < J * 3 + w ∨ J * 3 + 3 ≤ i → ti' i = ti i)
  | 0, w, f, ti => by
    intro h1 h2
    obtain ⟨f, rfl⟩ : ∃ f', f = f' + 1 := ⟨f - 1, by omega⟩
    refine ⟨ti, ?_, fun t _ _ => by omega, fun i _ => rfl⟩
    rw [f_X1_add_l73, if_pos (ge3 (by omega) (by omega)), gv_N hJ (by decide), gv_N hJ (by decide), gv_N hJ (by decide), gv_N hJ (by decide), gv_N hJ (by decide), nI_clamp (by omega)]
  | r + 1, w, f, ti => by
    intro h1 h2
    obtain ⟨f, rfl⟩ : ∃ f', f = f' + 1 := ⟨f - 1, by omega⟩
    obtain ⟨ti', e1, e2, e3⟩ := al_x hJ clk jb kd op st gn tl br dn r (w + 1) f (upd ti (J * 3 + w) (-1)) (by omega) (by omega)
    refine ⟨ti', ?_, ?_, ?_⟩
    · rw [f_X1_add_l73, if_neg (ng3 (by omega)), ir3, gv_N (by omega) (by decide), nI_clamp (by omega), lt_eq, nI_p1]
      exact e1
    · intro t h3 h4
      rcases Nat.eq_or_lt_of_le h3 with rfl | h5
      · rw [e3 _ (Or.inl (by omega)), pk_us]
      · exact e2 t (by omega) h4
    · intro i h3
      rw [e3 i (by omega), pk_un (by omega)]
def dfl (t : Nat) : Int32 := if 10 ≤ t then -1 else (if t = 6 then -1 else (if t = 7 then -1 else 0))
theorem dfl_is : ∀ k, k < 14 → (if (10 : Int32) ≤ nI k then (-1 : Int32) else (if nI k = (6 : Int32) then (-1 : Int32) else (if nI k = (7 : Int32) then (-1 : Int32) else (0 : Int32)))) = dfl k := by decide
theorem al_m {J : Nat} (hJ : J < 60) (clk p0 p1 p2 p3 jbs : Int32) (f0 : Nat) : ∀ (r k : Nat) (mj : Nat → Int32), r + k = 14 → ∃ mj1, f_X11_adds_l12 clk (r + (f0 + 1)) p0 p1 p2 p3 (nI (14 * J)) (nI k) jbs mj = f_X11_adds_l12 clk (f0 + 1) p0 p1 p2 p3 (nI (14 * J)) (nI 14) jbs mj1 ∧ (∀ t, k ≤ t → t < 14 → mj1 (14 * J + t) = dfl t) ∧ (∀ i, i < 14 * J + k ∨ 14 * J + 14 ≤ i → mj1 i = mj i)
  | 0, k, mj => by
    intro h1
    obtain rfl : k = 14 := by omega
    refine ⟨mj, by rw [Nat.zero_add], fun t _ _ => by omega, fun i _ => rfl⟩
  | r + 1, k, mj => by
    intro h1
    obtain ⟨mj1, e1, e2, e3⟩ := al_m hJ clk p0 p1 p2 p3 jbs f0 r (k + 1) (upd mj (14 * J + k) (dfl k)) (by omega)
    refine ⟨mj1, ?_, ?_, ?_⟩
    · rw [show r + 1 + (f0 + 1) = (r + (f0 + 1)) + 1 from by omega, f_X11_adds_l12, if_neg (ng14 (by omega)), dfl_is k (by omega), lt_eq, nI_add, gv_N (by omega) (by decide), nI_clamp (by omega), lt_eq, nI_p1]
      exact e1
    · intro t h3 h4
      rcases Nat.eq_or_lt_of_le h3 with rfl | h5
      · rw [e3 _ (Or.inl (by omega)), pk_us]
      · exact e2 t (by omega) h4
    · intro i h3
      rw [e3 i (by omega), pk_un (by omega)]
section JobcSec
variable {W G N : Nat} {nr : Bool} {mw gf pf sg mg mu : Nat → Int32} {nf : Nat → Bool} {qf lf am : Nat → Int64} {sm dm : Nat → Int32} {uw ug ub us : Int32} {un : Bool} {uq ue ul : Int64} {sx : Nat → Int32} {ax gx ux : Nat → Int64} {dx : Nat → Int32} {J ov : Nat} {kd op ti st gn tl br dn mj mr : Nat → Int32} {mt : Nat → Int64}
theorem add_same (hN : N ≤ 24) (R : BR W G N nr J ov kd op ti st gn tl br dn mj mr mt) (hJ : J < 60) {k : Nat} (hk : k < 9) (a b c clk : Int32) : ∃ (kd' op' ti' st' gn' tl' br' dn' mj' : Nat → Int32), f_X1_add (nI k) a b c (nI J) clk kd op ti st gn tl br dn = some (nI J, nI (J + 1), kd', op', ti', st', gn', tl', br', dn') ∧ f_X11_adds (nI k) a b c clk (nI J) mj = some (nI (J + 1), mj') ∧ BR W G N nr (J + 1) ov kd' op' ti' st' gn' tl' br' dn' mj' mr mt ∧ st' J = 0 ∧ op' (J * 3) = a ∧ op' (J * 3 + 1) = b ∧ op' (J * 3 + 2) = c := by
  obtain ⟨ti', x1, x2, x3⟩ := al_x hJ clk (nI (J + 1)) (upd kd J (nI k)) (upd (upd (upd op (J * 3) a) (J * 3 + 1) b) (J * 3 + 2) c) st gn tl br dn 3 0 FU ti rfl (by decide)
  obtain ⟨mj1, m1, m2, m3⟩ := al_m hJ clk (nI k) a b c (nI J) 4985 14 0 mj rfl
  have q0 : (upd (upd (upd op (J * 3) a) (J * 3 + 1) b) (J * 3 + 2) c) (J * 3) = a := by rw [pk_un (by omega), pk_un (by omega), pk_us]
  have q1 : (upd (upd (upd op (J * 3) a) (J * 3 + 1) b) (J * 3 + 2) c) (J * 3 + 1) = b := by rw [pk_un (by omega), pk_us]
  have q2 : (upd (upd (upd op (J * 3) a) (J * 3 + 1) b) (J * 3 + 2) c) (J * 3 + 2) = c := pk_us
  refine ⟨upd kd J (nI k), upd (upd (upd op (J * 3) a) (J * 3 + 1) b) (J * 3 + 2) c, ti', upd st J 0, upd gn J 0, upd tl J clk, upd br J (-1), upd dn J (-1), upd (upd (upd (upd (upd mj1 (14 * J) (nI k)) (14 * J + 13) clk) (14 * J + 1) a) (14 * J + 2) b) (14 * J + 3) c, ?_, ?_, ?_, pk_us, q0, q1, q2⟩
  · unfold f_X1_add
    rw [if_pos (lt60 hJ), lt_eq, nI_p1, i3_0, gv_N hJ (by decide), gv_N (by omega) (by decide), nI_p1, gv_N (by omega) (by decide), nI_p2, gv_N (by omega) (by decide)]
    simp only [nI_clamp (show J < 2 ^ 31 by omega), nI_clamp (show J * 3 < 2 ^ 31 by omega), nI_clamp (show J * 3 + 1 < 2 ^ 31 by omega), nI_clamp (show J * 3 + 2 < 2 ^ 31 by omega)]
    exact x1
  · unfold f_X11_adds
    rw [lt_eq, show (14 : Int32) * nI J = nI (14 * J) from nI_mul 14 J]
    refine Eq.trans m1 ?_
    rw [f_X11_adds_l12, if_pos (by decide : (14 : Int32) ≤ nI 14), show nI (14 * J) + 13 = nI (14 * J + 13) from nI_add _ 13, nI_p1, nI_p1, nI_p2, gv_N (by omega) (by decide), gv_N (by omega) (by decide), gv_N (by omega) (by decide), gv_N (by omega) (by decide), gv_N (by omega) (by decide), lt_eq, nI_p1]
    simp only [nI_clamp (show 14 * J < 2 ^ 31 by omega), nI_clamp (show 14 * J + 13 < 2 ^ 31 by omega), nI_clamp (show 14 * J + 1 < 2 ^ 31 by omega), nI_clamp (show 14 * J + 1 + 1 < 2 ^ 31 by omega), nI_clamp (show 14 * J + 1 + 2 < 2 ^ 31 by omega)]
  · refine ⟨hJ, Nat.le_succ_of_le R.2.1, ?_, ?_, ?_⟩
    · intro j hj
      rcases Nat.eq_or_lt_of_le (Nat.le_of_lt_succ hj) with rfl | hlt
      · refine ⟨k, 0, 0, ⟨hk, by decide, Nat.zero_le N⟩, ⟨pk_us, pk_us, pk_us⟩, ⟨?_, ?_, ?_, ?_, ?_, ?_⟩, ?_, fun _ => ⟨rfl, ?_⟩, fun h => absurd h (by decide), fun h => by omega, fun h => absurd h (by decide)⟩
        · rw [pk_un (by omega), pk_un (by omega), pk_un (by omega), pk_un (by omega), pk_us]
        · rw [pk_un (by omega), pk_un (by omega), pk_un (by omega), pk_un (by omega), pk_un (by omega), m2 4 (by decide) (by decide)]; rfl
        · rw [pk_un (by omega), pk_un (by omega), pk_un (by omega), pk_un (by omega), pk_un (by omega), m2 5 (by decide) (by decide)]; rfl
        · rw [pk_un (by omega), pk_un (by omega), pk_un (by omega), pk_un (by omega), pk_un (by omega), m2 6 (by decide) (by decide), pk_us]; rfl
        · rw [pk_un (by omega), pk_un (by omega), pk_un (by omega), pk_un (by omega), pk_un (by omega), m2 7 (by decide) (by decide), pk_us]; rfl
        · rw [pk_un (by omega), pk_un (by omega), pk_un (by omega), pk_us, pk_us]
        · intro w hw
          refine ⟨?_, ?_, Or.inl (x2 w (Nat.zero_le w) hw)⟩
          · rcases (show w = 0 ∨ w = 1 ∨ w = 2 by omega) with rfl | rfl | rfl
            · rw [show j * 3 + 0 = j * 3 from rfl, q0, show 14 * j + 1 + 0 = 14 * j + 1 from rfl, pk_un (by omega), pk_un (by omega), pk_us]
            · rw [q1, show 14 * j + 1 + 1 = 14 * j + 2 from rfl, pk_un (by omega), pk_us]
            · rw [q2, show 14 * j + 1 + 2 = 14 * j + 3 from rfl, pk_us]
          · rw [x2 w (Nat.zero_le w) hw, pk_un (by omega), pk_un (by omega), pk_un (by omega), pk_un (by omega), pk_un (by omega), Nat.add_assoc, m2 (10 + w) (by omega) (by omega)]
            exact if_pos (by omega)
        · rw [pk_un (by omega), pk_un (by omega), pk_un (by omega), pk_un (by omega), pk_un (by omega), m2 9 (by decide) (by decide)]; rfl
      · refine (R.jb hlt).congr hN (pk_un (by omega)) (fun w hw => ?_) (fun w hw => x3 _ (by omega)) (pk_un (by omega)) (pk_un (by omega)) (pk_un (by omega)) (pk_un (by omega)) (pk_un (by omega)) (fun t ht => ?_) (fun _ _ => rfl) (fun _ _ => rfl)
        · rw [pk_un (by omega), pk_un (by omega), pk_un (by omega)]
        · rw [pk_un (by omega), pk_un (by omega), pk_un (by omega), pk_un (by omega), pk_un (by omega), m3 _ (by omega)]
    · intro j hj
      have := R.2.1
      rw [pk_un (by omega)]
      exact R.2.2.2.1 j hj
    · intro j hj h1 i hi
      rcases Nat.eq_or_lt_of_le (Nat.le_of_lt_succ hj) with rfl | hlt
      · rw [pk_us] at h1
        exact absurd h1 (by decide)
      · rw [pk_un (by omega)] at h1
        rw [pk_un (by omega)]
        exact R.2.2.2.2 j hlt h1 i hi
theorem q_job (T : TR 0 W G N nr mw gf pf sg mg mu nf qf lf am sm dm uw ug ub us un uq ue ul sx ax gx ux dx) (R : BR W G N nr J ov kd op ti st gn tl br dn mj mr mt) {rf mf : Nat → Int32} (hr : RF rf mf) (p a b c clk th : Int32) : ∃ (r : Int32) (J' : Nat) (kd' op' ti' st' gn' tl' br' dn' mj' rf' mf' : Nat → Int32), f_X10_job p a b c true uw (nI J) clk kd op ti st gn tl br dn rf = some (r, nI J', kd', op', ti', st', gn', tl', br', dn', rf') ∧ f_X11_job p a b c th true clk (nI J) mw mf mj = some (r, 0, nI J', mf', mj') ∧ BR W G N nr J' ov kd' op' ti' st' gn' tl' br' dn' mj' mr mt ∧ RF rf' mf' := by
  obtain ⟨hb, B, X, M⟩ := T
  have hJ := R.1
  unfold f_X10_job f_X11_job
  rw [x_isKind, m_isKind, bd_some, bd_some]
  cases hp : inB 9 p with
  | false =>
    obtain ⟨rf', mf', e1, e2, e3, e4⟩ := rf_0 hr
    rw [if_neg (by decide), if_neg (by decide), e1, e3]
    exact ⟨_, J, _, _, _, _, _, _, _, _, _, _, _, rfl, rfl, R, e4⟩
  | true =>
    obtain ⟨k, hk, rfl⟩ := inB_of (by decide) hp
    rw [if_pos rfl, if_pos rfl, X.1.1, gd_x (b := 0) hb B M hk, gd_m0 B M hk, bd_some, bd_some]
    cases hg : gd W k a.toInt64 b.toInt64 c.toInt64 with
    | false =>
      obtain ⟨rf', mf', e1, e2, e3, e4⟩ := rf_1 hr
      rw [if_neg (by decide), if_neg (by decide), e1, e3]
      exact ⟨_, J, _, _, _, _, _, _, _, _, _, _, _, rfl, rfl, R, e4⟩
    | true =>
      rw [if_pos rfl, if_pos rfl]
      by_cases h60 : J < 60
      · obtain ⟨kd', op', ti', st', gn', tl', br', dn', mj', e1, e2, e3, _⟩ := add_same B.2.2.2.2 R h60 hk a b c clk
        rw [if_pos (lt60 h60), if_neg (ne60 h60), e1, e2, bd_some, bd_some]
        dsimp only
        rw [nI_pred]
        exact ⟨_, J + 1, _, _, _, _, _, _, _, _, _, _, _, rfl, rfl, e3, hr⟩
      · obtain rfl : J = 60 := by omega
        obtain ⟨rf', mf', e1, e2, e3, e4⟩ := rf_2 hr
        rw [if_neg (by decide), if_pos (by decide : nI 60 = 60), e1, e3]
        exact ⟨_, 60, _, _, _, _, _, _, _, _, _, _, _, rfl, rfl, R, e4⟩
/-- a link put into a job that waits -/
theorem jb_tied {j w : Nat} (hw : w < 3) {v : Int32} (hv : TIE j v) (h : JB W G N nr j kd op ti st gn tl br dn mj mr mt) (h0 : st j = 0) {mj' : Nat → Int32} (m1 : mj' (14 * j + 10 + w) = v) (m2 : mj' (14 * j + 1 + w) = 0) (m3 : ∀ i, ¬ i = 14 * j + 10 + w → ¬ i = 14 * j + 1 + w → mj' i = mj i) : JB W G N nr j kd (upd op (j * 3 + w) 0) (upd ti (j * 3 + w) v) st gn tl br dn mj' mr mt := by
  obtain ⟨k, s, g, hb, ⟨a1, a2, a3⟩, ⟨b1, b2, b3, b4, b5, b6⟩, hw', h0', h2, hT, hr⟩ := h
  obtain rfl : s = 0 := n0_is hb.2.1 (by rw [← a2]; exact h0)
  refine ⟨k, 0, g, hb, ⟨a1, a2, a3⟩, ⟨?_, ?_, ?_, ?_, ?_, ?_⟩, ?_, ?_, h2, fun h => by omega, fun h => absurd h (by decide)⟩
  · rw [m3 _ (by omega) (by omega)]; exact b1
  · rw [m3 _ (by omega) (by omega)]; exact b2
  · rw [m3 _ (by omega) (by omega)]; exact b3
  · rw [m3 _ (by omega) (by omega)]; exact b4
  · rw [m3 _ (by omega) (by omega)]; exact b5
  · rw [m3 _ (by omega) (by omega)]; exact b6
  · intro w' hw3
    by_cases hww : w' = w
    · subst hww
      exact ⟨by rw [m2, pk_us], by rw [m1, pk_us], by rw [pk_us]; exact hv⟩
    · rw [pk_un (by omega), pk_un (by omega), m3 _ (by omega) (by omega), m3 _ (by omega) (by omega)]
      exact hw' w' hw3
  · intro _
    rw [m3 _ (by omega) (by omega)]
    exact h0' rfl
theorem br_tied (hN : N ≤ 24) (R : BR W G N nr J ov kd op ti st gn tl br dn mj mr mt) {j w : Nat} (hj : j < J) (hw : w < 3) {v : Int32} (hv : TIE j v) (h0 : st j = 0) {mj' : Nat → Int32} (m1 : mj' (14 * j + 10 + w) = v) (m2 : mj' (14 * j + 1 + w) = 0) (m3 : ∀ i, ¬ i = 14 * j + 10 + w → ¬ i = 14 * j + 1 + w → mj' i = mj i) : BR W G N nr J ov kd (upd op (j * 3 + w) 0) (upd ti (j * 3 + w) v) st gn tl br dn mj' mr mt := by
  refine ⟨R.1, R.2.1, ?_, R.2.2.2.1, R.2.2.2.2⟩
  intro i hi
  by_cases hij : i = j
  · subst hij
    exact jb_tied hw hv (R.jb hi) h0 m1 m2 m3
  · exact (R.jb hi).congr hN rfl (fun w' hw' => pk_un (by omega)) (fun w' hw' => pk_un (by omega)) rfl rfl rfl rfl rfl (fun c hc => m3 _ (by omega) (by omega)) (fun _ _ => rfl) (fun _ _ => rfl)
theorem r14_10 (j : Nat) : (14 : Int32) * nI j + 10 = nI (14 * j + 10) := ri14 j 10
theorem q_link (hN : N ≤ 24) (R : BR W G N nr J ov kd op ti st gn tl br dn mj mr mt) {rf mf : Nat → Int32} (hr : RF rf mf) (p q o i th : Int32) : ∃ (r : Bool) (op' ti' mj' rf' mf' : Nat → Int32), f_X10_link p q o i true (nI J) op ti st rf = some (r, op', ti', rf') ∧ f_X11_link p q o i th true (nI J) mf mj = some (r, 0, mf', mj') ∧ BR W G N nr J ov kd op' ti' st gn tl br dn mj' mr mt ∧ RF rf' mf' := by
  have hJ := R.1
  obtain ⟨rf0, mf0, z1, z2, z3, z4⟩ := rf_0 hr
  obtain ⟨rf1, mf1, o1, o2, o3, o4⟩ := rf_1 hr
  obtain ⟨rf3, mf3, t1, t2, t3, t4⟩ := rf_3 hr
  unfold f_X10_link f_X11_link f_X10_link_b16 f_X10_link_b42 f_X11_link_b21 f_X11_link_b53 f_X11_link_b71
  rw [x_isJob R.1, m_isJob R.1, x_isJob R.1, m_isJob R.1, x_isOp, x_isEi, isin_b (n := 3) q 2 (by decide), isin_b (n := 2) i 1 (by decide)]
  simp only [bd_some, lt_eq, z2, z3, o2, o3]
  rw [if_neg (by decide : ¬ (0 : Int32) = -1), if_neg (by decide : ¬ (1 : Int32) = -1)]
  cases hp : inB J p with
  | false => exact ⟨_, _, _, _, _, _, rfl, rfl, R, z4⟩
  | true =>
    cases ho : inB J o with
    | false => exact ⟨_, _, _, _, _, _, rfl, rfl, R, z4⟩
    | true =>
      cases hq : inB 3 q with
      | false => exact ⟨_, _, _, _, _, _, rfl, rfl, R, o4⟩
      | true =>
        cases hi : inB 2 i with
        | false => exact ⟨_, _, _, _, _, _, rfl, rfl, R, o4⟩
        | true =>
          obtain ⟨j, hj, rfl⟩ := inB_of (by omega) hp
          obtain ⟨t, ht, rfl⟩ := inB_of (by omega) ho
          obtain ⟨w, hw, rfl⟩ := inB_of (by decide) hq
          obtain ⟨e, he, rfl⟩ := inB_of (by decide) hi
          simp only [if_true]
          by_cases hlt : nI t < nI j
          · have htj : t < j := (nI_ltI (by omega) (by omega)).1 hlt
            rw [if_pos hlt, if_pos hlt, gv_N (by omega) (by decide), nI_clamp (by omega), m_of4 (by omega), bd_some, R.st4 hj]
            by_cases h0 : st j = 0
            · rw [if_pos h0, if_pos h0, if_pos rfl, r14_10, r14_1, nI_add, nI_add, gv_N (by omega) (by decide), gv_N (by omega) (by decide), nI_clamp (by omega), nI_clamp (by omega)]
              unfold f_X1_tie
              rw [ir3, gv_N (by omega) (by decide), gv_N (by omega) (by decide), nI_clamp (by omega), bd_some, ri2]
              refine ⟨_, _, _, _, _, _, rfl, rfl, br_tied hN R hj hw (Or.inr ⟨t, e, htj, he, rfl⟩) h0 ?_ pk_us ?_, hr⟩
              · rw [pk_un (by omega), pk_us]
              · intro i' h1 h2
                rw [pk_un h2, pk_un h1]
            · rw [if_neg h0, if_neg h0, if_neg (by decide : ¬ (3 : Int32) = -1), t2, t3]
              exact ⟨_, _, _, _, _, _, rfl, rfl, R, t4⟩
          · rw [if_neg hlt, if_neg hlt]
            exact ⟨_, _, _, _, _, _, rfl, rfl, R, o4⟩
end JobcSec
