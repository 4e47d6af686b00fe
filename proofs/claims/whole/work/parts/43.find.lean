/-! ===== pure part: who waits, who stands where, who must wait ===== -/
theorem fst_ext {p q : Nat → Bool} : ∀ (n j : Nat), (∀ i, j ≤ i → i < j + n → p i = q i) → fst1 p n j = fst1 q n j
  | 0, _, _ => rfl
  | n + 1, j, h => by
    rw [fst1, fst1, h j (Nat.le_refl j) (by omega), fst_ext n (j + 1) (fun i h1 h2 => h i (by omega) (by omega))]
def w0 (st : Nat → Int32) (i : Nat) : Bool := decide (st i = 0)
theorem w0_t {st : Nat → Int32} {i : Nat} (h : st i = 0) : w0 st i = true := decide_eq_true h
theorem w0_f {st : Nat → Int32} {i : Nat} (h : ¬ st i = 0) : w0 st i = false := decide_eq_false h
theorem fw_x {J : Nat} (hJ : J ≤ 60) (ov : Int32) (st : Nat → Int32) : ∀ (r j f : Nat), r + j = J → r < f → f_X1_waiting_l7 (nI J) ov st f 0 (nI j) = some (fst1 (w0 st) r j)
  | 0, j, f => by
    intro h1 h2
    obtain ⟨f, rfl⟩ : ∃ f', f = f' + 1 := ⟨f - 1, by omega⟩
    rw [f_X1_waiting_l7, if_pos (nI_le (by omega) (by omega))]
    rfl
  | r + 1, j, f => by
    intro h1 h2
    obtain ⟨f, rfl⟩ : ∃ f', f = f' + 1 := ⟨f - 1, by omega⟩
    rw [f_X1_waiting_l7, if_neg (nI_ge (by omega) (by omega)), gv_N (by omega) (by decide), nI_clamp (by omega), fst1]
    by_cases h0 : st j = 0
    · rw [if_pos h0, if_pos rfl, if_pos (w0_t h0)]
    · rw [if_neg h0, if_neg (by rw [w0_f h0]; decide)]
      unfold f_X1_waiting_b33
      rw [lt_eq, nI_p1]
      exact fw_x hJ ov st r (j + 1) f (by omega) (by omega)
theorem fw_m {J : Nat} (hJ : J ≤ 60) {st mj : Nat → Int32} (hm : ∀ j, j < J → mj (14 * j + 4) = st j) : ∀ (r j f : Nat), r + j = J → r < f → f_X11_firstWaiting_l2 (nI J) mj f (nI j) = some (fst1 (w0 st) r j)
  | 0, j, f => by
    intro h1 h2
    obtain ⟨f, rfl⟩ : ∃ f', f = f' + 1 := ⟨f - 1, by omega⟩
    rw [f_X11_firstWaiting_l2, if_pos (nI_le (by omega) (by omega))]
    unfold f_X11_firstWaiting_b25
    rw [lt_eq, if_pos (nI_le (by omega) (by omega))]
    rfl
  | r + 1, j, f => by
    intro h1 h2
    obtain ⟨f, rfl⟩ : ∃ f', f = f' + 1 := ⟨f - 1, by omega⟩
    rw [f_X11_firstWaiting_l2, if_neg (nI_ge (by omega) (by omega)), m_of4 (by omega), bd_some, hm j (by omega), fst1]
    by_cases h0 : st j = 0
    · rw [if_pos h0, if_pos (w0_t h0)]
      unfold f_X11_firstWaiting_b25
      rw [lt_eq, if_neg (nI_ge (by omega) (by omega))]
    · rw [if_neg h0, if_neg (by rw [w0_f h0]; decide), lt_eq, nI_p1]
      exact fw_m hJ hm r (j + 1) f (by omega) (by omega)
/-- whether a job stands in a place -/
def spB (N pl : Nat) (place : Int32) (st gn : Nat → Int32) (i : Nat) : Bool := if st i = 1 then (if nI N ≤ gn i then false else decide (gn i - gn i / nI pl * nI pl = place)) else false
theorem spB_n1 {N pl : Nat} {place : Int32} {st gn : Nat → Int32} {i : Nat} (h : ¬ st i = 1) : spB N pl place st gn i = false := if_neg h
theorem sp_x {J N pl : Nat} (hJ : J ≤ 60) (hp1 : 1 ≤ pl) (hp2 : pl ≤ 24) (place : Int32) (ov : Int32) {st : Nat → Int32} (gn : Nat → Int32) (hO : ∀ i, i < J → st i = 1 → ∀ t, t < i → ¬ st t = 0) : ∀ (r j f : Nat), r + j = J → r < f → f_X1_standsIn_l5 (nI J) ov st gn (nI N) (nI pl) f place (nI j) = some (fst1 (spB N pl place st gn) r j)
  | 0, j, f => by
    intro h1 h2
    obtain ⟨f, rfl⟩ : ∃ f', f = f' + 1 := ⟨f - 1, by omega⟩
    rw [f_X1_standsIn_l5, if_pos (nI_le (by omega) (by omega))]
    rfl
  | r + 1, j, f => by
    intro h1 h2
    obtain ⟨f, rfl⟩ : ∃ f', f = f' + 1 := ⟨f - 1, by omega⟩
    have ih := sp_x (N := N) hJ hp1 hp2 place ov gn hO r (j + 1) f (by omega) (by omega)
    have hk : f_X1_standsIn_b69 (nI J) ov st gn (nI N) (nI pl) (f_X1_standsIn_l5 (nI J) ov st gn (nI N) (nI pl) f) place (nI j) = some (fst1 (spB N pl place st gn) r (j + 1)) := by
      unfold f_X1_standsIn_b69
      rw [lt_eq, nI_p1]
      exact ih
    rw [f_X1_standsIn_l5, if_neg (nI_ge (by omega) (by omega)), gv_N (by omega) (by decide), nI_clamp (by omega)]
    by_cases h0 : st j = 0
    · rw [if_pos h0, fst_none (r + 1) j (fun i h3 h4 => spB_n1 (fun h5 => by
        rcases Nat.eq_or_lt_of_le h3 with rfl | h6
        · rw [h0] at h5
          exact absurd h5 (by decide)
        · exact hO i (by omega) h5 j h6 h0))]
      rfl
    · rw [if_neg h0, gv_N (by omega) (by decide), fst1]
      by_cases h1' : st j = 1
      · rw [if_pos h1', gv_N (by omega) (by decide)]
        by_cases hg : nI N ≤ gn j
        · rw [if_pos hg, hk, if_neg (by unfold spB; rw [if_pos h1', if_pos hg]; decide)]
        · rw [if_neg hg, if_neg (nI_nle hp1 (by omega)), gv_N (by omega) (by decide), gz_n (nI_ne0 hp1 (by omega))]
          by_cases hq : gn j - gn j / nI pl * nI pl = place
          · rw [if_pos hq, if_pos (by unfold spB; rw [if_pos h1', if_neg hg]; exact decide_eq_true hq)]
          · rw [if_neg hq, hk, if_neg (by unfold spB; rw [if_pos h1', if_neg hg, decide_eq_false hq]; decide)]
      · rw [if_neg h1', hk, if_neg (by rw [spB_n1 h1']; decide)]
theorem sp_m {J N pl : Nat} (hJ : J ≤ 60) (hp1 : 1 ≤ pl) (hp2 : pl ≤ 24) (place : Int32) {st gn mj sg : Nat → Int32} (hsg : sg 0 = nI N) (hm : ∀ j, j < J → mj (14 * j + 4) = st j) (hg5 : ∀ j, j < J → mj (14 * j + 5) = gn j) : ∀ (r j f : Nat), r + j = J → r < f → f_X11_standsIn_l2 (nI pl) (nI J) sg mj f place (nI j) = some (fst1 (spB N pl place st gn) r j)
  | 0, j, f => by
    intro h1 h2
    obtain ⟨f, rfl⟩ : ∃ f', f = f' + 1 := ⟨f - 1, by omega⟩
    rw [f_X11_standsIn_l2, if_pos (nI_le (by omega) (by omega))]
    rfl
  | r + 1, j, f => by
    intro h1 h2
    obtain ⟨f, rfl⟩ : ∃ f', f = f' + 1 := ⟨f - 1, by omega⟩
    have ih := sp_m hJ hp1 hp2 place hsg hm hg5 r (j + 1) f (by omega) (by omega)
    have hk : f_X11_standsIn_b52 (nI pl) (nI J) sg mj (f_X11_standsIn_l2 (nI pl) (nI J) sg mj f) place (nI j) = some (fst1 (spB N pl place st gn) r (j + 1)) := by
      unfold f_X11_standsIn_b52
      rw [lt_eq, nI_p1]
      exact ih
    rw [f_X11_standsIn_l2, if_neg (nI_ge (by omega) (by omega)), m_of4 (by omega), bd_some, hm j (by omega), fst1]
    by_cases h1' : st j = 1
    · rw [if_pos h1', m_of5 (by omega), bd_some, hg5 j (by omega), gv_0 (by decide), cl_0, hsg]
      by_cases hg : nI N ≤ gn j
      · rw [if_pos hg, hk, if_neg (by unfold spB; rw [if_pos h1', if_pos hg]; decide)]
      · rw [if_neg hg, bd_some, gz_n (nI_ne0 hp1 (by omega))]
        by_cases hq : gn j - gn j / nI pl * nI pl = place
        · rw [if_pos hq, if_pos (by unfold spB; rw [if_pos h1', if_neg hg]; exact decide_eq_true hq)]
        · rw [if_neg hq, hk, if_neg (by unfold spB; rw [if_pos h1', if_neg hg, decide_eq_false hq]; decide)]
    · rw [if_neg h1', hk, if_neg (by rw [spB_n1 h1']; decide)]
/-! links -/
theorem tie_shr {o i : Nat} (ho : o < 60) (hi : i < 2) : nI (2 * o + i) >>> ((1 : Int32) &&& 31) = nI o := by
  rw [pk_shrN (by omega) ((1 : Int32) &&& 31) 1 (by decide), show (2 * o + i) / 2 ^ 1 = o from by omega]
theorem tie_div {o i : Nat} (ho : o < 60) (hi : i < 2) : nI (2 * o + i) / 2 = nI o := by
  rw [show (2 : Int32) = nI 2 from rfl, pk_div (by omega) (by decide) (by decide), show (2 * o + i) / 2 = o from by omega]
theorem tie_and {o i : Nat} (ho : o < 60) (hi : i < 2) : nI (2 * o + i) &&& 1 = nI i := by
  rw [pk_andN (by omega) 1 (by decide), show (2 * o + i) % 2 ^ 1 = i from by omega]
theorem tie_ne {o i : Nat} (ho : o < 60) (hi : i < 2) : ¬ nI (2 * o + i) = -1 := nI_nm1 (by omega)
/-- whether a link still hangs on a job that waits or is under way -/
def twB (st : Nat → Int32) (v : Int32) : Bool := if v = -1 then false else (if st (v.toNatClampNeg / 2) = 0 then true else decide (st (v.toNatClampNeg / 2) = 1))
theorem tw_o {st : Nat → Int32} {o i : Nat} (ho : o < 60) (hi : i < 2) : twB st (nI (2 * o + i)) = (if st o = 0 then true else decide (st o = 1)) := by
  unfold twB
  rw [if_neg (tie_ne ho hi), nI_clamp (by omega), show (2 * o + i) / 2 = o from by omega]
def anyB (p : Nat → Bool) : Nat → Nat → Bool
  | 0, _ => false
  | n + 1, w => if p w = true then true else anyB p n (w + 1)
theorem any_f {p : Nat → Bool} : ∀ (n w : Nat), (∀ i, w ≤ i → i < w + n → p i = false) → anyB p n w = false
  | 0, _, _ => rfl
  | n + 1, w, h => by
    rw [anyB, if_neg (by rw [h w (Nat.le_refl w) (by omega)]; decide)]
    exact any_f n (w + 1) (fun i h1 h2 => h i (by omega) (by omega))
theorem j3e (j : Nat) : (nI j + 1) * 3 = nI (j * 3 + 3) := by
  rw [nI_p1, show (3 : Int32) = nI 3 from rfl, nI_mul, show (j + 1) * 3 = j * 3 + 3 from by omega]
theorem mw_x {j : Nat} (hj : j < 60) {ti st : Nat → Int32} (hT : ∀ w, w < 3 → TIE j (ti (j * 3 + w))) : ∀ (r w f : Nat), r + w = 3 → r < f → f_X1_mustWait_l4 ti st f (nI j) (nI (j * 3 + w)) = some (anyB (fun w => twB st (ti (j * 3 + w))) r w)
  | 0, w, f => by
    intro h1 h2
    obtain ⟨f, rfl⟩ : ∃ f', f = f' + 1 := ⟨f - 1, by omega⟩
    rw [f_X1_mustWait_l4, j3e, if_pos (nI_le (by omega) (by omega))]
    rfl
  | r + 1, w, f => by
    intro h1 h2
    obtain ⟨f, rfl⟩ : ∃ f', f = f' + 1 := ⟨f - 1, by omega⟩
    have hk : f_X1_mustWait_b53 ti st (f_X1_mustWait_l4 ti st f) (nI j) (nI (j * 3 + w)) = some (anyB (fun w => twB st (ti (j * 3 + w))) r (w + 1)) := by
      unfold f_X1_mustWait_b53
      rw [lt_eq, nI_p1]
      exact mw_x hj hT r (w + 1) f (by omega) (by omega)
    rw [f_X1_mustWait_l4, j3e, if_neg (nI_ge (by omega) (by omega)), gv_N (by omega) (by decide), nI_clamp (by omega), lt_eq, gv_N (by omega) (by decide), anyB]
    rcases hT w (by omega) with hv | ⟨o, i, ho, hi, hv⟩
    · rw [if_pos hv, hk, if_neg (by unfold twB; rw [if_pos hv]; decide)]
    · have ho6 : o < 60 := by omega
      rw [hv, if_neg (tie_ne ho6 hi), tie_shr ho6 hi, gv_N ho6 (by decide), nI_clamp (by omega), tw_o ho6 hi]
      by_cases h0 : st o = 0
      · rw [if_pos h0, if_pos h0, if_pos rfl]
        rfl
      · rw [if_neg h0, if_neg h0, gv_N ho6 (by decide)]
        by_cases h1' : st o = 1
        · rw [if_pos h1', if_pos (decide_eq_true h1')]
          rfl
        · rw [if_neg h1', hk, if_neg (by rw [decide_eq_false h1']; decide)]
theorem hg_m {j : Nat} (hj : j < 60) {ti st mj : Nat → Int32} (hT : ∀ w, w < 3 → mj (14 * j + 10 + w) = ti (j * 3 + w) ∧ TIE j (ti (j * 3 + w))) (hm : ∀ o, o < j → mj (14 * o + 4) = st o ∧ (st o = 0 ∨ st o = 1 ∨ st o = 2 ∨ st o = 3)) : ∀ (r w f : Nat), r + w = 3 → r < f → f_X11_hangs_l2 mj f (nI j) (nI w) = some (anyB (fun w => twB st (ti (j * 3 + w))) r w)
  | 0, w, f => by
    intro h1 h2
    obtain ⟨f, rfl⟩ : ∃ f', f = f' + 1 := ⟨f - 1, by omega⟩
    rw [f_X11_hangs_l2, if_pos (ge3 (by omega) (by omega))]
    rfl
  | r + 1, w, f => by
    intro h1 h2
    obtain ⟨f, rfl⟩ : ∃ f', f = f' + 1 := ⟨f - 1, by omega⟩
    have hk : f_X11_hangs_b42 mj (f_X11_hangs_l2 mj f) (nI j) (nI w) = some (anyB (fun w => twB st (ti (j * 3 + w))) r (w + 1)) := by
      unfold f_X11_hangs_b42
      rw [lt_eq, nI_p1]
      exact hg_m hj hT hm r (w + 1) f (by omega) (by omega)
    rw [f_X11_hangs_l2, if_neg (ng3 (by omega)), m_of10w hj (by omega), bd_some, (hT w (by omega)).1, anyB]
    rcases (hT w (by omega)).2 with hv | ⟨o, i, ho, hi, hv⟩
    · rw [if_pos hv, hk, if_neg (by unfold twB; rw [if_pos hv]; decide)]
    · have ho6 : o < 60 := by omega
      rw [hv, if_neg (tie_ne ho6 hi), bd_some, gz_n (by decide), tie_div ho6 hi, m_of4 ho6, bd_some, (hm o ho).1, tw_o ho6 hi]
      rcases (hm o ho).2 with h | h | h | h
      · rw [if_neg (by rw [h]; decide), show (if st o = 0 then true else decide (st o = 1)) = true from by rw [h]; decide, if_pos rfl]
      · rw [if_neg (by rw [h]; decide), show (if st o = 0 then true else decide (st o = 1)) = true from by rw [h]; decide, if_pos rfl]
      · rw [if_pos (by rw [h]; decide), hk, show (if st o = 0 then true else decide (st o = 1)) = false from by rw [h]; decide, if_neg (by decide)]
      · rw [if_pos (by rw [h]; decide), hk, show (if st o = 0 then true else decide (st o = 1)) = false from by rw [h]; decide, if_neg (by decide)]
/-! past the leading jobs that are over -/
theorem busy_l {J : Nat} (hJ : J ≤ 60) {st : Nat → Int32} (hs : ∀ j, j < J → st j = 0 ∨ st j = 1 ∨ st j = 2 ∨ st j = 3) : ∀ (r ov f : Nat), r + ov = J → r < f → ∃ ov', ov ≤ ov' ∧ ov' ≤ J ∧ f_X1_isBusy_l0 (nI J) st f (nI ov) = some (decide (ov' < J), nI ov') ∧ (∀ j, ov ≤ j → j < ov' → st j = 2 ∨ st j = 3) ∧ (ov' < J → st ov' = 0 ∨ st ov' = 1)
  | 0, ov, f => by
    intro h1 h2
    obtain ⟨f, rfl⟩ : ∃ f', f = f' + 1 := ⟨f - 1, by omega⟩
    refine ⟨ov, Nat.le_refl ov, by omega, ?_, fun j h3 h4 => by omega, fun h => by omega⟩
    rw [f_X1_isBusy_l0, if_pos (nI_le (by omega) (by omega))]
    unfold f_X1_isBusy_b50
    rw [lt_eq, if_pos (nI_le (by omega) (by omega)), decide_eq_false (by omega)]
  | r + 1, ov, f => by
    intro h1 h2
    obtain ⟨f, rfl⟩ : ∃ f', f = f' + 1 := ⟨f - 1, by omega⟩
    have hstop : ¬ st ov = 2 → ¬ st ov = 3 → f_X1_isBusy_l0 (nI J) st (f + 1) (nI ov) = some (decide (ov < J), nI ov) := by
      intro h3 h4
      rw [f_X1_isBusy_l0, if_neg (nI_ge (by omega) (by omega)), gv_N (by omega) (by decide), nI_clamp (by omega), if_neg h3, gv_N (by omega) (by decide), if_neg h4]
      unfold f_X1_isBusy_b50
      rw [lt_eq, if_neg (nI_ge (by omega) (by omega)), decide_eq_true (by omega)]
    have hgo : st ov = 2 ∨ st ov = 3 → f_X1_isBusy_l0 (nI J) st (f + 1) (nI ov) = f_X1_isBusy_l0 (nI J) st f (nI (ov + 1)) := by
      intro h3
      rw [f_X1_isBusy_l0, if_neg (nI_ge (by omega) (by omega)), gv_N (by omega) (by decide), nI_clamp (by omega)]
      unfold f_X1_isBusy_b37
      rw [lt_eq, nI_p1]
      rcases h3 with h3 | h3
      · rw [if_pos h3]
      · rw [if_neg (by rw [h3]; decide), gv_N (by omega) (by decide), if_pos h3]
    have hc := hs ov (by omega)
    by_cases h23 : st ov = 2 ∨ st ov = 3
    · obtain ⟨ov', c1, c2, c3, c4, c5⟩ := busy_l hJ hs r (ov + 1) f (by omega) (by omega)
      refine ⟨ov', by omega, c2, by rw [hgo h23]; exact c3, fun j h3 h4 => ?_, c5⟩
      rcases Nat.eq_or_lt_of_le h3 with rfl | h5
      · exact h23
      · exact c4 j (by omega) h4
    · refine ⟨ov, Nat.le_refl ov, by omega, hstop (fun h => h23 (Or.inl h)) (fun h => h23 (Or.inr h)), fun j h3 h4 => by omega, fun _ => ?_⟩
      rcases hc with h | h | h | h
      · exact Or.inl h
      · exact Or.inr h
      · exact absurd (Or.inl h) h23
      · exact absurd (Or.inr h) h23
theorem busy_x {J ov : Nat} (hJ : J ≤ 60) (hov : ov ≤ J) {st : Nat → Int32} (hs : ∀ j, j < J → st j = 0 ∨ st j = 1 ∨ st j = 2 ∨ st j = 3) (h0 : ∀ j, j < ov → st j = 2 ∨ st j = 3) : ∃ ov', ov ≤ ov' ∧ ov' ≤ J ∧ f_X1_isBusy (nI J) (nI ov) st = some (decide (ov' < J), nI ov') ∧ (∀ j, j < ov' → st j = 2 ∨ st j = 3) ∧ (ov' < J → st ov' = 0 ∨ st ov' = 1) := by
  obtain ⟨ov', c1, c2, c3, c4, c5⟩ := busy_l hJ hs (J - ov) ov FU (by omega) (by show J - ov < 5000; omega)
  refine ⟨ov', c1, c2, c3, fun j hj => ?_, c5⟩
  by_cases h : j < ov
  · exact h0 j h
  · exact c4 j (by omega) hj
