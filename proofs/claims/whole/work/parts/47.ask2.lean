/-! ===== pure part: what is asked of stages, words, bounds ===== -/
def nwB (P m s : Nat) : Bool := if nI P < nI (shT m s) then true else (if anV m s (nI P) = ((1 : Int64) <<< ((nI P - nI (shT m s)).toInt64 &&& 63)) then false else true)
section Ask2Sec
variable {W G N : Nat} {nr : Bool} {mw gf pf sg mg mu : Nat → Int32} {nf : Nat → Bool} {qf lf am : Nat → Int64} {sm dm : Nat → Int32} {uw ug ub us : Int32} {un : Bool} {uq ue ul : Int64} {sx : Nat → Int32} {ax gx ux : Nat → Int64} {dx : Nat → Int32}
theorem x_nw (X : XT W G N nr uw ug ub us un uq ue ul sx ax gx ux dx) {m s : Nat} (hm : m < 3) (hs : s < 24) : f_X8_needsWord (nI m) (nI s) ub sx ax = some (nwB (W + G) m s) := by
  unfold f_X8_needsWord f_X8_needsWord_b40 f_X8_powerFor nwB
  rw [lt_eq, ir24, gv_N (by omega) (by decide), nI_clamp (by omega), (X.2.2 m hm).1 s hs, (X.2.2 m hm).2.1 s hs, X.1.2.2.1]
  by_cases h : nI (W + G) < nI (shT m s)
  · rw [if_pos h, if_pos h]
  · rw [if_neg h, if_neg h, gv_N (by omega) (by decide), gv_N (by omega) (by decide), lt_eq, if_neg h, bd_some, lt_eq]
theorem m_wl (M : MT 0 W G N nr mw gf pf sg mg mu nf qf lf am sm dm) {m s : Nat} (hm : m < 3) (hs : s < 24) : f_X11_isWordless (nI m) (nI s) pf am sm = some (!nwB (W + G) m s) := by
  unfold f_X11_isWordless f_X11_isWordless_b51 nwB
  rw [ri24, gv_N (by omega) (by decide), lt_eq, gv_0 (by decide), nI_clamp (by omega), cl_0, M.2.2.1 m hm s hs, M.1.2.2.1, m0_am M hm hs]
  by_cases h : nI (W + G) < nI (shT m s)
  · rw [if_pos h, if_pos h]
    rfl
  · rw [if_neg h, if_neg h, gv_N (by omega) (by decide), gv_0 (by decide), lt_eq]
    by_cases h2 : anV m s (nI (W + G)) = ((1 : Int64) <<< ((nI (W + G) - nI (shT m s)).toInt64 &&& 63))
    · rw [if_pos h2, if_pos h2]
      rfl
    · rw [if_neg h2, if_neg h2]
      rfl
theorem q_stage (T : TR 0 W G N nr mw gf pf sg mg mu nf qf lf am sm dm uw ug ub us un uq ue ul sx ax gx ux dx) (p q w th : Int32) : ∃ r, f_X10_stage p q w true ub us sx ax = some r ∧ f_X11_stage p q w th true pf sg am sm = some (r, 0) := by
  obtain ⟨hb, B, X, M⟩ := T
  have hN := B.2.2.2.2
  unfold f_X10_stage f_X11_stage f_X10_stage_b23 f_X11_stage_b43
  rw [x_isMode, m_isMode, bd_some, bd_some, gv_0 (by decide), cl_0, M.1.2.2.2.1, isin_b (n := N) q _ (nI_m1 N (by omega)), bd_some, isin_b (n := 3) w 2 (by decide), bd_some, X.1.2.2.2.1, sel_lt (n := N) (by omega) rfl]
  cases hp : inB 3 p with
  | false => exact ⟨_, rfl, rfl⟩
  | true =>
    cases hq : inB N q with
    | false => exact ⟨_, rfl, rfl⟩
    | true =>
      obtain ⟨m, hm, rfl⟩ := inB_of (by decide) hp
      obtain ⟨s, hs, rfl⟩ := inB_of (by omega) hq
      rw [if_pos rfl, if_pos rfl, if_pos rfl, if_pos rfl, lt_eq, ir24, ri24]
      by_cases h0 : w = 0
      · refine ⟨nI (shT m s), ?_, ?_⟩
        · rw [if_pos h0, gv_N (by omega) (by decide), nI_clamp (by omega), (X.2.2 m hm).1 s (by omega)]
        · rw [if_pos (by rw [h0]; decide), if_pos h0, gv_N (by omega) (by decide), nI_clamp (by omega), M.2.2.1 m hm s (by omega)]
      · by_cases h1 : w = 1
        · refine ⟨(anV m s (nI (W + G))).toInt32, ?_, ?_⟩
          · rw [if_neg h0, if_pos h1, gv_N (by omega) (by decide), nI_clamp (by omega), (X.2.2 m hm).2.1 s (by omega)]
          · rw [if_pos (by rw [h1]; decide), if_neg h0, if_pos h1, gv_N (by omega) (by decide), nI_clamp (by omega), m0_am M hm (by omega)]
        · by_cases h2 : w = 2
          · refine ⟨bI (!nwB (W + G) m s), ?_, ?_⟩
            · rw [if_neg h0, if_neg h1, if_pos h2, x_nw X hm (by omega), bd_some, lt_eq, itN]
            · rw [if_pos (by rw [h2]; decide), if_neg h0, if_neg h1, m_wl M hm (by omega), bd_some, lt_eq, itB]
          · refine ⟨-1, ?_, ?_⟩
            · rw [if_neg h0, if_neg h1, if_neg h2]
            · rw [inB_x (by decide) (fun j hj hp => by
                rcases (show j = 0 ∨ j = 1 ∨ j = 2 by omega) with rfl | rfl | rfl
                · exact h0 hp
                · exact h1 hp
                · exact h2 hp), if_neg (by decide)]
theorem dg_same {m : Nat} (hm : m < 3) {dx dm : Nat → Int32} (h : ∀ j, j < 32 → dm (32 * m + j) = dx (m * 32 + j)) : ∀ (r j f : Nat) (acc : Int32), r + j = 32 → r < f → ∃ v, f_X8_digitsUsed_l4 dx f (nI m) acc (nI j) = some v ∧ f_X11_digitsIn_l4 dm f (nI m) acc (nI j) = some v
  | 0, j, f, acc => by
    intro h1 h2
    obtain ⟨f, rfl⟩ : ∃ f', f = f' + 1 := ⟨f - 1, by omega⟩
    refine ⟨acc, ?_, ?_⟩
    · rw [f_X8_digitsUsed_l4, if_pos (ge32 (by omega) (by omega))]
    · rw [f_X11_digitsIn_l4, if_pos (ge32 (by omega) (by omega))]
  | r + 1, j, f, acc => by
    intro h1 h2
    obtain ⟨f, rfl⟩ : ∃ f', f = f' + 1 := ⟨f - 1, by omega⟩
    obtain ⟨v, e1, e2⟩ := dg_same hm h r (j + 1) f (acc + bI (if dx (m * 32 + j) = 0 then false else true)) (by omega) (by omega)
    refine ⟨v, ?_, ?_⟩
    · rw [f_X8_digitsUsed_l4, if_neg (ng32 (by omega)), ir32, gv_N (by omega) (by decide), nI_clamp (by omega), lt_eq, lt_eq, lt_eq, nI_p1]
      exact e1
    · rw [f_X11_digitsIn_l4, if_neg (ng32 (by omega)), ri32, gv_N (by omega) (by decide), nI_clamp (by omega), lt_eq, lt_eq, lt_eq, nI_p1, h j (by omega)]
      exact e2
/-- whether an earlier stage has this stage's word -/
def hwB (P m s t : Nat) : Bool := if nwB P m t = true then decide (anV m t (nI P) = anV m s (nI P)) else false
theorem x_hw (X : XT W G N nr uw ug ub us un uq ue ul sx ax gx ux dx) {m s : Nat} (hm : m < 3) (hs : s < 24) : ∀ (r t f : Nat), r + t = s → r < f → f_X8_hasWordBefore_l8 ub sx ax f (nI m) (nI s) (nI (m * 24)) (nI t) = some (anyB (hwB (W + G) m s) r t)
  | 0, t, f => by
    intro h1 h2
    obtain ⟨f, rfl⟩ : ∃ f', f = f' + 1 := ⟨f - 1, by omega⟩
    rw [f_X8_hasWordBefore_l8, if_pos (nI_le (by omega) (by omega))]
    rfl
  | r + 1, t, f => by
    intro h1 h2
    obtain ⟨f, rfl⟩ : ∃ f', f = f' + 1 := ⟨f - 1, by omega⟩
    have hk : f_X8_hasWordBefore_b47 ub sx ax (f_X8_hasWordBefore_l8 ub sx ax f) (nI m) (nI s) (nI (m * 24)) (nI t) = some (anyB (hwB (W + G) m s) r (t + 1)) := by
      unfold f_X8_hasWordBefore_b47
      rw [lt_eq, nI_p1]
      exact x_hw X hm hs r (t + 1) f (by omega) (by omega)
    rw [f_X8_hasWordBefore_l8, if_neg (nI_ge (by omega) (by omega)), x_nw X hm (by omega), bd_some, anyB]
    by_cases hn : nwB (W + G) m t = true
    · rw [if_pos hn, nI_add, nI_add, gv_N (by omega) (by decide), gv_N (by omega) (by decide), nI_clamp (by omega), nI_clamp (by omega), (X.2.2 m hm).2.1 t (by omega), (X.2.2 m hm).2.1 s hs]
      by_cases ha : anV m t (nI (W + G)) = anV m s (nI (W + G))
      · rw [if_pos ha, if_pos (by unfold hwB; rw [if_pos hn]; exact decide_eq_true ha)]
      · rw [if_neg ha, hk, if_neg (by unfold hwB; rw [if_pos hn, decide_eq_false ha]; decide)]
    · rw [if_neg hn, hk, if_neg (by unfold hwB; rw [if_neg hn]; decide)]
theorem m_hw (M : MT 0 W G N nr mw gf pf sg mg mu nf qf lf am sm dm) {m s : Nat} (hm : m < 3) (hs : s < 24) (k : Int32 → Int32 → Int32 → Option Int32) (acc : Int32) : ∀ (r t f : Nat) (fl : Bool), r + t = s → r < f → f_X11_words_l33 pf sg am sm k f (nI m) acc (nI s) fl (nI t) = k (nI m) (acc + bI (fl && !anyB (hwB (W + G) m s) r t)) (nI (s + 1))
  | 0, t, f, fl => by
    intro h1 h2
    obtain ⟨f, rfl⟩ : ∃ f', f = f' + 1 := ⟨f - 1, by omega⟩
    rw [f_X11_words_l33, if_pos (nI_le (by omega) (by omega)), lt_eq, lt_eq, lt_eq, nI_p1, itB]
    rw [show (fl && !anyB (hwB (W + G) m s) 0 t) = fl from by cases fl <;> rfl]
  | r + 1, t, f, fl => by
    intro h1 h2
    obtain ⟨f, rfl⟩ : ∃ f', f = f' + 1 := ⟨f - 1, by omega⟩
    have ih := fun fl' => m_hw M hm hs k acc r (t + 1) f fl' (by omega) (by omega)
    rw [f_X11_words_l33, if_neg (nI_ge (by omega) (by omega)), anyB]
    cases fl with
    | false =>
      rw [if_neg (by decide)]
      unfold f_X11_words_b85 f_X11_words_b86
      rw [lt_eq, nI_p1, ih]
      rfl
    | true =>
      rw [if_pos rfl, m_wl M hm (by omega), bd_some]
      by_cases hn : nwB (W + G) m t = true
      · rw [hn, if_neg (by decide), ri24, ri24, gv_N (by omega) (by decide), gv_N (by omega) (by decide), nI_clamp (by omega), nI_clamp (by omega), m0_am M hm (by omega), m0_am M hm hs, lt_eq, lt_eq, nI_p1, ih]
        by_cases ha : anV m t (nI (W + G)) = anV m s (nI (W + G))
        · rw [if_pos ha, if_pos (by unfold hwB; rw [if_pos hn]; exact decide_eq_true ha)]
          rfl
        · rw [if_neg ha, if_neg (by unfold hwB; rw [if_pos hn, decide_eq_false ha]; decide)]
      · rw [Bool.eq_false_iff.2 hn, if_pos (by decide)]
        unfold f_X11_words_b81 f_X11_words_b86
        rw [lt_eq, nI_p1, ih, if_neg (by unfold hwB; rw [if_neg hn]; decide)]
theorem wd_same (X : XT W G N nr uw ug ub us un uq ue ul sx ax gx ux dx) (M : MT 0 W G N nr mw gf pf sg mg mu nf qf lf am sm dm) (hN : N ≤ 24) {m : Nat} (hm : m < 3) : ∀ (r s f : Nat) (acc : Int32), r + s = N → r < f → ∃ v, f_X8_words_l4 ub us sx ax f (nI m) acc (nI s) = some v ∧ f_X11_words_l4 pf sg am sm f (nI m) acc (nI s) = some v
  | 0, s, f, acc => by
    intro h1 h2
    obtain ⟨f, rfl⟩ : ∃ f', f = f' + 1 := ⟨f - 1, by omega⟩
    refine ⟨acc, ?_, ?_⟩
    · rw [f_X8_words_l4, X.1.2.2.2.1, if_pos (nI_le (by omega) (by omega))]
    · rw [f_X11_words_l4, gv_0 (by decide), cl_0, M.1.2.2.2.1, if_pos (nI_le (by omega) (by omega))]
  | r + 1, s, f, acc => by
    intro h1 h2
    obtain ⟨f, rfl⟩ : ∃ f', f = f' + 1 := ⟨f - 1, by omega⟩
    obtain ⟨v, e1, e2⟩ := wd_same X M hN hm r (s + 1) f (acc + bI (nwB (W + G) m s && !anyB (hwB (W + G) m s) s 0)) (by omega) (by omega)
    refine ⟨v, ?_, ?_⟩
    · rw [f_X8_words_l4, X.1.2.2.2.1, if_neg (nI_ge (by omega) (by omega)), x_nw X hm (by omega), bd_some]
      by_cases hn : nwB (W + G) m s = true
      · rw [if_pos hn]
        rw [show f_X8_hasWordBefore (nI m) (nI s) ub sx ax = some (anyB (hwB (W + G) m s) s 0) from by
          unfold f_X8_hasWordBefore
          rw [lt_eq, show nI m * 24 = nI (m * 24) from nI_mul m 24]
          exact x_hw X hm (by omega) s 0 FU (by omega) (by show s < 5000; omega), bd_some, lt_eq, lt_eq, lt_eq, nI_p1, itN]
        rw [hn, Bool.true_and, X.1.2.2.2.1] at e1
        exact e1
      · rw [if_neg hn]
        unfold f_X8_words_b35 f_X8_words_b36
        rw [lt_eq, lt_eq, nI_p1]
        rw [Bool.eq_false_iff.2 hn, Bool.false_and, X.1.2.2.2.1] at e1
        exact e1
    · rw [f_X11_words_l4, gv_0 (by decide), cl_0, M.1.2.2.2.1, if_neg (nI_ge (by omega) (by omega)), m_wl M hm (by omega), bd_some, lt_eq, itN, Bool.not_not]
      exact (m_hw M hm (by omega) _ acc s 0 FU (nwB (W + G) m s) (by omega) (by show s < 5000; omega)).trans e2
theorem fw_same (X : XT W G N nr uw ug ub us un uq ue ul sx ax gx ux dx) (M : MT 0 W G N nr mw gf pf sg mg mu nf qf lf am sm dm) {m : Nat} (hm : m < 3) : ∀ (n f : Nat), n ≤ 24 → n < f → ∃ v, f_X8_firstWithoutWords_l5 ub us sx ax f (nI m) (nI n) = some v ∧ f_X11_wordlessFrom_l7 pf sg am sm f (nI m) (nI n) = some v
  | 0, f => by
    intro h1 h2
    obtain ⟨f, rfl⟩ : ∃ f', f = f' + 1 := ⟨f - 1, by omega⟩
    refine ⟨nI 0, ?_, ?_⟩
    · rw [f_X8_firstWithoutWords_l5, if_pos (by decide : nI 0 ≤ 0)]
      rfl
    · rw [f_X11_wordlessFrom_l7, if_pos (by decide : nI 0 ≤ 0)]
      rfl
  | n + 1, f => by
    intro h1 h2
    obtain ⟨f, rfl⟩ : ∃ f', f = f' + 1 := ⟨f - 1, by omega⟩
    by_cases hn : nwB (W + G) m n = true
    · refine ⟨nI (n + 1), ?_, ?_⟩
      · rw [f_X8_firstWithoutWords_l5, if_neg (nI_nle (by omega) (by omega)), nI_pred, x_nw X hm (by omega), bd_some, if_pos hn]
        rfl
      · rw [f_X11_wordlessFrom_l7, if_neg (nI_nle (by omega) (by omega)), nI_pred, m_wl M hm (by omega), bd_some, hn, if_neg (by decide)]
        rfl
    · obtain ⟨v, e1, e2⟩ := fw_same X M hm n f (by omega) (by omega)
      refine ⟨v, ?_, ?_⟩
      · rw [f_X8_firstWithoutWords_l5, if_neg (nI_nle (by omega) (by omega)), nI_pred, x_nw X hm (by omega), bd_some, if_neg hn, lt_eq, pk_m1]
        exact e1
      · rw [f_X11_wordlessFrom_l7, if_neg (nI_nle (by omega) (by omega)), nI_pred, m_wl M hm (by omega), bd_some, Bool.eq_false_iff.2 hn, if_pos (by decide), lt_eq, pk_m1]
        exact e2
theorem q_mode (T : TR 0 W G N nr mw gf pf sg mg mu nf qf lf am sm dm uw ug ub us un uq ue ul sx ax gx ux dx) (p q th : Int32) : ∃ r, f_X10_mode p q true ub us sx ax gx ux dx = some r ∧ f_X11_mode p q th true pf sg mg mu am sm dm = some (r, 0) := by
  obtain ⟨hb, B, X, M⟩ := T
  have hN := B.2.2.2.2
  unfold f_X10_mode f_X11_mode
  rw [x_isMode, m_isMode, bd_some, bd_some]
  cases hp : inB 3 p with
  | false => exact ⟨_, rfl, rfl⟩
  | true =>
    obtain ⟨m, hm, rfl⟩ := inB_of (by decide) hp
    rw [if_pos rfl, if_pos rfl]
    by_cases h0 : q = 0
    · rw [if_pos h0, if_pos h0, gv_N hm (by decide), gv_N (by omega) (by decide), nI_clamp (by omega), (X.2.2 m hm).2.2.1, m0_mg M hm]
      exact ⟨_, rfl, rfl⟩
    · rw [if_neg h0, if_neg h0]
      by_cases h1 : q = 1
      · rw [if_pos h1, if_pos h1, gv_N hm (by decide), gv_N (by omega) (by decide), nI_clamp (by omega), (X.2.2 m hm).2.2.2.1, m0_mu M hm]
        exact ⟨_, rfl, rfl⟩
      · rw [if_neg h1, if_neg h1]
        by_cases h2 : q = 2
        · rw [if_pos h2, if_pos h2]
          obtain ⟨v, e1, e2⟩ := dg_same hm (dx := dx) (dm := dm) (fun j hj => by rw [m0_dg M hm hj, (X.2.2 m hm).2.2.2.2 j hj]) 32 0 FU 0 rfl (by decide)
          rw [show f_X8_digitsUsed (nI m) dx = some v from e1, show f_X11_digitsIn (nI m) dm = some v from e2]
          exact ⟨_, rfl, rfl⟩
        · rw [if_neg h2, if_neg h2]
          by_cases h3 : q = 3
          · rw [if_pos h3, if_pos h3]
            obtain ⟨v, e1, e2⟩ := wd_same X M hN hm N 0 FU 0 (by omega) (by show N < 5000; omega)
            rw [show f_X8_words (nI m) ub us sx ax = some v from e1, show f_X11_words (nI m) pf sg am sm = some v from e2]
            exact ⟨_, rfl, rfl⟩
          · rw [if_neg h3, if_neg h3]
            by_cases h4 : q = 4
            · rw [if_pos h4, if_pos h4]
              obtain ⟨v, e1, e2⟩ := fw_same X M hm N FU hN (by show N < 5000; omega)
              rw [show f_X8_firstWithoutWords (nI m) ub us sx ax = some v from by
                unfold f_X8_firstWithoutWords
                rw [X.1.2.2.2.1] at e1 ⊢
                exact e1, show f_X11_wordlessFrom (nI m) pf sg am sm = some v from by
                unfold f_X11_wordlessFrom
                rw [gv_0 (by decide), lt_eq, cl_0, M.1.2.2.2.1]
                exact e2]
              exact ⟨_, rfl, rfl⟩
            · rw [if_neg h4, if_neg h4]
              exact ⟨_, rfl, rfl⟩
theorem fa_same (X : XT W G N nr uw ug ub us un uq ue ul sx ax gx ux dx) (M : MT 0 W G N nr mw gf pf sg mg mu nf qf lf am sm dm) {k n : Nat} (hk : k < 9) (h1 : 1 ≤ n) (hn : n ≤ 24) : ∃ v, f_X8_farthest (nI k) (nI n) ug ax = some v ∧ f_X11_offBy (nI k) (nI n) gf am = some v := by
  have hmd := kMode_n k hk
  obtain ⟨n, rfl⟩ : ∃ n', n = n' + 1 := ⟨n - 1, by omega⟩
  unfold f_X8_farthest f_X11_offBy
  simp only [lt_eq]
  rw [gv_N hk (by decide), gv_N hk (by decide), nI_clamp (by omega), hmd.1, hmd.2.1, ir24, ri24, show kMd k * 24 + (n + 1) = (kMd k * 24 + n) + 1 from rfl, show 24 * kMd k + (n + 1) = (24 * kMd k + n) + 1 from rfl, nI_pred, nI_pred, gv_N (by omega) (by decide), gv_N (by omega) (by decide), nI_clamp (by omega), nI_clamp (by omega), (X.2.2 _ hmd.2.2).2.1 n (by omega), m0_am M hmd.2.2 (by omega), gv_0 (by decide), cl_0, M.1.2.1, X.1.2.1]
  exact ⟨_, rfl, rfl⟩
theorem bo_same (p : Int32) : ∃ b, f_X10_isBounded p true = some b ∧ f_X11_hasOff p true = some b ∧ (b = true → ∃ k, k < 9 ∧ p = nI k) := by
  unfold f_X10_isBounded f_X11_hasOff
  refine ⟨_, rfl, rfl, fun h => ?_⟩
  by_cases h0 : p = 0
  · exact ⟨0, by decide, h0⟩
  · by_cases h6 : p = 6
    · exact ⟨6, by decide, h6⟩
    · rw [if_pos rfl, if_neg h0, if_neg h6] at h
      exact absurd h (by decide)
theorem q_off (T : TR 0 W G N nr mw gf pf sg mg mu nf qf lf am sm dm uw ug ub us un uq ue ul sx ax gx ux dx) (p th : Int32) : ∃ r, f_X10_off p true ug us ax = some r ∧ f_X11_off p th true gf sg am = some (r, 0) := by
  obtain ⟨hb, B, X, M⟩ := T
  obtain ⟨b, b1, b2, b3⟩ := bo_same p
  unfold f_X10_off f_X11_off
  rw [b1, b2, bd_some, bd_some]
  cases b with
  | false => exact ⟨_, rfl, rfl⟩
  | true =>
    obtain ⟨k, hk, rfl⟩ := b3 rfl
    obtain ⟨v, e1, e2⟩ := fa_same X M hk (n := N) (by have := B.2.2.2.1; omega) B.2.2.2.2
    rw [if_pos rfl, if_pos rfl, gv_0 (by decide), cl_0, M.1.2.2.2.1, X.1.2.2.2.1, e1, e2]
    exact ⟨_, rfl, rfl⟩
theorem fe_same (X : XT W G N nr uw ug ub us un uq ue ul sx ax gx ux dx) (M : MT 0 W G N nr mw gf pf sg mg mu nf qf lf am sm dm) {k : Nat} (hk : k < 9) (t : Int32) : ∀ (r n f : Nat), r + n = 25 → 1 ≤ n → r < f → ∃ v, f_X10_fewest_l12 true ug ax f (nI k) t (nI n) = some v ∧ f_X11_fewest_l17 true gf am f (nI k) t (nI n) 0 = some (v, 0)
  | 0, n, f => by
    intro h1 h2 h3
    obtain ⟨f, rfl⟩ : ∃ f', f = f' + 1 := ⟨f - 1, by omega⟩
    obtain rfl : n = 25 := by omega
    refine ⟨-1, ?_, ?_⟩
    · rw [f_X10_fewest_l12, if_pos (by decide : (24 : Int32) < nI 25)]
    · rw [f_X11_fewest_l17, if_pos (by decide : (24 : Int32) < nI 25)]
  | r + 1, n, f => by
    intro h1 h2 h3
    obtain ⟨f, rfl⟩ : ∃ f', f = f' + 1 := ⟨f - 1, by omega⟩
    obtain ⟨v, e1, e2⟩ := fa_same X M hk (n := n) h2 (by omega)
    have hlt : ¬ (24 : Int32) < nI n := nI_nlt (a := 24) (b := n) (by omega) (by decide)
    rw [f_X10_fewest_l12, f_X11_fewest_l17, if_neg hlt, if_neg hlt, e1, e2, bd_some, bd_some]
    by_cases h : t.toInt64 < v
    · rw [if_pos h, if_pos h, lt_eq, lt_eq, nI_p1]
      exact fe_same X M hk t r (n + 1) f (by omega) (by omega) (by omega)
    · rw [if_neg h, if_neg h]
      exact ⟨_, rfl, rfl⟩
theorem q_fewest (T : TR 0 W G N nr mw gf pf sg mg mu nf qf lf am sm dm uw ug ub us un uq ue ul sx ax gx ux dx) (p t th : Int32) : ∃ r, f_X10_fewest p t true ug ax = some r ∧ f_X11_fewest p t th true gf am = some (r, 0) := by
  obtain ⟨hb, B, X, M⟩ := T
  obtain ⟨b, b1, b2, b3⟩ := bo_same p
  unfold f_X10_fewest f_X11_fewest
  rw [b1, b2, bd_some, bd_some]
  cases b with
  | false => exact ⟨_, rfl, rfl⟩
  | true =>
    obtain ⟨k, hk, rfl⟩ := b3 rfl
    rw [if_pos rfl, if_pos rfl]
    exact fe_same X M hk t 20 5 FU (by decide) (by decide) (by decide)
end Ask2Sec
