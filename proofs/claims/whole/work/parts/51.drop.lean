/-! ===== pure part: a job is dropped; images ===== -/
section DropSec
variable {W G N : Nat} {nr : Bool} {J ov : Nat} {kd op ti st gn tl br dn mj mr : Nat → Int32} {mt : Nat → Int64}
/-- a job that waits is linked to job j -/
def wtd (st ti : Nat → Int32) (j o w : Nat) : Prop := st o = 0 ∧ ∃ i, i < 2 ∧ ti (o * 3 + w) = nI (2 * j + i)
theorem nI_j {o j : Nat} (ho : o < 60) (hj : j < 60) (h : nI o = nI j) : o = j := (nI_eq (by omega) (by omega)).1 h
theorem tie_t {o j w : Nat} (ho : o < 60) (hj : j < 60) (hT : TIE o (ti (o * 3 + w))) (h1 : ¬ ti (o * 3 + w) = -1) (h2 : ti (o * 3 + w) >>> ((1 : Int32) &&& 31) = nI j) : ∃ i, i < 2 ∧ ti (o * 3 + w) = nI (2 * j + i) := by
  rcases hT with h | ⟨t, i, ht, hi, h⟩
  · exact absurd h h1
  · rw [h, tie_shr (by omega) hi] at h2
    have := nI_j (by omega) hj h2
    subst this
    exact ⟨i, hi, h⟩
theorem ia_x (R : BR W G N nr J ov kd op ti st gn tl br dn mj mr mt) {j : Nat} (hj : j < 60) : ∀ (r t f : Nat), r + t = J * 3 → r < f → ∃ b, f_X1_isAwaited_l2 (nI J) ti st f (nI j) (nI t) = some b ∧ (b = true ↔ ∃ o w, o < J ∧ w < 3 ∧ t ≤ o * 3 + w ∧ wtd st ti j o w)
  | 0, t, f => by
    intro h1 h2
    have hJ := R.1
    obtain ⟨f, rfl⟩ : ∃ f', f = f' + 1 := ⟨f - 1, by omega⟩
    refine ⟨false, ?_, ⟨fun h => absurd h (by decide), fun ⟨o, w, h3, h4, h5, _⟩ => by omega⟩⟩
    rw [f_X1_isAwaited_l2, i3_0, if_pos (nI_le (by omega) (by omega))]
  | r + 1, t, f => by
    intro h1 h2
    have hJ := R.1
    obtain ⟨f, rfl⟩ : ∃ f', f = f' + 1 := ⟨f - 1, by omega⟩
    obtain ⟨b, e1, e2⟩ := ia_x R hj r (t + 1) f (by omega) (by omega)
    have hk : f_X1_isAwaited_b47 (nI J) ti st (f_X1_isAwaited_l2 (nI J) ti st f) (nI j) (nI t) = some b := by
      unfold f_X1_isAwaited_b47
      rw [lt_eq, nI_p1]
      exact e1
    have ho : t / 3 < J := by omega
    have ht : t / 3 * 3 + t % 3 = t := by omega
    have hT := ((jb_tie (R.jb ho)).1 (t % 3) (by omega)).2
    rw [ht] at hT
    have key : (¬ ∃ i, i < 2 ∧ st (t / 3) = 0 ∧ ti t = nI (2 * j + i)) → ((∃ o w, o < J ∧ w < 3 ∧ t + 1 ≤ o * 3 + w ∧ wtd st ti j o w) ↔ (∃ o w, o < J ∧ w < 3 ∧ t ≤ o * 3 + w ∧ wtd st ti j o w)) := by
      intro hn
      constructor
      · intro ⟨o, w, h3, h4, h5, h6⟩
        exact ⟨o, w, h3, h4, by omega, h6⟩
      · intro ⟨o, w, h3, h4, h5, h6⟩
        refine ⟨o, w, h3, h4, ?_, h6⟩
        rcases Nat.eq_or_lt_of_le h5 with h7 | h7
        · exfalso
          obtain ⟨h8, i, h9, h10⟩ := h6
          have : t / 3 = o := by omega
          refine hn ⟨i, h9, ?_, ?_⟩
          · rw [this]; exact h8
          · rw [h7]; exact h10
        · exact h7
    rw [f_X1_isAwaited_l2, i3_0, if_neg (nI_ge (by omega) (by omega)), gv_N (by omega) (by decide), nI_clamp (by omega)]
    by_cases hv : ti t = -1
    · rw [if_pos hv]
      refine ⟨b, hk, e2.trans (key ?_)⟩
      intro ⟨i, h3, h4, h5⟩
      rw [h5] at hv
      exact tie_ne hj h3 hv
    · rw [if_neg hv, gv_N (by omega) (by decide)]
      by_cases hq : ti t >>> ((1 : Int32) &&& 31) = nI j
      · rw [if_pos hq, gz_n (by decide), show nI t / 3 = nI (t / 3) from pk_div (a := t) (d := 3) (by omega) (by decide) (by decide), gv_N (by omega) (by decide), nI_clamp (by omega)]
        by_cases h0 : st (t / 3) = 0
        · rw [if_pos h0]
          refine ⟨true, rfl, ⟨fun _ => ?_, fun _ => rfl⟩⟩
          refine ⟨t / 3, t % 3, ho, by omega, by omega, h0, ?_⟩
          have hT2 : TIE (t / 3) (ti (t / 3 * 3 + t % 3)) := by rw [ht]; exact hT
          exact tie_t (by omega) hj hT2 (by rw [ht]; exact hv) (by rw [ht]; exact hq)
        · rw [if_neg h0]
          refine ⟨b, hk, e2.trans (key ?_)⟩
          intro ⟨i, h3, h4, h5⟩
          exact h0 h4
      · rw [if_neg hq]
        refine ⟨b, hk, e2.trans (key ?_)⟩
        intro ⟨i, h3, h4, h5⟩
        rw [h5, tie_shr hj h3] at hq
        exact hq rfl
theorem iw_in (R : BR W G N nr J ov kd op ti st gn tl br dn mj mr mt) {j o : Nat} (hj : j < 60) (ho : o < J) (h0 : st o = 0) (k : Int32 → Int32 → Option Bool) : ∀ (r w f : Nat), r + w = 3 → r < f → ((∃ w', w ≤ w' ∧ w' < 3 ∧ wtd st ti j o w') ∧ f_X11_isWanted_l26 (nI J) mj k f (nI j) (nI o) (nI w) = some true) ∨ ((¬ ∃ w', w ≤ w' ∧ w' < 3 ∧ wtd st ti j o w') ∧ f_X11_isWanted_l26 (nI J) mj k f (nI j) (nI o) (nI w) = k (nI j) (nI (o + 1)))
  | 0, w, f => by
    intro h1 h2
    obtain ⟨f, rfl⟩ : ∃ f', f = f' + 1 := ⟨f - 1, by omega⟩
    refine Or.inr ⟨fun ⟨w', h3, h4, _⟩ => by omega, ?_⟩
    rw [f_X11_isWanted_l26, if_pos (ge3 (by omega) (by omega))]
    unfold f_X11_isWanted_b67
    rw [lt_eq, nI_p1]
  | r + 1, w, f => by
    intro h1 h2
    have hJ := R.1
    obtain ⟨f, rfl⟩ : ∃ f', f = f' + 1 := ⟨f - 1, by omega⟩
    have tt := (jb_tie (R.jb ho)).1 w (by omega)
    have goOn : (¬ wtd st ti j o w) → f_X11_isWanted_l26 (nI J) mj k (f + 1) (nI j) (nI o) (nI w) = f_X11_isWanted_l26 (nI J) mj k f (nI j) (nI o) (nI (w + 1)) → ((∃ w', w ≤ w' ∧ w' < 3 ∧ wtd st ti j o w') ∧ f_X11_isWanted_l26 (nI J) mj k (f + 1) (nI j) (nI o) (nI w) = some true) ∨ ((¬ ∃ w', w ≤ w' ∧ w' < 3 ∧ wtd st ti j o w') ∧ f_X11_isWanted_l26 (nI J) mj k (f + 1) (nI j) (nI o) (nI w) = k (nI j) (nI (o + 1))) := by
      intro hn e
      rw [e]
      rcases iw_in R hj ho h0 k r (w + 1) f (by omega) (by omega) with ⟨⟨w', h3, h4, h5⟩, h6⟩ | ⟨h3, h4⟩
      · exact Or.inl ⟨⟨w', by omega, h4, h5⟩, h6⟩
      · refine Or.inr ⟨fun ⟨w', h5, h6, h7⟩ => ?_, h4⟩
        rcases Nat.eq_or_lt_of_le h5 with rfl | h8
        · exact hn h7
        · exact h3 ⟨w', h8, h6, h7⟩
    have hk : f_X11_isWanted_b61 (nI J) mj k (f_X11_isWanted_l26 (nI J) mj k f) (nI j) (nI o) (nI w) = f_X11_isWanted_l26 (nI J) mj k f (nI j) (nI o) (nI (w + 1)) := by
      unfold f_X11_isWanted_b61
      rw [lt_eq, nI_p1]
    rcases tt.2 with hv | ⟨t, i, ht, hi, hv⟩
    · refine goOn (fun ⟨_, i, h3, h4⟩ => ?_) ?_
      · rw [hv] at h4
        exact tie_ne hj h3 h4.symm
      · rw [f_X11_isWanted_l26, if_neg (ng3 (by omega)), m_of10w (by omega) (by omega), bd_some, tt.1, if_pos hv, hk]
    · by_cases htj : t = j
      · subst htj
        refine Or.inl ⟨⟨w, Nat.le_refl w, by omega, h0, i, hi, hv⟩, ?_⟩
        rw [f_X11_isWanted_l26, if_neg (ng3 (by omega)), m_of10w (by omega) (by omega), bd_some, tt.1, hv, if_neg (tie_ne hj hi), bd_some, gz_n (by decide), tie_div hj hi, if_pos rfl]
      · refine goOn (fun ⟨_, i', h3, h4⟩ => ?_) ?_
        · rw [hv] at h4
          have := (nI_eq (by omega) (by omega)).1 h4
          omega
        · rw [f_X11_isWanted_l26, if_neg (ng3 (by omega)), m_of10w (by omega) (by omega), bd_some, tt.1, hv, if_neg (tie_ne (by omega) hi), bd_some, gz_n (by decide), tie_div (by omega) hi, if_neg (fun h => htj (nI_j (by omega) hj h)), hk]
theorem iw_m (R : BR W G N nr J ov kd op ti st gn tl br dn mj mr mt) {j : Nat} (hj : j < 60) : ∀ (r o f : Nat), r + o = J → r < f → ∃ b, f_X11_isWanted_l4 (nI J) mj f (nI j) (nI o) = some b ∧ (b = true ↔ ∃ o' w, o' < J ∧ w < 3 ∧ o ≤ o' ∧ wtd st ti j o' w)
  | 0, o, f => by
    intro h1 h2
    have hJ := R.1
    obtain ⟨f, rfl⟩ : ∃ f', f = f' + 1 := ⟨f - 1, by omega⟩
    refine ⟨false, ?_, ⟨fun h => absurd h (by decide), fun ⟨o', w, h3, h4, h5, _⟩ => by omega⟩⟩
    rw [f_X11_isWanted_l4, if_pos (nI_le (by omega) (by omega))]
  | r + 1, o, f => by
    intro h1 h2
    have hJ := R.1
    obtain ⟨f, rfl⟩ : ∃ f', f = f' + 1 := ⟨f - 1, by omega⟩
    obtain ⟨b, e1, e2⟩ := iw_m R hj r (o + 1) f (by omega) (by omega)
    rw [f_X11_isWanted_l4, if_neg (nI_ge (by omega) (by omega)), m_of4 (by omega), bd_some, R.st4 (by omega)]
    by_cases h0 : st o = 0
    · rw [if_pos h0]
      rcases iw_in R hj (show o < J by omega) h0 (f_X11_isWanted_l4 (nI J) mj f) 3 0 FU rfl (by decide) with ⟨⟨w, h3, h4, h5⟩, h6⟩ | ⟨h3, h4⟩
      · exact ⟨true, h6, ⟨fun _ => ⟨o, w, by omega, h4, Nat.le_refl o, h5⟩, fun _ => rfl⟩⟩
      · refine ⟨b, h4.trans e1, e2.trans ⟨fun ⟨o', w, q1, q2, q3, q4⟩ => ⟨o', w, q1, q2, by omega, q4⟩, fun ⟨o', w, q1, q2, q3, q4⟩ => ⟨o', w, q1, q2, ?_, q4⟩⟩⟩
        rcases Nat.eq_or_lt_of_le q3 with rfl | q5
        · exact absurd ⟨w, Nat.zero_le w, q2, q4⟩ h3
        · exact q5
    · rw [if_neg h0]
      unfold f_X11_isWanted_b67
      rw [lt_eq, nI_p1]
      refine ⟨b, e1, e2.trans ⟨fun ⟨o', w, q1, q2, q3, q4⟩ => ⟨o', w, q1, q2, by omega, q4⟩, fun ⟨o', w, q1, q2, q3, q4⟩ => ⟨o', w, q1, q2, ?_, q4⟩⟩⟩
      rcases Nat.eq_or_lt_of_le q3 with rfl | q5
      · exact absurd q4.1 h0
      · exact q5
theorem iw_same (R : BR W G N nr J ov kd op ti st gn tl br dn mj mr mt) {j : Nat} (hj : j < J) : ∃ b, f_X1_isAwaited (nI j) (nI J) ti st = some b ∧ f_X11_isWanted (nI j) (nI J) mj = some b := by
  have hJ := R.1
  obtain ⟨b, e1, e2⟩ := ia_x R (show j < 60 by omega) (J * 3) 0 FU (by omega) (by show J * 3 < 5000; omega)
  obtain ⟨b', e3, e4⟩ := iw_m R (show j < 60 by omega) (J - (j + 1)) (j + 1) FU (by omega) (by show J - (j + 1) < 5000; omega)
  have hbb : b = b' := by
    have : b = true ↔ b' = true := by
      rw [e2, e4]
      constructor
      · intro ⟨o, w, h1, h2, h3, h4⟩
        refine ⟨o, w, h1, h2, ?_, h4⟩
        obtain ⟨h5, i, h6, h7⟩ := h4
        rcases ((jb_tie (R.jb h1)).1 w h2).2 with hv | ⟨t, i', ht, hi', hv⟩
        · rw [hv] at h7
          exact absurd h7.symm (tie_ne (by omega) h6)
        · rw [hv] at h7
          have := (nI_eq (by omega) (by omega)).1 h7
          omega
      · intro ⟨o, w, h1, h2, h3, h4⟩
        exact ⟨o, w, h1, h2, Nat.zero_le _, h4⟩
    cases b with
    | true => exact (this.1 rfl).symm
    | false =>
      cases b' with
      | true => exact absurd (this.2 rfl) (by decide)
      | false => rfl
  refine ⟨b, e1, ?_⟩
  unfold f_X11_isWanted
  rw [lt_eq, nI_p1, hbb]
  exact e3
theorem q_drop (hN : N ≤ 24) (R : BR W G N nr J ov kd op ti st gn tl br dn mj mr mt) {rf mf : Nat → Int32} (hr : RF rf mf) (p th : Int32) : ∃ (r : Bool) (st' mj' rf' mf' : Nat → Int32), f_X10_drop p true (nI J) ti st rf = some (r, st', rf') ∧ f_X11_drop p th true (nI J) mf mj = some (r, 0, mf', mj') ∧ BR W G N nr J ov kd op ti st' gn tl br dn mj' mr mt ∧ RF rf' mf' := by
  have hJ := R.1
  obtain ⟨rf0, mf0, z1, z2, z3, z4⟩ := rf_0 hr
  obtain ⟨rf3, mf3, t1, t2, t3, t4⟩ := rf_3 hr
  unfold f_X10_drop f_X11_drop f_X10_drop_b37 f_X11_drop_b34 f_X11_drop_b35
  rw [x_isJob R.1, m_isJob R.1, bd_some, bd_some]
  cases hp : inB J p with
  | false =>
    rw [if_neg (by decide), if_neg (by decide), if_neg (by decide), bd_some, lt_eq, if_neg (by decide), z2, z3]
    exact ⟨_, _, _, _, _, rfl, rfl, R, z4⟩
  | true =>
    obtain ⟨j, hj, rfl⟩ := inB_of (by omega) hp
    rw [if_pos rfl, if_pos rfl, gv_N (by omega) (by decide), nI_clamp (by omega), m_of4 (by omega), bd_some, R.st4 hj]
    by_cases h0 : st j = 0
    · obtain ⟨b, e1, e2⟩ := iw_same R hj
      rw [if_pos h0, if_pos h0, e1, e2, bd_some, bd_some, lt_eq]
      cases b with
      | true =>
        rw [if_pos rfl, if_pos rfl, if_neg (by decide), bd_some, lt_eq, if_pos rfl, t2, t3]
        exact ⟨_, _, _, _, _, rfl, rfl, R, t4⟩
      | false =>
        rw [if_neg (by decide), if_pos (by decide), gv_N (by omega) (by decide), r14_4, gv_N (by omega) (by decide), nI_clamp (by omega)]
        refine ⟨_, _, _, _, _, rfl, rfl, ⟨hJ, R.2.1, ?_, ?_, ?_⟩, hr⟩
        · intro i hi
          by_cases hij : i = j
          · subst hij
            obtain ⟨k, s, g, hb, ⟨a1, a2, a3⟩, ⟨b1, b2, b3, b4, b5, b6⟩, hw', h0', h2, hT, hr⟩ := R.jb hi
            refine ⟨k, 3, g, ⟨hb.1, by decide, hb.2.2⟩, ⟨a1, pk_us, a3⟩, ⟨?_, ?_, ?_, ?_, ?_, ?_⟩, ?_, fun h => absurd h (by decide), fun h => absurd h (by decide), fun h => by omega, fun h => absurd h (by decide)⟩
            · rw [pk_un (by omega)]; exact b1
            · rw [pk_us]; rfl
            · rw [pk_un (by omega)]; exact b3
            · rw [pk_un (by omega)]; exact b4
            · rw [pk_un (by omega)]; exact b5
            · rw [pk_un (by omega)]; exact b6
            · intro w hw
              rw [pk_un (by omega), pk_un (by omega)]
              exact hw' w hw
          · exact (R.jb hi).congr hN rfl (fun _ _ => rfl) (fun _ _ => rfl) (pk_un hij) rfl rfl rfl rfl (fun c hc => pk_un (by omega)) (fun _ _ => rfl) (fun _ _ => rfl)
        · intro i hi
          by_cases hij : i = j
          · rw [hij, pk_us]
            exact Or.inr rfl
          · rw [pk_un hij]
            exact R.2.2.2.1 i hi
        · intro i hi h1 t ht
          by_cases hij : i = j
          · rw [hij, pk_us] at h1
            exact absurd h1 (by decide)
          · rw [pk_un hij] at h1
            by_cases htj : t = j
            · rw [htj, pk_us]
              decide
            · rw [pk_un htj]
              exact R.2.2.2.2 i hi h1 t ht
    · rw [if_neg h0, if_neg h0, if_neg (by decide), bd_some, lt_eq, if_pos rfl, t2, t3]
      exact ⟨_, _, _, _, _, rfl, rfl, R, t4⟩
end DropSec
