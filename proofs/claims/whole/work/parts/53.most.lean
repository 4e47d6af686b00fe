/-! ===== pure part: the most of jobs that are done ===== -/
theorem j_max (a b : Int64) : f_J9_max_f86c9 a b = some (if a < b then b else a) := rfl
section MostSec
variable {W G N : Nat} {nr : Bool} {mw gf pf sg mg mu : Nat → Int32} {nf : Nat → Bool} {qf lf am : Nat → Int64} {sm dm : Nat → Int32} {uw ug ub us : Int32} {un : Bool} {uq ue ul : Int64} {sx : Nat → Int32} {ax gx ux : Nat → Int64} {dx : Nat → Int32} {J ov : Nat} {kd op ti st gn tl br dn mj mr : Nat → Int32} {mt : Nat → Int64}
theorem gl_0 (T : TR 0 W G N nr mw gf pf sg mg mu nf qf lf am sm dm uw ug ub us un uq ue ul sx ax gx ux dx) (R : BR W G N nr J ov kd op ti st gn tl br dn mj mr mt) : ∀ (r j : Nat) (v : Int64) (rx ry rz : Int64) (rb rs : Int32) (f1 f2 : Int64), r + j = J → ∃ (w c1 c2 c3 : Int64) (c4 c5 : Int32) (c6 c7 : Int64), (∀ f, r < f → f_X1_greatestLeft_l5 (nI J) kd op st ug ub us un uq ul sx ax ux f true v (nI j) rx ry rz rb rs f1 f2 = some (w, c1, c2, c3, c4, c5, c6, c7)) ∧ (∀ f, r < f → f_X11_most_l33 true (nI J) sg mj mt f 0 v (nI j) 0 = some (w, 0))
  | 0, j, v, rx, ry, rz, rb, rs, f1, f2 => by
    intro h1
    have hJ := R.1
    refine ⟨v, rx, ry, rz, rb, rs, f1, f2, ?_, ?_⟩
    · intro f hf
      obtain ⟨f, rfl⟩ : ∃ f', f = f' + 1 := ⟨f - 1, by omega⟩
      rw [f_X1_greatestLeft_l5, if_pos (nI_le (by omega) (by omega))]
    · intro f hf
      obtain ⟨f, rfl⟩ : ∃ f', f = f' + 1 := ⟨f - 1, by omega⟩
      rw [f_X11_most_l33, if_pos (nI_le (by omega) (by omega))]
  | r + 1, j, v, rx, ry, rz, rb, rs, f1, f2 => by
    intro h1
    have hJ := R.1
    have hN := T.2.1.2.2.2.2
    have hjJ : j < J := by omega
    by_cases h2 : st j = 2
    · obtain ⟨k, g, c6, c7, hk, hg, hkd, hgn, hT, hgN, hta⟩ := ta T R hjJ (n := N) hN (Or.inr h2) rx ry rz rb rs f1 f2
      rw [hgN h2] at hT
      have hk0 : mj (14 * j) = nI k := by
        obtain ⟨k', s, g', hb, ⟨a1, a2, a3⟩, ⟨b1, _⟩, _⟩ := R.jb hjJ
        rw [b1, ← a1, hkd]
      rw [← T.2.2.1.1.2.2.2.1] at hta
      by_cases ht : kTurn k = true
      · obtain ⟨w, d1, d2, d3, d4, d5, d6, d7, e1, e2⟩ := gl_0 T R r (j + 1) (if v < ab ((jx W G N nr k (op (j * 3)).toInt64 (op (j * 3 + 1)).toInt64 (op (j * 3 + 2)).toInt64 N).2.2) then ab ((jx W G N nr k (op (j * 3)).toInt64 (op (j * 3 + 1)).toInt64 (op (j * 3 + 2)).toInt64 N).2.2) else v) _ _ _ _ _ _ _ (by omega)
        refine ⟨w, d1, d2, d3, d4, d5, d6, d7, ?_, ?_⟩
        · intro f hf
          obtain ⟨f, rfl⟩ : ∃ f', f = f' + 1 := ⟨f - 1, by omega⟩
          rw [f_X1_greatestLeft_l5, if_neg (nI_ge (by omega) (by omega)), gv_N (by omega) (by decide), nI_clamp (by omega), if_pos h2, gv_N (by omega) (by decide), hkd, gv_N hk (by decide), nI_clamp (by omega), if_pos (show bI (kTurn k) = bI true from by rw [ht]), hta, bd_some, lt_eq, j_abs, bd_some, j_max, bd_some]
          unfold f_X1_greatestLeft_b80
          rw [lt_eq, nI_p1]
          exact e1 f (by omega)
        · intro f hf
          obtain ⟨f, rfl⟩ : ∃ f', f = f' + 1 := ⟨f - 1, by omega⟩
          rw [f_X11_most_l33, if_neg (nI_ge (by omega) (by omega)), m_of4 (by omega), bd_some, R.st4 hjJ, if_pos h2, gv_0 (by decide), lt_eq, cl_0, T.2.2.2.1.2.2.2.1, m_of00 (by omega), bd_some, hk0, m_turning k hk, bd_some]
          unfold f_X11_most_b110 f_X11_most_b137 f_X11_most_b165 f_X11_most_b201
          rw [if_pos rfl, if_pos ht, r75, nI_p2, gv_N (by omega) (by decide), nI_clamp (by omega), (hT.2.2.2 N (Nat.le_refl N)).2.2, j_abs, bd_some, j_max, bd_some, if_neg (by decide), if_neg (by decide), if_neg (by decide), lt_eq, nI_p1]
          exact e2 f (by omega)
      · obtain ⟨w, d1, d2, d3, d4, d5, d6, d7, e1, e2⟩ := gl_0 T R r (j + 1) v rx ry rz rb rs f1 f2 (by omega)
        refine ⟨w, d1, d2, d3, d4, d5, d6, d7, ?_, ?_⟩
        · intro f hf
          obtain ⟨f, rfl⟩ : ∃ f', f = f' + 1 := ⟨f - 1, by omega⟩
          rw [f_X1_greatestLeft_l5, if_neg (nI_ge (by omega) (by omega)), gv_N (by omega) (by decide), nI_clamp (by omega), if_pos h2, gv_N (by omega) (by decide), hkd, gv_N hk (by decide), nI_clamp (by omega), if_neg (fun h => ht (by cases hk9 : kTurn k with
              | true => rfl
              | false => rw [hk9] at h; exact absurd h (by decide)))]
          unfold f_X1_greatestLeft_b80
          rw [lt_eq, nI_p1]
          exact e1 f (by omega)
        · intro f hf
          obtain ⟨f, rfl⟩ : ∃ f', f = f' + 1 := ⟨f - 1, by omega⟩
          rw [f_X11_most_l33, if_neg (nI_ge (by omega) (by omega)), m_of4 (by omega), bd_some, R.st4 hjJ, if_pos h2, gv_0 (by decide), lt_eq, cl_0, T.2.2.2.1.2.2.2.1, m_of00 (by omega), bd_some, hk0, m_turning k hk, bd_some]
          unfold f_X11_most_b110 f_X11_most_b137 f_X11_most_b165 f_X11_most_b201
          rw [if_pos rfl, if_neg (fun h => ht h), if_neg (by decide), if_neg (by decide), if_neg (by decide), lt_eq, nI_p1]
          exact e2 f (by omega)
    · obtain ⟨w, d1, d2, d3, d4, d5, d6, d7, e1, e2⟩ := gl_0 T R r (j + 1) v rx ry rz rb rs f1 f2 (by omega)
      refine ⟨w, d1, d2, d3, d4, d5, d6, d7, ?_, ?_⟩
      · intro f hf
        obtain ⟨f, rfl⟩ : ∃ f', f = f' + 1 := ⟨f - 1, by omega⟩
        rw [f_X1_greatestLeft_l5, if_neg (nI_ge (by omega) (by omega)), gv_N (by omega) (by decide), nI_clamp (by omega), if_neg h2]
        unfold f_X1_greatestLeft_b80
        rw [lt_eq, nI_p1]
        exact e1 f (by omega)
      · intro f hf
        obtain ⟨f, rfl⟩ : ∃ f', f = f' + 1 := ⟨f - 1, by omega⟩
        rw [f_X11_most_l33, if_neg (nI_ge (by omega) (by omega)), m_of4 (by omega), bd_some, R.st4 hjJ, if_neg h2]
        unfold f_X11_most_b201
        rw [lt_eq, nI_p1]
        exact e2 f (by omega)
theorem gl_1 (T : TR 0 W G N nr mw gf pf sg mg mu nf qf lf am sm dm uw ug ub us un uq ue ul sx ax gx ux dx) (R : BR W G N nr J ov kd op ti st gn tl br dn mj mr mt) : ∀ (r j : Nat) (v : Int64) (rx ry rz : Int64) (rb rs : Int32) (f1 f2 : Int64), r + j = J → ∃ (w c1 c2 c3 : Int64) (c4 c5 : Int32) (c6 c7 : Int64), (∀ f, r < f → f_X1_greatestLeft_l5 (nI J) kd op st ug ub us un uq ul sx ax ux f false v (nI j) rx ry rz rb rs f1 f2 = some (w, c1, c2, c3, c4, c5, c6, c7)) ∧ (∀ f, r < f → f_X11_most_l33 true (nI J) sg mj mt f 1 v (nI j) 0 = some (w, 0))
  | 0, j, v, rx, ry, rz, rb, rs, f1, f2 => by
    intro h1
    have hJ := R.1
    refine ⟨v, rx, ry, rz, rb, rs, f1, f2, ?_, ?_⟩
    · intro f hf
      obtain ⟨f, rfl⟩ : ∃ f', f = f' + 1 := ⟨f - 1, by omega⟩
      rw [f_X1_greatestLeft_l5, if_pos (nI_le (by omega) (by omega))]
    · intro f hf
      obtain ⟨f, rfl⟩ : ∃ f', f = f' + 1 := ⟨f - 1, by omega⟩
      rw [f_X11_most_l33, if_pos (nI_le (by omega) (by omega))]
  | r + 1, j, v, rx, ry, rz, rb, rs, f1, f2 => by
    intro h1
    have hJ := R.1
    have hN := T.2.1.2.2.2.2
    have hjJ : j < J := by omega
    by_cases h2 : st j = 2
    · obtain ⟨k, g, c6, c7, hk, hg, hkd, hgn, hT, hgN, hta⟩ := ta T R hjJ (n := N) hN (Or.inr h2) rx ry rz rb rs f1 f2
      rw [hgN h2] at hT
      have hk0 : mj (14 * j) = nI k := by
        obtain ⟨k', s, g', hb, ⟨a1, a2, a3⟩, ⟨b1, _⟩, _⟩ := R.jb hjJ
        rw [b1, ← a1, hkd]
      rw [← T.2.2.1.1.2.2.2.1] at hta
      by_cases ht : kTurn k = false
      · obtain ⟨w, d1, d2, d3, d4, d5, d6, d7, e1, e2⟩ := gl_1 T R r (j + 1) (if v < ab ((jx W G N nr k (op (j * 3)).toInt64 (op (j * 3 + 1)).toInt64 (op (j * 3 + 2)).toInt64 N).2.1) then ab ((jx W G N nr k (op (j * 3)).toInt64 (op (j * 3 + 1)).toInt64 (op (j * 3 + 2)).toInt64 N).2.1) else v) _ _ _ _ _ _ _ (by omega)
        refine ⟨w, d1, d2, d3, d4, d5, d6, d7, ?_, ?_⟩
        · intro f hf
          obtain ⟨f, rfl⟩ : ∃ f', f = f' + 1 := ⟨f - 1, by omega⟩
          rw [f_X1_greatestLeft_l5, if_neg (nI_ge (by omega) (by omega)), gv_N (by omega) (by decide), nI_clamp (by omega), if_pos h2, gv_N (by omega) (by decide), hkd, gv_N hk (by decide), nI_clamp (by omega), if_pos (show bI (kTurn k) = bI false from by rw [ht]), hta, bd_some, lt_eq, j_abs, bd_some, j_max, bd_some]
          unfold f_X1_greatestLeft_b80
          rw [lt_eq, nI_p1]
          exact e1 f (by omega)
        · intro f hf
          obtain ⟨f, rfl⟩ : ∃ f', f = f' + 1 := ⟨f - 1, by omega⟩
          rw [f_X11_most_l33, if_neg (nI_ge (by omega) (by omega)), m_of4 (by omega), bd_some, R.st4 hjJ, if_pos h2, gv_0 (by decide), lt_eq, cl_0, T.2.2.2.1.2.2.2.1, m_of00 (by omega), bd_some, hk0, m_turning k hk, bd_some]
          unfold f_X11_most_b110 f_X11_most_b137 f_X11_most_b165 f_X11_most_b201
          rw [if_neg (by decide), if_pos rfl, if_neg (by rw [ht]; decide), r75, nI_p1, gv_N (by omega) (by decide), nI_clamp (by omega), (hT.2.2.2 N (Nat.le_refl N)).2.1, j_abs, bd_some, j_max, bd_some, if_neg (by decide), if_neg (by decide), lt_eq, nI_p1]
          exact e2 f (by omega)
      · obtain ⟨w, d1, d2, d3, d4, d5, d6, d7, e1, e2⟩ := gl_1 T R r (j + 1) v rx ry rz rb rs f1 f2 (by omega)
        refine ⟨w, d1, d2, d3, d4, d5, d6, d7, ?_, ?_⟩
        · intro f hf
          obtain ⟨f, rfl⟩ : ∃ f', f = f' + 1 := ⟨f - 1, by omega⟩
          rw [f_X1_greatestLeft_l5, if_neg (nI_ge (by omega) (by omega)), gv_N (by omega) (by decide), nI_clamp (by omega), if_pos h2, gv_N (by omega) (by decide), hkd, gv_N hk (by decide), nI_clamp (by omega), if_neg (fun h => ht (by cases hk9 : kTurn k with
              | false => rfl
              | true => rw [hk9] at h; exact absurd h (by decide)))]
          unfold f_X1_greatestLeft_b80
          rw [lt_eq, nI_p1]
          exact e1 f (by omega)
        · intro f hf
          obtain ⟨f, rfl⟩ : ∃ f', f = f' + 1 := ⟨f - 1, by omega⟩
          rw [f_X11_most_l33, if_neg (nI_ge (by omega) (by omega)), m_of4 (by omega), bd_some, R.st4 hjJ, if_pos h2, gv_0 (by decide), lt_eq, cl_0, T.2.2.2.1.2.2.2.1, m_of00 (by omega), bd_some, hk0, m_turning k hk, bd_some]
          unfold f_X11_most_b110 f_X11_most_b137 f_X11_most_b165 f_X11_most_b201
          rw [if_neg (by decide), if_pos rfl, if_pos (show kTurn k = true from by cases hk9 : kTurn k with
            | true => rfl
            | false => exact absurd hk9 ht), if_neg (by decide), if_neg (by decide), lt_eq, nI_p1]
          exact e2 f (by omega)
    · obtain ⟨w, d1, d2, d3, d4, d5, d6, d7, e1, e2⟩ := gl_1 T R r (j + 1) v rx ry rz rb rs f1 f2 (by omega)
      refine ⟨w, d1, d2, d3, d4, d5, d6, d7, ?_, ?_⟩
      · intro f hf
        obtain ⟨f, rfl⟩ : ∃ f', f = f' + 1 := ⟨f - 1, by omega⟩
        rw [f_X1_greatestLeft_l5, if_neg (nI_ge (by omega) (by omega)), gv_N (by omega) (by decide), nI_clamp (by omega), if_neg h2]
        unfold f_X1_greatestLeft_b80
        rw [lt_eq, nI_p1]
        exact e1 f (by omega)
      · intro f hf
        obtain ⟨f, rfl⟩ : ∃ f', f = f' + 1 := ⟨f - 1, by omega⟩
        rw [f_X11_most_l33, if_neg (nI_ge (by omega) (by omega)), m_of4 (by omega), bd_some, R.st4 hjJ, if_neg h2]
        unfold f_X11_most_b201
        rw [lt_eq, nI_p1]
        exact e2 f (by omega)
theorem lw_2 (hN : N ≤ 24) (hsg : sg 0 = nI N) (R : BR W G N nr J ov kd op ti st gn tl br dn mj mr mt) : ∀ (r j f : Nat) (v : Int64), r + j = J → r < f → ∃ w, f_X1_longestWay_l4 (nI J) st tl dn f v (nI j) = some w ∧ f_X11_most_l33 true (nI J) sg mj mt f 2 v (nI j) 0 = some (w, 0)
  | 0, j, f, v => by
    intro h1 hf
    have hJ := R.1
    obtain ⟨f, rfl⟩ : ∃ f', f = f' + 1 := ⟨f - 1, by omega⟩
    rw [f_X1_longestWay_l4, f_X11_most_l33, if_pos (nI_le (by omega) (by omega)), if_pos (nI_le (by omega) (by omega))]
    exact ⟨_, rfl, rfl⟩
  | r + 1, j, f, v => by
    intro h1 hf
    have hJ := R.1
    have hjJ : j < J := by omega
    obtain ⟨f, rfl⟩ : ∃ f', f = f' + 1 := ⟨f - 1, by omega⟩
    obtain ⟨k, s, g, hb, ⟨a1, a2, a3⟩, ⟨b1, b2, b3, b4, b5, b6⟩, _⟩ := R.jb hjJ
    rw [f_X1_longestWay_l4, f_X11_most_l33, if_neg (nI_ge (by omega) (by omega)), if_neg (nI_ge (by omega) (by omega)), gv_N (by omega) (by decide), nI_clamp (by omega), m_of4 (by omega), bd_some, R.st4 hjJ]
    unfold f_X1_longestWay_b41 f_X11_most_b110 f_X11_most_b137 f_X11_most_b165 f_X11_most_b201
    by_cases h2 : st j = 2
    · rw [if_pos h2, if_pos h2, gv_N (by omega) (by decide), gv_N (by omega) (by decide), j_max, bd_some, lt_eq, nI_p1, gv_0 (by decide), lt_eq, m_of00 (by omega), bd_some, b1, m_turning k hb.1, bd_some, if_neg (by decide : ¬ (2 : Int32) = 0), if_neg (by decide : ¬ (2 : Int32) = 1), if_pos rfl, m_of7 (by omega), bd_some, m_of13 (by omega), bd_some, j_max, bd_some, if_neg (by decide : ¬ (2 : Int32) = 3), lt_eq, b5, b6]
      exact lw_2 hN hsg R r (j + 1) f _ (by omega) (by omega)
    · rw [if_neg h2, if_neg h2, lt_eq, lt_eq, nI_p1]
      exact lw_2 hN hsg R r (j + 1) f _ (by omega) (by omega)
theorem sm_eq : ∀ n, n ≤ 24 → (nI n).toInt64 * (2 : Int32).toInt64 = (nI n * 2).toInt64 ∧ (nI n).toInt64 * (3 : Int32).toInt64 = (nI n * 3).toInt64 := by decide +kernel
theorem sm_3 (hN : N ≤ 24) (hsg : sg 0 = nI N) (R : BR W G N nr J ov kd op ti st gn tl br dn mj mr mt) : ∀ (r j f : Nat) (v : Int64), r + j = J → r < f → ∃ w, f_X1_sumsMade_l5 (nI J) kd st f (nI N) v (nI j) = some w ∧ f_X11_most_l33 true (nI J) sg mj mt f 3 v (nI j) 0 = some (w, 0)
  | 0, j, f, v => by
    intro h1 hf
    have hJ := R.1
    obtain ⟨f, rfl⟩ : ∃ f', f = f' + 1 := ⟨f - 1, by omega⟩
    rw [f_X1_sumsMade_l5, f_X11_most_l33, if_pos (nI_le (by omega) (by omega)), if_pos (nI_le (by omega) (by omega))]
    exact ⟨_, rfl, rfl⟩
  | r + 1, j, f, v => by
    intro h1 hf
    have hJ := R.1
    have hjJ : j < J := by omega
    obtain ⟨f, rfl⟩ : ∃ f', f = f' + 1 := ⟨f - 1, by omega⟩
    obtain ⟨k, s, g, hb, ⟨a1, a2, a3⟩, ⟨b1, b2, b3, b4, b5, b6⟩, _⟩ := R.jb hjJ
    rw [f_X1_sumsMade_l5, f_X11_most_l33, if_neg (nI_ge (by omega) (by omega)), if_neg (nI_ge (by omega) (by omega)), gv_N (by omega) (by decide), nI_clamp (by omega), m_of4 (by omega), bd_some, R.st4 hjJ]
    unfold f_X1_sumsMade_b55 f_X11_most_b110 f_X11_most_b137 f_X11_most_b165 f_X11_most_b201
    by_cases h2 : st j = 2
    · rw [if_pos h2, if_pos h2, gv_N (by omega) (by decide), a1, gv_N hb.1 (by decide), nI_clamp (by omega), lt_eq, lt_eq, lt_eq, nI_p1, gv_0 (by decide), lt_eq, m_of00 (by omega), bd_some, b1, m_turning k hb.1, bd_some, if_neg (by decide : ¬ (3 : Int32) = 0), if_neg (by decide : ¬ (3 : Int32) = 1), if_neg (by decide : ¬ (3 : Int32) = 2), if_pos rfl, gv_0 (by decide), bd_some, gv_N hb.1 (by decide), nI_clamp (by omega), lt_eq, lt_eq, lt_eq, cl_0, hsg, (kMode_n k hb.1).1, (kMode_n k hb.1).2.1]
      have e : ∀ md : Nat, (nI N).toInt64 * (if nI md = 1 then (2 : Int32) else 3).toInt64 = (nI N * (if nI md = 1 then (2 : Int32) else 3)).toInt64 := by
        intro md
        by_cases h : nI md = 1
        · rw [if_pos h]
          exact (sm_eq N hN).1
        · rw [if_neg h]
          exact (sm_eq N hN).2
      rw [e]
      exact sm_3 hN hsg R r (j + 1) f _ (by omega) (by omega)
    · rw [if_neg h2, if_neg h2, lt_eq, lt_eq, nI_p1]
      exact sm_3 hN hsg R r (j + 1) f _ (by omega) (by omega)
theorem q_most (T : TR 0 W G N nr mw gf pf sg mg mu nf qf lf am sm dm uw ug ub us un uq ue ul sx ax gx ux dx) (R : BR W G N nr J ov kd op ti st gn tl br dn mj mr mt) (p th : Int32) (rx ry rz : Int64) (rb rs : Int32) (f1 f2 : Int64) : ∃ (w c1 c2 c3 : Int64) (c4 c5 : Int32) (c6 c7 : Int64), f_X10_most p true ug ub us un uq ul sx ax ux rx ry rz rb rs f1 f2 (nI J) kd op st tl dn = some (w, c1, c2, c3, c4, c5, c6, c7) ∧ f_X11_most p th true (nI J) sg mj mt = some (w, 0) := by
  have hJ := R.1
  have hN := T.2.1.2.2.2.2
  have hF : J < FU := by show J < 5000; omega
  unfold f_X10_most f_X11_most f_X11_most_b24
  rw [if_pos rfl, if_pos rfl, isin_b (n := 4) p 3 (by decide), bd_some]
  by_cases h0 : p = 0
  · subst h0
    obtain ⟨w, d1, d2, d3, d4, d5, d6, d7, e1, e2⟩ := gl_0 T R J 0 0 rx ry rz rb rs f1 f2 (by omega)
    rw [if_pos rfl, if_pos (by decide), show f_X1_greatestLeft true (nI J) kd op st rx ry rz rb rs f1 f2 ug ub us un uq ul sx ax ux = _ from e1 FU hF]
    exact ⟨_, _, _, _, _, _, _, _, rfl, e2 FU hF⟩
  · by_cases h1 : p = 1
    · subst h1
      obtain ⟨w, d1, d2, d3, d4, d5, d6, d7, e1, e2⟩ := gl_1 T R J 0 0 rx ry rz rb rs f1 f2 (by omega)
      rw [if_neg h0, if_pos rfl, if_pos (by decide), show f_X1_greatestLeft false (nI J) kd op st rx ry rz rb rs f1 f2 ug ub us un uq ul sx ax ux = _ from e1 FU hF]
      exact ⟨_, _, _, _, _, _, _, _, rfl, e2 FU hF⟩
    · by_cases h2 : p = 2
      · subst h2
        obtain ⟨w, e1, e2⟩ := lw_2 hN T.2.2.2.1.2.2.2.1 R J 0 FU 0 (by omega) hF
        rw [if_neg h0, if_neg h1, if_pos rfl, if_pos (by decide), show f_X1_longestWay (nI J) st tl dn = _ from e1]
        exact ⟨_, _, _, _, _, _, _, _, rfl, e2⟩
      · by_cases h3 : p = 3
        · subst h3
          obtain ⟨w, e1, e2⟩ := sm_3 hN T.2.2.2.1.2.2.2.1 R J 0 FU 0 (by omega) hF
          rw [if_neg h0, if_neg h1, if_neg h2, if_pos rfl, if_pos (by decide), T.2.2.1.1.2.2.2.1, show f_X1_sumsMade (nI N) (nI J) kd st = _ from e1]
          exact ⟨_, _, _, _, _, _, _, _, rfl, e2⟩
        · rw [if_neg h0, if_neg h1, if_neg h2, if_neg h3, inB_x (by decide) (fun j hj hp => by
            rcases (show j = 0 ∨ j = 1 ∨ j = 2 ∨ j = 3 by omega) with rfl | rfl | rfl | rfl
            · exact h0 hp
            · exact h1 hp
            · exact h2 hp
            · exact h3 hp), if_neg (by decide)]
          exact ⟨_, _, _, _, _, _, _, _, rfl, rfl⟩
end MostSec
