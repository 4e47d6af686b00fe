/-! ===== pure part: how a job ends ===== -/
theorem tk_ext {P : Nat} {nr : Bool} {d d' : Nat → Int32} (h : ∀ j, j < 32 → d j = d' j) (v : Int64) : ∀ n acc, tk P nr d v n acc = tk P nr d' v n acc
  | 0, acc => rfl
  | n + 1, acc => by
    have e : d (32 - (n + 1)) = d' (32 - (n + 1)) := h _ (by omega)
    show (if d (32 - (n + 1)) = 0 then tk P nr d v n acc else tk P nr d v n (acc + (d (32 - (n + 1))).toInt64 * tkP P nr v (32 - (n + 1)))) = (if d' (32 - (n + 1)) = 0 then tk P nr d' v n acc else tk P nr d' v n (acc + (d' (32 - (n + 1))).toInt64 * tkP P nr v (32 - (n + 1))))
    rw [e, tk_ext h v n, tk_ext h v n]
def ou (g : Int32) (v : Int64) : Int64 := if g = 0 then v else ((v + ((1 : Int64) <<< ((g - (1 : Int32)).toInt64 &&& 63))) >>> (g.toInt64 &&& 63))
theorem x_out (g : Int32) (v : Int64) : f_X8_outward v g = some (ou g v) := rfl
theorem m_out {b : Nat} (hb : b < 2) {gf : Nat → Int32} (v : Int64) : f_X11_out (nI b) v gf = some (ou (gf b) v) := by
  unfold f_X11_out ou
  rw [gv_N hb (by decide), nI_clamp (by omega), gv_N hb (by decide), gv_N hb (by decide)]
  split <;> rfl
theorem x_268 {G : Int32} (rx ry rz : Int64) (st bits : Int32) (nr : Bool) (ln : Int64) (dg : Nat → Int32) (a c : Int64) : f_X7_finish_b268 rx ry rz st G bits nr ln dg a c = some (ou G a, ou G c) := rfl
theorem m_256 {b : Nat} (hb : b < 2) {gf pf : Nat → Int32} {nr : Nat → Bool} {lf : Nat → Int64} {dg : Nat → Int32} (x y z : Int64) (ma : Int32) (a c : Int64) : f_X11_ends_b256 x y z ma gf pf nr lf dg (nI b) a c = some (ou (gf b) a, ou (gf b) c) := by
  unfold f_X11_ends_b256
  rw [m_out hb, bd_some, m_out hb, bd_some]
theorem en_0 {b G P : Nat} {gf pf : Nat → Int32} {nr : Nat → Bool} {lf : Nat → Int64} {dm dx : Nat → Int32} (hb : b < 2) (hP : P < 100) (hg : gf b = nI G) (hp : pf b = nI P) (hd : ∀ m, m < 3 → ∀ j, j < 32 → dm (32 * (3 * b + m) + j) = dx (m * 32 + j)) (hd3 : ∀ m, m < 3 → ∀ j, j < 32 → dm (32 * (3 * b + m) + j) = 0 ∨ dm (32 * (3 * b + m) + j) = 1 ∨ dm (32 * (3 * b + m) + j) = -1) (x y z f1 f2 g1 g2 : Int64) (st : Int32) : ∃ q : Int64 × Int64, f_X7_finish (nI 0) x y z st f1 f2 (nI G) (nI P) (nr b) (lf b) dx = some q ∧ f_X11_ends (nI b) (nI 0) x y z g1 g2 st gf pf nr lf dm = some q := by
  refine ⟨(ou (nI G) (trn st x y).1, ou (nI G) (trn st x y).2), ?_, ?_⟩
  · unfold f_X7_finish
    rw [gv_N (by decide : 0 < 9) (by decide), nI_clamp (by decide), show Int32.ofNat 0 = nI 0 from rfl, gv_N (by decide : 0 < 9) (by decide), nI_clamp (by decide)]
    rw [if_pos (by decide : swK 0 = 1)]
    rw [x_trn, bd_some]
    rfl
  · unfold f_X11_ends
    rw [if_pos (by decide : nI 0 = 0)]
    rw [m_trn, bd_some, m_256 hb, hg]
theorem en_1 {b G P : Nat} {gf pf : Nat → Int32} {nr : Nat → Bool} {lf : Nat → Int64} {dm dx : Nat → Int32} (hb : b < 2) (hP : P < 100) (hg : gf b = nI G) (hp : pf b = nI P) (hd : ∀ m, m < 3 → ∀ j, j < 32 → dm (32 * (3 * b + m) + j) = dx (m * 32 + j)) (hd3 : ∀ m, m < 3 → ∀ j, j < 32 → dm (32 * (3 * b + m) + j) = 0 ∨ dm (32 * (3 * b + m) + j) = 1 ∨ dm (32 * (3 * b + m) + j) = -1) (x y z f1 f2 g1 g2 : Int64) (st : Int32) : ∃ q : Int64 × Int64, f_X7_finish (nI 1) x y z st f1 f2 (nI G) (nI P) (nr b) (lf b) dx = some q ∧ f_X11_ends (nI b) (nI 1) x y z g1 g2 st gf pf nr lf dm = some q := by
  have t0x : f_X8_withoutGain 0 x (nI P) (nr b) dx = some (tk P (nr b) (fun i => dx (0 * 32 + i)) x 32 0) := x_take (mode := 0) hP (by decide) _ _ _
  have u0x : f_X11_takenOut (nI b) 0 x pf nr dm = some (tk P (nr b) (fun i => dx (0 * 32 + i)) x 32 0) := by
    rw [show (0 : Int32) = nI 0 from rfl, m_take (mode := 0) hb (by decide) pf hP hp nr dm (hd3 0 (by decide)) _, tk_ext (hd 0 (by decide))]
  refine ⟨(ou (nI G) (tk P (nr b) (fun i => dx (0 * 32 + i)) x 32 0), ou (nI G) z), ?_, ?_⟩
  · unfold f_X7_finish
    rw [gv_N (by decide : 1 < 9) (by decide), nI_clamp (by decide), show Int32.ofNat 1 = nI 1 from rfl, gv_N (by decide : 1 < 9) (by decide), nI_clamp (by decide)]
    rw [if_neg (by decide : ¬ swK 1 = 1), if_pos (by decide : swK 1 = 2)]
    rw [t0x, bd_some]
    rfl
  · unfold f_X11_ends
    rw [if_neg (by decide : ¬ nI 1 = 0), if_pos (by decide : nI 1 = 1)]
    rw [u0x, bd_some, m_256 hb, hg]
theorem en_2 {b G P : Nat} {gf pf : Nat → Int32} {nr : Nat → Bool} {lf : Nat → Int64} {dm dx : Nat → Int32} (hb : b < 2) (hP : P < 100) (hg : gf b = nI G) (hp : pf b = nI P) (hd : ∀ m, m < 3 → ∀ j, j < 32 → dm (32 * (3 * b + m) + j) = dx (m * 32 + j)) (hd3 : ∀ m, m < 3 → ∀ j, j < 32 → dm (32 * (3 * b + m) + j) = 0 ∨ dm (32 * (3 * b + m) + j) = 1 ∨ dm (32 * (3 * b + m) + j) = -1) (x y z f1 f2 g1 g2 : Int64) (st : Int32) : ∃ q : Int64 × Int64, f_X7_finish (nI 2) x y z st f1 f2 (nI G) (nI P) (nr b) (lf b) dx = some q ∧ f_X11_ends (nI b) (nI 2) x y z g1 g2 st gf pf nr lf dm = some q := by
  refine ⟨(ou (nI G) (y <<< (st.toInt64 &&& 63)), ou (nI G) 0), ?_, ?_⟩
  · unfold f_X7_finish
    rw [gv_N (by decide : 2 < 9) (by decide), nI_clamp (by decide), show Int32.ofNat 2 = nI 2 from rfl, gv_N (by decide : 2 < 9) (by decide), nI_clamp (by decide)]
    rw [if_neg (by decide : ¬ swK 2 = 1), if_neg (by decide : ¬ swK 2 = 2), if_pos (by decide : swK 2 = 3)]
    rfl
  · unfold f_X11_ends
    rw [if_neg (by decide : ¬ nI 2 = 0), if_neg (by decide : ¬ nI 2 = 1), if_pos (by decide : nI 2 = 2)]
    rw [lt_eq, m_256 hb, hg]
theorem en_3 {b G P : Nat} {gf pf : Nat → Int32} {nr : Nat → Bool} {lf : Nat → Int64} {dm dx : Nat → Int32} (hb : b < 2) (hP : P < 100) (hg : gf b = nI G) (hp : pf b = nI P) (hd : ∀ m, m < 3 → ∀ j, j < 32 → dm (32 * (3 * b + m) + j) = dx (m * 32 + j)) (hd3 : ∀ m, m < 3 → ∀ j, j < 32 → dm (32 * (3 * b + m) + j) = 0 ∨ dm (32 * (3 * b + m) + j) = 1 ∨ dm (32 * (3 * b + m) + j) = -1) (x y z f1 f2 g1 g2 : Int64) (st : Int32) : ∃ q : Int64 × Int64, f_X7_finish (nI 3) x y z st f1 f2 (nI G) (nI P) (nr b) (lf b) dx = some q ∧ f_X11_ends (nI b) (nI 3) x y z g1 g2 st gf pf nr lf dm = some q := by
  refine ⟨(ou (nI G) (z <<< (st.toInt64 &&& 63)), ou (nI G) 0), ?_, ?_⟩
  · unfold f_X7_finish
    rw [gv_N (by decide : 3 < 9) (by decide), nI_clamp (by decide), show Int32.ofNat 3 = nI 3 from rfl, gv_N (by decide : 3 < 9) (by decide), nI_clamp (by decide)]
    rw [if_neg (by decide : ¬ swK 3 = 1), if_neg (by decide : ¬ swK 3 = 2), if_neg (by decide : ¬ swK 3 = 3), if_pos (by decide : swK 3 = 4)]
    rfl
  · unfold f_X11_ends
    rw [if_neg (by decide : ¬ nI 3 = 0), if_neg (by decide : ¬ nI 3 = 1), if_neg (by decide : ¬ nI 3 = 2), if_pos (by decide : nI 3 = 3)]
    rw [lt_eq, m_256 hb, hg]
theorem en_4 {b G P : Nat} {gf pf : Nat → Int32} {nr : Nat → Bool} {lf : Nat → Int64} {dm dx : Nat → Int32} (hb : b < 2) (hP : P < 100) (hg : gf b = nI G) (hp : pf b = nI P) (hd : ∀ m, m < 3 → ∀ j, j < 32 → dm (32 * (3 * b + m) + j) = dx (m * 32 + j)) (hd3 : ∀ m, m < 3 → ∀ j, j < 32 → dm (32 * (3 * b + m) + j) = 0 ∨ dm (32 * (3 * b + m) + j) = 1 ∨ dm (32 * (3 * b + m) + j) = -1) (x y z f1 f2 g1 g2 : Int64) (st : Int32) : ∃ q : Int64 × Int64, f_X7_finish (nI 4) x y z st f1 f2 (nI G) (nI P) (nr b) (lf b) dx = some q ∧ f_X11_ends (nI b) (nI 4) x y z g1 g2 st gf pf nr lf dm = some q := by
  refine ⟨(ou (nI G) x, ou (nI G) y), ?_, ?_⟩
  · unfold f_X7_finish
    rw [gv_N (by decide : 4 < 9) (by decide), nI_clamp (by decide), show Int32.ofNat 4 = nI 4 from rfl, gv_N (by decide : 4 < 9) (by decide), nI_clamp (by decide)]
    rw [if_neg (by decide : ¬ swK 4 = 1), if_neg (by decide : ¬ swK 4 = 2), if_neg (by decide : ¬ swK 4 = 3), if_neg (by decide : ¬ swK 4 = 4), if_pos (by decide : swK 4 = 5)]
    rfl
  · unfold f_X11_ends
    rw [if_neg (by decide : ¬ nI 4 = 0), if_neg (by decide : ¬ nI 4 = 1), if_neg (by decide : ¬ nI 4 = 2), if_neg (by decide : ¬ nI 4 = 3), if_pos (by decide : nI 4 = 4)]
    rw [m_256 hb, hg]
theorem en_5 {b G P : Nat} {gf pf : Nat → Int32} {nr : Nat → Bool} {lf : Nat → Int64} {dm dx : Nat → Int32} (hb : b < 2) (hP : P < 100) (hg : gf b = nI G) (hp : pf b = nI P) (hd : ∀ m, m < 3 → ∀ j, j < 32 → dm (32 * (3 * b + m) + j) = dx (m * 32 + j)) (hd3 : ∀ m, m < 3 → ∀ j, j < 32 → dm (32 * (3 * b + m) + j) = 0 ∨ dm (32 * (3 * b + m) + j) = 1 ∨ dm (32 * (3 * b + m) + j) = -1) (x y z f1 f2 g1 g2 : Int64) (st : Int32) (hs : ∀ v, ∃ r, f_X8_scaled v st (nr b) = some r ∧ f_X11_moved (nI b) v (-st) nr = some r) : ∃ q : Int64 × Int64, f_X7_finish (nI 5) x y z st f1 f2 (nI G) (nI P) (nr b) (lf b) dx = some q ∧ f_X11_ends (nI b) (nI 5) x y z g1 g2 st gf pf nr lf dm = some q := by
  obtain ⟨r, hs1, hs2⟩ := hs (x + y)
  refine ⟨(ou (nI G) r, ou (nI G) 0), ?_, ?_⟩
  · unfold f_X7_finish
    rw [gv_N (by decide : 5 < 9) (by decide), nI_clamp (by decide), show Int32.ofNat 5 = nI 5 from rfl, gv_N (by decide : 5 < 9) (by decide), nI_clamp (by decide)]
    rw [if_neg (by decide : ¬ swK 5 = 1), if_neg (by decide : ¬ swK 5 = 2), if_neg (by decide : ¬ swK 5 = 3), if_neg (by decide : ¬ swK 5 = 4), if_neg (by decide : ¬ swK 5 = 5), if_pos (by decide : swK 5 = 6)]
    rw [hs1, bd_some]
    rfl
  · unfold f_X11_ends
    rw [if_neg (by decide : ¬ nI 5 = 0), if_neg (by decide : ¬ nI 5 = 1), if_neg (by decide : ¬ nI 5 = 2), if_neg (by decide : ¬ nI 5 = 3), if_neg (by decide : ¬ nI 5 = 4), if_pos (by decide : nI 5 = 5)]
    rw [hs2, bd_some, m_256 hb, hg]
theorem en_6 {b G P : Nat} {gf pf : Nat → Int32} {nr : Nat → Bool} {lf : Nat → Int64} {dm dx : Nat → Int32} (hb : b < 2) (hP : P < 100) (hg : gf b = nI G) (hp : pf b = nI P) (hd : ∀ m, m < 3 → ∀ j, j < 32 → dm (32 * (3 * b + m) + j) = dx (m * 32 + j)) (hd3 : ∀ m, m < 3 → ∀ j, j < 32 → dm (32 * (3 * b + m) + j) = 0 ∨ dm (32 * (3 * b + m) + j) = 1 ∨ dm (32 * (3 * b + m) + j) = -1) (x y z f1 f2 g1 g2 : Int64) (st : Int32) : ∃ q : Int64 × Int64, f_X7_finish (nI 6) x y z st f1 f2 (nI G) (nI P) (nr b) (lf b) dx = some q ∧ f_X11_ends (nI b) (nI 6) x y z g1 g2 st gf pf nr lf dm = some q := by
  refine ⟨(ou (nI G) (((2 : Int64) * z) + (st.toInt64 * (lf b))), ou (nI G) 0), ?_, ?_⟩
  · unfold f_X7_finish
    rw [gv_N (by decide : 6 < 9) (by decide), nI_clamp (by decide), show Int32.ofNat 6 = nI 6 from rfl, gv_N (by decide : 6 < 9) (by decide), nI_clamp (by decide)]
    rw [if_neg (by decide : ¬ swK 6 = 1), if_neg (by decide : ¬ swK 6 = 2), if_neg (by decide : ¬ swK 6 = 3), if_neg (by decide : ¬ swK 6 = 4), if_neg (by decide : ¬ swK 6 = 5), if_neg (by decide : ¬ swK 6 = 6), if_neg (by decide : ¬ swK 6 = 7), if_pos (by decide : swK 6 = 8)]
    rfl
  · unfold f_X11_ends
    rw [if_neg (by decide : ¬ nI 6 = 0), if_neg (by decide : ¬ nI 6 = 1), if_neg (by decide : ¬ nI 6 = 2), if_neg (by decide : ¬ nI 6 = 3), if_neg (by decide : ¬ nI 6 = 4), if_neg (by decide : ¬ nI 6 = 5), if_pos (by decide : nI 6 = 6)]
    rw [gv_N hb (by decide), nI_clamp (by omega), lt_eq, m_256 hb, hg]
theorem en_7 {b G P : Nat} {gf pf : Nat → Int32} {nr : Nat → Bool} {lf : Nat → Int64} {dm dx : Nat → Int32} (hb : b < 2) (hP : P < 100) (hg : gf b = nI G) (hp : pf b = nI P) (hd : ∀ m, m < 3 → ∀ j, j < 32 → dm (32 * (3 * b + m) + j) = dx (m * 32 + j)) (hd3 : ∀ m, m < 3 → ∀ j, j < 32 → dm (32 * (3 * b + m) + j) = 0 ∨ dm (32 * (3 * b + m) + j) = 1 ∨ dm (32 * (3 * b + m) + j) = -1) (x y z f1 f2 g1 g2 : Int64) (st : Int32) (hs : ∀ v, ∃ r, f_X8_scaled v st (nr b) = some r ∧ f_X11_moved (nI b) v (-st) nr = some r) : ∃ q : Int64 × Int64, f_X7_finish (nI 7) x y z st f1 f2 (nI G) (nI P) (nr b) (lf b) dx = some q ∧ f_X11_ends (nI b) (nI 7) x y z g1 g2 st gf pf nr lf dm = some q := by
  have t2x : f_X8_withoutGain 2 x (nI P) (nr b) dx = some (tk P (nr b) (fun i => dx (2 * 32 + i)) x 32 0) := x_take (mode := 2) hP (by decide) _ _ _
  have u2x : f_X11_takenOut (nI b) 2 x pf nr dm = some (tk P (nr b) (fun i => dx (2 * 32 + i)) x 32 0) := by
    rw [show (2 : Int32) = nI 2 from rfl, m_take (mode := 2) hb (by decide) pf hP hp nr dm (hd3 2 (by decide)) _, tk_ext (hd 2 (by decide))]
  obtain ⟨r, hs1, hs2⟩ := hs (tk P (nr b) (fun i => dx (2 * 32 + i)) x 32 0)
  refine ⟨(ou (nI G) r, ou (nI G) 0), ?_, ?_⟩
  · unfold f_X7_finish
    rw [gv_N (by decide : 7 < 9) (by decide), nI_clamp (by decide), show Int32.ofNat 7 = nI 7 from rfl, gv_N (by decide : 7 < 9) (by decide), nI_clamp (by decide)]
    rw [if_neg (by decide : ¬ swK 7 = 1), if_neg (by decide : ¬ swK 7 = 2), if_neg (by decide : ¬ swK 7 = 3), if_neg (by decide : ¬ swK 7 = 4), if_neg (by decide : ¬ swK 7 = 5), if_neg (by decide : ¬ swK 7 = 6), if_neg (by decide : ¬ swK 7 = 7), if_neg (by decide : ¬ swK 7 = 8), if_pos (by decide : swK 7 = 9)]
    rw [t2x, bd_some, hs1, bd_some]
    rfl
  · unfold f_X11_ends
    rw [if_neg (by decide : ¬ nI 7 = 0), if_neg (by decide : ¬ nI 7 = 1), if_neg (by decide : ¬ nI 7 = 2), if_neg (by decide : ¬ nI 7 = 3), if_neg (by decide : ¬ nI 7 = 4), if_neg (by decide : ¬ nI 7 = 5), if_neg (by decide : ¬ nI 7 = 6), if_pos (by decide : nI 7 = 7)]
    rw [u2x, bd_some, hs2, bd_some, m_256 hb, hg]
theorem en_8 {b G P : Nat} {gf pf : Nat → Int32} {nr : Nat → Bool} {lf : Nat → Int64} {dm dx : Nat → Int32} (hb : b < 2) (hP : P < 100) (hg : gf b = nI G) (hp : pf b = nI P) (hd : ∀ m, m < 3 → ∀ j, j < 32 → dm (32 * (3 * b + m) + j) = dx (m * 32 + j)) (hd3 : ∀ m, m < 3 → ∀ j, j < 32 → dm (32 * (3 * b + m) + j) = 0 ∨ dm (32 * (3 * b + m) + j) = 1 ∨ dm (32 * (3 * b + m) + j) = -1) (x y z f1 f2 g1 g2 : Int64) (st : Int32) : ∃ q : Int64 × Int64, f_X7_finish (nI 8) x y z st f1 f2 (nI G) (nI P) (nr b) (lf b) dx = some q ∧ f_X11_ends (nI b) (nI 8) x y z g1 g2 st gf pf nr lf dm = some q := by
  have t0x : f_X8_withoutGain 0 x (nI P) (nr b) dx = some (tk P (nr b) (fun i => dx (0 * 32 + i)) x 32 0) := x_take (mode := 0) hP (by decide) _ _ _
  have u0x : f_X11_takenOut (nI b) 0 x pf nr dm = some (tk P (nr b) (fun i => dx (0 * 32 + i)) x 32 0) := by
    rw [show (0 : Int32) = nI 0 from rfl, m_take (mode := 0) hb (by decide) pf hP hp nr dm (hd3 0 (by decide)) _, tk_ext (hd 0 (by decide))]
  have t0y : f_X8_withoutGain 0 y (nI P) (nr b) dx = some (tk P (nr b) (fun i => dx (0 * 32 + i)) y 32 0) := x_take (mode := 0) hP (by decide) _ _ _
  have u0y : f_X11_takenOut (nI b) 0 y pf nr dm = some (tk P (nr b) (fun i => dx (0 * 32 + i)) y 32 0) := by
    rw [show (0 : Int32) = nI 0 from rfl, m_take (mode := 0) hb (by decide) pf hP hp nr dm (hd3 0 (by decide)) _, tk_ext (hd 0 (by decide))]
  refine ⟨(ou (nI G) (tk P (nr b) (fun i => dx (0 * 32 + i)) x 32 0), ou (nI G) (tk P (nr b) (fun i => dx (0 * 32 + i)) y 32 0)), ?_, ?_⟩
  · unfold f_X7_finish
    rw [gv_N (by decide : 8 < 9) (by decide), nI_clamp (by decide), show Int32.ofNat 8 = nI 8 from rfl, gv_N (by decide : 8 < 9) (by decide), nI_clamp (by decide)]
    rw [if_neg (by decide : ¬ swK 8 = 1), if_neg (by decide : ¬ swK 8 = 2), if_neg (by decide : ¬ swK 8 = 3), if_neg (by decide : ¬ swK 8 = 4), if_neg (by decide : ¬ swK 8 = 5), if_neg (by decide : ¬ swK 8 = 6), if_pos (by decide : swK 8 = 7)]
    unfold f_X7_finish_b240
    rw [t0x, bd_some, t0y, bd_some]
    rfl
  · unfold f_X11_ends
    rw [if_neg (by decide : ¬ nI 8 = 0), if_neg (by decide : ¬ nI 8 = 1), if_neg (by decide : ¬ nI 8 = 2), if_neg (by decide : ¬ nI 8 = 3), if_neg (by decide : ¬ nI 8 = 4), if_neg (by decide : ¬ nI 8 = 5), if_neg (by decide : ¬ nI 8 = 6), if_neg (by decide : ¬ nI 8 = 7)]
    rw [u0x, bd_some, u0y, bd_some, m_256 hb, hg]
