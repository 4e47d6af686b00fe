/-! ===== pure part: results of kinds that name a alone stay small ===== -/
theorem un_b {md N P : Nat} (h : chkT md N P = true) : AB (2 ^ 31) (unV md N P) := by
  have e := (chkT_of h).2.2.2.1
  rw [← e]
  unfold AB
  rw [Int32.toInt_toInt64]
  have h1 := Int32.le_toInt (unV md N P).toInt32
  have h2 := Int32.toInt_lt (unV md N P).toInt32
  omega
theorem gd_f {W k : Nat} {p q r : Int64} (h : gd W k p q r = true) : f_X7_fits (nI k) p q r (nI W) = some true := by
  unfold gd at h
  cases e : f_X7_fits (nI k) p q r (nI W) with
  | none =>
    rw [e] at h
    exact absurd h (by decide)
  | some b =>
    rw [e] at h
    exact congrArg some h
/-- a result, told by its beginning and its end -/
theorem aw_of {W G N k : Nat} {nr : Bool} (B : BD W G N) (hk : k < 9) {p q r : Int64} (hg : gd W k p q r = true) {w1 w2 w3 f1 f2 : Int64} {w4 : Int32} (hb : f_X7_begin (nI k) p q r 0 0 0 0 0 0 0 (nI G) (nI (W + G)) nr ((2 : Int64) * ro e8 (nI (W + G))) (ro ((2 : Int64) * l3) (nI (W + G))) (cu N (W + G)) = some (w1, w2, w3, 0, w4, f1, f2)) {a : Int64 × Int64} (hf : f_X7_finish (nI k) (stF (W + G) nr k (w1, w2, w3) N).1 (stF (W + G) nr k (w1, w2, w3) N).2.1 (stF (W + G) nr k (w1, w2, w3) N).2.2 w4 f1 f2 (nI G) (nI (W + G)) nr (ro ((2 : Int64) * l3) (nI (W + G))) (cd N (W + G)) = some a) : aw W G N nr k p q r = a := by
  have e3 := gt_x (xt_c (W := W) (G := G) (N := N) (nr := nr)) hk B.2.2.2.2 (w1, w2, w3)
  unfold aw f_X7_solve
  rw [gd_f hg, bd_some, if_pos rfl, hb, bd_some]
  dsimp only at e3 ⊢
  rw [e3, bd_some]
  dsimp only
  rw [hf]
  rfl
theorem ln_lo : ∀ P, P < 27 → 6 ≤ P → 2 ^ (P - 1) ≤ (ro ((2 : Int64) * l3) (nI P)).toInt := by decide +kernel
theorem nrs_b {P : Nat} (hP1 : 6 ≤ P) (hP2 : P < 27) {p ln : Int64} (hp : AB (2 ^ (P + 2)) p) (hl1 : 2 ^ (P - 1) ≤ ln.toInt) (hl2 : ln.toInt ≤ 2 ^ 28) : -50 ≤ (nrs p ln).toInt ∧ (nrs p ln).toInt ≤ 10 := by
  have hpP : (2 : Int) ^ (P + 2) = 8 * 2 ^ (P - 1) := by
    obtain ⟨P', rfl⟩ : ∃ P', P = P' + 1 := ⟨P - 1, by omega⟩
    rw [show P' + 1 + 2 = P' + 3 from rfl, show P' + 1 - 1 = P' from rfl, Int.pow_add]
    omega
  have hp3 : (2 : Int) ^ (P - 1) ≤ 2 ^ 25 := two_le (by omega)
  have hc : ((2 ^ (P + 2) : Nat) : Int) = (2 : Int) ^ (P + 2) := p2c (P + 2)
  have h1 := hp.1
  have h2 := hp.2
  rw [hc, hpP] at h1 h2
  have ht : (0 : Int) < 2 ^ (P - 1) := Int.pow_pos (by decide)
  generalize (2 : Int) ^ (P - 1) = t at *
  have e2 : (2 : Int64).toInt = 2 := by decide
  have e1 : ((2 : Int64) * p + ln).toInt = 2 * p.toInt + ln.toInt := by
    rw [Int64.toInt_add, Int64.toInt_mul, e2, Int.bmod_add_bmod, Int.bmod_eq_of_le_mul_two] <;> omega
  have e3 : ((2 : Int64) * ln).toInt = 2 * ln.toInt := by
    rw [Int64.toInt_mul, e2, Int.bmod_eq_of_le_mul_two] <;> omega
  have hd : (((2 : Int64) * p + ln).toInt.tdiv ((2 : Int64) * ln).toInt).natAbs ≤ 8 := by
    rw [Int.natAbs_tdiv, e1, e3]
    have : (2 * p.toInt + ln.toInt).natAbs < 9 * (2 * ln.toInt).natAbs := by omega
    exact Nat.le_of_lt_succ ((Nat.div_lt_iff_lt_mul (by omega)).2 this)
  have h3 : -8 ≤ (((2 : Int64) * p + ln) / ((2 : Int64) * ln)).toInt ∧ (((2 : Int64) * p + ln) / ((2 : Int64) * ln)).toInt ≤ 8 := by
    rw [Int64.toInt_div, Int.bmod_eq_of_le_mul_two] <;> omega
  have h4 : -9 ≤ (fd ((2 : Int64) * p + ln) ((2 : Int64) * ln)).toInt ∧ (fd ((2 : Int64) * p + ln) ((2 : Int64) * ln)).toInt ≤ 8 := by
    unfold fd
    split
    · omega
    · split
      · omega
      · rw [Int64.toInt_sub, show (1 : Int64).toInt = 1 from by decide, Int.bmod_eq_of_le_mul_two] <;> omega
  unfold nrs
  rw [Int64.toInt_toInt32, Int.bmod_eq_of_le_mul_two] <;> omega
theorem AB.of (v : Int64) {m G : Nat} (h : isT v (nI m) = true) (hm : m + G ≤ 60) : AB (2 ^ (m + G)) (v <<< ((nI G).toInt64 &&& 63)) := by
  have h1 := shl_in h hm
  unfold AB
  rw [h1.1, p2c]
  exact h1.2
theorem AB.zero (B : Nat) : AB B 0 := by
  unfold AB
  rw [show (0 : Int64).toInt = 0 from by decide]
  omega
theorem AB.mul {A B : Nat} {x y : Int64} (hx : AB A x) (hy : AB B y) (h : A * B ≤ 2 ^ 61) : AB (A * B) (x * y) := by
  have h1 : (x.toInt * y.toInt).natAbs ≤ A * B := by
    unfold AB at hx hy
    rw [Int.natAbs_mul]
    exact Nat.mul_le_mul (by omega) (by omega)
  unfold AB
  rw [Int64.toInt_mul]
  generalize x.toInt * y.toInt = m at *
  generalize A * B = C at *
  rw [Int.bmod_eq_of_le_mul_two] <;> omega
theorem AB.shl2 {B : Nat} {v : Int64} (h : AB B v) {k : Nat} (hk : k < 62) (hB : B * 2 ^ k ≤ 2 ^ 61) : AB (B * 2 ^ k) (v <<< ((nI k).toInt64 &&& 63)) := by
  have hz : (0 : Int) < 2 ^ k := Int.pow_pos (by decide)
  have h1 : -(B : Int) * 2 ^ k ≤ v.toInt * 2 ^ k := Int.mul_le_mul_of_nonneg_right h.1 (Int.le_of_lt hz)
  have h2 : v.toInt * 2 ^ k ≤ (B : Int) * 2 ^ k := Int.mul_le_mul_of_nonneg_right h.2 (Int.le_of_lt hz)
  have e : ((B * 2 ^ k : Nat) : Int) = (B : Int) * 2 ^ k := by rw [Int.natCast_mul, p2c]
  rw [Int.neg_mul, ← e] at h1
  rw [← e] at h2
  generalize B * 2 ^ k = m at *
  generalize hx : v.toInt * 2 ^ k = x at *
  unfold AB
  rw [shl_toInt (by omega) (by rw [hx]; omega) (by rw [hx]; omega), hx]
  omega
section FnSec
variable (x y z f1 f2 : Int64) (st g P : Int32) (nr : Bool) (ln : Int64) (dx : Nat → Int32)
theorem fn_0 : f_X7_finish (nI 0) x y z st f1 f2 g P nr ln dx = some (ou g (trn st x y).1, ou g (trn st x y).2) := by
  unfold f_X7_finish
  rw [gv_N (by decide : 0 < 9) (by decide), nI_clamp (by decide), show Int32.ofNat 0 = nI 0 from rfl, gv_N (by decide : 0 < 9) (by decide), nI_clamp (by decide)]
  rw [if_pos (by decide : swK 0 = 1)]
  rw [x_trn, bd_some]
  rfl
theorem fn_4 : f_X7_finish (nI 4) x y z st f1 f2 g P nr ln dx = some (ou g x, ou g y) := by
  unfold f_X7_finish
  rw [gv_N (by decide : 4 < 9) (by decide), nI_clamp (by decide), show Int32.ofNat 4 = nI 4 from rfl, gv_N (by decide : 4 < 9) (by decide), nI_clamp (by decide)]
  rw [if_neg (by decide : ¬ swK 4 = 1), if_neg (by decide : ¬ swK 4 = 2), if_neg (by decide : ¬ swK 4 = 3), if_neg (by decide : ¬ swK 4 = 4), if_pos (by decide : swK 4 = 5)]
  rfl
theorem fn_5 {r : Int64} (h : f_X8_scaled (x + y) st nr = some r) : f_X7_finish (nI 5) x y z st f1 f2 g P nr ln dx = some (ou g r, ou g 0) := by
  unfold f_X7_finish
  rw [gv_N (by decide : 5 < 9) (by decide), nI_clamp (by decide), show Int32.ofNat 5 = nI 5 from rfl, gv_N (by decide : 5 < 9) (by decide), nI_clamp (by decide)]
  rw [if_neg (by decide : ¬ swK 5 = 1), if_neg (by decide : ¬ swK 5 = 2), if_neg (by decide : ¬ swK 5 = 3), if_neg (by decide : ¬ swK 5 = 4), if_neg (by decide : ¬ swK 5 = 5), if_pos (by decide : swK 5 = 6)]
  rw [h, bd_some]
  rfl
theorem fn_6 : f_X7_finish (nI 6) x y z st f1 f2 g P nr ln dx = some (ou g (((2 : Int64) * z) + (st.toInt64 * ln)), ou g 0) := by
  unfold f_X7_finish
  rw [gv_N (by decide : 6 < 9) (by decide), nI_clamp (by decide), show Int32.ofNat 6 = nI 6 from rfl, gv_N (by decide : 6 < 9) (by decide), nI_clamp (by decide)]
  rw [if_neg (by decide : ¬ swK 6 = 1), if_neg (by decide : ¬ swK 6 = 2), if_neg (by decide : ¬ swK 6 = 3), if_neg (by decide : ¬ swK 6 = 4), if_neg (by decide : ¬ swK 6 = 5), if_neg (by decide : ¬ swK 6 = 6), if_neg (by decide : ¬ swK 6 = 7), if_pos (by decide : swK 6 = 8)]
  rfl
theorem fn_7 {t r : Int64} (h0 : f_X8_withoutGain 2 x P nr dx = some t) (h : f_X8_scaled t st nr = some r) : f_X7_finish (nI 7) x y z st f1 f2 g P nr ln dx = some (ou g r, ou g 0) := by
  unfold f_X7_finish
  rw [gv_N (by decide : 7 < 9) (by decide), nI_clamp (by decide), show Int32.ofNat 7 = nI 7 from rfl, gv_N (by decide : 7 < 9) (by decide), nI_clamp (by decide)]
  rw [if_neg (by decide : ¬ swK 7 = 1), if_neg (by decide : ¬ swK 7 = 2), if_neg (by decide : ¬ swK 7 = 3), if_neg (by decide : ¬ swK 7 = 4), if_neg (by decide : ¬ swK 7 = 5), if_neg (by decide : ¬ swK 7 = 6), if_neg (by decide : ¬ swK 7 = 7), if_neg (by decide : ¬ swK 7 = 8), if_pos (by decide : swK 7 = 9)]
  rw [h0, bd_some, h, bd_some]
  rfl
end FnSec
section GdSec
variable {W : Nat} (p q r : Int64)
theorem gd_0 : gd W 0 p q r = isT p (nI (W + 5)) := by
  unfold gd f_X7_fits
  rw [gv_N (by decide : 0 < 9) (by decide), nI_clamp (by decide), show Int32.ofNat 0 = nI 0 from rfl, gv_N (by decide : 0 < 9) (by decide), nI_clamp (by decide)]
  rw [if_pos (by decide : swK 0 = 1), x_isTo, bd_some, show nI W + 5 = nI (W + 5) from nI_add W 5]
  rfl
theorem gd_4 : gd W 4 p q r = isT p (nI (W + 0)) := by
  unfold gd f_X7_fits
  rw [gv_N (by decide : 4 < 9) (by decide), nI_clamp (by decide), show Int32.ofNat 4 = nI 4 from rfl, gv_N (by decide : 4 < 9) (by decide), nI_clamp (by decide)]
  rw [if_neg (by decide : ¬ swK 4 = 1), if_neg (by decide : ¬ swK 4 = 2), if_neg (by decide : ¬ swK 4 = 3), if_neg (by decide : ¬ swK 4 = 4), if_pos (by decide : swK 4 = 5), x_isTo, bd_some, show nI W + 0 = nI (W + 0) from nI_add W 0]
  rfl
theorem gd_5 : gd W 5 p q r = isT p (nI (W + 2)) := by
  unfold gd f_X7_fits
  rw [gv_N (by decide : 5 < 9) (by decide), nI_clamp (by decide), show Int32.ofNat 5 = nI 5 from rfl, gv_N (by decide : 5 < 9) (by decide), nI_clamp (by decide)]
  rw [if_neg (by decide : ¬ swK 5 = 1), if_neg (by decide : ¬ swK 5 = 2), if_neg (by decide : ¬ swK 5 = 3), if_neg (by decide : ¬ swK 5 = 4), if_neg (by decide : ¬ swK 5 = 5), if_pos (by decide : swK 5 = 6), x_isTo, bd_some, show nI W + 2 = nI (W + 2) from nI_add W 2]
  rfl
theorem gd_6 : gd W 6 p q r = (if p ≤ 0 then false else isT p (nI (W + 5))) := by
  unfold gd f_X7_fits
  rw [gv_N (by decide : 6 < 9) (by decide), nI_clamp (by decide), show Int32.ofNat 6 = nI 6 from rfl, gv_N (by decide : 6 < 9) (by decide), nI_clamp (by decide)]
  rw [if_neg (by decide : ¬ swK 6 = 1), if_neg (by decide : ¬ swK 6 = 2), if_neg (by decide : ¬ swK 6 = 3), if_neg (by decide : ¬ swK 6 = 4), if_neg (by decide : ¬ swK 6 = 5), if_neg (by decide : ¬ swK 6 = 6), if_neg (by decide : ¬ swK 6 = 7)]
  by_cases h : p ≤ 0
  · rw [if_pos h, if_pos h]
    rfl
  · rw [if_neg h, if_neg h, x_isTo, bd_some, lt_eq, show nI W + 5 = nI (W + 5) from nI_add W 5]
    cases isT p (nI (W + 5)) <;> rfl
theorem gd_7 : gd W 7 p q r = (if p ≤ 0 then false else isT p (nI (W + 5))) := by
  unfold gd f_X7_fits
  rw [gv_N (by decide : 7 < 9) (by decide), nI_clamp (by decide), show Int32.ofNat 7 = nI 7 from rfl, gv_N (by decide : 7 < 9) (by decide), nI_clamp (by decide)]
  rw [if_neg (by decide : ¬ swK 7 = 1), if_neg (by decide : ¬ swK 7 = 2), if_neg (by decide : ¬ swK 7 = 3), if_neg (by decide : ¬ swK 7 = 4), if_neg (by decide : ¬ swK 7 = 5), if_neg (by decide : ¬ swK 7 = 6), if_neg (by decide : ¬ swK 7 = 7)]
  by_cases h : p ≤ 0
  · rw [if_pos h, if_pos h]
    rfl
  · rw [if_neg h, if_neg h, x_isTo, bd_some, lt_eq, show nI W + 5 = nI (W + 5) from nI_add W 5]
    cases isT p (nI (W + 5)) <;> rfl
theorem fi_n : ∀ W, W < 23 → (22 : Int32) - nI W = nI (22 - W) := by decide
theorem fi_T {c : Nat} (hW : W ≤ 22) (hc : c ≤ 5) (h : isT p (nI (W + c)) = true) : isT (fi W p) (nI (22 + c)) = true ∧ (fi W p).toInt = p.toInt * 2 ^ (22 - W) := by
  unfold fi
  rw [fi_n W (by omega)]
  have h1 := shl_in h (G := 22 - W) (by omega)
  rw [show W + c + (22 - W) = 22 + c from by omega] at h1
  refine ⟨(isT_iff _ (by omega)).2 ?_, h1.1⟩
  rw [h1.1]
  exact h1.2
theorem fi_0 (hW : W ≤ 22) : fi W 0 = 0 := by
  unfold fi
  rw [fi_n W (by omega)]
  have : ∀ W, W < 23 → (0 : Int64) <<< ((nI (22 - W)).toInt64 &&& 63) = 0 := by decide
  exact this W (by omega)
theorem fi_pos {c : Nat} (hW : W ≤ 22) (hc : c ≤ 5) (h : isT p (nI (W + c)) = true) (h0 : ¬ p ≤ 0) : ¬ fi W p ≤ 0 := by
  have e := (fi_T p hW hc h).2
  rw [Int64.le_iff_toInt_le, show (0 : Int64).toInt = 0 from by decide] at h0 ⊢
  rw [e]
  have : 0 < p.toInt * 2 ^ (22 - W) := Int.mul_pos (by omega) (Int.pow_pos (by decide))
  omega
theorem gd_up {k : Nat} (hk : k = 0 ∨ k = 4 ∨ k = 5 ∨ k = 6 ∨ k = 7) (hW : W ≤ 22) (h : gd W k p 0 0 = true) : gd 22 k (fi W p) 0 0 = true := by
  rcases hk with rfl | rfl | rfl | rfl | rfl
  · rw [gd_0] at h ⊢
    exact (fi_T p hW (by decide) h).1
  · rw [gd_4] at h ⊢
    exact (fi_T p hW (by decide) h).1
  · rw [gd_5] at h ⊢
    exact (fi_T p hW (by decide) h).1
  · rw [gd_6] at h ⊢
    by_cases h0 : p ≤ 0
    · rw [if_pos h0] at h
      exact absurd h (by decide)
    · rw [if_neg h0] at h
      rw [if_neg (fi_pos p hW (by decide) h h0)]
      exact (fi_T p hW (by decide) h).1
  · rw [gd_7] at h ⊢
    by_cases h0 : p ≤ 0
    · rw [if_pos h0] at h
      exact absurd h (by decide)
    · rw [if_neg h0] at h
      rw [if_neg (fi_pos p hW (by decide) h h0)]
      exact (fi_T p hW (by decide) h).1
end GdSec
theorem st_6 : ∀ c, c < 32 → ∀ P, P < 27 → -50 ≤ (nI (c + 1) - nI P).toInt ∧ (nI (c + 1) - nI P).toInt ≤ 50 := by decide +kernel
theorem hf_b : ∀ c, c < 32 → ∀ P, P < 27 → c ≤ P + 5 → -50 ≤ (hf c P).toInt ∧ (hf c P).toInt ≤ 3 := by decide +kernel
theorem q_b : ∀ P, P < 27 → 6 ≤ P → -(2 ^ 26) ≤ ((1 : Int64) <<< ((nI P - 2).toInt64 &&& 63)).toInt ∧ ((1 : Int64) <<< ((nI P - 2).toInt64 &&& 63)).toInt ≤ 2 ^ 26 := by decide +kernel
theorem hv_b {n c P : Nat} (nr : Bool) (hP1 : 6 ≤ P) (hP2 : P < 27) (hc : c ≤ 31) (hn : n < 2 ^ (c + 1)) (hn2 : n ≤ 2 ^ 31) (hi : (lN n).toInt = n) : AB (2 ^ 28) (hv nr (lN n) c P) := by
  have h : AB n (lN n) := by
    unfold AB
    rw [hi]
    omega
  have hP3 : 2 ^ P ≤ 2 ^ 26 := Nat.pow_le_pow_right (by decide) (by omega)
  unfold hv mvd
  obtain ⟨m, hm⟩ : ∃ m, m = 2 * ((c + 34 - P) / 2) := ⟨_, rfl⟩
  rw [← hm, sgn m (by omega) 32 (by decide)]
  by_cases h32 : 32 ≤ m
  · rw [if_pos h32, if_neg (show ¬ nI (m - 32) < 0 from nI_nlt (a := m - 32) (b := 0) (by omega) (by omega))]
    refine (h.shb (k := m - 32) (by omega) (by omega) nr).mono ?_
    have : n / 2 ^ (m - 32) < 2 ^ P := by
      refine Nat.div_lt_of_lt_mul (Nat.lt_of_lt_of_le hn ?_)
      rw [← Nat.pow_add]
      exact Nat.pow_le_pow_right (by decide) (by omega)
    omega
  · have hs := sgp (32 - m) (by omega) (by omega)
    rw [if_neg h32, if_pos hs.1, hs.2.1]
    have : n * 2 ^ (32 - m) ≤ 2 ^ P := by
      refine Nat.le_trans (Nat.mul_le_mul_right _ (Nat.le_of_lt hn)) ?_
      rw [← Nat.pow_add]
      exact Nat.pow_le_pow_right (by decide) (by omega)
    exact (h.shl2 (by omega) (by omega)).mono (by omega)
section AwbSec
variable {W G N : Nat} {nr : Bool}
theorem P_lt (B : BD W G N) : 6 ≤ W + G ∧ W + G < 27 := by
  obtain ⟨h1, h2, h3, h4, h5⟩ := B
  omega
theorem sta_b (B : BD W G N) {k : Nat} (hk : k < 9) (q : Int64 × Int64 × Int64) (hx : AB (2 ^ 31) q.1) (hy : AB (2 ^ 31) q.2.1) : AB (2 ^ 34) (stF (W + G) nr k q N).1 ∧ AB (2 ^ 34) (stF (W + G) nr k q N).2.1 := by
  have hmd := (kMode_n k hk).2.2
  have h := st_b hmd (M := 2 ^ 31) (fun s hs => Nat.le_trans (bn_ok _ hmd s hs).1 (by decide)) (kTurn k) nr (fun i => anV (kMd k) i (nI (W + G))) q hx hy N B.2.2.2.2
  have e := (bn_ok _ hmd N (by have := B.2.2.2.2; omega)).1
  exact ⟨h.1.mono e, h.2.mono e⟩
theorem awb_0 (B : BD W G N) {p q r : Int64} (hg : gd W 0 p q r = true) : AB (2 ^ 46) (aw W G N nr 0 p q r).1 := by
  have hP := P_lt B
  have hq := t_qu (W + G) hP.2 hP.1
  have hb := xb_0 (G := G) (P := W + G) (nr := nr) (us := cu N (W + G)) (ln := ro ((2 : Int64) * l3) (nI (W + G))) p q r 0 0 0 0 0 0 0 (pos_le hq.1.1) (pos_2 hq.1)
  have hu : AB (2 ^ 31) (cu N (W + G) 0) := un_b (chk_of B 0 (by decide))
  rw [aw_of B (by decide) hg hb (fn_0 _ _ _ _ _ _ _ _ _ _ _)]
  dsimp only
  obtain ⟨hx, hy⟩ := sta_b (nr := nr) B (k := 0) (by decide) (cu N (W + G) 0, 0, ((p <<< ((nI G).toInt64 &&& 63)) - (nrs (p <<< ((nI G).toInt64 &&& 63)) ((2 : Int64) * ro e8 (nI (W + G)))).toInt64 * ((2 : Int64) * ro e8 (nI (W + G))))) hu (AB.zero _)
  refine AB.mono (AB.out (B := 2 ^ 34) ?_ (by decide) B.2.2.1) (by decide)
  unfold trn
  split
  · exact hx
  · split
    · exact hy.neg (by decide)
    · split
      · exact hx.neg (by decide)
      · exact hy
theorem awb_4 (B : BD W G N) {p q r : Int64} (hg : gd W 4 p q r = true) : AB (2 ^ 46) (aw W G N nr 4 p q r).1 := by
  have hb := xb_4 (G := G) (P := W + G) (nr := nr) (us := cu N (W + G)) (qr := (2 : Int64) * ro e8 (nI (W + G))) (ln := ro ((2 : Int64) * l3) (nI (W + G))) p q r 0 0 0 0 0 0 0
  have hu : AB (2 ^ 31) (cu N (W + G) 2) := un_b (chk_of B 2 (by decide))
  rw [aw_of B (by decide) hg hb (fn_4 _ _ _ _ _ _ _ _ _ _ _)]
  dsimp only
  obtain ⟨hx, hy⟩ := sta_b (nr := nr) B (k := 4) (by decide) (cu N (W + G) 2, 0, (p <<< ((nI G).toInt64 &&& 63))) hu (AB.zero _)
  exact AB.mono (AB.out hx (by decide) B.2.2.1) (by decide)
theorem awb_5 (B : BD W G N) {p q r : Int64} (hg : gd W 5 p q r = true) : AB (2 ^ 46) (aw W G N nr 5 p q r).1 := by
  have hP := P_lt B
  have hq := t_qu (W + G) hP.2 hP.1
  have hT : isT p (nI (W + 2)) = true := by rw [← gd_5 p q r]; exact hg
  have hA : AB (2 ^ (W + G + 2)) (p <<< ((nI G).toInt64 &&& 63)) := by
    have := AB.of p hT (G := G) (by have := B.2.1; have := B.2.2.1; omega)
    rw [show W + 2 + G = W + G + 2 from by omega] at this
    exact this
  have hb := xb_5 (G := G) (P := W + G) (nr := nr) (us := cu N (W + G)) (qr := (2 : Int64) * ro e8 (nI (W + G))) p q r 0 0 0 0 0 0 0 (pos_le hq.2.1) (pos_2 hq.2)
  have hn := nrs_b hP.1 hP.2 hA (ln_lo _ hP.2 hP.1) hq.2.2
  have hu : AB (2 ^ 31) (cu N (W + G) 2) := un_b (chk_of B 2 (by decide))
  obtain ⟨hx, hy⟩ := sta_b (nr := nr) B (k := 5) (by decide) (cu N (W + G) 2, 0, ((p <<< ((nI G).toInt64 &&& 63)) - (nrs (p <<< ((nI G).toInt64 &&& 63)) (ro ((2 : Int64) * l3) (nI (W + G)))).toInt64 * (ro ((2 : Int64) * l3) (nI (W + G))))) hu (AB.zero _)
  obtain ⟨s, s1, s2⟩ := sc_b (E := 10) (hx.add hy (by decide)) (by decide) (by decide) hn.1 hn.2 nr
  rw [aw_of B (by decide) hg hb (fn_5 _ _ _ _ _ _ _ _ _ _ _ s1)]
  dsimp only
  exact AB.mono (AB.out s2 (by decide) B.2.2.1) (by decide)
theorem awb_6 (B : BD W G N) {p q r : Int64} (hg : gd W 6 p q r = true) : AB (2 ^ 46) (aw W G N nr 6 p q r).1 := by
  have hP := P_lt B
  have hq := t_qu (W + G) hP.2 hP.1
  rw [gd_6] at hg
  by_cases h0 : p ≤ 0
  · rw [if_pos h0] at hg
    exact absurd hg (by decide)
  have hg2 : gd W 6 p q r = true := by rw [gd_6]; exact hg
  rw [if_neg h0] at hg
  obtain ⟨n, n1, n2, n3, n4⟩ := pre_67 B.2.1 B.2.2.1 hg h0
  have hc := (pwN_is n4 n3).2.2
  have hb := xb_6 (n := n) (G := G) (P := W + G) (nr := nr) (us := cu N (W + G)) (qr := (2 : Int64) * ro e8 (nI (W + G))) (ln := ro ((2 : Int64) * l3) (nI (W + G))) p q r 0 0 0 0 0 0 0 n1 n3 n4 hP.2 (by omega)
  rw [aw_of B (by decide) hg2 hb (fn_6 _ _ _ _ _ _ _ _ _ _ _)]
  dsimp only
  have hz : ∀ u : Int64 × Int64 × Int64, u.2.2 = 0 → AB (2 ^ 32) (stF (W + G) nr 6 u N).2.2 := fun u hu => (st_z hP.1 hP.2 (kTurn 6) nr (fun i => nI (shT 2 i)) u hu N B.2.2.2.2).mono (by have := B.2.2.2.2; omega)
  have hs := st_6 (pwN n) (by omega) (W + G) hP.2
  have hs2 : AB 50 (nI (pwN n + 1) - nI (W + G)).toInt64 := by
    unfold AB
    rw [Int32.toInt_toInt64]
    exact hs
  have hl : AB (2 ^ 28) (ro ((2 : Int64) * l3) (nI (W + G))) := by
    unfold AB
    omega
  have h2 : AB 2 (2 : Int64) := ⟨by decide, by decide⟩
  refine AB.mono (AB.out (B := 2 * 2 ^ 32 + 50 * 2 ^ 28) ?_ (by decide) B.2.2.1) (by decide)
  exact (h2.mul (hz _ rfl) (by decide)).add (hs2.mul hl (by decide)) (by decide)
theorem awb_7 (B : BD W G N) {p q r : Int64} (hg : gd W 7 p q r = true) : AB (2 ^ 46) (aw W G N nr 7 p q r).1 := by
  have hP := P_lt B
  rw [gd_7] at hg
  by_cases h0 : p ≤ 0
  · rw [if_pos h0] at hg
    exact absurd hg (by decide)
  have hg2 : gd W 7 p q r = true := by rw [gd_7]; exact hg
  rw [if_neg h0] at hg
  obtain ⟨n, n1, n2, n3, n4⟩ := pre_67 B.2.1 B.2.2.1 hg h0
  obtain ⟨hc1, hc2, hc⟩ := pwN_is n4 n3
  have hle : pwN n ≤ W + G + 5 := by
    have a1 := shl_in hg (G := G) (by have := B.2.1; have := B.2.2.1; omega)
    rw [n1, n2] at a1
    have a2 : (n : Int) ≤ 2 ^ (W + 5 + G) := by
      have := a1.2.2
      rw [← a1.1] at this
      exact this
    have a3 : n ≤ 2 ^ (W + 5 + G) := by exact_mod_cast a2
    have a4 : 2 ^ pwN n ≤ 2 ^ (W + 5 + G) := Nat.le_trans hc1 a3
    have := (Nat.pow_le_pow_iff_right (by decide : 1 < 2)).1 a4
    omega
  have hb := xb_7 (n := n) (G := G) (P := W + G) (nr := nr) (us := cu N (W + G)) (qr := (2 : Int64) * ro e8 (nI (W + G))) (ln := ro ((2 : Int64) * l3) (nI (W + G))) p q r 0 0 0 0 0 0 0 n1 n3 n4 hP.2 (by omega)
  have hv1 := hv_b nr hP.1 hP.2 hc hc2 n4 n2
  have hq1 : AB (2 ^ 26) ((1 : Int64) <<< ((nI (W + G) - 2).toInt64 &&& 63)) := q_b _ hP.2 hP.1
  obtain ⟨hx, hy⟩ := sta_b (nr := nr) B (k := 7) (by decide) (hv nr (lN n) (pwN n) (W + G) + ((1 : Int64) <<< ((nI (W + G) - 2).toInt64 &&& 63)), hv nr (lN n) (pwN n) (W + G) - ((1 : Int64) <<< ((nI (W + G) - 2).toInt64 &&& 63)), 0) ((hv1.add hq1 (by decide)).mono (by decide)) ((hv1.sub hq1 (by decide)).mono (by decide))
  have hcd := chkD_in 32 _ (chkT_of (chk_of B 2 (by decide))).2.2.2.2
  have ecd : ∀ j, j < 32 → cd N (W + G) (2 * 32 + j) = dX (itX j (unV 2 N (W + G))) := by
    intro j hj
    unfold cd
    rw [show (2 * 32 + j) % 32 = j from by omega, show (2 * 32 + j) / 32 = 2 from by omega]
  have htk := tk_b (P := W + G) (V := 2 ^ 34) hP.2 (by decide) nr (fun i => cd N (W + G) (2 * 32 + i)) _ hx (fun j hj => by
    rw [ecd j hj]
    exact hcd j hj) (fun j hj hj2 => by
    rw [ecd j hj]
    exact dg_z B.2.2.2.1 (by have := B.2.2.2.2; omega) hP.1 hP.2 hj2) 32 0 0 (by decide) (AB.zero 0) (by decide)
  have hsb := hf_b (pwN n) (by omega) (W + G) hP.2 hle
  obtain ⟨s, s1, s2⟩ := sc_b (V := 2 ^ 41) (E := 3) (htk.mono (by decide)) (by decide) (by decide) hsb.1 hsb.2 nr
  have ht : f_X8_withoutGain 2 (stF (W + G) nr 7 (hv nr (lN n) (pwN n) (W + G) + ((1 : Int64) <<< ((nI (W + G) - 2).toInt64 &&& 63)), hv nr (lN n) (pwN n) (W + G) - ((1 : Int64) <<< ((nI (W + G) - 2).toInt64 &&& 63)), 0) N).1 (nI (W + G)) nr (cd N (W + G)) = some (tk (W + G) nr (fun i => cd N (W + G) (2 * 32 + i)) (stF (W + G) nr 7 (hv nr (lN n) (pwN n) (W + G) + ((1 : Int64) <<< ((nI (W + G) - 2).toInt64 &&& 63)), hv nr (lN n) (pwN n) (W + G) - ((1 : Int64) <<< ((nI (W + G) - 2).toInt64 &&& 63)), 0) N).1 32 0) := x_take (P := W + G) (mode := 2) (by omega) (by decide) nr (cd N (W + G)) _
  rw [aw_of B (by decide) hg2 hb (fn_7 _ _ _ _ _ _ _ _ _ _ _ ht s1)]
  dsimp only
  exact AB.mono (AB.out s2 (by decide) B.2.2.1) (by decide)
theorem awb (B : BD W G N) {k : Nat} (hk : k = 0 ∨ k = 4 ∨ k = 5 ∨ k = 6 ∨ k = 7) {p q r : Int64} (hg : gd W k p q r = true) : AB (2 ^ 46) (aw W G N nr k p q r).1 := by
  rcases hk with rfl | rfl | rfl | rfl | rfl
  · exact awb_0 B hg
  · exact awb_4 B hg
  · exact awb_5 B hg
  · exact awb_6 B hg
  · exact awb_7 B hg
end AwbSec
