/-! ===== pure part: going over a tape ===== -/
def cf (tb : Nat → Int32) (i : Nat) : Nat := (tb i).toNatClampNeg
theorem tp_c {L : Nat} {tb mt : Nat → Int32} (h : TP L tb mt) {i : Nat} (hi : i < L) : 1 ≤ cf tb i ∧ cf tb i < 256 ∧ tb i = nI (cf tb i) ∧ mt i = byt (cf tb i) := by
  obtain ⟨c, h1, h2, h3, h4⟩ := h.2 i hi
  have e : cf tb i = c := by
    unfold cf
    rw [h3, nI_clamp (by omega)]
  rw [e]
  exact ⟨h1, h2, h3, h4⟩
theorem c_eq {c d : Nat} (hc : c < 256) (hd : d < 256) : nI c = nI d ↔ c = d := nI_eq (by omega) (by omega)
theorem e32 {c : Nat} (hc : c < 256) : nI c = 32 ↔ c = 32 := c_eq (d := 32) hc (by decide)
theorem e39 {c : Nat} (hc : c < 256) : nI c = 39 ↔ c = 39 := c_eq (d := 39) hc (by decide)
theorem e45 {c : Nat} (hc : c < 256) : nI c = 45 ↔ c = 45 := c_eq (d := 45) hc (by decide)
theorem e59 {c : Nat} (hc : c < 256) : nI c = 59 ↔ c = 59 := c_eq (d := 59) hc (by decide)
theorem e64 {c : Nat} (hc : c < 256) : nI c = 64 ↔ c = 64 := c_eq (d := 64) hc (by decide)
def isB (c : Nat) : Bool := decide (c = 32)
theorem isB_t {c : Nat} (h : c = 32) : isB c = true := decide_eq_true h
def isL (c : Nat) : Bool := decide (97 ≤ c ∧ c ≤ 122)
def isD (c : Nat) : Bool := decide (48 ≤ c ∧ c ≤ 57)
/-- on from i as long as p holds, n at the most -/
def rn (p : Nat → Bool) (c : Nat → Nat) : Nat → Nat → Nat
  | 0, i => i
  | n + 1, i => if p (c i) = true then rn p c n (i + 1) else i
theorem rn_le (p : Nat → Bool) (c : Nat → Nat) : ∀ n i, i ≤ rn p c n i ∧ rn p c n i ≤ i + n
  | 0, i => ⟨Nat.le_refl _, Nat.le_refl _⟩
  | n + 1, i => by
    have h := rn_le p c n (i + 1)
    rw [rn]
    split
    · omega
    · omega
theorem rn_all (p : Nat → Bool) (c : Nat → Nat) : ∀ n i j, i ≤ j → j < rn p c n i → p (c j) = true
  | 0, i, j => fun h1 h2 => by
    have : j < i := h2
    omega
  | n + 1, i, j => fun h1 h2 => by
    rw [rn] at h2
    by_cases hp : p (c i) = true
    · rw [if_pos hp] at h2
      rcases Nat.eq_or_lt_of_le h1 with rfl | h3
      · exact hp
      · exact rn_all p c n (i + 1) j h3 h2
    · rw [if_neg hp] at h2
      omega
theorem rn_end (p : Nat → Bool) (c : Nat → Nat) : ∀ n i, rn p c n i < i + n → p (c (rn p c n i)) = false
  | 0, i => fun h => by
    have : i < i := h
    omega
  | n + 1, i => fun h => by
    rw [rn] at h ⊢
    by_cases hp : p (c i) = true
    · rw [if_pos hp] at h ⊢
      exact rn_end p c n (i + 1) (by omega)
    · rw [if_neg hp]
      exact Bool.eq_false_iff.2 hp
theorem byt_and : ∀ c, c < 256 → byt c &&& 255 = nI c := by decide +kernel
theorem byt_let : ∀ c, c < 256 → (isL c = true → ¬ byt c < 97 ∧ ¬ (122 : Int32) < byt c) ∧ (isL c = false → byt c < 97 ∨ (122 : Int32) < byt c) := by decide +kernel
theorem let_x : ∀ c, c < 256 → (isL c = true → ¬ nI c < 97 ∧ ¬ (122 : Int32) < nI c) ∧ (isL c = false → nI c < 97 ∨ (122 : Int32) < nI c) := by decide +kernel
theorem dig_x : ∀ c, c < 256 → (isD c = true → ¬ nI c < 48 ∧ ¬ (57 : Int32) < nI c) ∧ (isD c = false → nI c < 48 ∨ (57 : Int32) < nI c) := by decide +kernel
theorem byt_low : ∀ c, c < 128 → byt c = nI c := by decide +kernel
theorem byt_hi : ∀ c, c < 256 → 128 ≤ c → byt c < 0 := by decide +kernel
section ScanSec
variable {L : Nat} {tb mt : Nat → Int32}
theorem hx (h : TP L tb mt) {i : Nat} (hi : i < L) : f_X5_here (nI i) (nI L) tb = some (nI (cf tb i)) := by
  have hL := h.1
  unfold f_X5_here
  rw [if_neg (nI_pos (by omega)), if_neg (nI_ge (by omega) (by omega)), gv_N (by omega) (by decide), nI_clamp (by omega), ← (tp_c h hi).2.2.1]
theorem hx_e (hL : L ≤ 400) : f_X5_here (nI L) (nI L) tb = some 0 := by
  unfold f_X5_here
  rw [if_neg (nI_pos (by omega)), if_pos (nI_le (Nat.le_refl L) (by omega))]
  rfl
theorem hm (h : TP L tb mt) {i : Nat} (hi : i < L) : f_X11_here (nI L) (nI i) mt = some (nI (cf tb i)) := by
  have hL := h.1
  have ht := tp_c h hi
  unfold f_X11_here
  rw [if_neg (nI_ge (by omega) (by omega)), gv_N (by omega) (by decide), nI_clamp (by omega), ht.2.2.2, byt_and _ ht.2.1]
theorem hm_e (hL : L ≤ 400) : f_X11_here (nI L) (nI L) mt = some (-1) := by
  unfold f_X11_here
  rw [if_pos (nI_le (Nat.le_refl L) (by omega))]
theorem skl (h : TP L tb mt) : ∀ (n i f : Nat), n + i = L → n < f → f_X5_skipBlanks_l0 (nI L) tb f (nI i) = some (nI (rn isB (cf tb) n i))
  | 0, i, f => by
    intro h1 h2
    have hL := h.1
    obtain ⟨f, rfl⟩ : ∃ f', f = f' + 1 := ⟨f - 1, by omega⟩
    rw [f_X5_skipBlanks_l0, if_pos (nI_le (by omega) (by omega))]
    rfl
  | n + 1, i, f => by
    intro h1 h2
    have hL := h.1
    obtain ⟨f, rfl⟩ : ∃ f', f = f' + 1 := ⟨f - 1, by omega⟩
    have hi : i < L := by omega
    rw [f_X5_skipBlanks_l0, if_neg (nI_ge hi (by omega)), hx h hi, bd_some, rn]
    by_cases hc : cf tb i = 32
    · rw [if_pos ((e32 (tp_c h hi).2.1).2 hc), if_pos (isB_t hc), lt_eq, nI_p1]
      exact skl h n (i + 1) f (by omega) (by omega)
    · rw [if_neg (fun e => hc ((e32 (tp_c h hi).2.1).1 e)), if_neg (by unfold isB; rw [decide_eq_false hc]; decide)]
/-- behind blanks -/
def sk (L : Nat) (tb : Nat → Int32) (i : Nat) : Nat := rn isB (cf tb) (L - i) i
theorem sk_x (h : TP L tb mt) {i : Nat} (hi : i ≤ L) : f_X5_skipBlanks (nI i) (nI L) tb = some (nI (sk L tb i)) := by
  have hL := h.1
  exact skl h (L - i) i FU (by omega) (by show L - i < 5000; omega)
theorem sk_le {i : Nat} (hi : i ≤ L) : i ≤ sk L tb i ∧ sk L tb i ≤ L := by
  have h := rn_le isB (cf tb) (L - i) i
  unfold sk
  omega
/-- what stands at i, as the reference tells it -/
def hv' (L : Nat) (tb : Nat → Int32) (i : Nat) : Int32 := if i < L then nI (cf tb i) else -1
theorem hm' (h : TP L tb mt) {i : Nat} (hi : i ≤ L) : f_X11_here (nI L) (nI i) mt = some (hv' L tb i) := by
  unfold hv'
  by_cases h1 : i < L
  · rw [if_pos h1]
    exact hm h h1
  · rw [if_neg h1]
    obtain rfl : i = L := by omega
    exact hm_e h.1
theorem lkl (h : TP L tb mt) : ∀ (n i f : Nat), n + i = L → n < f → f_X11_look_l0 (nI L) mt f (nI i) = some (hv' L tb (rn isB (cf tb) n i), nI (rn isB (cf tb) n i))
  | 0, i, f => by
    intro h1 h2
    have hL := h.1
    obtain ⟨f, rfl⟩ : ∃ f', f = f' + 1 := ⟨f - 1, by omega⟩
    have hi : ¬ i < L := by omega
    rw [f_X11_look_l0, hm' h (by omega), bd_some]
    have e : hv' L tb i = -1 := if_neg hi
    rw [e, if_neg (by decide), bd_some, rn, e]
  | n + 1, i, f => by
    intro h1 h2
    have hL := h.1
    obtain ⟨f, rfl⟩ : ∃ f', f = f' + 1 := ⟨f - 1, by omega⟩
    have hi : i < L := by omega
    rw [f_X11_look_l0, hm' h (by omega), bd_some, rn]
    have e : hv' L tb i = nI (cf tb i) := if_pos hi
    by_cases hc : cf tb i = 32
    · rw [e, if_pos ((e32 (tp_c h hi).2.1).2 hc), if_pos (isB_t hc), lt_eq, nI_p1]
      exact lkl h n (i + 1) f (by omega) (by omega)
    · rw [if_neg (show ¬ hv' L tb i = 32 from fun x => hc ((e32 (tp_c h hi).2.1).1 (e.symm.trans x))), if_neg (by unfold isB; rw [decide_eq_false hc]; decide), bd_some]
theorem lk_m (h : TP L tb mt) {i : Nat} (hi : i ≤ L) : f_X11_look (nI L) (nI i) mt = some (hv' L tb (sk L tb i), nI (sk L tb i)) := by
  have hL := h.1
  exact lkl h (L - i) i FU (by omega) (by show L - i < 5000; omega)
theorem onl_x (h : TP L tb mt) {i : Nat} (hi : i < L) : f_X5_isOnLetter (nI i) (nI L) tb = some (isL (cf tb i)) := by
  unfold f_X5_isOnLetter f_X5_isOnLetter_b22
  rw [hx h hi, bd_some, bd_some, lt_eq]
  have t := let_x _ (tp_c h hi).2.1
  cases hl : isL (cf tb i) with
  | true => rw [if_neg (t.1 hl).1, if_neg (t.1 hl).2]
  | false =>
    by_cases h1 : nI (cf tb i) < 97
    · rw [if_pos h1]
    · rw [if_neg h1, if_pos ((t.2 hl).resolve_left h1)]
theorem ond_x (h : TP L tb mt) {i : Nat} (hi : i < L) : f_X5_isOnDigit (nI i) (nI L) tb = some (isD (cf tb i)) := by
  unfold f_X5_isOnDigit f_X5_isOnDigit_b22
  rw [hx h hi, bd_some, bd_some, lt_eq]
  have t := dig_x _ (tp_c h hi).2.1
  cases hl : isD (cf tb i) with
  | true => rw [if_neg (t.1 hl).1, if_neg (t.1 hl).2]
  | false =>
    by_cases h1 : nI (cf tb i) < 48
    · rw [if_pos h1]
    · rw [if_neg h1, if_pos ((t.2 hl).resolve_left h1)]
theorem pll (h : TP L tb mt) : ∀ (n i f : Nat), n + i = L → n < f → f_X5_passLetters_l0 (nI L) tb f (nI i) = some (nI (rn isL (cf tb) n i))
  | 0, i, f => by
    intro h1 h2
    have hL := h.1
    obtain ⟨f, rfl⟩ : ∃ f', f = f' + 1 := ⟨f - 1, by omega⟩
    rw [f_X5_passLetters_l0, if_pos (nI_le (by omega) (by omega))]
    rfl
  | n + 1, i, f => by
    intro h1 h2
    have hL := h.1
    obtain ⟨f, rfl⟩ : ∃ f', f = f' + 1 := ⟨f - 1, by omega⟩
    have hi : i < L := by omega
    rw [f_X5_passLetters_l0, if_neg (nI_ge hi (by omega)), onl_x h hi, bd_some, rn]
    by_cases hc : isL (cf tb i) = true
    · rw [if_pos hc, if_pos hc, lt_eq, nI_p1]
      exact pll h n (i + 1) f (by omega) (by omega)
    · rw [if_neg hc, if_neg hc]
def pl' (L : Nat) (tb : Nat → Int32) (i : Nat) : Nat := rn isL (cf tb) (L - i) i
theorem pl_x (h : TP L tb mt) {i : Nat} (hi : i ≤ L) : f_X5_passLetters (nI i) (nI L) tb = some (nI (pl' L tb i)) := by
  have hL := h.1
  exact pll h (L - i) i FU (by omega) (by show L - i < 5000; omega)
theorem pl_le {i : Nat} (hi : i ≤ L) : i ≤ pl' L tb i ∧ pl' L tb i ≤ L := by
  have h := rn_le isL (cf tb) (L - i) i
  unfold pl'
  omega
theorem wel (h : TP L tb mt) (a : Int32) : ∀ (n i f : Nat), n + i = L → n < f → f_X11_wordEnd_l5 (nI L) a mt f (nI i) = some (nI (rn isL (cf tb) n i))
  | 0, i, f => by
    intro h1 h2
    have hL := h.1
    obtain ⟨f, rfl⟩ : ∃ f', f = f' + 1 := ⟨f - 1, by omega⟩
    rw [f_X11_wordEnd_l5, if_pos (nI_le (by omega) (by omega))]
    rfl
  | n + 1, i, f => by
    intro h1 h2
    have hL := h.1
    obtain ⟨f, rfl⟩ : ∃ f', f = f' + 1 := ⟨f - 1, by omega⟩
    have hi : i < L := by omega
    have ht := tp_c h hi
    have t := byt_let _ ht.2.1
    rw [f_X11_wordEnd_l5, if_neg (nI_ge hi (by omega)), gv_N (by omega) (by decide), nI_clamp (by omega), ht.2.2.2, rn]
    unfold f_X11_wordEnd_b41
    by_cases hc : isL (cf tb i) = true
    · rw [if_neg (t.1 hc).1, gv_N (by omega) (by decide), if_neg (t.1 hc).2, if_pos hc, lt_eq, nI_p1]
      exact wel h a n (i + 1) f (by omega) (by omega)
    · rw [if_neg hc]
      by_cases h3 : byt (cf tb i) < 97
      · rw [if_pos h3]
      · rw [if_neg h3, gv_N (by omega) (by decide), if_pos ((t.2 (Bool.eq_false_iff.2 hc)).resolve_left h3)]
theorem we_m (h : TP L tb mt) {i : Nat} (hi : i ≤ L) : f_X11_wordEnd (nI L) (nI i) mt = some (nI (pl' L tb i)) := by
  have hL := h.1
  exact wel h (nI i) (L - i) i FU (by omega) (by show L - i < 5000; omega)
theorem pdl (h : TP L tb mt) : ∀ (n i f : Nat), n + i = L → n < f → f_X5_passDigits_l0 (nI L) tb f (nI i) = some (nI (rn isD (cf tb) n i))
  | 0, i, f => by
    intro h1 h2
    have hL := h.1
    obtain ⟨f, rfl⟩ : ∃ f', f = f' + 1 := ⟨f - 1, by omega⟩
    rw [f_X5_passDigits_l0, if_pos (nI_le (by omega) (by omega))]
    rfl
  | n + 1, i, f => by
    intro h1 h2
    have hL := h.1
    obtain ⟨f, rfl⟩ : ∃ f', f = f' + 1 := ⟨f - 1, by omega⟩
    have hi : i < L := by omega
    rw [f_X5_passDigits_l0, if_neg (nI_ge hi (by omega)), ond_x h hi, bd_some, rn]
    by_cases hc : isD (cf tb i) = true
    · rw [if_pos hc, if_pos hc, lt_eq, nI_p1]
      exact pdl h n (i + 1) f (by omega) (by omega)
    · rw [if_neg hc, if_neg hc]
def pd (L : Nat) (tb : Nat → Int32) (i : Nat) : Nat := rn isD (cf tb) (L - i) i
theorem pd_x (h : TP L tb mt) {i : Nat} (hi : i ≤ L) : f_X5_passDigits (nI i) (nI L) tb = some (nI (pd L tb i)) := by
  have hL := h.1
  exact pdl h (L - i) i FU (by omega) (by show L - i < 5000; omega)
theorem pd_le {i : Nat} (hi : i ≤ L) : i ≤ pd L tb i ∧ pd L tb i ≤ L := by
  have h := rn_le isD (cf tb) (L - i) i
  unfold pd
  omega
theorem pd_all {i j : Nat} (h1 : i ≤ j) (h2 : j < pd L tb i) : isD (cf tb j) = true := rn_all isD (cf tb) _ i j h1 h2
theorem pd_end {i : Nat} (hi : i ≤ L) (h : pd L tb i < L) : isD (cf tb (pd L tb i)) = false := by
  unfold pd at h ⊢
  exact rn_end isD (cf tb) (L - i) i (by omega)
theorem isd_m (h : TP L tb mt) {i : Nat} (hi : i ≤ L) : f_X11_isDigit (hv' L tb i) = some (decide (i < L) && isD (cf tb i)) := by
  unfold f_X11_isDigit hv'
  rw [lt_eq]
  by_cases h1 : i < L
  · rw [if_pos h1, decide_eq_true h1, Bool.true_and]
    have t := dig_x _ (tp_c h h1).2.1
    cases hl : isD (cf tb i) with
    | true => rw [if_neg (t.1 hl).1, if_neg (t.1 hl).2]
    | false =>
      by_cases h2 : nI (cf tb i) < 48
      · rw [if_pos h2]
      · rw [if_neg h2, if_pos ((t.2 hl).resolve_left h2)]
  · rw [if_neg h1, decide_eq_false h1, Bool.false_and]
    rfl
/-! the value of digits -/
def vl (c : Nat → Nat) (q : Nat) : Nat → Nat
  | 0 => 0
  | n + 1 => 10 * vl c q n + (c (q + n) - 48)
theorem vl_lt (c : Nat → Nat) (q : Nat) : ∀ n, (∀ j, q ≤ j → j < q + n → isD (c j) = true) → vl c q n < 10 ^ n
  | 0, _ => by
    show 0 < 10 ^ 0
    decide
  | n + 1, h => by
    have h1 := vl_lt c q n (fun j h2 h3 => h j h2 (by omega))
    have h2 := of_decide_eq_true (h (q + n) (by omega) (by omega))
    rw [vl, Nat.pow_succ]
    omega
theorem vl_step {v c : Nat} (hc : isD c = true) : ((10 : Int32) * nI v + nI c) - 48 = nI (10 * v + (c - 48)) := by
  have h := of_decide_eq_true hc
  rw [show (10 : Int32) = nI 10 from rfl, nI_mul, nI_add, show (48 : Int32) = nI 48 from rfl, pk_sub (by omega), show 10 * v + c - 48 = 10 * v + (c - 48) from by omega]
theorem nul (h : TP L tb mt) {q d : Nat} (hd : d ≤ L) (hD : ∀ j, q ≤ j → j < d → isD (cf tb j) = true) : ∀ (n k f : Nat), n + k = d - q → q ≤ d → n < f → f_X5_number_l4 (nI d) (nI L) tb f (nI (vl (cf tb) q k)) (nI (q + k)) = some (nI (vl (cf tb) q (d - q)))
  | 0, k, f => by
    intro h1 h2 h3
    have hL := h.1
    obtain ⟨f, rfl⟩ : ∃ f', f = f' + 1 := ⟨f - 1, by omega⟩
    rw [f_X5_number_l4, if_neg (nI_pos (by omega)), if_pos (nI_le (by omega) (by omega))]
    unfold f_X5_number_b51
    rw [show k = d - q from by omega]
  | n + 1, k, f => by
    intro h1 h2 h3
    have hL := h.1
    obtain ⟨f, rfl⟩ : ∃ f', f = f' + 1 := ⟨f - 1, by omega⟩
    have hk : q + k < L := by omega
    rw [f_X5_number_l4, if_neg (nI_pos (by omega)), if_neg (nI_ge (by omega) (by omega)), if_neg (nI_ge hk (by omega)), gv_N (by omega) (by decide), nI_clamp (by omega), (tp_c h hk).2.2.1, vl_step (hD _ (by omega) (by omega)), lt_eq, lt_eq, nI_p1]
    exact nul h hd hD n (k + 1) f (by omega) h2 (by omega)
theorem nu_x (h : TP L tb mt) {q d : Nat} (hq : q ≤ d) (hd : d ≤ L) (hD : ∀ j, q ≤ j → j < d → isD (cf tb j) = true) : f_X5_number (nI q) (nI d) (nI L) tb = some (nI (vl (cf tb) q (d - q))) := by
  have hL := h.1
  exact nul h hd hD (d - q) 0 FU (by omega) hq (by show d - q < 5000; omega)
/-! words -/
def aC (c : Nat → Nat) (i : Nat) : List Nat → Bool
  | [] => true
  | x :: xs => if c i = x then aC c (i + 1) xs else false
/-- the word ws stands from i to e -/
def wq (c : Nat → Nat) (i e : Nat) (ws : List Nat) : Bool := decide (e - i = ws.length) && aC c i ws
theorem aC_in (c : Nat → Nat) : ∀ (ws : List Nat) (i : Nat), aC c i ws = true → ∀ k, k < ws.length → ws.getD k 0 = c (i + k)
  | [], i => fun _ k hk => absurd hk (Nat.not_lt_zero k)
  | x :: xs, i => fun h k hk => by
    rw [aC] at h
    by_cases hx : c i = x
    · rw [if_pos hx] at h
      cases k with
      | zero => exact hx.symm
      | succ k =>
        have := aC_in c xs (i + 1) h k (Nat.lt_of_succ_lt_succ hk)
        rw [show i + (k + 1) = i + 1 + k from by omega]
        exact this
    · rw [if_neg hx] at h
      exact absurd h (by decide)
theorem aC_eq (c : Nat → Nat) : ∀ (a b : List Nat) (i : Nat), a.length = b.length → aC c i a = true → aC c i b = true → a = b
  | [], [], _, _, _, _ => rfl
  | [], y :: ys, _, h, _, _ => absurd h (by simp)
  | x :: xs, [], _, h, _, _ => absurd h (by simp)
  | x :: xs, y :: ys, i, h, h1, h2 => by
    rw [aC] at h1 h2
    by_cases hx : c i = x
    · by_cases hy : c i = y
      · rw [if_pos hx] at h1
        rw [if_pos hy] at h2
        rw [← hx, ← hy, aC_eq c xs ys (i + 1) (Nat.succ.inj h) h1 h2]
      · rw [if_neg hy] at h2
        exact absurd h2 (by decide)
    · rw [if_neg hx] at h1
      exact absurd h1 (by decide)
theorem wq_inj {c : Nat → Nat} {i e : Nat} {a b : List Nat} (h1 : wq c i e a = true) (h2 : wq c i e b = true) : a = b := by
  unfold wq at h1 h2
  rw [Bool.and_eq_true] at h1 h2
  have e1 := of_decide_eq_true h1.1
  have e2 := of_decide_eq_true h2.1
  exact aC_eq c a b i (by omega) h1.2 h2.2
/-- the k-th word of the class and of the reference -/
def wd (si : Nat) : List Nat := sTab.getD si []
theorem wd_ok : ∀ si, si < 30 → ((wd si).length ≤ 6 ∧ 1 ≤ (wd si).length ∧ ∀ k, k < 6 → (wd si).getD k 0 < 128) := by decide +kernel
theorem aC_drop (c : Nat → Nat) (ws : List Nat) (i k : Nat) (hk : k < ws.length) : aC c (i + k) (ws.drop k) = if c (i + k) = ws.getD k 0 then aC c (i + (k + 1)) (ws.drop (k + 1)) else false := by
  have e : ws.drop k = ws.getD k 0 :: ws.drop (k + 1) := by
    rw [List.drop_eq_getElem_cons hk, List.getD_eq_getElem?_getD, List.getElem?_eq_getElem hk]
    rfl
  rw [e, aC]
  rfl
theorem rdl (h : TP L tb mt) {si p e : Nat} (hsi : si < 30) (a : Int32) (he : e ≤ L) (hpe : e - p = (wd si).length) : ∀ (n k f : Nat), n + k = (wd si).length → n < f → f_X5_reads_l35 si a (nI L) tb f (nI p) (nI k) = some (aC (cf tb) (p + k) ((wd si).drop k))
  | 0, k, f => by
    intro h1 h2
    have hw := wd_ok si hsi
    obtain ⟨f, rfl⟩ : ∃ f', f = f' + 1 := ⟨f - 1, by omega⟩
    rw [f_X5_reads_l35, if_pos (show Int32.ofNat (sL si) ≤ nI k from nI_le (show (wd si).length ≤ k by omega) (by omega)), List.drop_eq_nil_of_le (by omega)]
    rfl
  | n + 1, k, f => by
    intro h1 h2
    have hL := h.1
    have hw := wd_ok si hsi
    obtain ⟨f, rfl⟩ : ∃ f', f = f' + 1 := ⟨f - 1, by omega⟩
    have hk : k < (wd si).length := by omega
    have hpk : p + k < L := by omega
    have ht := tp_c h hpk
    have hz : (wd si).getD k 0 < 128 := hw.2.2 k (by omega)
    rw [f_X5_reads_l35, if_neg (show ¬ Int32.ofNat (sL si) ≤ nI k from nI_ge hk (show (wd si).length < 2 ^ 31 by omega)), nI_add, gv_N (by omega) (by decide), gv_N (N := sL si) hk (show (wd si).length < 2 ^ 31 by omega), nI_clamp (by omega), nI_clamp (by omega), ht.2.2.1, aC_drop _ _ _ _ hk]
    by_cases hc : cf tb (p + k) = (wd si).getD k 0
    · rw [if_pos (show nI (cf tb (p + k)) = sCh si k from congrArg nI hc), if_pos hc, lt_eq, nI_p1]
      exact rdl h hsi a he hpe n (k + 1) f (by omega) (by omega)
    · rw [if_neg (show ¬ nI (cf tb (p + k)) = sCh si k from fun x => hc ((c_eq (d := (wd si).getD k 0) ht.2.1 (by omega)).1 x)), if_neg hc]
theorem rd_x (h : TP L tb mt) {si p e : Nat} (hsi : si < 30) (hpe : p ≤ e) (he : e ≤ L) : f_X5_reads si (nI p) (nI e) (nI L) tb = some (wq (cf tb) p e (wd si)) := by
  have hL := h.1
  have hw := wd_ok si hsi
  unfold f_X5_reads f_X5_reads_b31 wq
  rw [if_neg (nI_pos (by omega)), if_neg (nI_nlt he (by omega)), pk_sub hpe]
  by_cases hl : e - p = (wd si).length
  · rw [if_pos (show nI (e - p) = Int32.ofNat (sL si) from congrArg nI hl), decide_eq_true hl, Bool.true_and]
    exact rdl h hsi (nI e) he hl (wd si).length 0 FU (by omega) (by show (wd si).length < 5000; omega)
  · rw [if_neg (show ¬ nI (e - p) = Int32.ofNat (sL si) from fun x => hl ((nI_eq (b := (wd si).length) (by omega) (by omega)).1 x)), decide_eq_false hl, Bool.false_and]
theorem iwl (h : TP L tb mt) {si p e : Nat} (hsi : si < 30) (he : e ≤ L) (hpe : e - p = (wd si).length) : ∀ (n k f : Nat), n + k = (wd si).length → n < f → f_X11_isWord_l17 si (nI p) mt f (nI k) = some (aC (cf tb) (p + k) ((wd si).drop k))
  | 0, k, f => by
    intro h1 h2
    have hw := wd_ok si hsi
    obtain ⟨f, rfl⟩ : ∃ f', f = f' + 1 := ⟨f - 1, by omega⟩
    rw [f_X11_isWord_l17, if_pos (show Int32.ofNat (sL si) ≤ nI k from nI_le (show (wd si).length ≤ k by omega) (by omega)), List.drop_eq_nil_of_le (by omega)]
    rfl
  | n + 1, k, f => by
    intro h1 h2
    have hL := h.1
    have hw := wd_ok si hsi
    obtain ⟨f, rfl⟩ : ∃ f', f = f' + 1 := ⟨f - 1, by omega⟩
    have hk : k < (wd si).length := by omega
    have hpk : p + k < L := by omega
    have ht := tp_c h hpk
    have hz : (wd si).getD k 0 < 128 := hw.2.2 k (by omega)
    rw [f_X11_isWord_l17, if_neg (show ¬ Int32.ofNat (sL si) ≤ nI k from nI_ge hk (show (wd si).length < 2 ^ 31 by omega)), nI_add, gv_N (by omega) (by decide), gv_N (N := sL si) hk (show (wd si).length < 2 ^ 31 by omega), nI_clamp (by omega), nI_clamp (by omega), ht.2.2.2, aC_drop _ _ _ _ hk]
    by_cases hc : cf tb (p + k) = (wd si).getD k 0
    · rw [if_pos (show byt (cf tb (p + k)) = sCh si k from by rw [hc]; exact byt_low _ hz), if_pos hc, lt_eq, nI_p1]
      exact iwl h hsi he hpe n (k + 1) f (by omega) (by omega)
    · rw [if_neg (show ¬ byt (cf tb (p + k)) = sCh si k from fun x => by
        by_cases h128 : cf tb (p + k) < 128
        · rw [byt_low _ h128] at x
          exact hc ((c_eq (d := (wd si).getD k 0) ht.2.1 (by omega)).1 x)
        · have hneg := byt_hi _ ht.2.1 (by omega)
          rw [x] at hneg
          exact nI_pos (n := (wd si).getD k 0) (by omega) hneg), if_neg hc]
theorem iw_w (h : TP L tb mt) {si p e : Nat} (hsi : si < 30) (hpe : p ≤ e) (he : e ≤ L) : f_X11_isWord si (nI e) (nI p) mt = some (wq (cf tb) p e (wd si)) := by
  have hL := h.1
  have hw := wd_ok si hsi
  unfold f_X11_isWord wq
  rw [pk_sub hpe]
  by_cases hl : e - p = (wd si).length
  · rw [if_pos (show nI (e - p) = Int32.ofNat (sL si) from congrArg nI hl), decide_eq_true hl, Bool.true_and]
    exact iwl h hsi he hl (wd si).length 0 FU (by omega) (by show (wd si).length < 5000; omega)
  · rw [if_neg (show ¬ nI (e - p) = Int32.ofNat (sL si) from fun x => hl ((nI_eq (b := (wd si).length) (by omega) (by omega)).1 x)), decide_eq_false hl, Bool.false_and]
end ScanSec
