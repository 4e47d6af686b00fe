/-! ===== pure part: the text of a unit ===== -/
def tv (b0 b1 b2 b3 b4 b5 : Bool) : Nat := b0.toNat + 2 * b1.toNat + 4 * b2.toNat + 8 * b3.toNat + 16 * b4.toNat + 32 * b5.toNat
theorem was0 : ∀ b0 b1 b2 b3 b4 b5 : Bool, (if ((nI (tv b0 b1 b2 b3 b4 b5) >>> ((0 : Int32) &&& 31)) &&& 1) = 1 then true else (if (0 : Int32) = 5 then (if ((nI (tv b0 b1 b2 b3 b4 b5) >>> ((3 : Int32) &&& 31)) &&& 1) = 1 then true else (if (0 : Int32) = 3 then (if ((nI (tv b0 b1 b2 b3 b4 b5) >>> ((5 : Int32) &&& 31)) &&& 1) = 1 then true else false) else false)) else (if (0 : Int32) = 3 then (if ((nI (tv b0 b1 b2 b3 b4 b5) >>> ((5 : Int32) &&& 31)) &&& 1) = 1 then true else false) else false))) = b0 := by decide +kernel
theorem set0 : ∀ b0 b1 b2 b3 b4 b5 : Bool, nI (tv b0 b1 b2 b3 b4 b5) ||| ((1 : Int32) <<< ((0 : Int32) &&& 31)) = nI (tv true b1 b2 b3 b4 b5) := by decide +kernel
theorem was1 : ∀ b0 b1 b2 b3 b4 b5 : Bool, (if ((nI (tv b0 b1 b2 b3 b4 b5) >>> ((1 : Int32) &&& 31)) &&& 1) = 1 then true else (if (1 : Int32) = 5 then (if ((nI (tv b0 b1 b2 b3 b4 b5) >>> ((3 : Int32) &&& 31)) &&& 1) = 1 then true else (if (1 : Int32) = 3 then (if ((nI (tv b0 b1 b2 b3 b4 b5) >>> ((5 : Int32) &&& 31)) &&& 1) = 1 then true else false) else false)) else (if (1 : Int32) = 3 then (if ((nI (tv b0 b1 b2 b3 b4 b5) >>> ((5 : Int32) &&& 31)) &&& 1) = 1 then true else false) else false))) = b1 := by decide +kernel
theorem set1 : ∀ b0 b1 b2 b3 b4 b5 : Bool, nI (tv b0 b1 b2 b3 b4 b5) ||| ((1 : Int32) <<< ((1 : Int32) &&& 31)) = nI (tv b0 true b2 b3 b4 b5) := by decide +kernel
theorem was2 : ∀ b0 b1 b2 b3 b4 b5 : Bool, (if ((nI (tv b0 b1 b2 b3 b4 b5) >>> ((2 : Int32) &&& 31)) &&& 1) = 1 then true else (if (2 : Int32) = 5 then (if ((nI (tv b0 b1 b2 b3 b4 b5) >>> ((3 : Int32) &&& 31)) &&& 1) = 1 then true else (if (2 : Int32) = 3 then (if ((nI (tv b0 b1 b2 b3 b4 b5) >>> ((5 : Int32) &&& 31)) &&& 1) = 1 then true else false) else false)) else (if (2 : Int32) = 3 then (if ((nI (tv b0 b1 b2 b3 b4 b5) >>> ((5 : Int32) &&& 31)) &&& 1) = 1 then true else false) else false))) = b2 := by decide +kernel
theorem set2 : ∀ b0 b1 b2 b3 b4 b5 : Bool, nI (tv b0 b1 b2 b3 b4 b5) ||| ((1 : Int32) <<< ((2 : Int32) &&& 31)) = nI (tv b0 b1 true b3 b4 b5) := by decide +kernel
theorem was3 : ∀ b0 b1 b2 b3 b4 b5 : Bool, (if ((nI (tv b0 b1 b2 b3 b4 b5) >>> ((3 : Int32) &&& 31)) &&& 1) = 1 then true else (if (3 : Int32) = 5 then (if ((nI (tv b0 b1 b2 b3 b4 b5) >>> ((3 : Int32) &&& 31)) &&& 1) = 1 then true else (if (3 : Int32) = 3 then (if ((nI (tv b0 b1 b2 b3 b4 b5) >>> ((5 : Int32) &&& 31)) &&& 1) = 1 then true else false) else false)) else (if (3 : Int32) = 3 then (if ((nI (tv b0 b1 b2 b3 b4 b5) >>> ((5 : Int32) &&& 31)) &&& 1) = 1 then true else false) else false))) = (b3 || b5) := by decide +kernel
theorem set3 : ∀ b0 b1 b2 b3 b4 b5 : Bool, nI (tv b0 b1 b2 b3 b4 b5) ||| ((1 : Int32) <<< ((3 : Int32) &&& 31)) = nI (tv b0 b1 b2 true b4 b5) := by decide +kernel
theorem was4 : ∀ b0 b1 b2 b3 b4 b5 : Bool, (if ((nI (tv b0 b1 b2 b3 b4 b5) >>> ((4 : Int32) &&& 31)) &&& 1) = 1 then true else (if (4 : Int32) = 5 then (if ((nI (tv b0 b1 b2 b3 b4 b5) >>> ((3 : Int32) &&& 31)) &&& 1) = 1 then true else (if (4 : Int32) = 3 then (if ((nI (tv b0 b1 b2 b3 b4 b5) >>> ((5 : Int32) &&& 31)) &&& 1) = 1 then true else false) else false)) else (if (4 : Int32) = 3 then (if ((nI (tv b0 b1 b2 b3 b4 b5) >>> ((5 : Int32) &&& 31)) &&& 1) = 1 then true else false) else false))) = b4 := by decide +kernel
theorem set4 : ∀ b0 b1 b2 b3 b4 b5 : Bool, nI (tv b0 b1 b2 b3 b4 b5) ||| ((1 : Int32) <<< ((4 : Int32) &&& 31)) = nI (tv b0 b1 b2 b3 true b5) := by decide +kernel
theorem was5 : ∀ b0 b1 b2 b3 b4 b5 : Bool, (if ((nI (tv b0 b1 b2 b3 b4 b5) >>> ((5 : Int32) &&& 31)) &&& 1) = 1 then true else (if (5 : Int32) = 5 then (if ((nI (tv b0 b1 b2 b3 b4 b5) >>> ((3 : Int32) &&& 31)) &&& 1) = 1 then true else (if (5 : Int32) = 3 then (if ((nI (tv b0 b1 b2 b3 b4 b5) >>> ((5 : Int32) &&& 31)) &&& 1) = 1 then true else false) else false)) else (if (5 : Int32) = 3 then (if ((nI (tv b0 b1 b2 b3 b4 b5) >>> ((5 : Int32) &&& 31)) &&& 1) = 1 then true else false) else false))) = (b5 || b3) := by decide +kernel
theorem set5 : ∀ b0 b1 b2 b3 b4 b5 : Bool, nI (tv b0 b1 b2 b3 b4 b5) ||| ((1 : Int32) <<< ((5 : Int32) &&& 31)) = nI (tv b0 b1 b2 b3 b4 true) := by decide +kernel
theorem all5 : ∀ b0 b1 b2 b3 b4 b5 : Bool, (nI (tv b0 b1 b2 b3 b4 b5) &&& (5 : Int32) = 5) ↔ (b0 = true ∧ b2 = true) := by decide +kernel
/-- what has been told of a unit, both sides -/
def PU (b0 b1 b2 b3 b4 b5 : Bool) (w g s f : Int32) (pp nn : Bool) (tw : Int32) (rd : Nat → Int32) : Prop :=
  tw = nI (tv b0 b1 b2 b3 b4 b5) ∧ ((b0 = true ∧ ∃ v, 6 ≤ v ∧ v ≤ 22 ∧ w = nI v ∧ rd 0 = nI v) ∨ (b0 = false ∧ w = -1)) ∧
  ((b1 = true ∧ ∃ v, v ≤ 4 ∧ g = nI v ∧ rd 1 = nI v) ∨ (b1 = false ∧ g = -1 ∧ rd 1 = 2)) ∧
  ((b2 = true ∧ ∃ v, 5 ≤ v ∧ v ≤ 24 ∧ s = nI v ∧ rd 2 = nI v) ∨ (b2 = false ∧ s = -1)) ∧
  ((b3 = true ∧ ∃ v, 1 ≤ v ∧ v ≤ 12 ∧ f = nI v ∧ rd 3 = nI v) ∨ (b3 = false ∧ f = -1 ∧ rd 3 = 0)) ∧
  (nn = b4 ∧ rd 4 = bI b4) ∧ pp = b5
def okN (c : Nat → Nat) (q d lo hi : Nat) : Bool := decide (1 ≤ d - q ∧ d - q ≤ 2 ∧ lo ≤ vl c q (d - q) ∧ vl c q (d - q) ≤ hi)
theorem fa_1 (p : Int32) : f_X11_fails p (-1) = some p := rfl
section UtSec
variable {L : Nat} {tb mt : Nat → Int32}
theorem nml (h : TP L tb mt) {q lo hi : Nat} (hq : q ≤ L) (hlo : lo < 100) (hhi : hi < 100) : ∀ (n k f : Nat), n + (q + k) = pd L tb q → n < f → ∃ V, f_X11_number_l14 (nI L) mt f (nI lo) (nI hi) (nI q) (nI (vl (cf tb) q (min k 3))) (nI (q + k)) (-1) = some (V, nI (pd L tb q), (if okN (cf tb) q (pd L tb q) lo hi = true then -1 else nI q)) ∧ (okN (cf tb) q (pd L tb q) lo hi = true → V = nI (vl (cf tb) q (pd L tb q - q)))
  | 0, k, f => by
    intro h1 h2
    have hL := h.1
    have hp := pd_le (tb := tb) hq
    obtain ⟨f, rfl⟩ : ∃ f', f = f' + 1 := ⟨f - 1, by omega⟩
    have hqk : q + k = pd L tb q := by omega
    have hnd : (decide (q + k < L) && isD (cf tb (q + k))) = false := by
      by_cases hl : q + k < L
      · rw [decide_eq_true hl, Bool.true_and, hqk]
        exact pd_end hq (by omega)
      · rw [decide_eq_false hl, Bool.false_and]
    have hk : pd L tb q - q = k := by omega
    rw [f_X11_number_l14, hm' h (by omega), bd_some, isd_m h (by omega), bd_some, hnd, if_neg (by decide), hqk]
    unfold f_X11_number_b96 f_X11_number_b102
    rw [fa_1, bd_some]
    unfold okN
    rw [hk]
    by_cases h0 : k = 0
    · rw [if_pos (show nI (pd L tb q) = nI q from congrArg nI (by omega)), decide_eq_false (by omega), if_neg (by decide)]
      exact ⟨_, rfl, fun h => absurd h (by decide)⟩
    · rw [if_neg (fun x => h0 (by have := (nI_eq (by omega) (by omega)).1 x; omega)), pk_sub (by omega), hk]
      by_cases h3 : 2 < k
      · rw [if_pos (show (2 : Int32) < nI k from nI_lt (a := 2) h3 (by omega)), decide_eq_false (by omega), if_neg (by decide)]
        exact ⟨_, rfl, fun h => absurd h (by decide)⟩
      · have hmin : min k 3 = k := by omega
        rw [if_neg (show ¬ (2 : Int32) < nI k from nI_nlt (a := 2) (b := k) (by omega) (by decide)), hmin, isin_r (nI (vl (cf tb) q k)) (nI lo).toInt64 (nI hi).toInt64 (nI lo) (nI hi) (Int32.toInt_toInt64 _) (Int32.toInt_toInt64 _), bd_some]
        have hv : vl (cf tb) q k < 10 ^ k := vl_lt _ _ _ (fun j h4 h5 => pd_all (L := L) h4 (by omega))
        have hv2 : 10 ^ k ≤ 10 ^ 2 := Nat.pow_le_pow_right (by decide) (by omega)
        have hv3 : vl (cf tb) q k < 100 := Nat.lt_of_lt_of_le hv hv2
        by_cases h5 : vl (cf tb) q k < lo
        · rw [if_pos (nI_lt h5 (by omega)), if_neg (by decide), decide_eq_false (by omega), if_neg (by decide)]
          exact ⟨_, rfl, fun h => absurd h (by decide)⟩
        · rw [if_neg (nI_nlt (by omega) (by omega))]
          by_cases h6 : vl (cf tb) q k ≤ hi
          · rw [if_pos (nI_le h6 (by omega)), if_pos rfl, decide_eq_true (by omega), if_pos rfl]
            exact ⟨_, rfl, fun _ => rfl⟩
          · rw [if_neg (nI_ge (by omega) (by omega)), if_neg (by decide), decide_eq_false (by omega), if_neg (by decide)]
            exact ⟨_, rfl, fun h => absurd h (by decide)⟩
  | n + 1, k, f => by
    intro h1 h2
    have hL := h.1
    have hp := pd_le (tb := tb) hq
    obtain ⟨f, rfl⟩ : ∃ f', f = f' + 1 := ⟨f - 1, by omega⟩
    have hd : isD (cf tb (q + k)) = true := pd_all (L := L) (i := q) (by omega) (by omega)
    have hl : q + k < L := by omega
    obtain ⟨V, e1, e2⟩ := nml h hq hlo hhi n (k + 1) f (by omega) (by omega)
    refine ⟨V, ?_, e2⟩
    rw [f_X11_number_l14, hm h hl, bd_some, show f_X11_isDigit (nI (cf tb (q + k))) = some true from by
      have := isd_m h (i := q + k) (by omega)
      rw [show hv' L tb (q + k) = nI (cf tb (q + k)) from if_pos hl, decide_eq_true hl, hd] at this
      exact this, bd_some, if_pos rfl, pk_sub (by omega), show q + k - q = k from by omega]
    unfold f_X11_number_b50
    by_cases h3 : 3 ≤ k
    · rw [if_pos (ge3 h3 (by omega)), lt_eq, nI_p1]
      rw [show min (k + 1) 3 = min k 3 from by omega] at e1
      exact e1
    · rw [if_neg (ng3 (by omega)), bd_some, show min k 3 = k from by omega, vl_step hd, lt_eq, lt_eq, nI_p1]
      rw [show min (k + 1) 3 = k + 1 from by omega] at e1
      exact e1
theorem nu_m (h : TP L tb mt) {e lo hi : Nat} (he : e ≤ L) (hlo : lo < 100) (hhi : hi < 100) : ∃ V, f_X11_number (nI lo) (nI hi) (nI L) (nI e) (-1) mt = some (V, nI (pd L tb (sk L tb e)), (if okN (cf tb) (sk L tb e) (pd L tb (sk L tb e)) lo hi = true then -1 else nI (sk L tb e))) ∧ (okN (cf tb) (sk L tb e) (pd L tb (sk L tb e)) lo hi = true → V = nI (vl (cf tb) (sk L tb e) (pd L tb (sk L tb e) - sk L tb e))) := by
  have hL := h.1
  have h1 := sk_le (tb := tb) he
  have h2 := pd_le (tb := tb) h1.2
  unfold f_X11_number
  rw [lk_m h he, bd_some]
  exact nml h h1.2 hlo hhi (pd L tb (sk L tb e) - sk L tb e) 0 FU (by omega) (by show pd L tb (sk L tb e) - sk L tb e < 5000; omega)
theorem rr_x (h : TP L tb mt) {pi e lo hi : Nat} (he : e ≤ L) (h1 : pLeast pi = nI lo) (h2 : pGreat pi = nI hi) (h0 : 0 < hi) (hlo : lo < 100) (hhi : hi < 100) (w g s f : Int32) (pp nn : Bool) : f_X9_readRest pi w g s f pp nn (nI e) (nI L) tb = if okN (cf tb) (sk L tb e) (pd L tb (sk L tb e)) lo hi = true then bd (f_X9_take pi (nI (vl (cf tb) (sk L tb e) (pd L tb (sk L tb e) - sk L tb e))) w g s f pp nn) (fun o5 => some (-1, o5.1, o5.2.1, o5.2.2.1, o5.2.2.2.1, o5.2.2.2.2.1, o5.2.2.2.2.2, nI (pd L tb (sk L tb e)))) else some (nI (sk L tb e), w, g, s, f, pp, nn, nI (pd L tb (sk L tb e))) := by
  have hL := h.1
  have hs := sk_le (tb := tb) he
  have hp := pd_le (tb := tb) hs.2
  unfold f_X9_readRest f_X9_readRest_b57 f_X9_readRest_b87 okN
  rw [h1, h2, if_neg (nI_ne0 h0 (by omega)), sk_x h he, bd_some, pd_x h hs.2, bd_some, lt_eq, pk_sub hp.1]
  generalize hnd : pd L tb (sk L tb e) - sk L tb e = nd
  by_cases z0 : nd = 0
  · rw [if_pos (show nI nd < 1 from nI_lt (b := 1) (by omega) (by decide)), decide_eq_false (by omega), if_neg (by decide)]
  · rw [if_neg (show ¬ nI nd < 1 from nI_nlt (b := 1) (by omega) (by omega))]
    by_cases z2 : nd ≤ 2
    · rw [if_pos (show nI nd ≤ 2 from nI_le (b := 2) z2 (by decide)), nu_x h hp.1 hp.2 (fun j h4 h5 => pd_all (L := L) h4 h5), bd_some, hnd]
      have hv : vl (cf tb) (sk L tb e) nd < 10 ^ nd := vl_lt _ _ _ (fun j h4 h5 => pd_all (L := L) h4 (by omega))
      have hv2 : 10 ^ nd ≤ 10 ^ 2 := Nat.pow_le_pow_right (by decide) (by omega)
      have hv3 : vl (cf tb) (sk L tb e) nd < 100 := Nat.lt_of_lt_of_le hv hv2
      by_cases h5 : vl (cf tb) (sk L tb e) nd < lo
      · rw [if_pos (nI_lt h5 (by omega)), decide_eq_false (by omega), if_neg (by decide)]
      · rw [if_neg (nI_nlt (by omega) (by omega))]
        by_cases h6 : vl (cf tb) (sk L tb e) nd ≤ hi
        · rw [if_pos (nI_le h6 (by omega)), decide_eq_true (by omega), if_pos rfl]
        · rw [if_neg (nI_ge (by omega) (by omega)), decide_eq_false (by omega), if_neg (by decide)]
    · rw [if_neg (show ¬ nI nd ≤ 2 from nI_ge (a := 2) (by omega) (by omega)), decide_eq_false (by omega), if_neg (by decide)]
/-! a word among the class's six -/
theorem pc_no (h : TP L tb mt) {p e k : Nat} (hk : k < 6) (hpe : p ≤ e) (he : e ≤ L) (hB : wq (cf tb) p e (wd (9 + k)) = false) (fu : Nat) (w g s f : Int32) (pp nn : Bool) : f_X9_readPiece_l24 (nI L) tb (fu + 1) (nI p) (nI k) w g s f pp nn (nI e) = f_X9_readPiece_l24 (nI L) tb fu (nI p) (nI (k + 1)) w g s f pp nn (nI e) := by
  rw [f_X9_readPiece_l24, if_neg (ng6 hk), gv_N hk (by decide), nI_clamp (by omega), rd_x h (by omega) hpe he, bd_some, hB, if_neg (by decide), lt_eq, nI_p1]
theorem pc_hit (h : TP L tb mt) {p e k : Nat} (hk : k < 6) (hpe : p ≤ e) (he : e ≤ L) (hB : wq (cf tb) p e (wd (9 + k)) = true) (fu : Nat) (w g s f : Int32) (pp nn : Bool) {m : Bool} (hm : f_X9_mayCome k w g s f pp nn = some m) : f_X9_readPiece_l24 (nI L) tb (fu + 1) (nI p) (nI k) w g s f pp nn (nI e) = if m = true then f_X9_readRest k w g s f pp nn (nI e) (nI L) tb else some (nI p, w, g, s, f, pp, nn, nI e) := by
  rw [f_X9_readPiece_l24, if_neg (ng6 hk), gv_N hk (by decide), nI_clamp (by omega), rd_x h (by omega) hpe he, bd_some, hB, if_pos rfl, gv_N hk (by decide), hm, bd_some, gv_N hk (by decide)]
  cases m with
  | true =>
    rw [if_pos rfl, if_pos rfl]
    cases f_X9_readRest k w g s f pp nn (nI e) (nI L) tb with
    | none => rfl
    | some o => rfl
  | false => rfl
theorem wq_no {c : Nat → Nat} {p e : Nat} {a b : List Nat} (h1 : wq c p e a = true) (hne : ¬ a = b) : wq c p e b = false := by
  cases h2 : wq c p e b with
  | false => rfl
  | true => exact absurd (wq_inj h1 h2) hne
/-- which of the six words stands there, as the reference counts them; 6: none -/
def wh (c : Nat → Nat) (p e : Nat) : Nat := if wq c p e (wd 9) = true then 0 else (if wq c p e (wd 10) = true then 1 else (if wq c p e (wd 11) = true then 2 else (if wq c p e (wd 13) = true then 3 else (if wq c p e (wd 14) = true then 4 else (if wq c p e (wd 12) = true then 5 else 6)))))
theorem wh_m (h : TP L tb mt) {p e : Nat} (hpe : p ≤ e) (he : e ≤ L) : f_X11_wordHere (nI e) (nI p) mt = some (if wh (cf tb) p e = 6 then -1 else nI (wh (cf tb) p e)) := by
  unfold f_X11_wordHere wh
  rw [iw_w h (by decide) hpe he, iw_w h (by decide) hpe he, iw_w h (by decide) hpe he, iw_w h (by decide) hpe he, iw_w h (by decide) hpe he, iw_w h (by decide) hpe he]
  simp only [bd_some, lt_eq]
  rw [show wd (15 + 0) = wd 9 from rfl, show wd (15 + 1) = wd 10 from rfl, show wd (15 + 2) = wd 11 from rfl, show wd (15 + 3) = wd 13 from rfl, show wd (15 + 4) = wd 14 from rfl, show wd (15 + 5) = wd 12 from rfl]
  cases wq (cf tb) p e (wd 9) with
  | true => rfl
  | false =>
    cases wq (cf tb) p e (wd 10) with
    | true => rfl
    | false =>
      cases wq (cf tb) p e (wd 11) with
      | true => rfl
      | false =>
        cases wq (cf tb) p e (wd 13) with
        | true => rfl
        | false =>
          cases wq (cf tb) p e (wd 14) with
          | true => rfl
          | false =>
            cases wq (cf tb) p e (wd 12) with
            | true => rfl
            | false => rfl
end UtSec
