/-! ===== pure part: the text of orders: an operand ===== -/
section OpSec
variable {L : Nat} {tb mt : Nat → Int32}
theorem dgl_m (h : TP L tb mt) {q : Nat} (hq : q ≤ L) : ∀ (n k f : Nat), n + (q + k) = pd L tb q → n < f → f_X11_digits_l10 (nI L) mt f (nI q) (nI (q + k)) (nI (vl (cf tb) q (min k 9))) = some (nI (pd L tb q - q), nI (pd L tb q), nI (vl (cf tb) q (min (pd L tb q - q) 9)))
  | 0, k, f => by
    intro h1 h2
    have hL := h.1
    have hp := pd_le (tb := tb) hq
    obtain ⟨f, rfl⟩ : ∃ f', f = f' + 1 := ⟨f - 1, by omega⟩
    have hqk : q + k = pd L tb q := by omega
    have hnd : (decide (q + k < L) && isD (cf tb (q + k))) = false := by
      by_cases hl : q + k < L
      · rw [decide_eq_true hl, Bool.true_and, hqk]
        exact pd_end hq (by omega)
      · rw [decide_eq_false hl, Bool.false_and]
    rw [f_X11_digits_l10, hm' h (by omega), bd_some, isd_m h (by omega), bd_some, hnd, if_neg (by decide), hqk, pk_sub (by omega), show k = pd L tb q - q from by omega]
  | n + 1, k, f => by
    intro h1 h2
    have hL := h.1
    have hp := pd_le (tb := tb) hq
    obtain ⟨f, rfl⟩ : ∃ f', f = f' + 1 := ⟨f - 1, by omega⟩
    have hd : isD (cf tb (q + k)) = true := pd_all (L := L) (i := q) (by omega) (by omega)
    have hl : q + k < L := by omega
    have e1 := dgl_m h hq n (k + 1) f (by omega) (by omega)
    rw [f_X11_digits_l10, hm h hl, bd_some, show f_X11_isDigit (nI (cf tb (q + k))) = some true from by
      have := isd_m h (i := q + k) (by omega)
      rw [show hv' L tb (q + k) = nI (cf tb (q + k)) from if_pos hl, decide_eq_true hl, hd] at this
      exact this, bd_some, if_pos rfl, pk_sub (by omega), show q + k - q = k from by omega]
    unfold f_X11_digits_b50
    by_cases h3 : 9 ≤ k
    · rw [if_pos (ge9 h3 (by omega)), lt_eq, nI_p1]
      rw [show min (k + 1) 9 = min k 9 from by omega] at e1
      exact e1
    · rw [if_neg (ng9 (by omega)), bd_some, show min k 9 = k from by omega, vl_step hd, lt_eq, lt_eq, nI_p1]
      rw [show min (k + 1) 9 = k + 1 from by omega] at e1
      exact e1
theorem dg_m (h : TP L tb mt) {q : Nat} (hq : q ≤ L) (v : Int32) : f_X11_digits (nI L) (nI q) v mt = some (nI (pd L tb q - q), nI (pd L tb q), nI (vl (cf tb) q (min (pd L tb q - q) 9))) := by
  have hL := h.1
  have hp := pd_le (tb := tb) hq
  exact dgl_m h hq (pd L tb q - q) 0 FU (by omega) (by show pd L tb q - q < 5000; omega)
theorem vl9 {q : Nat} (hq : q ≤ L) (h9 : pd L tb q - q ≤ 9) : vl (cf tb) q (pd L tb q - q) < 10 ^ 9 := by
  have h1 : vl (cf tb) q (pd L tb q - q) < 10 ^ (pd L tb q - q) := vl_lt _ _ _ (fun j h4 h5 => pd_all (L := L) h4 (by have := pd_le (tb := tb) hq; omega))
  have h2 : 10 ^ (pd L tb q - q) ≤ 10 ^ 9 := Nat.pow_le_pow_right (by decide) h9
  omega
/-- a row of orders, both sides; what stands from place w on is still empty -/
def OW (l w : Nat) (oo ot mo : Nat → Int32) : Prop :=
  (∀ w', w' < 3 → mo (7 * l + 1 + w') = oo (l * 3 + w') ∧ mo (7 * l + 4 + w') = ot (l * 3 + w') ∧ TIE l (ot (l * 3 + w')) ∧ (¬ ot (l * 3 + w') = -1 → oo (l * 3 + w') = 0)) ∧ (∀ w', w ≤ w' → w' < 3 → ot (l * 3 + w') = -1 ∧ oo (l * 3 + w') = 0)
/-- only the row of line l has changed -/
def OF (l : Nat) (oo ot mo oo' ot' mo' : Nat → Int32) : Prop := (∀ i, i < l * 3 ∨ l * 3 + 3 ≤ i → oo' i = oo i ∧ ot' i = ot i) ∧ (∀ i, i < 7 * l + 1 ∨ 7 * l + 7 ≤ i → mo' i = mo i)
theorem fi_d {q : Nat} (hq : q ≤ L) (h : TP L tb mt) : f_X5_number (nI q) (nI (pd L tb q)) (nI L) tb = some (nI (vl (cf tb) q (pd L tb q - q))) := by
  have hp := pd_le (tb := tb) hq
  exact nu_x h hp.1 hp.2 (fun j h4 h5 => pd_all (L := L) h4 h5)
theorem h39 (h : TP L tb mt) {d : Nat} (hd : d ≤ L) : ∃ b : Bool, (∀ {β : Type} (k : Bool → Option β), bd (f_X5_here (nI d) (nI L) tb) (fun o5 => lt ((if o5 = 39 then true else false) : Bool) k) = k b) ∧ (∀ {β : Type} (k : Bool → Option β), bd (f_X11_here (nI L) (nI d) mt) (fun o6 => lt ((if o6 = 39 then true else false) : Bool) k) = k b) ∧ d + b.toNat ≤ L := by
  by_cases hl : d < L
  · refine ⟨(if nI (cf tb d) = 39 then true else false), ?_, ?_, ?_⟩
    · intro β k
      rw [hx h hl, bd_some, lt_eq]
    · intro β k
      rw [hm h hl, bd_some, lt_eq]
    · split
      · exact hl
      · exact Nat.le_of_lt hl
  · obtain rfl : d = L := by omega
    refine ⟨false, ?_, ?_, Nat.le_refl _⟩
    · intro β k
      rw [hx_e h.1, bd_some, lt_eq, if_neg (by decide)]
    · intro β k
      rw [hm_e h.1, bd_some, lt_eq, if_neg (by decide)]
theorem r7_4 (l w : Nat) : (nI (7 * l) + 4) + nI w = nI (7 * l + 4 + w) := by
  rw [show nI (7 * l) + 4 = nI (7 * l + 4) from nI_add _ 4, nI_add]
theorem r7_1 (l w : Nat) : (nI (7 * l) + 1) + nI w = nI (7 * l + 1 + w) := by
  rw [nI_p1, nI_add]
/-- what comes of an operand, both sides -/
def OPR (L : Nat) (tb mt : Nat → Int32) (l w nm i : Nat) (oo ot mo : Nat → Int32) (mv : Int32) : Prop :=
  (∃ (F : Nat) (c2 : Int32) (c3 c4 : Nat → Int32) (m1 m3 : Int32) (m4 : Nat → Int32), F ≤ L ∧ (∀ fu, f_X3_readOperands_l2 (nI l) (nI L) tb (fu + 1) (nI (l * 3)) (nI nm) (nI w) (nI i) oo ot = some (nI F, c2, c3, c4)) ∧ f_X11_operand (nI (7 * l)) (nI w) (nI L) (nI i) (-1) (nI l) mv mt mo = some (m1, nI F, m3, m4)) ∨
  (∃ (e : Nat) (oo' ot' mo' : Nat → Int32) (mv' : Int32), i ≤ e ∧ e ≤ L ∧ (∀ fu, f_X3_readOperands_l2 (nI l) (nI L) tb (fu + 1) (nI (l * 3)) (nI nm) (nI w) (nI i) oo ot = f_X3_readOperands_l2 (nI l) (nI L) tb fu (nI (l * 3)) (nI nm) (nI (w + 1)) (nI e) oo' ot') ∧ f_X11_operand (nI (7 * l)) (nI w) (nI L) (nI i) (-1) (nI l) mv mt mo = some (nI e, -1, mv', mo') ∧ OW l (w + 1) oo' ot' mo' ∧ OF l oo ot mo oo' ot' mo')
theorem ow_num {l w : Nat} (hw : w < 3) {oo ot mo : Nat → Int32} (O : OW l w oo ot mo) (v : Int32) : OW l (w + 1) (upd oo (l * 3 + w) v) ot (upd (upd mo (7 * l + 4 + w) (-1)) (7 * l + 1 + w) v) ∧ OF l oo ot mo (upd oo (l * 3 + w) v) ot (upd (upd mo (7 * l + 4 + w) (-1)) (7 * l + 1 + w) v) := by
  have hw0 := O.2 w (Nat.le_refl w) hw
  refine ⟨⟨?_, ?_⟩, ?_, ?_⟩
  · intro w' hw'
    have o := O.1 w' hw'
    by_cases hww : w' = w
    · subst hww
      refine ⟨by rw [pk_us, pk_us], by rw [pk_un (by omega), pk_us, hw0.1], o.2.2.1, fun hn => absurd hw0.1 hn⟩
    · rw [pk_un (by omega), pk_un (by omega), pk_un (by omega), pk_un (by omega), pk_un (by omega)]
      exact o
  · intro w' h1 h2
    rw [pk_un (by omega)]
    exact O.2 w' (by omega) h2
  · intro i hi
    rw [pk_un (by omega)]
    exact ⟨rfl, rfl⟩
  · intro i hi
    rw [pk_un (by omega), pk_un (by omega)]
theorem ow_tie {l w : Nat} (hw : w < 3) {oo ot mo : Nat → Int32} (O : OW l w oo ot mo) {v : Int32} (hv : TIE l v) : OW l (w + 1) oo (upd ot (l * 3 + w) v) (upd (upd mo (7 * l + 4 + w) (-1)) (7 * l + 4 + w) v) ∧ OF l oo ot mo oo (upd ot (l * 3 + w) v) (upd (upd mo (7 * l + 4 + w) (-1)) (7 * l + 4 + w) v) := by
  have hw0 := O.2 w (Nat.le_refl w) hw
  refine ⟨⟨?_, ?_⟩, ?_, ?_⟩
  · intro w' hw'
    have o := O.1 w' hw'
    by_cases hww : w' = w
    · subst hww
      refine ⟨by rw [pk_un (by omega), pk_un (by omega)]; exact o.1, by rw [pk_us, pk_us], by rw [pk_us]; exact hv, fun _ => hw0.2⟩
    · rw [pk_un (by omega), pk_un (by omega), pk_un (by omega), pk_un (by omega), pk_un (by omega)]
      exact o
  · intro w' h1 h2
    rw [pk_un (by omega)]
    exact O.2 w' (by omega) h2
  · intro i hi
    rw [pk_un (by omega)]
    exact ⟨rfl, rfl⟩
  · intro i hi
    rw [pk_un (by omega), pk_un (by omega)]
theorem op_tie (h : TP L tb mt) {l w nm i : Nat} (hl : l < 60) (hw : w < 3) (hwn : w < nm) (hnm : nm ≤ 3) (hi : i ≤ L) {oo ot mo : Nat → Int32} (O : OW l w oo ot mo) (mv : Int32) (hlt : sk L tb i < L) (hc : cf tb (sk L tb i) = 64) : OPR L tb mt l w nm i oo ot mo mv := by
  have hL := h.1
  have hp := sk_le (tb := tb) hi
  have ht := tp_c h hlt
  have hq : sk L tb i + 1 ≤ L := hlt
  have hd := pd_le (tb := tb) hq
  have hvv : hv' L tb (sk L tb i) = nI (cf tb (sk L tb i)) := if_pos hlt
  have h64 := (e64 ht.2.1).2 hc
  have eX : ∀ fu, f_X3_readOperands_l2 (nI l) (nI L) tb (fu + 1) (nI (l * 3)) (nI nm) (nI w) (nI i) oo ot = bd (f_X3_readTie (nI (l * 3 + w)) (nI l) (nI (sk L tb i)) (nI L) tb ot) (fun o5 => f_X3_readOperands_b48 (nI l) (nI L) tb (f_X3_readOperands_l2 (nI l) (nI L) tb fu) (nI (l * 3)) (nI nm) (nI w) o5.1 o5.2.1 oo o5.2.2) := by
    intro fu
    rw [f_X3_readOperands_l2, if_neg (nI_ge hwn (by omega)), if_neg (ng3 hw), sk_x h hi, bd_some, hx h hlt, bd_some, if_pos h64, nI_add]
  have eM : f_X11_operand (nI (7 * l)) (nI w) (nI L) (nI i) (-1) (nI l) mv mt mo = f_X11_operand_b33 (nI L) (nI l) mt (nI (7 * l)) (nI w) 64 (nI (sk L tb i)) (nI (sk L tb i + 1)) (-1) mv mo := by
    unfold f_X11_operand f_X11_operand_b23
    rw [lk_m h hi, bd_some]
    dsimp only
    rw [hvv, h64, if_pos rfl, lt_eq, nI_p1]
  have eM2 := eM
  unfold f_X11_operand_b33 at eM2
  rw [dg_m h hq, bd_some] at eM2
  dsimp only at eM2
  rw [lt_eq, if_pos rfl, if_pos rfl] at eM2
  unfold f_X11_operand_b78 at eM2
  rw [fa_1, bd_some] at eM2
  unfold f_X3_readTie f_X3_readTie_b74 at eX
  simp only [lt_eq, nI_p1, pd_x h hq, bd_some, pk_sub hd.1, fi_d hq h] at eX
  by_cases z0 : pd L tb (sk L tb i + 1) - (sk L tb i + 1) = 0
  · refine Or.inl ⟨sk L tb i, nI (pd L tb (sk L tb i + 1)), oo, ot, nI (pd L tb (sk L tb i + 1)), nI (vl (cf tb) (sk L tb i + 1) (min (pd L tb (sk L tb i + 1) - (sk L tb i + 1)) 9)), mo, hp.2, ?_, ?_⟩
    · intro fu
      rw [eX fu, if_pos (show nI (pd L tb (sk L tb i + 1) - (sk L tb i + 1)) < 1 from nI_lt (b := 1) (by omega) (by decide)), bd_some]
      unfold f_X3_readOperands_b48
      dsimp only
      rw [if_neg (nm1_ne (by omega))]
    · rw [eM2, if_pos (show nI (pd L tb (sk L tb i + 1) - (sk L tb i + 1)) = 0 from congrArg nI z0)]
  · by_cases z2 : 2 < pd L tb (sk L tb i + 1) - (sk L tb i + 1)
    · refine Or.inl ⟨sk L tb i, nI (pd L tb (sk L tb i + 1)), oo, ot, nI (pd L tb (sk L tb i + 1)), nI (vl (cf tb) (sk L tb i + 1) (min (pd L tb (sk L tb i + 1) - (sk L tb i + 1)) 9)), mo, hp.2, ?_, ?_⟩
      · intro fu
        rw [eX fu, if_neg (show ¬ nI (pd L tb (sk L tb i + 1) - (sk L tb i + 1)) < 1 from nI_nlt (b := 1) (by omega) (by omega)), if_pos (show (2 : Int32) < nI (pd L tb (sk L tb i + 1) - (sk L tb i + 1)) from nI_lt (a := 2) z2 (by omega)), bd_some]
        unfold f_X3_readOperands_b48
        dsimp only
        rw [if_neg (nm1_ne (by omega))]
      · rw [eM2, if_neg (nI_ne0 (by omega) (by omega)), if_pos (show (2 : Int32) < nI (pd L tb (sk L tb i + 1) - (sk L tb i + 1)) from nI_lt (a := 2) z2 (by omega))]
    · have hmin : min (pd L tb (sk L tb i + 1) - (sk L tb i + 1)) 9 = pd L tb (sk L tb i + 1) - (sk L tb i + 1) := by omega
      have hv := vl9 (tb := tb) hq (by omega)
      rw [hmin] at eM2
      by_cases hvl : vl (cf tb) (sk L tb i + 1) (pd L tb (sk L tb i + 1) - (sk L tb i + 1)) < l
      · obtain ⟨b, hb1, hb2, hb3⟩ := h39 h hd.2
        have hT : TIE l (nI (2 * vl (cf tb) (sk L tb i + 1) (pd L tb (sk L tb i + 1) - (sk L tb i + 1)) + b.toNat)) := Or.inr ⟨_, b.toNat, hvl, by cases b <;> decide, rfl⟩
        have hO := ow_tie hw O hT
        refine Or.inr ⟨pd L tb (sk L tb i + 1) + b.toNat, oo, _, _, nI (vl (cf tb) (sk L tb i + 1) (pd L tb (sk L tb i + 1) - (sk L tb i + 1))), by omega, hb3, ?_, ?_, hO.1, hO.2⟩
        · intro fu
          rw [eX fu, if_neg (show ¬ nI (pd L tb (sk L tb i + 1) - (sk L tb i + 1)) < 1 from nI_nlt (b := 1) (by omega) (by omega)), if_neg (show ¬ (2 : Int32) < nI (pd L tb (sk L tb i + 1) - (sk L tb i + 1)) from nI_nlt (a := 2) (by omega) (by decide)), if_pos (nI_lt hvl (by omega))]
          have hb1' := hb1 (β := Int32 × Int32 × (Nat → Int32)) (fun v6 => gv (nI (l * 3 + w)) 180 (some ((-1 : Int32), nI (pd L tb (sk L tb i + 1)) + bI (if v6 = true then true else false), upd ot (nI (l * 3 + w)).toNatClampNeg ((2 : Int32) * nI (vl (cf tb) (sk L tb i + 1) (pd L tb (sk L tb i + 1) - (sk L tb i + 1))) + bI (if v6 = true then true else false)))))
          simp only [lt_eq] at hb1'
          rw [hb1', itB, bI_N, nI_add, ri2, gv_N (by omega) (by decide), nI_clamp (by omega), bd_some]
          unfold f_X3_readOperands_b48
          dsimp only
          rw [if_pos rfl, lt_eq, nI_p1]
        · rw [eM2, if_neg (nI_ne0 (by omega) (by omega)), if_neg (show ¬ (2 : Int32) < nI (pd L tb (sk L tb i + 1) - (sk L tb i + 1)) from nI_nlt (a := 2) (by omega) (by decide)), if_pos (nI_lt hvl (by omega))]
          unfold f_X11_operand_b85
          rw [if_pos rfl, r7_4, gv_N (by omega) (by decide), hb2, lt_eq, lt_eq, gv_N (by omega) (by decide), nI_clamp (by omega), bI_N, nI_add, ri2]
      · refine Or.inl ⟨sk L tb i, nI (pd L tb (sk L tb i + 1)), oo, ot, nI (pd L tb (sk L tb i + 1)), nI (vl (cf tb) (sk L tb i + 1) (pd L tb (sk L tb i + 1) - (sk L tb i + 1))), mo, hp.2, ?_, ?_⟩
        · intro fu
          rw [eX fu, if_neg (show ¬ nI (pd L tb (sk L tb i + 1) - (sk L tb i + 1)) < 1 from nI_nlt (b := 1) (by omega) (by omega)), if_neg (show ¬ (2 : Int32) < nI (pd L tb (sk L tb i + 1) - (sk L tb i + 1)) from nI_nlt (a := 2) (by omega) (by decide)), if_neg (nI_nlt (by omega) (by omega)), bd_some]
          unfold f_X3_readOperands_b48
          dsimp only
          rw [if_neg (nm1_ne (by omega))]
        · rw [eM2, if_neg (nI_ne0 (by omega) (by omega)), if_neg (show ¬ (2 : Int32) < nI (pd L tb (sk L tb i + 1) - (sk L tb i + 1)) from nI_nlt (a := 2) (by omega) (by decide)), if_neg (nI_nlt (by omega) (by omega))]
theorem op_neg (h : TP L tb mt) {l w nm i : Nat} (hl : l < 60) (hw : w < 3) (hwn : w < nm) (hnm : nm ≤ 3) (hi : i ≤ L) {oo ot mo : Nat → Int32} (O : OW l w oo ot mo) (mv : Int32) (hlt : sk L tb i < L) (hc : cf tb (sk L tb i) = 45) : OPR L tb mt l w nm i oo ot mo mv := by
  have hL := h.1
  have hp := sk_le (tb := tb) hi
  have ht := tp_c h hlt
  have hq : sk L tb i + 1 ≤ L := hlt
  have hvv : hv' L tb (sk L tb i) = nI (cf tb (sk L tb i)) := if_pos hlt
  have h45 := (e45 ht.2.1).2 hc
  have h64 : ¬ nI (cf tb (sk L tb i)) = 64 := by rw [h45]; decide
  have hd := pd_le (tb := tb) hq
  have eX : ∀ fu, f_X3_readOperands_l2 (nI l) (nI L) tb (fu + 1) (nI (l * 3)) (nI nm) (nI w) (nI i) oo ot = bd (if (nI (pd L tb (sk L tb i + 1) - (sk L tb i + 1))) < 1 then some (nI (sk L tb i), nI (pd L tb (sk L tb i + 1)), oo) else (if (nI (pd L tb (sk L tb i + 1) - (sk L tb i + 1))) ≤ 9 then (gv (nI (l * 3 + w)) 180 (some (-1, nI (pd L tb (sk L tb i + 1)), upd oo (nI (l * 3 + w)).toNatClampNeg (-(nI (vl (cf tb) (sk L tb i + 1) (pd L tb (sk L tb i + 1) - (sk L tb i + 1)))))))) else some (nI (sk L tb i), nI (pd L tb (sk L tb i + 1)), oo))) (fun o3 => f_X3_readOperands_b48 (nI l) (nI L) tb (f_X3_readOperands_l2 (nI l) (nI L) tb fu) (nI (l * 3)) (nI nm) (nI w) o3.1 o3.2.1 o3.2.2 ot) := by
    intro fu
    rw [f_X3_readOperands_l2, if_neg (nI_ge hwn (by omega)), if_neg (ng3 hw), sk_x h hi, bd_some, hx h hlt, bd_some, if_neg h64, nI_add]
    unfold f_X3_readNumber f_X3_readNumber_b88 f_X3_readNumber_b121
    rw [hx h hlt, bd_some]
    simp only [lt_eq, if_pos h45, if_true, show bI true = (1 : Int32) from rfl, nI_p1, pd_x h hq, bd_some, pk_sub hd.1, fi_d hq h]
  have eM : f_X11_operand (nI (7 * l)) (nI w) (nI L) (nI i) (-1) (nI l) mv mt mo = f_X11_operand_b33 (nI L) (nI l) mt (nI (7 * l)) (nI w) 45 (nI (sk L tb i)) (nI (sk L tb i + 1)) (-1) mv mo := by
    unfold f_X11_operand f_X11_operand_b23
    rw [lk_m h hi, bd_some]
    dsimp only
    rw [hvv, if_neg h64, h45, if_pos rfl, lt_eq, nI_p1]
  have eM2 := eM
  unfold f_X11_operand_b33 at eM2
  rw [dg_m h hq, bd_some] at eM2
  dsimp only at eM2
  rw [lt_eq, if_neg (by decide : ¬ (45 : Int32) = 64), if_neg (by decide : ¬ (45 : Int32) = 64)] at eM2
  unfold f_X11_operand_b78 at eM2
  rw [fa_1, bd_some] at eM2
  by_cases z0 : pd L tb (sk L tb i + 1) - (sk L tb i + 1) = 0
  · refine Or.inl ⟨sk L tb i, nI (pd L tb (sk L tb i + 1)), oo, ot, nI (pd L tb (sk L tb i + 1)), nI (vl (cf tb) (sk L tb i + 1) (min (pd L tb (sk L tb i + 1) - (sk L tb i + 1)) 9)), mo, hp.2, ?_, ?_⟩
    · intro fu
      rw [eX fu, if_pos (show (nI (pd L tb (sk L tb i + 1) - (sk L tb i + 1))) < 1 from nI_lt (b := 1) (by omega) (by decide)), bd_some]
      unfold f_X3_readOperands_b48
      dsimp only
      rw [if_neg (nm1_ne (by omega))]
    · rw [eM2, if_pos (show (nI (pd L tb (sk L tb i + 1) - (sk L tb i + 1))) = 0 from congrArg nI z0)]
  · by_cases z9 : pd L tb (sk L tb i + 1) - (sk L tb i + 1) ≤ 9
    · have hmin : min (pd L tb (sk L tb i + 1) - (sk L tb i + 1)) 9 = pd L tb (sk L tb i + 1) - (sk L tb i + 1) := by omega
      have hO := ow_num hw O (-(nI (vl (cf tb) (sk L tb i + 1) (pd L tb (sk L tb i + 1) - (sk L tb i + 1)))))
      refine Or.inr ⟨pd L tb (sk L tb i + 1), _, ot, _, nI (vl (cf tb) (sk L tb i + 1) (pd L tb (sk L tb i + 1) - (sk L tb i + 1))), by omega, hd.2, ?_, ?_, hO.1, hO.2⟩
      · intro fu
        rw [eX fu, if_neg (show ¬ (nI (pd L tb (sk L tb i + 1) - (sk L tb i + 1))) < 1 from nI_nlt (b := 1) (by omega) (by omega)), if_pos (show (nI (pd L tb (sk L tb i + 1) - (sk L tb i + 1))) ≤ 9 from nI_le (b := 9) z9 (by decide)), gv_N (by omega) (by decide), nI_clamp (by omega), bd_some]
        unfold f_X3_readOperands_b48
        dsimp only
        rw [if_pos rfl, lt_eq, nI_p1]
      · rw [eM2, if_neg (nI_ne0 (by omega) (by omega)), if_neg (show ¬ (9 : Int32) < (nI (pd L tb (sk L tb i + 1) - (sk L tb i + 1))) from nI_nlt (a := 9) (by omega) (by decide)), hmin]
        unfold f_X11_operand_b85
        rw [if_neg (by decide : ¬ (45 : Int32) = 64), r7_4, gv_N (by omega) (by decide), lt_eq, r7_1, gv_N (by omega) (by decide), nI_clamp (by omega), nI_clamp (by omega)]
        rw [if_pos rfl]
    · refine Or.inl ⟨sk L tb i, nI (pd L tb (sk L tb i + 1)), oo, ot, nI (pd L tb (sk L tb i + 1)), nI (vl (cf tb) (sk L tb i + 1) (min (pd L tb (sk L tb i + 1) - (sk L tb i + 1)) 9)), mo, hp.2, ?_, ?_⟩
      · intro fu
        rw [eX fu, if_neg (show ¬ (nI (pd L tb (sk L tb i + 1) - (sk L tb i + 1))) < 1 from nI_nlt (b := 1) (by omega) (by omega)), if_neg (show ¬ (nI (pd L tb (sk L tb i + 1) - (sk L tb i + 1))) ≤ 9 from nI_ge (a := 9) (by omega) (by omega)), bd_some]
        unfold f_X3_readOperands_b48
        dsimp only
        rw [if_neg (nm1_ne (by omega))]
      · rw [eM2, if_neg (nI_ne0 (by omega) (by omega)), if_pos (show (9 : Int32) < (nI (pd L tb (sk L tb i + 1) - (sk L tb i + 1))) from nI_lt (a := 9) (by omega) (by omega))]
theorem op_pos (h : TP L tb mt) {l w nm i : Nat} (hl : l < 60) (hw : w < 3) (hwn : w < nm) (hnm : nm ≤ 3) (hi : i ≤ L) {oo ot mo : Nat → Int32} (O : OW l w oo ot mo) (mv : Int32) (h64 : ¬ hv' L tb (sk L tb i) = 64) (h45 : ¬ hv' L tb (sk L tb i) = 45) : OPR L tb mt l w nm i oo ot mo mv := by
  have hL := h.1
  have hp := sk_le (tb := tb) hi
  have hq : sk L tb i ≤ L := hp.2
  have hX64 : ∀ {β : Type} (a : Int32 → Option β), bd (f_X5_here (nI (sk L tb i)) (nI L) tb) a = a (if sk L tb i < L then nI (cf tb (sk L tb i)) else 0) := by
    intro β a
    by_cases hlt : sk L tb i < L
    · rw [hx h hlt, bd_some, if_pos hlt]
    · rw [if_neg hlt]
      have : sk L tb i = L := by omega
      rw [this, hx_e hL, bd_some]
  have x64 : ¬ (if sk L tb i < L then nI (cf tb (sk L tb i)) else 0) = (64 : Int32) := by
    by_cases hlt : sk L tb i < L
    · rw [if_pos hlt]
      rw [show hv' L tb (sk L tb i) = nI (cf tb (sk L tb i)) from if_pos hlt] at h64
      exact h64
    · rw [if_neg hlt]
      decide
  have x45 : ¬ (if sk L tb i < L then nI (cf tb (sk L tb i)) else 0) = (45 : Int32) := by
    by_cases hlt : sk L tb i < L
    · rw [if_pos hlt]
      rw [show hv' L tb (sk L tb i) = nI (cf tb (sk L tb i)) from if_pos hlt] at h45
      exact h45
    · rw [if_neg hlt]
      decide
  have hd := pd_le (tb := tb) hq
  have eX : ∀ fu, f_X3_readOperands_l2 (nI l) (nI L) tb (fu + 1) (nI (l * 3)) (nI nm) (nI w) (nI i) oo ot = bd (if (nI (pd L tb (sk L tb i) - (sk L tb i))) < 1 then some (nI (sk L tb i), nI (pd L tb (sk L tb i)), oo) else (if (nI (pd L tb (sk L tb i) - (sk L tb i))) ≤ 9 then (gv (nI (l * 3 + w)) 180 (some (-1, nI (pd L tb (sk L tb i)), upd oo (nI (l * 3 + w)).toNatClampNeg (nI (vl (cf tb) (sk L tb i) (pd L tb (sk L tb i) - (sk L tb i))))))) else some (nI (sk L tb i), nI (pd L tb (sk L tb i)), oo))) (fun o3 => f_X3_readOperands_b48 (nI l) (nI L) tb (f_X3_readOperands_l2 (nI l) (nI L) tb fu) (nI (l * 3)) (nI nm) (nI w) o3.1 o3.2.1 o3.2.2 ot) := by
    intro fu
    rw [f_X3_readOperands_l2, if_neg (nI_ge hwn (by omega)), if_neg (ng3 hw), sk_x h hi, bd_some, hX64, if_neg x64, nI_add]
    unfold f_X3_readNumber f_X3_readNumber_b88 f_X3_readNumber_b121
    rw [hX64]
    simp only [lt_eq, if_neg x45, if_false, Bool.false_eq_true, show bI false = (0 : Int32) from rfl, Int32.add_zero, pd_x h hq, bd_some, pk_sub hd.1, fi_d hq h]
  have eM : f_X11_operand (nI (7 * l)) (nI w) (nI L) (nI i) (-1) (nI l) mv mt mo = f_X11_operand_b33 (nI L) (nI l) mt (nI (7 * l)) (nI w) (hv' L tb (sk L tb i)) (nI (sk L tb i)) (nI (sk L tb i)) (-1) mv mo := by
    unfold f_X11_operand
    rw [lk_m h hi, bd_some]
    dsimp only
    rw [if_neg h64, if_neg h45]
  have eM2 := eM
  unfold f_X11_operand_b33 at eM2
  rw [dg_m h hq, bd_some] at eM2
  dsimp only at eM2
  rw [lt_eq, if_neg h64, if_neg h64] at eM2
  unfold f_X11_operand_b78 at eM2
  rw [fa_1, bd_some] at eM2
  by_cases z0 : pd L tb (sk L tb i) - (sk L tb i) = 0
  · refine Or.inl ⟨sk L tb i, nI (pd L tb (sk L tb i)), oo, ot, nI (pd L tb (sk L tb i)), nI (vl (cf tb) (sk L tb i) (min (pd L tb (sk L tb i) - (sk L tb i)) 9)), mo, hp.2, ?_, ?_⟩
    · intro fu
      rw [eX fu, if_pos (show (nI (pd L tb (sk L tb i) - (sk L tb i))) < 1 from nI_lt (b := 1) (by omega) (by decide)), bd_some]
      unfold f_X3_readOperands_b48
      dsimp only
      rw [if_neg (nm1_ne (by omega))]
    · rw [eM2, if_pos (show (nI (pd L tb (sk L tb i) - (sk L tb i))) = 0 from congrArg nI z0)]
  · by_cases z9 : pd L tb (sk L tb i) - (sk L tb i) ≤ 9
    · have hmin : min (pd L tb (sk L tb i) - (sk L tb i)) 9 = pd L tb (sk L tb i) - (sk L tb i) := by omega
      have hO := ow_num hw O (nI (vl (cf tb) (sk L tb i) (pd L tb (sk L tb i) - (sk L tb i))))
      refine Or.inr ⟨pd L tb (sk L tb i), _, ot, _, nI (vl (cf tb) (sk L tb i) (pd L tb (sk L tb i) - (sk L tb i))), by omega, hd.2, ?_, ?_, hO.1, hO.2⟩
      · intro fu
        rw [eX fu, if_neg (show ¬ (nI (pd L tb (sk L tb i) - (sk L tb i))) < 1 from nI_nlt (b := 1) (by omega) (by omega)), if_pos (show (nI (pd L tb (sk L tb i) - (sk L tb i))) ≤ 9 from nI_le (b := 9) z9 (by decide)), gv_N (by omega) (by decide), nI_clamp (by omega), bd_some]
        unfold f_X3_readOperands_b48
        dsimp only
        rw [if_pos rfl, lt_eq, nI_p1]
      · rw [eM2, if_neg (nI_ne0 (by omega) (by omega)), if_neg (show ¬ (9 : Int32) < (nI (pd L tb (sk L tb i) - (sk L tb i))) from nI_nlt (a := 9) (by omega) (by decide)), hmin]
        unfold f_X11_operand_b85
        rw [if_neg h64, r7_4, gv_N (by omega) (by decide), lt_eq, r7_1, gv_N (by omega) (by decide), nI_clamp (by omega), nI_clamp (by omega)]
        rw [if_neg h45]
    · refine Or.inl ⟨sk L tb i, nI (pd L tb (sk L tb i)), oo, ot, nI (pd L tb (sk L tb i)), nI (vl (cf tb) (sk L tb i) (min (pd L tb (sk L tb i) - (sk L tb i)) 9)), mo, hp.2, ?_, ?_⟩
      · intro fu
        rw [eX fu, if_neg (show ¬ (nI (pd L tb (sk L tb i) - (sk L tb i))) < 1 from nI_nlt (b := 1) (by omega) (by omega)), if_neg (show ¬ (nI (pd L tb (sk L tb i) - (sk L tb i))) ≤ 9 from nI_ge (a := 9) (by omega) (by omega)), bd_some]
        unfold f_X3_readOperands_b48
        dsimp only
        rw [if_neg (nm1_ne (by omega))]
      · rw [eM2, if_neg (nI_ne0 (by omega) (by omega)), if_pos (show (9 : Int32) < (nI (pd L tb (sk L tb i) - (sk L tb i))) from nI_lt (a := 9) (by omega) (by omega))]
theorem op_same (h : TP L tb mt) {l w nm i : Nat} (hl : l < 60) (hw : w < 3) (hwn : w < nm) (hnm : nm ≤ 3) (hi : i ≤ L) {oo ot mo : Nat → Int32} (O : OW l w oo ot mo) (mv : Int32) : OPR L tb mt l w nm i oo ot mo mv := by
  by_cases hlt : sk L tb i < L
  · have ht := tp_c h hlt
    have hvv : hv' L tb (sk L tb i) = nI (cf tb (sk L tb i)) := if_pos hlt
    by_cases h64 : cf tb (sk L tb i) = 64
    · exact op_tie h hl hw hwn hnm hi O mv hlt h64
    · by_cases h45 : cf tb (sk L tb i) = 45
      · exact op_neg h hl hw hwn hnm hi O mv hlt h45
      · exact op_pos h hl hw hwn hnm hi O mv (by rw [hvv]; exact fun x => h64 ((e64 ht.2.1).1 x)) (by rw [hvv]; exact fun x => h45 ((e45 ht.2.1).1 x))
  · have hvv : hv' L tb (sk L tb i) = -1 := if_neg hlt
    exact op_pos h hl hw hwn hnm hi O mv (by rw [hvv]; decide) (by rw [hvv]; decide)
end OpSec
