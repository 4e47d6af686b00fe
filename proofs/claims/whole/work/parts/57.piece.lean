/-! ===== pure part: a piece of a unit's text, and all of it ===== -/
theorem wh_t (c : Nat → Nat) (p e : Nat) : (wh c p e = 0 → wq c p e (wd 9) = true) ∧ (wh c p e = 1 → wq c p e (wd 10) = true) ∧ (wh c p e = 2 → wq c p e (wd 11) = true) ∧ (wh c p e = 3 → wq c p e (wd 13) = true) ∧ (wh c p e = 4 → wq c p e (wd 14) = true) ∧ (wh c p e = 5 → wq c p e (wd 12) = true) ∧ (wh c p e = 6 → wq c p e (wd 9) = false ∧ wq c p e (wd 10) = false ∧ wq c p e (wd 11) = false ∧ wq c p e (wd 12) = false ∧ wq c p e (wd 13) = false ∧ wq c p e (wd 14) = false) ∧ wh c p e ≤ 6 := by
  unfold wh
  cases wq c p e (wd 9) <;> cases wq c p e (wd 10) <;> cases wq c p e (wd 11) <;> cases wq c p e (wd 13) <;> cases wq c p e (wd 14) <;> cases wq c p e (wd 12) <;> decide
theorem gvL0 {β : Type} (x : Option β) : gv (0 : Int32) 6 x = x := gv_N (n := 0) (N := 6) (by decide) (by decide) x
theorem clL0 : (0 : Int32).toNatClampNeg = 0 := by decide
theorem gvL1 {β : Type} (x : Option β) : gv (1 : Int32) 6 x = x := gv_N (n := 1) (N := 6) (by decide) (by decide) x
theorem clL1 : (1 : Int32).toNatClampNeg = 1 := by decide
theorem gvL2 {β : Type} (x : Option β) : gv (2 : Int32) 6 x = x := gv_N (n := 2) (N := 6) (by decide) (by decide) x
theorem clL2 : (2 : Int32).toNatClampNeg = 2 := by decide
theorem gvL3 {β : Type} (x : Option β) : gv (3 : Int32) 6 x = x := gv_N (n := 3) (N := 6) (by decide) (by decide) x
theorem clL3 : (3 : Int32).toNatClampNeg = 3 := by decide
theorem gvL4 {β : Type} (x : Option β) : gv (4 : Int32) 6 x = x := gv_N (n := 4) (N := 6) (by decide) (by decide) x
theorem clL4 : (4 : Int32).toNatClampNeg = 4 := by decide
theorem gvL5 {β : Type} (x : Option β) : gv (5 : Int32) 6 x = x := gv_N (n := 5) (N := 6) (by decide) (by decide) x
theorem clL5 : (5 : Int32).toNatClampNeg = 5 := by decide
/-- what comes of a piece, both sides -/
def PCR (L : Nat) (tb mt : Nat → Int32) (i : Nat) (w g s f : Int32) (pp nn : Bool) (tw : Int32) (rd : Nat → Int32) : Prop :=
  (∃ (F : Nat) (c1 c2 c3 c4 : Int32) (c5 c6 : Bool) (c7 m1 m3 : Int32) (m4 : Nat → Int32), F ≤ L ∧ f_X9_readPiece w g s f pp nn (nI i) (nI L) tb = some (nI F, c1, c2, c3, c4, c5, c6, c7) ∧ f_X11_piece (nI L) (nI i) (-1) tw mt rd = some (m1, nI F, m3, m4)) ∨
  (∃ (b0 b1 b2 b3 b4 b5 : Bool) (w' g' s' f' : Int32) (pp' nn' : Bool) (e : Nat) (tw' : Int32) (rd' : Nat → Int32), i ≤ e ∧ e ≤ L ∧ f_X9_readPiece w g s f pp nn (nI i) (nI L) tb = some (-1, w', g', s', f', pp', nn', nI e) ∧ f_X11_piece (nI L) (nI i) (-1) tw mt rd = some (nI e, -1, tw', rd') ∧ PU b0 b1 b2 b3 b4 b5 w' g' s' f' pp' nn' tw' rd')
section PcSec
variable {L : Nat} {tb mt : Nat → Int32}
theorem pm_0 (h : TP L tb mt) {i : Nat} (hi : i ≤ L) (hw : wh (cf tb) (sk L tb i) (pl' L tb (sk L tb i)) = 0) (b0 b1 b2 b3 b4 b5 : Bool) (rd : Nat → Int32) : f_X11_piece (nI L) (nI i) (-1) (nI (tv b0 b1 b2 b3 b4 b5)) mt rd = if b0 = true then some (nI (sk L tb i), nI (sk L tb i), nI (tv b0 b1 b2 b3 b4 b5), rd) else bd (f_X11_number 6 22 (nI L) (nI (pl' L tb (sk L tb i))) (-1) mt) (fun o => some (o.2.1, o.2.2, nI (tv true b1 b2 b3 b4 b5), upd (upd rd 0 1) 0 o.1)) := by
  have hp := sk_le (tb := tb) hi
  have he := pl_le (tb := tb) hp.2
  unfold f_X11_piece
  rw [lk_m h hi, bd_some]
  dsimp only
  rw [we_m h hp.2, bd_some, wh_m h he.1 he.2, bd_some, hw, if_neg (by decide : ¬ 0 = 6), show nI 0 = (0 : Int32) from rfl, if_neg (by decide : ¬ (0 : Int32) = -1), lt_eq, was0 b0 b1 b2 b3 b4 b5, fa_1, bd_some]
  unfold f_X11_piece_b130 f_X11_piece_b147 f_X11_piece_b165
  cases hws : b0 with
  | true => rfl
  | false =>
    rw [if_neg (by decide), if_neg (by decide), lt_eq, set0, gvL0, if_pos rfl]
    simp only [gvL0, clL0, if_neg (by decide : ¬ (0 : Int32) = 1), if_neg (by decide : ¬ (0 : Int32) = 2), if_neg (by decide : ¬ (0 : Int32) = 3)]
theorem px_0 (h : TP L tb mt) {i : Nat} (hi : i ≤ L) (hw : wh (cf tb) (sk L tb i) (pl' L tb (sk L tb i)) = 0) (w g s f : Int32) (pp nn : Bool) : f_X9_readPiece w g s f pp nn (nI i) (nI L) tb = if (if w = (-1 : Int32) then true else false) = true then f_X9_readRest 0 w g s f pp nn (nI (pl' L tb (sk L tb i))) (nI L) tb else some (nI (sk L tb i), w, g, s, f, pp, nn, nI (pl' L tb (sk L tb i))) := by
  have hp := sk_le (tb := tb) hi
  have he := pl_le (tb := tb) hp.2
  have ht : wq (cf tb) (sk L tb i) (pl' L tb (sk L tb i)) (wd 9) = true := (wh_t _ _ _).1 hw
  unfold f_X9_readPiece
  rw [sk_x h hi, bd_some, pl_x h hp.2, bd_some]
  exact pc_hit h (k := 0) (by decide) he.1 he.2 ht 4999 w g s f pp nn (m := (if w = (-1 : Int32) then true else false)) rfl
theorem pm_1 (h : TP L tb mt) {i : Nat} (hi : i ≤ L) (hw : wh (cf tb) (sk L tb i) (pl' L tb (sk L tb i)) = 1) (b0 b1 b2 b3 b4 b5 : Bool) (rd : Nat → Int32) : f_X11_piece (nI L) (nI i) (-1) (nI (tv b0 b1 b2 b3 b4 b5)) mt rd = if b1 = true then some (nI (sk L tb i), nI (sk L tb i), nI (tv b0 b1 b2 b3 b4 b5), rd) else bd (f_X11_number 0 4 (nI L) (nI (pl' L tb (sk L tb i))) (-1) mt) (fun o => some (o.2.1, o.2.2, nI (tv b0 true b2 b3 b4 b5), upd (upd rd 1 1) 1 o.1)) := by
  have hp := sk_le (tb := tb) hi
  have he := pl_le (tb := tb) hp.2
  unfold f_X11_piece
  rw [lk_m h hi, bd_some]
  dsimp only
  rw [we_m h hp.2, bd_some, wh_m h he.1 he.2, bd_some, hw, if_neg (by decide : ¬ 1 = 6), show nI 1 = (1 : Int32) from rfl, if_neg (by decide : ¬ (1 : Int32) = -1), lt_eq, was1 b0 b1 b2 b3 b4 b5, fa_1, bd_some]
  unfold f_X11_piece_b130 f_X11_piece_b147 f_X11_piece_b165
  cases hws : b1 with
  | true => rfl
  | false =>
    rw [if_neg (by decide), if_neg (by decide), lt_eq, set1, gvL1]
    simp only [gvL1, clL1, if_neg (by decide : ¬ (1 : Int32) = 0), if_neg (by decide : ¬ (1 : Int32) = 2), if_neg (by decide : ¬ (1 : Int32) = 3), if_true]
theorem px_1 (h : TP L tb mt) {i : Nat} (hi : i ≤ L) (hw : wh (cf tb) (sk L tb i) (pl' L tb (sk L tb i)) = 1) (w g s f : Int32) (pp nn : Bool) : f_X9_readPiece w g s f pp nn (nI i) (nI L) tb = if (if g = (-1 : Int32) then true else false) = true then f_X9_readRest 1 w g s f pp nn (nI (pl' L tb (sk L tb i))) (nI L) tb else some (nI (sk L tb i), w, g, s, f, pp, nn, nI (pl' L tb (sk L tb i))) := by
  have hp := sk_le (tb := tb) hi
  have he := pl_le (tb := tb) hp.2
  have ht : wq (cf tb) (sk L tb i) (pl' L tb (sk L tb i)) (wd 10) = true := (wh_t _ _ _).2.1 hw
  unfold f_X9_readPiece
  rw [sk_x h hi, bd_some, pl_x h hp.2, bd_some]
  exact (pc_no h (k := 0) (by decide) he.1 he.2 (wq_no ht (by decide)) 4999 w g s f pp nn).trans (pc_hit h (k := 1) (by decide) he.1 he.2 ht 4998 w g s f pp nn (m := (if g = (-1 : Int32) then true else false)) rfl)
theorem pm_2 (h : TP L tb mt) {i : Nat} (hi : i ≤ L) (hw : wh (cf tb) (sk L tb i) (pl' L tb (sk L tb i)) = 2) (b0 b1 b2 b3 b4 b5 : Bool) (rd : Nat → Int32) : f_X11_piece (nI L) (nI i) (-1) (nI (tv b0 b1 b2 b3 b4 b5)) mt rd = if b2 = true then some (nI (sk L tb i), nI (sk L tb i), nI (tv b0 b1 b2 b3 b4 b5), rd) else bd (f_X11_number 5 24 (nI L) (nI (pl' L tb (sk L tb i))) (-1) mt) (fun o => some (o.2.1, o.2.2, nI (tv b0 b1 true b3 b4 b5), upd (upd rd 2 1) 2 o.1)) := by
  have hp := sk_le (tb := tb) hi
  have he := pl_le (tb := tb) hp.2
  unfold f_X11_piece
  rw [lk_m h hi, bd_some]
  dsimp only
  rw [we_m h hp.2, bd_some, wh_m h he.1 he.2, bd_some, hw, if_neg (by decide : ¬ 2 = 6), show nI 2 = (2 : Int32) from rfl, if_neg (by decide : ¬ (2 : Int32) = -1), lt_eq, was2 b0 b1 b2 b3 b4 b5, fa_1, bd_some]
  unfold f_X11_piece_b130 f_X11_piece_b147 f_X11_piece_b165
  cases hws : b2 with
  | true => rfl
  | false =>
    rw [if_neg (by decide), if_neg (by decide), lt_eq, set2, gvL2]
    simp only [gvL2, clL2, if_neg (by decide : ¬ (2 : Int32) = 0), if_neg (by decide : ¬ (2 : Int32) = 1), if_neg (by decide : ¬ (2 : Int32) = 3), if_true]
theorem px_2 (h : TP L tb mt) {i : Nat} (hi : i ≤ L) (hw : wh (cf tb) (sk L tb i) (pl' L tb (sk L tb i)) = 2) (w g s f : Int32) (pp nn : Bool) : f_X9_readPiece w g s f pp nn (nI i) (nI L) tb = if (if s = (-1 : Int32) then true else false) = true then f_X9_readRest 2 w g s f pp nn (nI (pl' L tb (sk L tb i))) (nI L) tb else some (nI (sk L tb i), w, g, s, f, pp, nn, nI (pl' L tb (sk L tb i))) := by
  have hp := sk_le (tb := tb) hi
  have he := pl_le (tb := tb) hp.2
  have ht : wq (cf tb) (sk L tb i) (pl' L tb (sk L tb i)) (wd 11) = true := (wh_t _ _ _).2.2.1 hw
  unfold f_X9_readPiece
  rw [sk_x h hi, bd_some, pl_x h hp.2, bd_some]
  exact (pc_no h (k := 0) (by decide) he.1 he.2 (wq_no ht (by decide)) 4999 w g s f pp nn).trans ((pc_no h (k := 1) (by decide) he.1 he.2 (wq_no ht (by decide)) 4998 w g s f pp nn).trans (pc_hit h (k := 2) (by decide) he.1 he.2 ht 4997 w g s f pp nn (m := (if s = (-1 : Int32) then true else false)) rfl))
theorem pm_3 (h : TP L tb mt) {i : Nat} (hi : i ≤ L) (hw : wh (cf tb) (sk L tb i) (pl' L tb (sk L tb i)) = 3) (b0 b1 b2 b3 b4 b5 : Bool) (rd : Nat → Int32) : f_X11_piece (nI L) (nI i) (-1) (nI (tv b0 b1 b2 b3 b4 b5)) mt rd = if (b3 || b5) = true then some (nI (sk L tb i), nI (sk L tb i), nI (tv b0 b1 b2 b3 b4 b5), rd) else bd (f_X11_number 1 12 (nI L) (nI (pl' L tb (sk L tb i))) (-1) mt) (fun o => some (o.2.1, o.2.2, nI (tv b0 b1 b2 true b4 b5), upd (upd rd 3 1) 3 o.1)) := by
  have hp := sk_le (tb := tb) hi
  have he := pl_le (tb := tb) hp.2
  unfold f_X11_piece
  rw [lk_m h hi, bd_some]
  dsimp only
  rw [we_m h hp.2, bd_some, wh_m h he.1 he.2, bd_some, hw, if_neg (by decide : ¬ 3 = 6), show nI 3 = (3 : Int32) from rfl, if_neg (by decide : ¬ (3 : Int32) = -1), lt_eq, was3 b0 b1 b2 b3 b4 b5, fa_1, bd_some]
  unfold f_X11_piece_b130 f_X11_piece_b147 f_X11_piece_b165
  cases hws : (b3 || b5) with
  | true => rfl
  | false =>
    rw [if_neg (by decide), if_neg (by decide), lt_eq, set3, gvL3]
    simp only [gvL3, clL3, if_neg (by decide : ¬ (3 : Int32) = 0), if_neg (by decide : ¬ (3 : Int32) = 1), if_neg (by decide : ¬ (3 : Int32) = 2), if_true]
theorem px_3 (h : TP L tb mt) {i : Nat} (hi : i ≤ L) (hw : wh (cf tb) (sk L tb i) (pl' L tb (sk L tb i)) = 3) (w g s f : Int32) (pp nn : Bool) : f_X9_readPiece w g s f pp nn (nI i) (nI L) tb = if (if pp = true then false else (if f = (-1 : Int32) then true else false)) = true then f_X9_readRest 4 w g s f pp nn (nI (pl' L tb (sk L tb i))) (nI L) tb else some (nI (sk L tb i), w, g, s, f, pp, nn, nI (pl' L tb (sk L tb i))) := by
  have hp := sk_le (tb := tb) hi
  have he := pl_le (tb := tb) hp.2
  have ht : wq (cf tb) (sk L tb i) (pl' L tb (sk L tb i)) (wd 13) = true := (wh_t _ _ _).2.2.2.1 hw
  unfold f_X9_readPiece
  rw [sk_x h hi, bd_some, pl_x h hp.2, bd_some]
  exact (pc_no h (k := 0) (by decide) he.1 he.2 (wq_no ht (by decide)) 4999 w g s f pp nn).trans ((pc_no h (k := 1) (by decide) he.1 he.2 (wq_no ht (by decide)) 4998 w g s f pp nn).trans ((pc_no h (k := 2) (by decide) he.1 he.2 (wq_no ht (by decide)) 4997 w g s f pp nn).trans ((pc_no h (k := 3) (by decide) he.1 he.2 (wq_no ht (by decide)) 4996 w g s f pp nn).trans (pc_hit h (k := 4) (by decide) he.1 he.2 ht 4995 w g s f pp nn (m := (if pp = true then false else (if f = (-1 : Int32) then true else false))) rfl))))
theorem pm_4 (h : TP L tb mt) {i : Nat} (hi : i ≤ L) (hw : wh (cf tb) (sk L tb i) (pl' L tb (sk L tb i)) = 4) (b0 b1 b2 b3 b4 b5 : Bool) (rd : Nat → Int32) : f_X11_piece (nI L) (nI i) (-1) (nI (tv b0 b1 b2 b3 b4 b5)) mt rd = if b4 = true then some (nI (sk L tb i), nI (sk L tb i), nI (tv b0 b1 b2 b3 b4 b5), rd) else some (nI (pl' L tb (sk L tb i)), -1, nI (tv b0 b1 b2 b3 true b5), upd rd 4 1) := by
  have hp := sk_le (tb := tb) hi
  have he := pl_le (tb := tb) hp.2
  unfold f_X11_piece
  rw [lk_m h hi, bd_some]
  dsimp only
  rw [we_m h hp.2, bd_some, wh_m h he.1 he.2, bd_some, hw, if_neg (by decide : ¬ 4 = 6), show nI 4 = (4 : Int32) from rfl, if_neg (by decide : ¬ (4 : Int32) = -1), lt_eq, was4 b0 b1 b2 b3 b4 b5, fa_1, bd_some]
  unfold f_X11_piece_b130 f_X11_piece_b147 f_X11_piece_b165
  cases hws : b4 with
  | true => rfl
  | false =>
    rw [if_neg (by decide), if_neg (by decide), lt_eq, set4, gvL4]
    simp only [gvL4, clL4, if_neg (by decide : ¬ (4 : Int32) = 0), if_neg (by decide : ¬ (4 : Int32) = 1), if_neg (by decide : ¬ (4 : Int32) = 2), if_neg (by decide : ¬ (4 : Int32) = 3)]
theorem px_4 (h : TP L tb mt) {i : Nat} (hi : i ≤ L) (hw : wh (cf tb) (sk L tb i) (pl' L tb (sk L tb i)) = 4) (w g s f : Int32) (pp nn : Bool) : f_X9_readPiece w g s f pp nn (nI i) (nI L) tb = if (if nn = true then false else true) = true then f_X9_readRest 5 w g s f pp nn (nI (pl' L tb (sk L tb i))) (nI L) tb else some (nI (sk L tb i), w, g, s, f, pp, nn, nI (pl' L tb (sk L tb i))) := by
  have hp := sk_le (tb := tb) hi
  have he := pl_le (tb := tb) hp.2
  have ht : wq (cf tb) (sk L tb i) (pl' L tb (sk L tb i)) (wd 14) = true := (wh_t _ _ _).2.2.2.2.1 hw
  unfold f_X9_readPiece
  rw [sk_x h hi, bd_some, pl_x h hp.2, bd_some]
  exact (pc_no h (k := 0) (by decide) he.1 he.2 (wq_no ht (by decide)) 4999 w g s f pp nn).trans ((pc_no h (k := 1) (by decide) he.1 he.2 (wq_no ht (by decide)) 4998 w g s f pp nn).trans ((pc_no h (k := 2) (by decide) he.1 he.2 (wq_no ht (by decide)) 4997 w g s f pp nn).trans ((pc_no h (k := 3) (by decide) he.1 he.2 (wq_no ht (by decide)) 4996 w g s f pp nn).trans ((pc_no h (k := 4) (by decide) he.1 he.2 (wq_no ht (by decide)) 4995 w g s f pp nn).trans (pc_hit h (k := 5) (by decide) he.1 he.2 ht 4994 w g s f pp nn (m := (if nn = true then false else true)) rfl)))))
theorem pm_5 (h : TP L tb mt) {i : Nat} (hi : i ≤ L) (hw : wh (cf tb) (sk L tb i) (pl' L tb (sk L tb i)) = 5) (b0 b1 b2 b3 b4 b5 : Bool) (rd : Nat → Int32) : f_X11_piece (nI L) (nI i) (-1) (nI (tv b0 b1 b2 b3 b4 b5)) mt rd = if (b5 || b3) = true then some (nI (sk L tb i), nI (sk L tb i), nI (tv b0 b1 b2 b3 b4 b5), rd) else some (nI (pl' L tb (sk L tb i)), -1, nI (tv b0 b1 b2 b3 b4 true), upd rd 5 1) := by
  have hp := sk_le (tb := tb) hi
  have he := pl_le (tb := tb) hp.2
  unfold f_X11_piece
  rw [lk_m h hi, bd_some]
  dsimp only
  rw [we_m h hp.2, bd_some, wh_m h he.1 he.2, bd_some, hw, if_neg (by decide : ¬ 5 = 6), show nI 5 = (5 : Int32) from rfl, if_neg (by decide : ¬ (5 : Int32) = -1), lt_eq, was5 b0 b1 b2 b3 b4 b5, fa_1, bd_some]
  unfold f_X11_piece_b130 f_X11_piece_b147 f_X11_piece_b165
  cases hws : (b5 || b3) with
  | true => rfl
  | false =>
    rw [if_neg (by decide), if_neg (by decide), lt_eq, set5, gvL5]
    simp only [gvL5, clL5, if_neg (by decide : ¬ (5 : Int32) = 0), if_neg (by decide : ¬ (5 : Int32) = 1), if_neg (by decide : ¬ (5 : Int32) = 2), if_neg (by decide : ¬ (5 : Int32) = 3)]
theorem px_5 (h : TP L tb mt) {i : Nat} (hi : i ≤ L) (hw : wh (cf tb) (sk L tb i) (pl' L tb (sk L tb i)) = 5) (w g s f : Int32) (pp nn : Bool) : f_X9_readPiece w g s f pp nn (nI i) (nI L) tb = if (if pp = true then false else (if f = (-1 : Int32) then true else false)) = true then f_X9_readRest 3 w g s f pp nn (nI (pl' L tb (sk L tb i))) (nI L) tb else some (nI (sk L tb i), w, g, s, f, pp, nn, nI (pl' L tb (sk L tb i))) := by
  have hp := sk_le (tb := tb) hi
  have he := pl_le (tb := tb) hp.2
  have ht : wq (cf tb) (sk L tb i) (pl' L tb (sk L tb i)) (wd 12) = true := (wh_t _ _ _).2.2.2.2.2.1 hw
  unfold f_X9_readPiece
  rw [sk_x h hi, bd_some, pl_x h hp.2, bd_some]
  exact (pc_no h (k := 0) (by decide) he.1 he.2 (wq_no ht (by decide)) 4999 w g s f pp nn).trans ((pc_no h (k := 1) (by decide) he.1 he.2 (wq_no ht (by decide)) 4998 w g s f pp nn).trans ((pc_no h (k := 2) (by decide) he.1 he.2 (wq_no ht (by decide)) 4997 w g s f pp nn).trans (pc_hit h (k := 3) (by decide) he.1 he.2 ht 4996 w g s f pp nn (m := (if pp = true then false else (if f = (-1 : Int32) then true else false))) rfl)))
theorem pc_none (h : TP L tb mt) {i : Nat} (hi : i ≤ L) (hw : wh (cf tb) (sk L tb i) (pl' L tb (sk L tb i)) = 6) (w g s f : Int32) (pp nn : Bool) (tw : Int32) (rd : Nat → Int32) : PCR L tb mt i w g s f pp nn tw rd := by
  have hp := sk_le (tb := tb) hi
  have he := pl_le (tb := tb) hp.2
  obtain ⟨n9, n10, n11, n12, n13, n14⟩ := (wh_t (cf tb) (sk L tb i) (pl' L tb (sk L tb i))).2.2.2.2.2.2.1 hw
  refine Or.inl ⟨sk L tb i, w, g, s, f, pp, nn, nI (pl' L tb (sk L tb i)), nI (sk L tb i), tw, rd, hp.2, ?_, ?_⟩
  · unfold f_X9_readPiece
    rw [sk_x h hi, bd_some, pl_x h hp.2, bd_some]
    refine (pc_no h (k := 0) (by decide) he.1 he.2 n9 4999 w g s f pp nn).trans ((pc_no h (k := 1) (by decide) he.1 he.2 n10 4998 w g s f pp nn).trans ((pc_no h (k := 2) (by decide) he.1 he.2 n11 4997 w g s f pp nn).trans ((pc_no h (k := 3) (by decide) he.1 he.2 n12 4996 w g s f pp nn).trans ((pc_no h (k := 4) (by decide) he.1 he.2 n13 4995 w g s f pp nn).trans ((pc_no h (k := 5) (by decide) he.1 he.2 n14 4994 w g s f pp nn).trans (?_))))))
    rw [f_X9_readPiece_l24, if_pos (ge6 (by decide) (by decide))]
  · unfold f_X11_piece
    rw [lk_m h hi, bd_some]
    dsimp only
    rw [we_m h hp.2, bd_some, wh_m h he.1 he.2, bd_some, hw, if_pos rfl, if_pos rfl]
    unfold f_X11_piece_b67 f_X11_piece_b72
    rw [if_pos rfl, fa_1, bd_some]
theorem pc_0 (h : TP L tb mt) {i : Nat} (hi : i ≤ L) (hw : wh (cf tb) (sk L tb i) (pl' L tb (sk L tb i)) = 0) {b0 b1 b2 b3 b4 b5 : Bool} {w g s f : Int32} {pp nn : Bool} {tw : Int32} {rd : Nat → Int32} (U : PU b0 b1 b2 b3 b4 b5 w g s f pp nn tw rd) : PCR L tb mt i w g s f pp nn tw rd := by
  have hL := h.1
  have hp := sk_le (tb := tb) hi
  have he := pl_le (tb := tb) hp.2
  have hq := sk_le (tb := tb) he.2
  have hd := pd_le (tb := tb) hq.2
  obtain ⟨u0, u1, u2, u3, u4, ⟨u5, u6⟩, u7⟩ := U
  subst u0
  have eX := px_0 h hi hw w g s f pp nn
  have eM := pm_0 h hi hw b0 b1 b2 b3 b4 b5 rd
  rcases u1 with ⟨hb, v, v1, v2, hx, _⟩ | ⟨hb, hx⟩
  · rw [if_neg (by rw [hx, if_neg (nI_nm1 (by omega))]; decide)] at eX
    rw [if_pos hb] at eM
    exact Or.inl ⟨sk L tb i, _, _, _, _, _, _, _, _, _, _, hp.2, eX, eM⟩
  · subst hb
    subst hx
    rw [if_pos (by decide), rr_x h (pi := 0) he.2 (lo := 6) (hi := 22) rfl rfl (by decide) (by decide) (by decide)] at eX
    rw [if_neg (by decide)] at eM
    obtain ⟨V, m1, m2⟩ := nu_m h (e := pl' L tb (sk L tb i)) he.2 (lo := 6) (hi := 22) (by decide) (by decide)
    rw [show f_X11_number 6 22 (nI L) (nI (pl' L tb (sk L tb i))) (-1) mt = _ from m1, bd_some] at eM
    cases hok : okN (cf tb) (sk L tb (pl' L tb (sk L tb i))) (pd L tb (sk L tb (pl' L tb (sk L tb i)))) 6 22 with
    | false =>
      rw [hok, if_neg (by decide)] at eX eM
      exact Or.inl ⟨sk L tb (pl' L tb (sk L tb i)), _, _, _, _, _, _, _, _, _, _, hq.2, eX, eM⟩
    | true =>
      have eV := m2 hok
      have VB := (of_decide_eq_true hok).2.2
      rw [hok, if_pos rfl] at eX eM
      have z : ∀ j, ¬ j = 0 → (upd (upd rd 0 1) 0 V) j = rd j := fun j hj => by rw [pk_un hj, pk_un hj]
      have u2' : (b1 = true ∧ ∃ v, v ≤ 4 ∧ g = nI v ∧ (upd (upd rd 0 1) 0 V) 1 = nI v) ∨ (b1 = false ∧ g = -1 ∧ (upd (upd rd 0 1) 0 V) 1 = 2) := by rw [z 1 (by decide)]; exact u2
      have u3' : (b2 = true ∧ ∃ v, 5 ≤ v ∧ v ≤ 24 ∧ s = nI v ∧ (upd (upd rd 0 1) 0 V) 2 = nI v) ∨ (b2 = false ∧ s = -1) := by rw [z 2 (by decide)]; exact u3
      have u4' : (b3 = true ∧ ∃ v, 1 ≤ v ∧ v ≤ 12 ∧ f = nI v ∧ (upd (upd rd 0 1) 0 V) 3 = nI v) ∨ (b3 = false ∧ f = -1 ∧ (upd (upd rd 0 1) 0 V) 3 = 0) := by rw [z 3 (by decide)]; exact u4
      have u6' : (upd (upd rd 0 1) 0 V) 4 = bI b4 := by rw [z 4 (by decide)]; exact u6
      exact Or.inr ⟨true, b1, b2, b3, b4, b5, _, _, _, _, _, _, pd L tb (sk L tb (pl' L tb (sk L tb i))), _, _, by omega, hd.2, eX, eM, ⟨rfl, Or.inl ⟨rfl, _, VB.1, VB.2, rfl, (pk_us.trans eV)⟩, u2', u3', u4', ⟨u5, u6'⟩, u7⟩⟩
theorem pc_1 (h : TP L tb mt) {i : Nat} (hi : i ≤ L) (hw : wh (cf tb) (sk L tb i) (pl' L tb (sk L tb i)) = 1) {b0 b1 b2 b3 b4 b5 : Bool} {w g s f : Int32} {pp nn : Bool} {tw : Int32} {rd : Nat → Int32} (U : PU b0 b1 b2 b3 b4 b5 w g s f pp nn tw rd) : PCR L tb mt i w g s f pp nn tw rd := by
  have hL := h.1
  have hp := sk_le (tb := tb) hi
  have he := pl_le (tb := tb) hp.2
  have hq := sk_le (tb := tb) he.2
  have hd := pd_le (tb := tb) hq.2
  obtain ⟨u0, u1, u2, u3, u4, ⟨u5, u6⟩, u7⟩ := U
  subst u0
  have eX := px_1 h hi hw w g s f pp nn
  have eM := pm_1 h hi hw b0 b1 b2 b3 b4 b5 rd
  rcases u2 with ⟨hb, v, v2, hx, _⟩ | ⟨hb, hx, hr2⟩
  · rw [if_neg (by rw [hx, if_neg (nI_nm1 (by omega))]; decide)] at eX
    rw [if_pos hb] at eM
    exact Or.inl ⟨sk L tb i, _, _, _, _, _, _, _, _, _, _, hp.2, eX, eM⟩
  · subst hb
    subst hx
    rw [if_pos (by decide), rr_x h (pi := 1) he.2 (lo := 0) (hi := 4) rfl rfl (by decide) (by decide) (by decide)] at eX
    rw [if_neg (by decide)] at eM
    obtain ⟨V, m1, m2⟩ := nu_m h (e := pl' L tb (sk L tb i)) he.2 (lo := 0) (hi := 4) (by decide) (by decide)
    rw [show f_X11_number 0 4 (nI L) (nI (pl' L tb (sk L tb i))) (-1) mt = _ from m1, bd_some] at eM
    cases hok : okN (cf tb) (sk L tb (pl' L tb (sk L tb i))) (pd L tb (sk L tb (pl' L tb (sk L tb i)))) 0 4 with
    | false =>
      rw [hok, if_neg (by decide)] at eX eM
      exact Or.inl ⟨sk L tb (pl' L tb (sk L tb i)), _, _, _, _, _, _, _, _, _, _, hq.2, eX, eM⟩
    | true =>
      have eV := m2 hok
      have VB := (of_decide_eq_true hok).2.2
      rw [hok, if_pos rfl] at eX eM
      have z : ∀ j, ¬ j = 1 → (upd (upd rd 1 1) 1 V) j = rd j := fun j hj => by rw [pk_un hj, pk_un hj]
      have u1' : (b0 = true ∧ ∃ v, 6 ≤ v ∧ v ≤ 22 ∧ w = nI v ∧ (upd (upd rd 1 1) 1 V) 0 = nI v) ∨ (b0 = false ∧ w = -1) := by rw [z 0 (by decide)]; exact u1
      have u3' : (b2 = true ∧ ∃ v, 5 ≤ v ∧ v ≤ 24 ∧ s = nI v ∧ (upd (upd rd 1 1) 1 V) 2 = nI v) ∨ (b2 = false ∧ s = -1) := by rw [z 2 (by decide)]; exact u3
      have u4' : (b3 = true ∧ ∃ v, 1 ≤ v ∧ v ≤ 12 ∧ f = nI v ∧ (upd (upd rd 1 1) 1 V) 3 = nI v) ∨ (b3 = false ∧ f = -1 ∧ (upd (upd rd 1 1) 1 V) 3 = 0) := by rw [z 3 (by decide)]; exact u4
      have u6' : (upd (upd rd 1 1) 1 V) 4 = bI b4 := by rw [z 4 (by decide)]; exact u6
      exact Or.inr ⟨b0, true, b2, b3, b4, b5, _, _, _, _, _, _, pd L tb (sk L tb (pl' L tb (sk L tb i))), _, _, by omega, hd.2, eX, eM, ⟨rfl, u1', Or.inl ⟨rfl, _, VB.2, rfl, (pk_us.trans eV)⟩, u3', u4', ⟨u5, u6'⟩, u7⟩⟩
theorem pc_2 (h : TP L tb mt) {i : Nat} (hi : i ≤ L) (hw : wh (cf tb) (sk L tb i) (pl' L tb (sk L tb i)) = 2) {b0 b1 b2 b3 b4 b5 : Bool} {w g s f : Int32} {pp nn : Bool} {tw : Int32} {rd : Nat → Int32} (U : PU b0 b1 b2 b3 b4 b5 w g s f pp nn tw rd) : PCR L tb mt i w g s f pp nn tw rd := by
  have hL := h.1
  have hp := sk_le (tb := tb) hi
  have he := pl_le (tb := tb) hp.2
  have hq := sk_le (tb := tb) he.2
  have hd := pd_le (tb := tb) hq.2
  obtain ⟨u0, u1, u2, u3, u4, ⟨u5, u6⟩, u7⟩ := U
  subst u0
  have eX := px_2 h hi hw w g s f pp nn
  have eM := pm_2 h hi hw b0 b1 b2 b3 b4 b5 rd
  rcases u3 with ⟨hb, v, v1, v2, hx, _⟩ | ⟨hb, hx⟩
  · rw [if_neg (by rw [hx, if_neg (nI_nm1 (by omega))]; decide)] at eX
    rw [if_pos hb] at eM
    exact Or.inl ⟨sk L tb i, _, _, _, _, _, _, _, _, _, _, hp.2, eX, eM⟩
  · subst hb
    subst hx
    rw [if_pos (by decide), rr_x h (pi := 2) he.2 (lo := 5) (hi := 24) rfl rfl (by decide) (by decide) (by decide)] at eX
    rw [if_neg (by decide)] at eM
    obtain ⟨V, m1, m2⟩ := nu_m h (e := pl' L tb (sk L tb i)) he.2 (lo := 5) (hi := 24) (by decide) (by decide)
    rw [show f_X11_number 5 24 (nI L) (nI (pl' L tb (sk L tb i))) (-1) mt = _ from m1, bd_some] at eM
    cases hok : okN (cf tb) (sk L tb (pl' L tb (sk L tb i))) (pd L tb (sk L tb (pl' L tb (sk L tb i)))) 5 24 with
    | false =>
      rw [hok, if_neg (by decide)] at eX eM
      exact Or.inl ⟨sk L tb (pl' L tb (sk L tb i)), _, _, _, _, _, _, _, _, _, _, hq.2, eX, eM⟩
    | true =>
      have eV := m2 hok
      have VB := (of_decide_eq_true hok).2.2
      rw [hok, if_pos rfl] at eX eM
      have z : ∀ j, ¬ j = 2 → (upd (upd rd 2 1) 2 V) j = rd j := fun j hj => by rw [pk_un hj, pk_un hj]
      have u1' : (b0 = true ∧ ∃ v, 6 ≤ v ∧ v ≤ 22 ∧ w = nI v ∧ (upd (upd rd 2 1) 2 V) 0 = nI v) ∨ (b0 = false ∧ w = -1) := by rw [z 0 (by decide)]; exact u1
      have u2' : (b1 = true ∧ ∃ v, v ≤ 4 ∧ g = nI v ∧ (upd (upd rd 2 1) 2 V) 1 = nI v) ∨ (b1 = false ∧ g = -1 ∧ (upd (upd rd 2 1) 2 V) 1 = 2) := by rw [z 1 (by decide)]; exact u2
      have u4' : (b3 = true ∧ ∃ v, 1 ≤ v ∧ v ≤ 12 ∧ f = nI v ∧ (upd (upd rd 2 1) 2 V) 3 = nI v) ∨ (b3 = false ∧ f = -1 ∧ (upd (upd rd 2 1) 2 V) 3 = 0) := by rw [z 3 (by decide)]; exact u4
      have u6' : (upd (upd rd 2 1) 2 V) 4 = bI b4 := by rw [z 4 (by decide)]; exact u6
      exact Or.inr ⟨b0, b1, true, b3, b4, b5, _, _, _, _, _, _, pd L tb (sk L tb (pl' L tb (sk L tb i))), _, _, by omega, hd.2, eX, eM, ⟨rfl, u1', u2', Or.inl ⟨rfl, _, VB.1, VB.2, rfl, (pk_us.trans eV)⟩, u4', ⟨u5, u6'⟩, u7⟩⟩
theorem pc_3 (h : TP L tb mt) {i : Nat} (hi : i ≤ L) (hw : wh (cf tb) (sk L tb i) (pl' L tb (sk L tb i)) = 3) {b0 b1 b2 b3 b4 b5 : Bool} {w g s f : Int32} {pp nn : Bool} {tw : Int32} {rd : Nat → Int32} (U : PU b0 b1 b2 b3 b4 b5 w g s f pp nn tw rd) : PCR L tb mt i w g s f pp nn tw rd := by
  have hL := h.1
  have hp := sk_le (tb := tb) hi
  have he := pl_le (tb := tb) hp.2
  have hq := sk_le (tb := tb) he.2
  have hd := pd_le (tb := tb) hq.2
  obtain ⟨u0, u1, u2, u3, u4, ⟨u5, u6⟩, u7⟩ := U
  subst u0
  have eX := px_3 h hi hw w g s f pp nn
  have eM := pm_3 h hi hw b0 b1 b2 b3 b4 b5 rd
  subst u7
  rcases u4 with ⟨hb, v, v1, v2, hx, _⟩ | ⟨hb, hx, hr3⟩
  · rw [if_neg (by
      cases pp with
      | true => rw [if_pos rfl]; decide
      | false => rw [if_neg (by decide), hx, if_neg (nI_nm1 (by omega))]; decide)] at eX
    rw [if_pos (by rw [hb]; rfl)] at eM
    exact Or.inl ⟨sk L tb i, _, _, _, _, _, _, _, _, _, _, hp.2, eX, eM⟩
  · subst hb
    subst hx
    cases pp with
    | true =>
      rw [if_neg (by decide)] at eX
      rw [if_pos (by decide)] at eM
      exact Or.inl ⟨sk L tb i, _, _, _, _, _, _, _, _, _, _, hp.2, eX, eM⟩
    | false =>
      rw [if_pos (by decide), rr_x h (pi := 4) he.2 (lo := 1) (hi := 12) rfl rfl (by decide) (by decide) (by decide)] at eX
      rw [if_neg (by decide)] at eM
      obtain ⟨V, m1, m2⟩ := nu_m h (e := pl' L tb (sk L tb i)) he.2 (lo := 1) (hi := 12) (by decide) (by decide)
      rw [show f_X11_number 1 12 (nI L) (nI (pl' L tb (sk L tb i))) (-1) mt = _ from m1, bd_some] at eM
      cases hok : okN (cf tb) (sk L tb (pl' L tb (sk L tb i))) (pd L tb (sk L tb (pl' L tb (sk L tb i)))) 1 12 with
      | false =>
        rw [hok, if_neg (by decide)] at eX eM
        exact Or.inl ⟨sk L tb (pl' L tb (sk L tb i)), _, _, _, _, _, _, _, _, _, _, hq.2, eX, eM⟩
      | true =>
        have eV := m2 hok
        have VB := (of_decide_eq_true hok).2.2
        rw [hok, if_pos rfl] at eX eM
        have z : ∀ j, ¬ j = 3 → (upd (upd rd 3 1) 3 V) j = rd j := fun j hj => by rw [pk_un hj, pk_un hj]
        have u1' : (b0 = true ∧ ∃ v, 6 ≤ v ∧ v ≤ 22 ∧ w = nI v ∧ (upd (upd rd 3 1) 3 V) 0 = nI v) ∨ (b0 = false ∧ w = -1) := by rw [z 0 (by decide)]; exact u1
        have u2' : (b1 = true ∧ ∃ v, v ≤ 4 ∧ g = nI v ∧ (upd (upd rd 3 1) 3 V) 1 = nI v) ∨ (b1 = false ∧ g = -1 ∧ (upd (upd rd 3 1) 3 V) 1 = 2) := by rw [z 1 (by decide)]; exact u2
        have u3' : (b2 = true ∧ ∃ v, 5 ≤ v ∧ v ≤ 24 ∧ s = nI v ∧ (upd (upd rd 3 1) 3 V) 2 = nI v) ∨ (b2 = false ∧ s = -1) := by rw [z 2 (by decide)]; exact u3
        have u6' : (upd (upd rd 3 1) 3 V) 4 = bI b4 := by rw [z 4 (by decide)]; exact u6
        exact Or.inr ⟨b0, b1, b2, true, b4, false, _, _, _, _, _, _, pd L tb (sk L tb (pl' L tb (sk L tb i))), _, _, by omega, hd.2, eX, eM, ⟨rfl, u1', u2', u3', Or.inl ⟨rfl, _, VB.1, VB.2, rfl, (pk_us.trans eV)⟩, ⟨u5, u6'⟩, rfl⟩⟩
theorem pc_4 (h : TP L tb mt) {i : Nat} (hi : i ≤ L) (hw : wh (cf tb) (sk L tb i) (pl' L tb (sk L tb i)) = 4) {b0 b1 b2 b3 b4 b5 : Bool} {w g s f : Int32} {pp nn : Bool} {tw : Int32} {rd : Nat → Int32} (U : PU b0 b1 b2 b3 b4 b5 w g s f pp nn tw rd) : PCR L tb mt i w g s f pp nn tw rd := by
  have hL := h.1
  have hp := sk_le (tb := tb) hi
  have he := pl_le (tb := tb) hp.2
  have hq := sk_le (tb := tb) he.2
  have hd := pd_le (tb := tb) hq.2
  obtain ⟨u0, u1, u2, u3, u4, ⟨u5, u6⟩, u7⟩ := U
  subst u0
  have eX := px_4 h hi hw w g s f pp nn
  have eM := pm_4 h hi hw b0 b1 b2 b3 b4 b5 rd
  subst u5
  cases nn with
  | true =>
    rw [if_neg (by decide)] at eX
    rw [if_pos rfl] at eM
    exact Or.inl ⟨sk L tb i, _, _, _, _, _, _, _, _, _, _, hp.2, eX, eM⟩
  | false =>
    rw [if_pos (by decide)] at eX
    rw [if_neg (by decide)] at eM
    have z : ∀ j, ¬ j = 4 → (upd rd 4 1) j = rd j := fun j hj => pk_un hj
    have eX2 : f_X9_readPiece w g s f pp false (nI i) (nI L) tb = some (-1, w, g, s, f, pp, true, nI (pl' L tb (sk L tb i))) := eX
    refine Or.inr ⟨b0, b1, b2, b3, true, b5, _, _, _, _, _, _, pl' L tb (sk L tb i), _, _, by omega, he.2, eX2, eM, ⟨rfl, ?_, ?_, ?_, ?_, ⟨rfl, pk_us⟩, u7⟩⟩
    · rw [z 0 (by decide)]; exact u1
    · rw [z 1 (by decide)]; exact u2
    · rw [z 2 (by decide)]; exact u3
    · rw [z 3 (by decide)]; exact u4
theorem pc_5 (h : TP L tb mt) {i : Nat} (hi : i ≤ L) (hw : wh (cf tb) (sk L tb i) (pl' L tb (sk L tb i)) = 5) {b0 b1 b2 b3 b4 b5 : Bool} {w g s f : Int32} {pp nn : Bool} {tw : Int32} {rd : Nat → Int32} (U : PU b0 b1 b2 b3 b4 b5 w g s f pp nn tw rd) : PCR L tb mt i w g s f pp nn tw rd := by
  have hL := h.1
  have hp := sk_le (tb := tb) hi
  have he := pl_le (tb := tb) hp.2
  have hq := sk_le (tb := tb) he.2
  have hd := pd_le (tb := tb) hq.2
  obtain ⟨u0, u1, u2, u3, u4, ⟨u5, u6⟩, u7⟩ := U
  subst u0
  have eX := px_5 h hi hw w g s f pp nn
  have eM := pm_5 h hi hw b0 b1 b2 b3 b4 b5 rd
  subst u7
  rcases u4 with ⟨hb, v, v1, v2, hx, hr3⟩ | ⟨hb, hx, hr3⟩
  · rw [if_neg (by
      cases pp with
      | true => rw [if_pos rfl]; decide
      | false => rw [if_neg (by decide), hx, if_neg (nI_nm1 (by omega))]; decide)] at eX
    rw [if_pos (by rw [hb]; cases pp <;> rfl)] at eM
    exact Or.inl ⟨sk L tb i, _, _, _, _, _, _, _, _, _, _, hp.2, eX, eM⟩
  · subst hb
    subst hx
    cases pp with
    | true =>
      rw [if_neg (by decide)] at eX
      rw [if_pos (by decide)] at eM
      exact Or.inl ⟨sk L tb i, _, _, _, _, _, _, _, _, _, _, hp.2, eX, eM⟩
    | false =>
      rw [if_pos (by decide)] at eX
      rw [if_neg (by decide)] at eM
      have z : ∀ j, ¬ j = 5 → (upd rd 5 1) j = rd j := fun j hj => pk_un hj
      have eX2 : f_X9_readPiece w g s (-1) false nn (nI i) (nI L) tb = some (-1, w, g, s, -1, true, nn, nI (pl' L tb (sk L tb i))) := eX
      refine Or.inr ⟨b0, b1, b2, false, b4, true, _, _, _, _, _, _, pl' L tb (sk L tb i), _, _, by omega, he.2, eX2, eM, ⟨rfl, ?_, ?_, ?_, ?_, ⟨u5, ?_⟩, rfl⟩⟩
      · rw [z 0 (by decide)]; exact u1
      · rw [z 1 (by decide)]; exact u2
      · rw [z 2 (by decide)]; exact u3
      · rw [z 3 (by decide)]; exact Or.inr ⟨rfl, rfl, hr3⟩
      · rw [z 4 (by decide)]; exact u6
theorem pc_same (h : TP L tb mt) {i : Nat} (hi : i ≤ L) {b0 b1 b2 b3 b4 b5 : Bool} {w g s f : Int32} {pp nn : Bool} {tw : Int32} {rd : Nat → Int32} (U : PU b0 b1 b2 b3 b4 b5 w g s f pp nn tw rd) : PCR L tb mt i w g s f pp nn tw rd := by
  have hw := (wh_t (cf tb) (sk L tb i) (pl' L tb (sk L tb i))).2.2.2.2.2.2.2
  rcases (show wh (cf tb) (sk L tb i) (pl' L tb (sk L tb i)) = 0 ∨ wh (cf tb) (sk L tb i) (pl' L tb (sk L tb i)) = 1 ∨ wh (cf tb) (sk L tb i) (pl' L tb (sk L tb i)) = 2 ∨ wh (cf tb) (sk L tb i) (pl' L tb (sk L tb i)) = 3 ∨ wh (cf tb) (sk L tb i) (pl' L tb (sk L tb i)) = 4 ∨ wh (cf tb) (sk L tb i) (pl' L tb (sk L tb i)) = 5 ∨ wh (cf tb) (sk L tb i) (pl' L tb (sk L tb i)) = 6 by omega) with e | e | e | e | e | e | e
  · exact pc_0 h hi e U
  · exact pc_1 h hi e U
  · exact pc_2 h hi e U
  · exact pc_3 h hi e U
  · exact pc_4 h hi e U
  · exact pc_5 h hi e U
  · exact pc_none h hi e w g s f pp nn tw rd
end PcSec
