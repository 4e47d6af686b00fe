/-! ===== pure part: the angles ===== -/
def ro (v : Int64) (P : Int32) : Int64 := (v + ((1 : Int64) <<< (((55 : Int32) - P).toInt64 &&& 63))) >>> (((56 : Int32) - P).toInt64 &&& 63)
theorem x_ro (v : Int64) (P : Int32) : f_X8_rounded v P = some (ro v P) := rfl
theorem m_ro (v : Int64) (P : Int32) : f_X11_by v P = some (ro v P) := rfl
def e8 : Int64 := f_X11_eighth.getD 0
theorem m_e8 : f_X11_eighth = some e8 := by
  have h := t_eighth.2
  unfold e8
  cases h1 : f_X11_eighth with
  | none => rw [h1] at h; cases h
  | some a => rfl
theorem x_e8 : f_X8_eighthTurn = some e8 := t_eighth.1.trans m_e8
def tms (k : Nat) (b : Bool) : Int64 := (f_X11_terms (nI k) (!b)).getD 0
theorem m_tms {k : Nat} (h1 : 1 ≤ k) (h2 : k < 25) (b : Bool) : f_X11_terms (nI k) (!b) = some (tms k b) ∧ f_X8_ofShift (nI k) b = some (tms k b) := by
  have h := t_terms k h2 h1 b
  have h3 : f_X11_terms (nI k) (!b) = some (tms k b) := by
    rw [h.1] at h
    unfold tms
    cases h4 : f_X11_terms (nI k) (!b) with
    | none => rw [h4] at h; cases h.2
    | some a => rfl
  exact ⟨h3, h.1.trans h3⟩
