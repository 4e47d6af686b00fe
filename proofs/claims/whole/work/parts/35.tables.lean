/-! ===== pure part: the tables ===== -/
def shT : Nat → Nat → Nat
  | 2, s => if s < 4 then s + 1 else if s < 14 then s else s - 1
  | _, s => s
set_option maxRecDepth 100000 in
theorem m_shL (m : Nat → Int32) : (f_X11_laysShifts m).map (fun f => (List.range 72).map f) = some ((List.range 72).map (fun i => nI (shT (i / 24) (i % 24)))) := rfl
theorem m_shifts (m : Nat → Int32) : ∃ m', f_X11_laysShifts m = some m' ∧ ∀ md, md < 3 → ∀ s, s < 24 → m' (24 * md + s) = nI (shT md s) := by
  have h := m_shL m
  cases h1 : f_X11_laysShifts m with
  | none =>
    rw [h1] at h
    exact absurd h (by intro h2; cases h2)
  | some m' =>
    refine ⟨m', rfl, ?_⟩
    rw [h1] at h
    have h2 := List.map_inj_left.1 (Option.some.inj h)
    intro md hmd s hs
    have h3 := h2 (24 * md + s) (List.mem_range.2 (by omega))
    rw [h3, show (24 * md + s) / 24 = md from by omega, show (24 * md + s) % 24 = s from by omega]
set_option maxRecDepth 100000 in
theorem x_shL0 (u : Nat → Int32) : (f_X8_fillShifts 0 u).map (fun f => (List.range 72).map f) = some ((List.range 72).map (fun i => if i / 24 = 0 then nI (shT 0 (i % 24)) else u i)) := rfl
set_option maxRecDepth 100000 in
theorem x_shL1 (u : Nat → Int32) : (f_X8_fillShifts 1 u).map (fun f => (List.range 72).map f) = some ((List.range 72).map (fun i => if i / 24 = 1 then nI (shT 1 (i % 24)) else u i)) := rfl
set_option maxRecDepth 100000 in
theorem x_shL2 (u : Nat → Int32) : (f_X8_fillShifts 2 u).map (fun f => (List.range 72).map f) = some ((List.range 72).map (fun i => if i / 24 = 2 then nI (shT 2 (i % 24)) else u i)) := rfl
