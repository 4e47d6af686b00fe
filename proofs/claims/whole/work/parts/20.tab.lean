theorem t_eighth : f_X8_eighthTurn = f_X11_eighth ∧ f_X11_eighth.isSome = true := by decide +kernel
theorem t_ln : f_X8_ofOneOver 3 false = f_X11_fifth 3 true ∧ (f_X11_fifth 3 true).isSome = true := by decide +kernel
theorem t_terms : ∀ k, k < 25 → 1 ≤ k → ∀ b, f_X8_ofShift (nI k) b = f_X11_terms (nI k) (!b) ∧ (f_X8_ofShift (nI k) b).isSome = true := by decide +kernel
