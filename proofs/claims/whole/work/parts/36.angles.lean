/-! ===== pure part: the angles ===== -/
def ro (v : Int64) (P : Int32) : Int64 := (v + ((1 : Int64) <<< (((55 : Int32) - P).toInt64 &&& 63))) >>> (((56 : Int32) - P).toInt64 &&& 63)
theorem x_ro (v : Int64) (P : Int32) : f_X8_rounded v P = some (ro v P) := rfl
theorem m_ro (v : Int64) (P : Int32) : f_X11_by v P = some (ro v P) := rfl
def e8 : Int64 := f_X11_eighth.getD 0
theorem m_e8 : f_X11_eighth = some e8 := by
  have h := t_eighth.2
  unfold e8
  cases h1 : f_X11_eighth with
  | none => rw [h1] at h; cases h
  | some a => rfl
theorem x_e8 : f_X8_eighthTurn = some e8 := t_eighth.1.trans m_e8
def tms (k : Nat) (b : Bool) : Int64 := (f_X11_terms (nI k) (!b)).getD 0
theorem m_tms {k : Nat} (h1 : 1 ≤ k) (h2 : k < 25) (b : Bool) : f_X11_terms (nI k) (!b) = some (tms k b) ∧ f_X8_ofShift (nI k) b = some (tms k b) := by
  have h := t_terms k h2 h1 b
  have h3 : f_X11_terms (nI k) (!b) = some (tms k b) := by
    rw [h.1] at h
    unfold tms
    cases h4 : f_X11_terms (nI k) (!b) with
    | none => rw [h4] at h; cases h.2
    | some a => rfl
  exact ⟨h3, h.1.trans h3⟩
def anV (md s : Nat) (P : Int32) : Int64 := if md = 1 then (if P < nI (shT md s) then (0 : Int64) else ((1 : Int64) <<< ((P - nI (shT md s)).toInt64 &&& 63))) else if md = 2 then ro (tms (shT 2 s) false) P else if s = 0 then ro e8 P else ro (tms s true) P
theorem shT_2 : ∀ s, s < 24 → 1 ≤ shT 2 s ∧ shT 2 s < 25 := by decide
theorem m_ang {md s : Nat} (hmd : md < 3) (hs : s < 24) (P : Int32) : f_X11_angleOf (nI md) (nI (shT md s)) P = some (anV md s P) := by
  unfold f_X11_angleOf f_X11_angleOf_b48 anV
  rcases (show md = 0 ∨ md = 1 ∨ md = 2 by omega) with rfl | rfl | rfl
  · rw [if_neg (by decide : ¬ nI 0 = 1), if_neg (by decide : ¬ nI 0 = 2), if_neg (by decide : ¬ 0 = 1), if_neg (by decide : ¬ 0 = 2)]
    show (if nI s = 0 then _ else bd (f_X11_terms (nI s) false) _) = _
    by_cases h : s = 0
    · rw [h, if_pos (by decide : nI 0 = 0), if_pos rfl, m_e8, bd_some, m_ro, bd_some]
    · rw [if_neg (nI_ne0 (by omega) (by omega)), if_neg h, show f_X11_terms (nI s) false = some (tms s true) from (m_tms (by omega) (by omega) true).1, bd_some, m_ro, bd_some]
  · rfl
  · have h := shT_2 s hs
    rw [if_neg (by decide : ¬ nI 2 = 1), if_pos (by decide : nI 2 = 2), if_neg (by decide : ¬ 2 = 1), if_pos rfl, show f_X11_terms (nI (shT 2 s)) true = some (tms (shT 2 s) false) from (m_tms h.1 h.2 false).1, bd_some, m_ro, bd_some]
theorem x_ang1 {md s f : Nat} (hmd : md < 3) (hs : s < 24) (P : Int32) (u : Nat → Int32) (a : Nat → Int64) (hu : u (md * 24 + s) = nI (shT md s)) : f_X8_fillAngles_l5 P (ro e8 P) u (f + 1) (nI md) (nI (md * 24 + s)) a = f_X8_fillAngles_l5 P (ro e8 P) u f (nI md) (nI (md * 24 + (s + 1))) (vp_updL a (md * 24 + s) (anV md s P)) := by
  have e1 : nI (md * 24 + s) + 1 = nI (md * 24 + (s + 1)) := nI_add (md * 24 + s) 1
  have e2 : (nI md + 1) * 24 = nI ((md + 1) * 24) := by
    rw [show nI md + 1 = nI (md + 1) from nI_add md 1, show (24 : Int32) = nI 24 from rfl, nI_mul]
  rw [f_X8_fillAngles_l5, e2, if_neg (nI_ge (by omega) (by omega)), gv_N (by omega) (by decide), nI_clamp (by omega), hu, lt_eq]
  simp only [gv_N (show md * 24 + s < 72 by omega) (by decide : 72 < 2 ^ 31), f_X8_fillAngles_b81, lt_eq, e1]
  unfold anV
  rcases (show md = 0 ∨ md = 1 ∨ md = 2 by omega) with rfl | rfl | rfl
  · rw [if_neg (by decide : ¬ nI 0 = 1), if_neg (by decide : ¬ 0 = 1), if_neg (by decide : ¬ 0 = 2)]
    show (if nI s = 0 then _ else bd (f_X8_ofShift (nI s) true) _) = _
    by_cases h : s = 0
    · rw [h, if_pos (by decide : nI 0 = 0), if_pos rfl]
    · rw [if_neg (nI_ne0 (by omega) (by omega)), if_neg h, (m_tms (by omega) (by omega) true).2, bd_some, x_ro, bd_some]
  · rfl
  · have h := shT_2 s hs
    rw [if_neg (by decide : ¬ nI 2 = 1), if_neg (nI_ne0 (by omega) (by omega)), if_neg (by decide : ¬ 2 = 1), if_pos rfl, show (if nI 2 = 0 then true else false) = false from by decide, (m_tms h.1 h.2 false).2, bd_some, x_ro, bd_some]
theorem x_angl {md : Nat} (hmd : md < 3) (P : Int32) (u : Nat → Int32) (hu : ∀ s, s < 24 → u (md * 24 + s) = nI (shT md s)) : ∀ (r s f : Nat) (a : Nat → Int64), r + s = 24 → r < f → ∃ a', f_X8_fillAngles_l5 P (ro e8 P) u f (nI md) (nI (md * 24 + s)) a = some a' ∧ (∀ t, s ≤ t → t < 24 → a' (md * 24 + t) = anV md t P) ∧ (∀ i, i < md * 24 + s ∨ md * 24 + 24 ≤ i → a' i = a i)
  | 0, s, f, a => by
    intro h1 h2
    obtain ⟨f, rfl⟩ : ∃ f', f = f' + 1 := ⟨f - 1, by omega⟩
    have e2 : (nI md + 1) * 24 = nI ((md + 1) * 24) := by
      rw [show nI md + 1 = nI (md + 1) from nI_add md 1, show (24 : Int32) = nI 24 from rfl, nI_mul]
    refine ⟨a, ?_, ?_, ?_⟩
    · rw [f_X8_fillAngles_l5, e2, if_pos (nI_le (by omega) (by omega))]
    · intro t _ _
      omega
    · intro i _
      rfl
  | r + 1, s, f, a => by
    intro h1 h2
    obtain ⟨f, rfl⟩ : ∃ f', f = f' + 1 := ⟨f - 1, by omega⟩
    obtain ⟨a', g1, g2, g3⟩ := x_angl hmd P u hu r (s + 1) f (vp_updL a (md * 24 + s) (anV md s P)) (by omega) (by omega)
    refine ⟨a', ?_, ?_, ?_⟩
    · rw [x_ang1 hmd (by omega) P u a (hu s (by omega)), g1]
    · intro t h3 h4
      rcases Nat.eq_or_lt_of_le h3 with rfl | h5
      · rw [g3 _ (Or.inl (by omega))]
        exact if_pos rfl
      · exact g2 t (by omega) h4
    · intro i h3
      rw [g3 i (by omega)]
      exact if_neg (by omega)
