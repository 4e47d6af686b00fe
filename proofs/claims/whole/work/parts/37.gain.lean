/-! ===== pure part: the gains ===== -/
/-- behind s stages, the square of a mode's gain -/
def sqV (md : Nat) : Nat → Int64
  | 0 => 18014398509481984
  | s + 1 => if md = 0 then sqV md s + (sqV md s >>> (((2 : Int32) * nI (shT md s)).toInt64 &&& 63)) else if md = 2 then sqV md s - (sqV md s >>> (((2 : Int32) * nI (shT md s)).toInt64 &&& 63)) else sqV md s
theorem x_sql {md N : Nat} (hmd : md < 3) (hN : N ≤ 24) (u : Nat → Int32) (hu : ∀ s, s < 24 → u (md * 24 + s) = nI (shT md s)) : ∀ (r s f : Nat), r + s = N → r < f → f_X8_square_l7 (nI N) u f (nI md) (sqV md s) (nI s) = some (sqV md N)
  | 0, s, f => by
    intro h1 h2
    obtain ⟨f, rfl⟩ : ∃ f', f = f' + 1 := ⟨f - 1, by omega⟩
    obtain rfl : s = N := by omega
    rw [f_X8_square_l7, if_pos (nI_le (Nat.le_refl s) (by omega))]
    rfl
  | r + 1, s, f => by
    intro h1 h2
    obtain ⟨f, rfl⟩ : ∃ f', f = f' + 1 := ⟨f - 1, by omega⟩
    rw [f_X8_square_l7, if_neg (nI_ge (by omega) (by omega)), if_neg (ng24 (by omega)), ir24, gv_N (by omega) (by decide), nI_clamp (by omega), hu s (by omega), lt_eq, lt_eq, lt_eq, show nI s + 1 = nI (s + 1) from nI_add s 1]
    have e : (if nI md = 0 then (sqV md s + (sqV md s >>> (((2 : Int32) * nI (shT md s)).toInt64 &&& 63))) else (if nI md = (2 : Int32) then (sqV md s - (sqV md s >>> (((2 : Int32) * nI (shT md s)).toInt64 &&& 63))) else sqV md s)) = sqV md (s + 1) := by
      rcases (show md = 0 ∨ md = 1 ∨ md = 2 by omega) with rfl | rfl | rfl
      · rfl
      · rfl
      · rfl
    rw [e]
    exact x_sql hmd hN u hu r (s + 1) f (by omega) (by omega)
