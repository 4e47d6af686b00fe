/-! ===== pure part: the reference's stages one behind the other ===== -/
theorem m_loop {b k N : Nat} {mw gf pf sg uf sm dm : Nat → Int32} {nr : Nat → Bool} {qf lf am : Nat → Int64} {S : Nat → Int32} {An : Nat → Int64} (hb : b < 2) (hk : k < 9) (hN : N ≤ 24) (hsg : sg b = nI N)
    (hS : ∀ s, s < 24 → ∃ kk, kk < 64 ∧ sm (24 * kMd k + s) = nI kk ∧ S s = nI kk) (hA : ∀ s, s < 24 → am (24 * (3 * b + kMd k) + s) = An s) (q : Int64 × Int64 × Int64) (f1 f2 : Int64) (ma : Int32) : ∀ (r s fuel : Nat), r + s = N → r < fuel →
    f_X11_comes_l30 mw gf pf sg uf nr qf lf am sm dm fuel (nI b) (nI k) (nI s) (stN (kMd k) (kTurn k) (nr b) S An q s).1 (stN (kMd k) (kTurn k) (nr b) S An q s).2.1 (stN (kMd k) (kTurn k) (nr b) S An q s).2.2 f1 f2 ma
    = bd (f_X11_ends (nI b) (nI k) (stN (kMd k) (kTurn k) (nr b) S An q N).1 (stN (kMd k) (kTurn k) (nr b) S An q N).2.1 (stN (kMd k) (kTurn k) (nr b) S An q N).2.2 f1 f2 ma gf pf nr lf dm) (fun o3 => some (true, (stN (kMd k) (kTurn k) (nr b) S An q N).1, (stN (kMd k) (kTurn k) (nr b) S An q N).2.1, (stN (kMd k) (kTurn k) (nr b) S An q N).2.2, o3.1, o3.2, ma))
  | 0, s, fuel => by
    intro h1 h2
    obtain ⟨f, rfl⟩ : ∃ f, fuel = f + 1 := ⟨fuel - 1, by omega⟩
    obtain rfl : s = N := by omega
    rw [f_X11_comes_l30, gv_N hb (by decide), nI_clamp (by omega), hsg, if_pos (nI_le (Nat.le_refl s) (by omega))]
  | r + 1, s, fuel => by
    intro h1 h2
    obtain ⟨f, rfl⟩ : ∃ f, fuel = f + 1 := ⟨fuel - 1, by omega⟩
    obtain ⟨kk, hkk, hk1, hk2⟩ := hS s (by omega)
    rw [f_X11_comes_l30, gv_N hb (by decide), nI_clamp (by omega), hsg, if_neg (nI_ge (a := s) (b := N) (by omega) (by omega)), m_stage hb hk (by omega) (by omega : kk < 2 ^ 31) hk1, bd_some, lt_eq, show nI s + 1 = nI (s + 1) from nI_add s 1, hA s (by omega), ← hk2]
    exact m_loop hb hk hN hsg hS hA q f1 f2 ma r (s + 1) f (by omega) (by omega)
