/-! ===== pure part: how a job begins ===== -/
def fd (x y : Int64) : Int64 := if (0 : Int64) ≤ (x ^^^ y) then x / y else (if (x / y * y) = x then x / y else x / y - 1)
theorem j_fd {x y : Int64} (h : ¬ y = 0) : f_J9_floorDiv_f86c9 x y = some (fd x y) := by
  unfold f_J9_floorDiv_f86c9 fd f_J9_floorDiv_f86c9_b27
  rw [gz_n h, lt_eq]
  split
  · rfl
  · split <;> rfl
def nrs (p q : Int64) : Int32 := (fd (((2 : Int64) * p) + q) ((2 : Int64) * q)).toInt32
theorem x_nrs {p q : Int64} (h1 : ¬ q ≤ 0) (h2 : ¬ (2 : Int64) * q = 0) : f_X7_nearest p q = some (nrs p q) := by
  unfold f_X7_nearest
  rw [if_neg h1, j_fd h2, bd_some]
  rfl
theorem m_nrs {p : Int64} {b : Nat} {qf : Nat → Int64} (hb : b < 2) (h2 : ¬ (2 : Int64) * qf b = 0) : f_X11_quarters (nI b) p qf = some (nrs p (qf b)) := by
  unfold f_X11_quarters
  rw [gv_N hb (by decide), gv_N hb (by decide), nI_clamp (by omega), j_fd h2, bd_some]
  rfl
/-! the least step at which a product's factor fits -/
def tmF (A : Int64) (P : Nat) : Nat → Nat → Nat
  | 0, s => s
  | n + 1, s => if A ≤ ((1 : Int64) <<< ((nI P + nI s).toInt64 &&& 63)) then s else tmF A P n (s + 1)
theorem tmF_s (A : Int64) (P n s : Nat) : tmF A P (n + 1) s = if A ≤ ((1 : Int64) <<< ((nI P + nI s).toInt64 &&& 63)) then s else tmF A P n (s + 1) := rfl
theorem tmF_le (A : Int64) (P : Nat) : ∀ n s, s ≤ tmF A P n s ∧ tmF A P n s ≤ s + n
  | 0, s => ⟨Nat.le_refl _, Nat.le_refl _⟩
  | n + 1, s => by
    have h := tmF_le A P n (s + 1)
    rw [tmF_s]
    split
    · omega
    · omega
theorem x_tml {P : Nat} (nr : Bool) (a v rx ry rz : Int64) : ∀ (n s fuel : Nat), n + s = 4 → n < fuel → f_X7_beginTimes_l0 (nI P) nr fuel a v rx ry rz (nI s) = some (a, 0, sh nr v (nI (tmF (ab v) P n s)), nI (tmF (ab v) P n s))
  | 0, s, fuel => by
    intro h1 h2
    obtain ⟨f, rfl⟩ : ∃ f, fuel = f + 1 := ⟨fuel - 1, by omega⟩
    rw [f_X7_beginTimes_l0, if_pos (ge4 (by omega) (by omega))]
    rfl
  | n + 1, s, fuel => by
    intro h1 h2
    obtain ⟨f, rfl⟩ : ∃ f, fuel = f + 1 := ⟨fuel - 1, by omega⟩
    rw [f_X7_beginTimes_l0, if_neg (ng4 (by omega)), j_abs, bd_some, lt_eq]
    rw [show nI s + 1 = nI (s + 1) from nI_add s 1, x_tml nr a v rx ry rz n (s + 1) f (by omega) (by omega), tmF_s]
    split
    · rfl
    · rfl
theorem m_tml {b P : Nat} (hb : b < 2) {gf pf uf : Nat → Int32} {nr : Nat → Bool} {qf lf : Nat → Int64} (a v mx my mz f1 f2 : Int64) (hv : ab v ≤ ((1 : Int64) <<< ((nI P + nI 4).toInt64 &&& 63))) : ∀ (n s fuel : Nat), n + s = 4 → n < fuel →
    f_X11_begins_l223 gf pf uf nr qf lf fuel (nI b) a v (nI P) mx my mz f1 f2 (nI s) = some (a, my, sh (nr b) v (nI (tmF (ab v) P n s)), f1, f2, nI (tmF (ab v) P n s))
  | 0, s, fuel => by
    intro h1 h2
    obtain ⟨f, rfl⟩ : ∃ f, fuel = f + 1 := ⟨fuel - 1, by omega⟩
    obtain rfl : s = 4 := by omega
    rw [f_X11_begins_l223, j_abs, bd_some, if_pos hv, m_shifted hb v (by decide) nr, bd_some]
    rfl
  | n + 1, s, fuel => by
    intro h1 h2
    obtain ⟨f, rfl⟩ : ∃ f, fuel = f + 1 := ⟨fuel - 1, by omega⟩
    rw [f_X11_begins_l223, j_abs, bd_some, m_shifted hb v (by omega) nr, bd_some, lt_eq]
    rw [show nI s + 1 = nI (s + 1) from nI_add s 1, m_tml hb a v mx my mz f1 f2 hv n (s + 1) f (by omega) (by omega), tmF_s]
    split
    · rfl
    · rfl
theorem m_sol {gf pf uf : Nat → Int32} {nr : Nat → Bool} {qf lf : Nat → Int64} (x y z f1 f2 : Int64) : ∀ (n s fuel : Nat), n + s = 7 → n < fuel → soF (ab y) x n s < 7 →
    f_X11_begins_l304 gf pf uf nr qf lf fuel x y z f1 f2 (nI s) = some (x <<< ((nI (soF (ab y) x n s)).toInt64 &&& 63), y, z, f1, f2, nI (soF (ab y) x n s))
  | 0, s, fuel => by
    intro h1 h2 h3
    exact absurd h3 (by unfold soF; omega)
  | n + 1, s, fuel => by
    intro h1 h2
    obtain ⟨f, rfl⟩ : ∃ f, fuel = f + 1 := ⟨fuel - 1, by omega⟩
    rw [f_X11_begins_l304, j_abs, bd_some, lt_eq, lt_eq, soF_s]
    split
    · exact fun _ => rfl
    · intro h3
      rw [show nI s + 1 = nI (s + 1) from nI_add s 1, m_sol x y z f1 f2 n (s + 1) f (by omega) (by omega) h3]
