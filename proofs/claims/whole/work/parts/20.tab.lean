/-! ===== pure part: small laws ===== -/
theorem lt_eq {α β : Type} (e : α) (k : α → β) : lt e k = k e := rfl
theorem bd_some {α β : Type} (a : α) (k : α → Option β) : bd (some a) k = k a := rfl
theorem gv_in {β : Type} {i : Int32} {n : Nat} (h : vp_in i n) (x : Option β) : gv i n x = x := if_pos h
theorem gv_N {β : Type} {n N : Nat} (h : n < N) (hN : N < 2 ^ 31) (x : Option β) : gv (nI n) N x = x := gv_in (vp_in_nI h hN) x
theorem gz_n {α β : Type} {c z : α} {d : Decidable (c = z)} (h : ¬ c = z) (x : Option β) : gz c z d x = x := by unfold gz; exact if_neg h
theorem nI_lit (n : Nat) : (OfNat.ofNat n : Int32) = nI n := rfl
theorem nI_mul (a b : Nat) : nI a * nI b = nI (a * b) := pk_mul a b
theorem t_eighth : f_X8_eighthTurn = f_X11_eighth ∧ f_X11_eighth.isSome = true := by decide +kernel
theorem t_ln : f_X8_ofOneOver 3 false = f_X11_fifth 3 true ∧ (f_X11_fifth 3 true).isSome = true := by decide +kernel
theorem t_terms : ∀ k, k < 25 → 1 ≤ k → ∀ b, f_X8_ofShift (nI k) b = f_X11_terms (nI k) (!b) ∧ (f_X8_ofShift (nI k) b).isSome = true := by decide +kernel
/-! shifts -/
def sh (nr : Bool) (v : Int64) (k : Int32) : Int64 := if nr = true then (if k ≤ 0 then (v >>> (k.toInt64 &&& 63)) else ((v + ((1 : Int64) <<< ((k - (1 : Int32)).toInt64 &&& 63))) >>> (k.toInt64 &&& 63))) else (v >>> (k.toInt64 &&& 63))
theorem x_shifted (v : Int64) (k : Int32) (nr : Bool) : f_X8_shifted v k nr = some (sh nr v k) := rfl
theorem shr_0 (v : Int64) : v >>> ((0 : Int32).toInt64 &&& 63) = v := by
  have h : ((0 : Int32).toInt64 &&& 63) = 0 := by decide
  rw [h]
  simp
theorem sh_0 (nr : Bool) (v : Int64) : sh nr v 0 = v := by
  unfold sh
  rw [if_pos (by decide : (0 : Int32) ≤ 0), shr_0]
  simp
theorem m_shifted {b : Nat} (hb : b < 2) (v : Int64) {k : Nat} (hk : k < 2 ^ 31) (nr : Nat → Bool) : f_X11_shifted (nI b) v (nI k) nr = some (sh (nr b) v (nI k)) := by
  unfold f_X11_shifted
  rcases Nat.eq_zero_or_pos k with rfl | h0
  · rw [if_pos (by decide : nI 0 = 0)]
    exact congrArg some (sh_0 (nr b) v).symm
  · rw [if_neg (nI_ne0 h0 hk), gv_N hb (by decide), nI_clamp (Nat.lt_trans hb (by decide)), lt_eq]
    unfold sh
    rw [if_neg (nI_nle h0 hk)]
theorem shl_0 (v : Int64) : v <<< ((0 : Int32).toInt64 &&& 63) = v := by
  have h : ((0 : Int32).toInt64 &&& 63) = 0 := by decide
  rw [h]
  simp
