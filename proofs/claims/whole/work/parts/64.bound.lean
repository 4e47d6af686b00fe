/-! ===== pure part: how large results can be (of kinds that name a alone) ===== -/
def AB (B : Nat) (v : Int64) : Prop := -(B : Int) ≤ v.toInt ∧ v.toInt ≤ B
theorem AB.mono {A B : Nat} {v : Int64} (h : AB A v) (hl : A ≤ B) : AB B v := by
  unfold AB at *
  omega
theorem AB.add {A B : Nat} {x y : Int64} (hx : AB A x) (hy : AB B y) (h : A + B ≤ 2 ^ 61) : AB (A + B) (x + y) := by
  unfold AB at *
  rw [Int64.toInt_add, Int.bmod_eq_of_le_mul_two] <;> omega
theorem AB.sub {A B : Nat} {x y : Int64} (hx : AB A x) (hy : AB B y) (h : A + B ≤ 2 ^ 61) : AB (A + B) (x - y) := by
  unfold AB at *
  rw [Int64.toInt_sub, Int.bmod_eq_of_le_mul_two] <;> omega
theorem AB.neg {A : Nat} {x : Int64} (hx : AB A x) (h : A ≤ 2 ^ 61) : AB A (-x) := by
  unfold AB at *
  rw [Int64.toInt_neg, Int.bmod_eq_of_le_mul_two] <;> omega
theorem dv {v h : Int} {B d : Nat} (hd : 0 < d) (h1 : -(B : Int) ≤ v) (h2 : v ≤ B) (h3 : 0 ≤ h) (h4 : h ≤ d) : -(((B / d + 1 : Nat)) : Int) ≤ (v + h) / (d : Int) ∧ (v + h) / (d : Int) ≤ ((B / d + 1 : Nat) : Int) := by
  have e1 := Nat.div_add_mod B d
  have e2 := Nat.mod_lt B hd
  generalize B / d = q at e1 ⊢
  generalize B % d = r at e1 e2
  have hdI : (0 : Int) < d := by omega
  have e3 : (B : Int) = (d : Int) * q + r := by exact_mod_cast e1.symm
  have e4 : ((q + 1 : Nat) : Int) * (d : Int) = (d : Int) * q + d := by
    show ((q : Int) + 1) * (d : Int) = (d : Int) * q + d
    rw [Int.add_mul, Int.one_mul, Int.mul_comm]
  constructor
  · rw [Int.le_ediv_iff_mul_le hdI, Int.neg_mul, e4]
    generalize (d : Int) * q = m at *
    omega
  · refine Int.le_of_lt_add_one (Int.ediv_lt_of_lt_mul hdI ?_)
    rw [Int.add_mul, Int.one_mul, e4]
    generalize (d : Int) * q = m at *
    omega
theorem p2c (k : Nat) : ((2 ^ k : Nat) : Int) = (2 : Int) ^ k := by
  rw [Int.natCast_pow]
  rfl
theorem AB.shb {B : Nat} {v : Int64} (h : AB B v) (hB : B ≤ 2 ^ 60) {k : Nat} (hk : k < 60) (nr : Bool) : AB (B / 2 ^ k + 1) (sh nr v (nI k)) := by
  have hd : 0 < 2 ^ k := Nat.two_pow_pos k
  have plain : AB (B / 2 ^ k + 1) (v >>> ((nI k).toInt64 &&& 63)) := by
    unfold AB
    rw [shr_toInt (by omega)]
    have := dv (v := v.toInt) (h := 0) hd h.1 h.2 (Int.le_refl 0) (by omega)
    rw [Int.add_zero, p2c] at this
    exact this
  unfold sh
  cases nr with
  | false =>
    rw [if_neg (by decide)]
    exact plain
  | true =>
    rw [if_pos rfl]
    by_cases h0 : nI k ≤ 0
    · rw [if_pos h0]
      exact plain
    · rw [if_neg h0]
      obtain ⟨k', rfl⟩ : ∃ k', k = k' + 1 := ⟨k - 1, by
        rcases Nat.eq_zero_or_pos k with rfl | h1
        · exact absurd (by decide : nI 0 ≤ 0) h0
        · omega⟩
      have e1 : ((1 : Int64) <<< ((nI (k' + 1) - 1).toInt64 &&& 63)).toInt = 2 ^ k' := by
        rw [nI_pred]
        exact one_shl (by omega)
      have hk2 : (2 : Int) ^ k' ≤ 2 ^ 59 := two_le (by omega)
      have hk3 : (0 : Int) < 2 ^ k' := Int.pow_pos (by decide)
      have e2 : (v + ((1 : Int64) <<< ((nI (k' + 1) - 1).toInt64 &&& 63))).toInt = v.toInt + 2 ^ k' := by
        have := h.1
        have := h.2
        rw [Int64.toInt_add, e1, Int.bmod_eq_of_le_mul_two] <;> omega
      unfold AB
      rw [shr_toInt (by omega), e2]
      have := dv (v := v.toInt) (h := 2 ^ k') hd h.1 h.2 (Int.le_of_lt hk3) (by rw [p2c, Int.pow_succ]; omega)
      rw [p2c] at this
      exact this
theorem AB.shl {B : Nat} {v : Int64} (h : AB B v) {k : Nat} (hk : k ≤ 16) (hB : B ≤ 2 ^ 46) : AB (B * 2 ^ k) (v <<< ((nI k).toInt64 &&& 63)) := by
  have hp : (2 : Int) ^ k ≤ 2 ^ 16 := two_le hk
  have hz : (0 : Int) < 2 ^ k := Int.pow_pos (by decide)
  have h1 : -(B : Int) * 2 ^ k ≤ v.toInt * 2 ^ k := Int.mul_le_mul_of_nonneg_right h.1 (Int.le_of_lt hz)
  have h2 : v.toInt * 2 ^ k ≤ (B : Int) * 2 ^ k := Int.mul_le_mul_of_nonneg_right h.2 (Int.le_of_lt hz)
  have h3 : (B : Int) * 2 ^ k ≤ (B : Int) * 2 ^ 16 := Int.mul_le_mul_of_nonneg_left hp (by omega)
  have e : ((B * 2 ^ k : Nat) : Int) = (B : Int) * 2 ^ k := by rw [Int.natCast_mul, p2c]
  rw [Int.neg_mul] at h1
  generalize (B : Int) * 2 ^ k = m at *
  generalize hx : v.toInt * 2 ^ k = x at *
  unfold AB
  rw [shl_toInt (by omega) (by rw [hx]; omega) (by rw [hx]; omega), hx, e]
  omega
theorem ou_sh {G : Nat} (hG : G ≤ 4) (v : Int64) : ou (nI G) v = sh true v (nI G) := by
  unfold ou sh
  rw [if_pos rfl]
  rcases Nat.eq_zero_or_pos G with rfl | h
  · rw [if_pos (by decide : nI 0 = 0), if_pos (by decide : nI 0 ≤ 0)]
    exact (shr_0 v).symm
  · rw [if_neg (nI_ne0 h (by omega)), if_neg (nI_nle h (by omega))]
theorem AB.out {B G : Nat} {v : Int64} (h : AB B v) (hB : B ≤ 2 ^ 60) (hG : G ≤ 4) : AB (B + 1) (ou (nI G) v) := by
  rw [ou_sh hG]
  refine (h.shb hB (by omega) true).mono ?_
  have := Nat.div_le_self B (2 ^ G)
  omega
/-! stages -/
def bn (md M : Nat) : Nat → Nat
  | 0 => M
  | s + 1 => bn md M s + (bn md M s / 2 ^ shT md s + 1)
theorem bn_ok : ∀ md, md < 3 → ∀ s, s < 25 → bn md (2 ^ 31) s ≤ 2 ^ 34 ∧ bn md (2 ^ 32) s ≤ 2 ^ 35 := by decide +kernel
theorem st_b {md M : Nat} (hmd : md < 3) (hM : ∀ s, s < 25 → bn md M s ≤ 2 ^ 35) (tn nr : Bool) (An : Nat → Int64) (q : Int64 × Int64 × Int64) (hx : AB M q.1) (hy : AB M q.2.1) : ∀ s, s ≤ 24 → AB (bn md M s) (stN md tn nr (fun i => nI (shT md i)) An q s).1 ∧ AB (bn md M s) (stN md tn nr (fun i => nI (shT md i)) An q s).2.1
  | 0 => fun _ => ⟨hx, hy⟩
  | s + 1 => fun hs => by
    obtain ⟨a, b⟩ := st_b hmd hM tn nr An q hx hy s (by omega)
    have hb := hM s (by omega)
    have hk := shT_lt md hmd s (by omega)
    have hb1 := hM (s + 1) (by omega)
    have hk2 : shT md s < 60 := by
      have : ∀ md, md < 3 → ∀ s, s < 24 → shT md s < 60 := by decide
      exact this md hmd s (by omega)
    have sa := a.shb (k := shT md s) (by omega) hk2 nr
    have sb := b.shb (k := shT md s) (by omega) hk2 nr
    rw [bn] at hb1 ⊢
    rw [stN]
    generalize stN md tn nr (fun i => nI (shT md i)) An q s = p at *
    unfold st1 stX
    dsimp only
    refine ⟨?_, ?_⟩
    · split
      · split
        · exact a.sub sb (by omega)
        · exact a.add sb (by omega)
      · split
        · split
          · exact a.add sb (by omega)
          · exact a.sub sb (by omega)
        · exact a.mono (Nat.le_add_right _ _)
    · split
      · exact b.add sa (by omega)
      · exact b.sub sa (by omega)
theorem an_b : ∀ s, s < 24 → ∀ P, P < 27 → 6 ≤ P → -(2 ^ 27) ≤ (anV 2 s (nI P)).toInt ∧ (anV 2 s (nI P)).toInt ≤ 2 ^ 27 := by decide +kernel
theorem st_z {P : Nat} (hP1 : 6 ≤ P) (hP2 : P < 27) (tn nr : Bool) (S : Nat → Int32) (q : Int64 × Int64 × Int64) (hz : q.2.2 = 0) : ∀ s, s ≤ 24 → AB (s * 2 ^ 27) (stN 2 tn nr S (fun i => anV 2 i (nI P)) q s).2.2
  | 0 => fun _ => by
    show AB (0 * 2 ^ 27) q.2.2
    rw [hz]
    exact ⟨by decide, by decide⟩
  | s + 1 => fun hs => by
    have a := st_z hP1 hP2 tn nr S q hz s (by omega)
    have b : AB (2 ^ 27) (anV 2 s (nI P)) := an_b s (by omega) P hP2 hP1
    rw [stN]
    generalize stN 2 tn nr S (fun i => anV 2 i (nI P)) q s = p at *
    unfold st1
    dsimp only
    split
    · exact (a.sub b (by omega)).mono (by omega)
    · exact (a.add b (by omega)).mono (by omega)
/-! what takes a gain out -/
theorem itX_0 : ∀ n, itX n 0 = 0
  | 0 => rfl
  | n + 1 => by
    rw [itX, show nX 0 = 0 from by decide]
    exact itX_0 n
theorem itX_add : ∀ a b r, itX (a + b) r = itX b (itX a r)
  | 0, b, r => by rw [Nat.zero_add]; rfl
  | a + 1, b, r => by
    rw [show a + 1 + b = (a + b) + 1 from by omega, itX, itX]
    exact itX_add a b (nX r)
theorem dg_top : ∀ N, N < 25 → 5 ≤ N → ∀ P, P < 27 → 6 ≤ P → itX (P + 2) (unV 2 N P) = 0 := by decide +kernel
theorem dg_z {N P j : Nat} (hN1 : 5 ≤ N) (hN2 : N < 25) (hP1 : 6 ≤ P) (hP2 : P < 27) (hj : P + 1 < j) : dX (itX j (unV 2 N P)) = 0 := by
  rw [show j = (P + 2) + (j - (P + 2)) from by omega, itX_add, dg_top N hN2 hN1 P hP2 hP1, itX_0]
  decide
theorem tk_b {P V : Nat} (hP : P < 27) (hV : V ≤ 2 ^ 35) (nr : Bool) (d : Nat → Int32) (v : Int64) (hv : AB V v) (hd : ∀ j, j < 32 → d j = 0 ∨ d j = 1 ∨ d j = -1) (hz : ∀ j, j < 32 → P + 1 < j → d j = 0) : ∀ (n A : Nat) (acc : Int64), n ≤ 32 → AB A acc → A + n * (2 * V + 1) ≤ 2 ^ 60 → AB (A + n * (2 * V + 1)) (tk P nr d v n acc)
  | 0, A, acc => fun _ h _ => h.mono (by omega)
  | n + 1, A, acc => fun hn h hs => by
    have hsm : (n + 1) * (2 * V + 1) = n * (2 * V + 1) + (2 * V + 1) := Nat.succ_mul n (2 * V + 1)
    rw [hsm] at hs ⊢
    have hs2 : A + (n * (2 * V + 1) + (2 * V + 1)) ≤ 2 ^ 60 := hs
    rw [tk]
    by_cases h0 : d (32 - (n + 1)) = 0
    · rw [if_pos h0]
      exact (tk_b hP hV nr d v hv hd hz n A acc (by omega) h (by omega)).mono (by omega)
    · rw [if_neg h0]
      have hj : 32 - (n + 1) ≤ P + 1 := by
        by_cases hc : 32 - (n + 1) ≤ P + 1
        · exact hc
        · exact absurd (hz _ (by omega) (by omega)) h0
      have hp : AB (2 * V + 1) (tkP P nr v (32 - (n + 1))) := by
        unfold tkP
        by_cases hl : 32 - (n + 1) ≤ P
        · rw [if_pos hl]
          refine (hv.shb (by omega) (by omega) nr).mono ?_
          have := Nat.div_le_self V (2 ^ (P - (32 - (n + 1))))
          omega
        · rw [if_neg hl, show 32 - (n + 1) - P = 1 from by omega]
          exact (hv.shl (by decide) (by omega)).mono (by omega)
      have hq : AB (2 * V + 1) ((d (32 - (n + 1))).toInt64 * tkP P nr v (32 - (n + 1))) := by
        rcases hd (32 - (n + 1)) (by omega) with e | e | e
        · exact absurd e h0
        · rw [e, d_one]
          exact hp
        · rw [e, d_neg]
          exact hp.neg (by omega)
      have := tk_b hP hV nr d v hv hd hz n (A + (2 * V + 1)) _ (by omega) (h.add hq (by omega)) (by omega)
      exact this.mono (by omega)
/-! scaled -/
theorem sc_b {V E : Nat} {v : Int64} (h : AB V v) (hV : V ≤ 2 ^ 42) (hE : E ≤ 10) {st : Int32} (h1 : -50 ≤ st.toInt) (h2 : st.toInt ≤ E) (nr : Bool) : ∃ r, f_X8_scaled v st nr = some r ∧ AB (V * 2 ^ E + 1) r := by
  have hpos : V ≤ V * 2 ^ E := Nat.le_mul_of_pos_right V (Nat.two_pow_pos E)
  unfold f_X8_scaled
  by_cases hs : st < 0
  · rw [if_pos hs, x_shifted, bd_some]
    refine ⟨_, rfl, ?_⟩
    rw [i0_lt] at hs
    have e : (-st).toInt = -st.toInt := by
      rw [Int32.toInt_neg, Int.bmod_eq_of_le_mul_two] <;> omega
    obtain ⟨m, hm, hx⟩ := nI_of (x := -st) (fun hh => by rw [i0_lt] at hh; omega)
    have hm2 : m ≤ 50 := by
      have : (nI m).toInt = m := nI_toInt hm
      rw [hx] at e
      omega
    rw [hx]
    refine (h.shb (by omega) (by omega) nr).mono ?_
    have := Nat.div_le_self V (2 ^ m)
    omega
  · rw [if_neg hs]
    obtain ⟨m, hm, hx⟩ := nI_of hs
    have hm2 : m ≤ E := by
      have : (nI m).toInt = m := nI_toInt hm
      rw [hx] at h2
      omega
    rw [hx]
    refine ⟨_, rfl, ?_⟩
    have hle : V * 2 ^ m ≤ V * 2 ^ E := Nat.mul_le_mul_left V (Nat.pow_le_pow_right (by decide) hm2)
    exact (h.shl (by omega) (by omega)).mono (by omega)
