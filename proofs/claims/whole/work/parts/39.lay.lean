/-! ===== pure part: how the two sides lay their tables ===== -/
theorem nI_p1 (a : Nat) : nI a + 1 = nI (a + 1) := nI_add a 1
/-! the class -/
theorem x_sh {md : Nat} (hmd : md < 3) (u : Nat → Int32) : ∃ u', f_X8_fillShifts (nI md) u = some u' ∧ (∀ s, s < 24 → u' (md * 24 + s) = nI (shT md s)) ∧ (∀ i, i < 72 → ¬ i / 24 = md → u' i = u i) := by
  have key : ∃ u', f_X8_fillShifts (nI md) u = some u' ∧ ∀ i, i < 72 → u' i = if i / 24 = md then nI (shT md (i % 24)) else u i := by
    have h : (f_X8_fillShifts (nI md) u).map (fun f => (List.range 72).map f) = some ((List.range 72).map (fun i => if i / 24 = md then nI (shT md (i % 24)) else u i)) := by
      rcases (show md = 0 ∨ md = 1 ∨ md = 2 by omega) with rfl | rfl | rfl
      · exact x_shL0 u
      · exact x_shL1 u
      · exact x_shL2 u
    cases h1 : f_X8_fillShifts (nI md) u with
    | none =>
      rw [h1] at h
      exact absurd h (by intro h2; cases h2)
    | some m' =>
      refine ⟨m', rfl, ?_⟩
      rw [h1] at h
      have h2 := List.map_inj_left.1 (Option.some.inj h)
      exact fun i hi => h2 i (List.mem_range.2 hi)
  obtain ⟨u', h1, h2⟩ := key
  refine ⟨u', h1, ?_, ?_⟩
  · intro s hs
    rw [h2 _ (by omega), if_pos (by omega), show (md * 24 + s) % 24 = s from by omega]
  · intro i hi hn
    rw [h2 i hi, if_neg hn]
theorem x_angs {md : Nat} (hmd : md < 3) (P : Int32) (u : Nat → Int32) (hu : ∀ s, s < 24 → u (md * 24 + s) = nI (shT md s)) (a : Nat → Int64) : ∃ a', f_X8_fillAngles (nI md) P (ro e8 P) u a = some a' ∧ (∀ t, t < 24 → a' (md * 24 + t) = anV md t P) ∧ (∀ i, i < md * 24 ∨ md * 24 + 24 ≤ i → a' i = a i) := by
  obtain ⟨a', h1, h2, h3⟩ := x_angl hmd P u hu 24 0 FU a rfl (by decide)
  refine ⟨a', ?_, fun t ht => h2 t (Nat.zero_le t) ht, fun i hi => h3 i (by omega)⟩
  unfold f_X8_fillAngles
  rw [lt_eq, show nI md * 24 = nI (md * 24 + 0) from nI_mul md 24]
  exact h1
theorem x_sq {md N : Nat} (hmd : md < 3) (hN : N ≤ 24) (u : Nat → Int32) (hu : ∀ s, s < 24 → u (md * 24 + s) = nI (shT md s)) : f_X8_square (nI md) (nI N) u = some (sqV md N) :=
  x_sql hmd hN u hu N 0 FU (by omega) (by show N < 5000; omega)
theorem x_dgl {md : Nat} (hmd : md < 3) (us : Nat → Int64) : ∀ (r s f : Nat) (rest : Int64) (d : Nat → Int32), r + s = 32 → r < f → ∃ d', f_X8_fillDigits_l10 us f (nI md) rest (nI s) d = some d' ∧ (∀ t, s ≤ t → t < 32 → d' (md * 32 + t) = dX (itX (t - s) rest)) ∧ (∀ i, i < md * 32 + s ∨ md * 32 + 32 ≤ i → d' i = d i)
  | 0, s, f, rest, d => by
    intro h1 h2
    obtain ⟨f, rfl⟩ : ∃ f', f = f' + 1 := ⟨f - 1, by omega⟩
    refine ⟨d, ?_, fun t _ _ => by omega, fun i _ => rfl⟩
    rw [f_X8_fillDigits_l10, if_pos (ge32 (by omega) (by omega))]
  | r + 1, s, f, rest, d => by
    intro h1 h2
    obtain ⟨f, rfl⟩ : ∃ f', f = f' + 1 := ⟨f - 1, by omega⟩
    obtain ⟨d', g1, g2, g3⟩ := x_dgl hmd us r (s + 1) f (nX rest) (upd d (md * 32 + s) (dX rest)) (by omega) (by omega)
    refine ⟨d', ?_, ?_, ?_⟩
    · rw [f_X8_fillDigits_l10, if_neg (ng32 (by omega)), ir32, lt_eq, gv_N (by omega) (by decide), nI_clamp (by omega), lt_eq, lt_eq, nI_p1]
      exact g1
    · intro t h3 h4
      rcases Nat.eq_or_lt_of_le h3 with rfl | h5
      · rw [g3 _ (Or.inl (by omega)), pk_us, Nat.sub_self]
        rfl
      · rw [g2 t (by omega) h4, show t - s = (t - (s + 1)) + 1 from by omega]
        rfl
    · intro i h3
      rw [g3 i (by omega), pk_un (by omega)]
theorem chkT_of {md N P : Nat} (h : chkT md N P = true) : f_X8_rootOf (sV md N P) = some (gnV md N P) ∧ bisE (sV md N P) 31 1 1073741824 = true ∧ (0 : Int64) < gnV md N P ∧ (unV md N P).toInt32.toInt64 = unV md N P ∧ chkD 32 (unV md N P) = true := by
  unfold chkT at h
  rw [Bool.and_eq_true, Bool.and_eq_true, Bool.and_eq_true, Bool.and_eq_true] at h
  exact ⟨of_decide_eq_true h.1, h.2.1, of_decide_eq_true h.2.2.1, of_decide_eq_true h.2.2.2.1, h.2.2.2.2⟩
theorem pos_n {g : Int64} (h : (0 : Int64) < g) : ¬ g ≤ 0 ∧ ¬ g = 0 := by
  rw [Int64.lt_iff_toInt_lt] at h
  refine ⟨?_, ?_⟩
  · rw [Int64.le_iff_toInt_le]
    omega
  · intro h1
    rw [h1] at h
    omega
def XRow (md N P : Nat) (sx : Nat → Int32) (ax gx ux : Nat → Int64) (dx : Nat → Int32) : Prop :=
  (∀ s, s < 24 → sx (md * 24 + s) = nI (shT md s)) ∧ (∀ s, s < 24 → ax (md * 24 + s) = anV md s (nI P)) ∧ gx md = gnV md N P ∧ ux md = unV md N P ∧ (∀ j, j < 32 → dx (md * 32 + j) = dX (itX j (unV md N P)))
theorem x_lay1 {md N P : Nat} (hmd : md < 3) (hN : N ≤ 24) (hc : chkT md N P = true) (w g pl : Int32) (nr : Bool) (q l : Int64) (sx : Nat → Int32) (ax gx ux : Nat → Int64) (dx : Nat → Int32) (f : Nat) : ∃ (sx' : Nat → Int32) (ax' gx' ux' : Nat → Int64) (dx' : Nat → Int32),
    f_X8_build_l77 (f + 1) (nI md) w g (nI P) (nI N) pl nr q (ro e8 (nI P)) l sx ax gx ux dx = f_X8_build_l77 f (nI (md + 1)) w g (nI P) (nI N) pl nr q (ro e8 (nI P)) l sx' ax' gx' ux' dx' ∧ XRow md N P sx' ax' gx' ux' dx' ∧ (∀ m, m < 3 → ¬ m = md → XRow m N P sx ax gx ux dx → XRow m N P sx' ax' gx' ux' dx') := by
  obtain ⟨c1, c2, c3, c4, c5⟩ := chkT_of hc
  obtain ⟨sx', s1, s2, s3⟩ := x_sh hmd sx
  obtain ⟨ax', a1, a2, a3⟩ := x_angs hmd (nI P) sx' s2 ax
  obtain ⟨dx', d1, d2, d3⟩ := x_dgl hmd (vp_updL ux md (unV md N P)) 32 0 FU (unV md N P) dx rfl (by decide)
  refine ⟨sx', ax', vp_updL gx md (gnV md N P), vp_updL ux md (unV md N P), dx', ?_, ⟨s2, a2, pk_uLs, pk_uLs, fun j hj => d2 j (Nat.zero_le j) hj⟩, ?_⟩
  · rw [f_X8_build_l77, if_neg (ng3 hmd), s1, bd_some, a1, bd_some, x_sq hmd hN sx' s2, bd_some]
    rw [show f_X8_rootOf (sqV md N >>> (((54 : Int32) - ((2 : Int32) * nI P)).toInt64 &&& 63)) = some (gnV md N P) from c1, bd_some, gv_N hmd (by decide), gv_N hmd (by decide), nI_clamp (by omega), pk_uLs, if_neg (pos_n c3).1, gv_N hmd (by decide), gz_n (pos_n c3).2]
    unfold f_X8_build_b159
    rw [gv_N hmd (by decide), nI_clamp (by omega)]
    have e : f_X8_fillDigits (nI md) (vp_updL ux md (((1 : Int64) <<< (((2 : Int32) * nI P).toInt64 &&& 63)) / gnV md N P)) dx = some dx' := by
      unfold f_X8_fillDigits
      rw [gv_N hmd (by decide), nI_clamp (by omega), lt_eq, pk_uLs]
      exact d1
    rw [e, bd_some, lt_eq, nI_p1]
    rfl
  · intro m hm hne ⟨r1, r2, r3, r4, r5⟩
    refine ⟨?_, ?_, ?_, ?_, ?_⟩
    · intro s hs
      rw [s3 _ (by omega) (by omega)]
      exact r1 s hs
    · intro s hs
      rw [a3 _ (by omega)]
      exact r2 s hs
    · rw [pk_uLn hne]
      exact r3
    · rw [pk_uLn hne]
      exact r4
    · intro j hj
      rw [d3 _ (by omega)]
      exact r5 j hj
def l3 : Int64 := (f_X11_fifth 3 true).getD 0
theorem m_l3 : f_X11_fifth 3 true = some l3 := by
  have h := t_ln.2
  unfold l3
  cases h1 : f_X11_fifth 3 true with
  | none => rw [h1] at h; cases h
  | some a => rfl
theorem x_l3 : f_X8_ofOneOver 3 false = some l3 := t_ln.1.trans m_l3
/-- the class's tables, each cell told -/
def XT (W G N : Nat) (nr : Bool) (uw ug ub us : Int32) (un : Bool) (uq ue ul : Int64) (sx : Nat → Int32) (ax gx ux : Nat → Int64) (dx : Nat → Int32) : Prop :=
  (uw = nI W ∧ ug = nI G ∧ ub = nI (W + G) ∧ us = nI N ∧ un = nr) ∧ (uq = (2 : Int64) * ro e8 (nI (W + G)) ∧ ue = ro e8 (nI (W + G)) ∧ ul = ro ((2 : Int64) * l3) (nI (W + G))) ∧ (∀ m, m < 3 → XRow m N (W + G) sx ax gx ux dx)
theorem x_build {W G N : Nat} (hN : N ≤ 24) (hc : ∀ m, m < 3 → chkT m N (W + G) = true) (pl : Int32) (nr : Bool) (v1 v2 v3 v4 v5 : Int32) (v6 : Bool) (v7 v8 v9 : Int64) (sx : Nat → Int32) (ax gx ux : Nat → Int64) (dx : Nat → Int32) : ∃ (sx' : Nat → Int32) (ax' gx' ux' : Nat → Int64) (dx' : Nat → Int32),
    f_X8_build (nI W) (nI G) (nI N) pl nr v1 v2 v3 v4 v5 v6 v7 v8 v9 sx ax gx ux dx = some (nI W, nI G, nI (W + G), nI N, pl, nr, (2 : Int64) * ro e8 (nI (W + G)), ro e8 (nI (W + G)), ro ((2 : Int64) * l3) (nI (W + G)), sx', ax', gx', ux', dx') ∧ (∀ m, m < 3 → XRow m N (W + G) sx' ax' gx' ux' dx') := by
  obtain ⟨s0, a0, g0, u0, d0, e0, r0, k0⟩ := x_lay1 (md := 0) (by decide) hN (hc 0 (by decide)) (nI W) (nI G) pl nr ((2 : Int64) * ro e8 (nI (W + G))) (ro ((2 : Int64) * l3) (nI (W + G))) sx ax gx ux dx 4999
  obtain ⟨s1, a1, g1, u1, d1, e1, r1, k1⟩ := x_lay1 (md := 1) (by decide) hN (hc 1 (by decide)) (nI W) (nI G) pl nr ((2 : Int64) * ro e8 (nI (W + G))) (ro ((2 : Int64) * l3) (nI (W + G))) s0 a0 g0 u0 d0 4998
  obtain ⟨s2, a2, g2, u2, d2, e2, r2, k2⟩ := x_lay1 (md := 2) (by decide) hN (hc 2 (by decide)) (nI W) (nI G) pl nr ((2 : Int64) * ro e8 (nI (W + G))) (ro ((2 : Int64) * l3) (nI (W + G))) s1 a1 g1 u1 d1 4997
  refine ⟨s2, a2, g2, u2, d2, ?_, ?_⟩
  · unfold f_X8_build
    rw [lt_eq, nI_add, x_e8, bd_some, x_ro, bd_some, lt_eq, x_l3, bd_some, x_ro, bd_some]
    exact e0.trans (e1.trans (e2.trans (by rw [f_X8_build_l77, if_pos (ge3 (by omega) (by omega))])))
  · intro m hm
    rcases (show m = 0 ∨ m = 1 ∨ m = 2 by omega) with rfl | rfl | rfl
    · exact k2 0 (by decide) (by decide) (k1 0 (by decide) (by decide) r0)
    · exact k2 1 (by decide) (by decide) r1
    · exact r2
/-! the reference -/
theorem bis_s (v lo hi : Int64) (n : Nat) (h : hi - lo ≤ 1) : bis v n lo hi = lo := by
  cases n with
  | zero => rfl
  | succ n => rw [bis, if_pos h]
theorem m_exit {pt sg sf : Nat → Int32} {f : Nat} {b md : Int32} {v lo hi : Int64} {mg mu dg : Nat → Int32} (h : hi - lo ≤ 1) : f_X11_laysGain_l88 pt sg sf (f + 1) b md v lo hi mg mu dg = f_X11_laysGain_l88 pt sg sf 1 b md v lo lo mg mu dg := by
  rw [f_X11_laysGain_l88, if_pos h, f_X11_laysGain_l88, if_pos (by rw [Int64.sub_self]; decide)]
theorem m_bis {pt sg sf : Nat → Int32} {b md : Int32} (v : Int64) (mg mu dg : Nat → Int32) : ∀ (n f : Nat) (lo hi : Int64), bisE v n lo hi = true → n < f → f_X11_laysGain_l88 pt sg sf f b md v lo hi mg mu dg = f_X11_laysGain_l88 pt sg sf 1 b md v (bis v n lo hi) (bis v n lo hi) mg mu dg
  | 0, f, lo, hi => by
    intro h1 h2
    obtain ⟨f, rfl⟩ : ∃ f', f = f' + 1 := ⟨f - 1, by omega⟩
    exact m_exit (of_decide_eq_true h1)
  | n + 1, f, lo, hi => by
    intro h1 h2
    obtain ⟨f, rfl⟩ : ∃ f', f = f' + 1 := ⟨f - 1, by omega⟩
    by_cases h : hi - lo ≤ 1
    · rw [bis_s v lo hi _ h]
      exact m_exit h
    · rw [bisE, if_neg h] at h1
      rw [bis, if_neg h, f_X11_laysGain_l88, if_neg h, gz_n (by decide), lt_eq, lt_eq, lt_eq]
      exact m_bis v mg mu dg n f _ _ h1 (by omega)
theorem chkD_s {n : Nat} {r : Int64} (h : chkD (n + 1) r = true) : dX r = dM r ∧ nX r = nM r ∧ (dX r = 0 ∨ dX r = 1 ∨ dX r = -1) ∧ chkD n (nX r) = true := by
  rw [chkD, Bool.and_eq_true, Bool.and_eq_true, Bool.and_eq_true, Bool.or_eq_true, Bool.or_eq_true] at h
  exact ⟨of_decide_eq_true h.1, of_decide_eq_true h.2.1, h.2.2.1.imp of_decide_eq_true (Or.imp of_decide_eq_true of_decide_eq_true), h.2.2.2⟩
theorem chkD_in : ∀ (n : Nat) (r : Int64), chkD n r = true → ∀ t, t < n → dX (itX t r) = 0 ∨ dX (itX t r) = 1 ∨ dX (itX t r) = -1
  | 0, r => fun _ t ht => absurd ht (Nat.not_lt_zero t)
  | n + 1, r => by
    intro h t ht
    have hs := chkD_s h
    cases t with
    | zero => exact hs.2.2.1
    | succ t => exact chkD_in n (nX r) hs.2.2.2 t (by omega)
theorem m_dgl {pt sg sf : Nat → Int32} {its : Nat} (hi : its < 6) (mg mu : Nat → Int32) : ∀ (r s f : Nat) (rest : Int64) (d : Nat → Int32), r + s = 32 → r < f → chkD r rest = true → ∃ d', f_X11_laysGain_l185 pt sg sf f (nI its) rest (nI s) mg mu d = some (mg, mu, d') ∧ (∀ t, s ≤ t → t < 32 → d' (32 * its + t) = dX (itX (t - s) rest)) ∧ (∀ i, i < 32 * its + s ∨ 32 * its + 32 ≤ i → d' i = d i)
  | 0, s, f, rest, d => by
    intro h1 h2 _
    obtain ⟨f, rfl⟩ : ∃ f', f = f' + 1 := ⟨f - 1, by omega⟩
    refine ⟨d, ?_, fun t _ _ => by omega, fun i _ => rfl⟩
    rw [f_X11_laysGain_l185, if_pos (ge32 (by omega) (by omega))]
  | r + 1, s, f, rest, d => by
    intro h1 h2 hc
    obtain ⟨f, rfl⟩ : ∃ f', f = f' + 1 := ⟨f - 1, by omega⟩
    obtain ⟨c1, c2, c3, c4⟩ := chkD_s hc
    obtain ⟨d', g1, g2, g3⟩ := m_dgl hi mg mu r (s + 1) f (nX rest) (upd d (32 * its + s) (dX rest)) (by omega) (by omega) c4
    refine ⟨d', ?_, ?_, ?_⟩
    · have key : f_X11_laysGain_b223 pt sg sf (f_X11_laysGain_l185 pt sg sf f) (nI its) rest (nI s) (dM rest) mg mu d = some (mg, mu, d') := by
        unfold f_X11_laysGain_b223
        rw [ri32, gv_N (by omega) (by decide), nI_clamp (by omega), gz_n (by decide), lt_eq, lt_eq, nI_p1]
        rw [c1, c2] at g1
        exact g1
      rw [f_X11_laysGain_l185, if_neg (ng32 (by omega)), gz_n (by decide)]
      by_cases h0 : (rest - rest / (2 : Int64) * (2 : Int64)) = (0 : Int64)
      · rw [if_pos h0]
        unfold dM at key
        rw [if_pos h0] at key
        exact key
      · rw [if_neg h0, gz_n (by decide), lt_eq]
        unfold dM at key
        rw [if_neg h0] at key
        exact key
    · intro t h3 h4
      rcases Nat.eq_or_lt_of_le h3 with rfl | h5
      · rw [g3 _ (Or.inl (by omega)), pk_us, Nat.sub_self]
        rfl
      · rw [g2 t (by omega) h4, show t - s = (t - (s + 1)) + 1 from by omega]
        rfl
    · intro i h3
      rw [g3 i (by omega), pk_un (by omega)]
theorem m_sql {b md N : Nat} (hb : b < 2) (hmd : md < 3) (hN : N ≤ 24) {pt sg sf : Nat → Int32} (hsg : sg b = nI N) {P : Nat} (hpt : pt b = nI P) (hu : ∀ s, s < 24 → sf (24 * md + s) = nI (shT md s)) (mg mu dg : Nat → Int32) : ∀ (r s f : Nat), r + s = N → r < f → f_X11_laysGain_l7 pt sg sf f (nI b) (nI md) (sqV md s) (nI s) mg mu dg = f_X11_laysGain_l88 pt sg sf FU (nI b) (nI md) (sV md N P) 1 1073741824 mg mu dg
  | 0, s, f => by
    intro h1 h2
    obtain ⟨f, rfl⟩ : ∃ f', f = f' + 1 := ⟨f - 1, by omega⟩
    obtain rfl : s = N := by omega
    rw [f_X11_laysGain_l7, gv_N hb (by decide), nI_clamp (by omega), hsg, if_pos (nI_le (Nat.le_refl s) (by omega)), gv_N hb (by decide), hpt, lt_eq]
    unfold sV
    rfl
  | r + 1, s, f => by
    intro h1 h2
    obtain ⟨f, rfl⟩ : ∃ f', f = f' + 1 := ⟨f - 1, by omega⟩
    rw [f_X11_laysGain_l7, gv_N hb (by decide), nI_clamp (by omega), hsg, if_neg (nI_ge (by omega) (by omega)), ri24, gv_N (by omega) (by decide), nI_clamp (by omega), hu s (by omega), lt_eq, lt_eq, lt_eq, lt_eq, nI_p1]
    have e : sqV md s + (if nI md = 0 then (sqV md s >>> (((2 : Int32) * nI (shT md s)).toInt64 &&& 63)) else (if nI md = (2 : Int32) then (-(sqV md s >>> (((2 : Int32) * nI (shT md s)).toInt64 &&& 63))) else (0 : Int64))) = sqV md (s + 1) := by
      rcases (show md = 0 ∨ md = 1 ∨ md = 2 by omega) with rfl | rfl | rfl
      · rfl
      · exact Int64.add_zero _
      · exact (Int64.sub_eq_add_neg _ _).symm
    rw [e]
    exact m_sql hb hmd hN hsg hpt hu mg mu dg r (s + 1) f (by omega) (by omega)
theorem m_gn {b md N P : Nat} (hb : b < 2) (hmd : md < 3) (hN : N ≤ 24) (hc : chkT md N P = true) {pt sg sf : Nat → Int32} (hsg : sg b = nI N) (hpt : pt b = nI P) (hu : ∀ s, s < 24 → sf (24 * md + s) = nI (shT md s)) (mg mu dg : Nat → Int32) : ∃ dg', f_X11_laysGain (nI b) (nI md) pt sg mg mu sf dg = some (upd mg (3 * b + md) (gnV md N P).toInt32, upd mu (3 * b + md) (unV md N P).toInt32, dg') ∧ (∀ j, j < 32 → dg' (32 * (3 * b + md) + j) = dX (itX j (unV md N P))) ∧ (∀ i, i < 32 * (3 * b + md) ∨ 32 * (3 * b + md) + 32 ≤ i → dg' i = dg i) := by
  obtain ⟨c1, c2, c3, c4, c5⟩ := chkT_of hc
  obtain ⟨dg', d1, d2, d3⟩ := m_dgl (pt := pt) (sg := sg) (sf := sf) (its := 3 * b + md) (by omega) (upd mg (3 * b + md) (gnV md N P).toInt32) (upd mu (3 * b + md) (unV md N P).toInt32) 32 0 FU (unV md N P) dg rfl (by decide) c5
  refine ⟨dg', ?_, fun j hj => d2 j (Nat.zero_le j) hj, fun i hi => d3 i (by omega)⟩
  unfold f_X11_laysGain
  rw [show (18014398509481984 : Int64) = sqV md 0 from rfl, show (0 : Int32) = nI 0 from rfl, m_sql hb hmd hN hsg hpt hu mg mu dg N 0 FU (by omega) (by show N < 5000; omega), m_bis _ mg mu dg 31 FU 1 1073741824 c2 (by decide)]
  show f_X11_laysGain_l88 pt sg sf (0 + 1) (nI b) (nI md) (sV md N P) (gnV md N P) (gnV md N P) mg mu dg = _
  rw [f_X11_laysGain_l88, if_pos (by rw [Int64.sub_self]; decide), m_row, bd_some, gv_N (by omega) (by decide), gv_N hb (by decide), gz_n (pos_n c3).2, lt_eq, gv_N (by omega) (by decide), gv_N (by omega) (by decide), nI_clamp (by omega), nI_clamp (by omega), hpt, lt_eq, pk_us]
  show f_X11_laysGain_l185 pt sg sf FU (nI (3 * b + md)) (unV md N P).toInt32.toInt64 (nI 0) (upd mg (3 * b + md) (gnV md N P).toInt32) (upd mu (3 * b + md) (unV md N P).toInt32) dg = _
  rw [c4]
  exact d1
theorem m_angl {b md : Nat} (hb : b < 2) (hmd : md < 3) {P : Nat} {sf : Nat → Int32} (hu : ∀ s, s < 24 → sf (24 * md + s) = nI (shT md s)) (k : Int32 → Int32 → (Nat → Int32) → (Nat → Int32) → (Nat → Int32) → (Nat → Int32) → (Nat → Int32) → (Nat → Int32) → (Nat → Bool) → (Nat → Int64) → (Nat → Int64) → (Nat → Int64) → (Nat → Int32) → Option ((Nat → Int32) × (Nat → Int32) × (Nat → Int32) × (Nat → Int32) × (Nat → Int32) × (Nat → Int32) × (Nat → Bool) × (Nat → Int64) × (Nat → Int64) × (Nat → Int64) × (Nat → Int32))) (mw gf pt sg mg mu : Nat → Int32) (nr : Nat → Bool) (q l : Nat → Int64) (dg : Nat → Int32) (hpt : pt b = nI P) : ∀ (r s f : Nat) (a : Nat → Int64), r + s = 24 → r < f → ∃ a', f_X11_lays_l99 sf k f (nI b) (nI md) (nI s) mw gf pt sg mg mu nr q l a dg = bd (f_X11_laysGain (nI b) (nI md) pt sg mg mu sf dg) (fun o7 => k (nI b) (nI (md + 1)) mw gf pt sg o7.1 o7.2.1 nr q l a' o7.2.2) ∧ (∀ t, s ≤ t → t < 24 → a' (24 * (3 * b + md) + t) = anV md t (nI P)) ∧ (∀ i, i < 24 * (3 * b + md) + s ∨ 24 * (3 * b + md) + 24 ≤ i → a' i = a i)
  | 0, s, f, a => by
    intro h1 h2
    obtain ⟨f, rfl⟩ : ∃ f', f = f' + 1 := ⟨f - 1, by omega⟩
    refine ⟨a, ?_, fun t _ _ => by omega, fun i _ => rfl⟩
    rw [f_X11_lays_l99, if_pos (ge24 (by omega) (by omega))]
    simp only [lt_eq, nI_p1]
  | r + 1, s, f, a => by
    intro h1 h2
    obtain ⟨f, rfl⟩ : ∃ f', f = f' + 1 := ⟨f - 1, by omega⟩
    obtain ⟨a', g1, g2, g3⟩ := m_angl hb hmd hu k mw gf pt sg mg mu nr q l dg hpt r (s + 1) f (vp_updL a (24 * (3 * b + md) + s) (anV md s (nI P))) (by omega) (by omega)
    refine ⟨a', ?_, ?_, ?_⟩
    · rw [f_X11_lays_l99, if_neg (ng24 (by omega)), m_row, bd_some, ri24, ri24, gv_N (by omega) (by decide), gv_N hb (by decide), nI_clamp (by omega), nI_clamp (by omega), hu s (by omega), hpt, m_ang hmd (by omega), bd_some, gv_N (by omega) (by decide), nI_clamp (by omega), lt_eq, nI_p1]
      exact g1
    · intro t h3 h4
      rcases Nat.eq_or_lt_of_le h3 with rfl | h5
      · rw [g3 _ (Or.inl (by omega)), pk_uLs]
      · exact g2 t (by omega) h4
    · intro i h3
      rw [g3 i (by omega), pk_uLn (by omega)]
def MRow (b md N P : Nat) (mg mu : Nat → Int32) (am : Nat → Int64) (dg : Nat → Int32) : Prop :=
  (∀ s, s < 24 → am (24 * (3 * b + md) + s) = anV md s (nI P)) ∧ mg (3 * b + md) = (gnV md N P).toInt32 ∧ mu (3 * b + md) = (unV md N P).toInt32 ∧ (∀ j, j < 32 → dg (32 * (3 * b + md) + j) = dX (itX j (unV md N P)))
theorem m_lay1 {b md N P : Nat} (hb : b < 2) (hmd : md < 3) (hN : N ≤ 24) (hc : chkT md N P = true) {sf : Nat → Int32} (hu : ∀ s, s < 24 → sf (24 * md + s) = nI (shT md s)) (mw gf : Nat → Int32) {pt sg : Nat → Int32} (hsg : sg b = nI N) (hpt : pt b = nI P) (mg mu : Nat → Int32) (nr : Nat → Bool) (q l a : Nat → Int64) (dg : Nat → Int32) (f : Nat) : ∃ (mg' mu' : Nat → Int32) (a' : Nat → Int64) (dg' : Nat → Int32),
    f_X11_lays_l90 sf (f + 1) (nI b) (nI md) mw gf pt sg mg mu nr q l a dg = f_X11_lays_l90 sf f (nI b) (nI (md + 1)) mw gf pt sg mg' mu' nr q l a' dg' ∧ MRow b md N P mg' mu' a' dg' ∧ (∀ b' m N' P', m < 3 → ¬ (b' = b ∧ m = md) → MRow b' m N' P' mg mu a dg → MRow b' m N' P' mg' mu' a' dg') := by
  obtain ⟨a', a1, a2, a3⟩ := m_angl hb hmd hu (f_X11_lays_l90 sf f) mw gf pt sg mg mu nr q l dg hpt 24 0 FU a rfl (by decide)
  obtain ⟨dg', d1, d2, d3⟩ := m_gn hb hmd hN hc hsg hpt hu mg mu dg
  refine ⟨upd mg (3 * b + md) (gnV md N P).toInt32, upd mu (3 * b + md) (unV md N P).toInt32, a', dg', ?_, ⟨fun s hs => a2 s (Nat.zero_le s) hs, pk_us, pk_us, d2⟩, ?_⟩
  · rw [f_X11_lays_l90, if_neg (ng3 hmd), show (0 : Int32) = nI 0 from rfl, a1, d1, bd_some]
  · intro b' m N' P' hm hne ⟨r1, r2, r3, r4⟩
    have hx : ¬ 3 * b' + m = 3 * b + md := by omega
    refine ⟨?_, ?_, ?_, ?_⟩
    · intro s hs
      rw [a3 _ (by omega)]
      exact r1 s hs
    · rw [pk_un hx]
      exact r2
    · rw [pk_un hx]
      exact r3
    · intro j hj
      rw [d3 _ (by omega)]
      exact r4 j hj
/-- the reference's tables of one bank, each cell told -/
def MT (b W G N : Nat) (nr : Bool) (mw gf pf sg mg mu : Nat → Int32) (nf : Nat → Bool) (qf lf am : Nat → Int64) (sm dm : Nat → Int32) : Prop :=
  (mw b = nI W ∧ gf b = nI G ∧ pf b = nI (W + G) ∧ sg b = nI N ∧ nf b = nr) ∧ (qf b = (2 : Int64) * ro e8 (nI (W + G)) ∧ lf b = ro ((2 : Int64) * l3) (nI (W + G))) ∧ (∀ m, m < 3 → ∀ s, s < 24 → sm (24 * m + s) = nI (shT m s)) ∧ (∀ m, m < 3 → MRow b m N (W + G) mg mu am dm)
theorem updB_s {f : Nat → Bool} {k : Nat} {x : Bool} : updB f k x k = x := if_pos rfl
theorem updB_n {f : Nat → Bool} {k j : Nat} {x : Bool} (h : j ≠ k) : updB f k x j = f j := if_neg h
theorem m_lays {b W G N : Nat} (hb : b < 2) (hN : N ≤ 24) (hc : ∀ m, m < 3 → chkT m N (W + G) = true) {sm : Nat → Int32} (hu : ∀ m, m < 3 → ∀ s, s < 24 → sm (24 * m + s) = nI (shT m s)) (nr : Bool) (mw gf pf sg mg mu : Nat → Int32) (nf : Nat → Bool) (qf lf am : Nat → Int64) (dm : Nat → Int32) : ∃ (mw' gf' pf' sg' mg' mu' : Nat → Int32) (nf' : Nat → Bool) (qf' lf' am' : Nat → Int64) (dm' : Nat → Int32),
    f_X11_lays (nI b) (nI W) (nI G) (nI N) nr mw gf pf sg mg mu nf qf lf am sm dm = some (mw', gf', pf', sg', mg', mu', nf', qf', lf', am', dm') ∧ MT b W G N nr mw' gf' pf' sg' mg' mu' nf' qf' lf' am' sm dm' ∧ (∀ b' W' G' N' nr', ¬ b' = b → MT b' W' G' N' nr' mw gf pf sg mg mu nf qf lf am sm dm → MT b' W' G' N' nr' mw' gf' pf' sg' mg' mu' nf' qf' lf' am' sm dm') := by
  obtain ⟨g0, u0, a0, d0, e0, r0, k0⟩ := m_lay1 (md := 0) hb (by decide) hN (hc 0 (by decide)) (hu 0 (by decide)) (upd mw b (nI W)) (upd gf b (nI G)) (pt := upd pf b (nI (W + G))) (sg := upd sg b (nI N)) pk_us pk_us mg mu (updB nf b nr) (vp_updL qf b ((2 : Int64) * ro e8 (nI (W + G)))) (vp_updL lf b (ro ((2 : Int64) * l3) (nI (W + G)))) am dm 4999
  obtain ⟨g1, u1, a1, d1, e1, r1, k1⟩ := m_lay1 (md := 1) hb (by decide) hN (hc 1 (by decide)) (hu 1 (by decide)) (upd mw b (nI W)) (upd gf b (nI G)) (pt := upd pf b (nI (W + G))) (sg := upd sg b (nI N)) pk_us pk_us g0 u0 (updB nf b nr) (vp_updL qf b ((2 : Int64) * ro e8 (nI (W + G)))) (vp_updL lf b (ro ((2 : Int64) * l3) (nI (W + G)))) a0 d0 4998
  obtain ⟨g2, u2, a2, d2, e2, r2, k2⟩ := m_lay1 (md := 2) hb (by decide) hN (hc 2 (by decide)) (hu 2 (by decide)) (upd mw b (nI W)) (upd gf b (nI G)) (pt := upd pf b (nI (W + G))) (sg := upd sg b (nI N)) pk_us pk_us g1 u1 (updB nf b nr) (vp_updL qf b ((2 : Int64) * ro e8 (nI (W + G)))) (vp_updL lf b (ro ((2 : Int64) * l3) (nI (W + G)))) a1 d1 4997
  refine ⟨upd mw b (nI W), upd gf b (nI G), upd pf b (nI (W + G)), upd sg b (nI N), g2, u2, updB nf b nr, vp_updL qf b ((2 : Int64) * ro e8 (nI (W + G))), vp_updL lf b (ro ((2 : Int64) * l3) (nI (W + G))), a2, d2, ?_, ?_, ?_⟩
  · unfold f_X11_lays
    simp only [gv_N hb (by decide : 2 < 2 ^ 31), lt_eq, nI_add, m_e8, bd_some, nI_clamp (show b < 2 ^ 31 by omega), pk_us, m_ro, m_l3]
    exact e0.trans (e1.trans (e2.trans (by rw [f_X11_lays_l90, if_pos (ge3 (by omega) (by omega))])))
  · refine ⟨⟨pk_us, pk_us, pk_us, pk_us, updB_s⟩, ⟨pk_uLs, pk_uLs⟩, hu, ?_⟩
    intro m hm
    rcases (show m = 0 ∨ m = 1 ∨ m = 2 by omega) with rfl | rfl | rfl
    · exact k2 b 0 N (W + G) (by decide) (by omega) (k1 b 0 N (W + G) (by decide) (by omega) r0)
    · exact k2 b 1 N (W + G) (by decide) (by omega) r1
    · exact r2
  · intro b' W' G' N' nr' hne ⟨⟨q1, q2, q3, q4, q5⟩, ⟨q6, q7⟩, q8, q9⟩
    refine ⟨⟨?_, ?_, ?_, ?_, ?_⟩, ⟨?_, ?_⟩, q8, ?_⟩
    · rw [pk_un hne]; exact q1
    · rw [pk_un hne]; exact q2
    · rw [pk_un hne]; exact q3
    · rw [pk_un hne]; exact q4
    · rw [updB_n hne]; exact q5
    · rw [pk_uLn hne]; exact q6
    · rw [pk_uLn hne]; exact q7
    · intro m hm
      exact k2 b' m N' (W' + G') hm (by omega) (k1 b' m N' (W' + G') hm (by omega) (k0 b' m N' (W' + G') hm (by omega) (q9 m hm)))
