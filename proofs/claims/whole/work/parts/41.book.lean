/-! ===== pure part: books: the cells of a job, both sides ===== -/
theorem nI_p2 (a : Nat) : nI a + 2 = nI (a + 2) := nI_add a 2
theorem gv_0 {β : Type} {n : Nat} (h : 0 < n) (x : Option β) : gv (0 : Int32) n x = x := gv_in (by
  intro h1
  rcases h1 with h1 | h1
  · exact absurd h1 (by decide)
  · rw [show (0 : Int32).toNatClampNeg = 0 from by decide] at h1
    omega) x
theorem cl_0 : (0 : Int32).toNatClampNeg = 0 := by decide
theorem m_of {j c : Nat} (hj : j < 60) (hc : c < 14) (mj : Nat → Int32) : f_X11_of (nI j) (nI c) mj = some (mj (14 * j + c)) := by
  unfold f_X11_of
  rw [ri14, gv_N (by omega) (by decide), nI_clamp (by omega)]
theorem m_of0 {j : Nat} (hj : j < 60) (mj : Nat → Int32) : f_X11_of (nI j) 0 mj = some (mj (14 * j + 0)) := m_of (c := 0) hj (by decide) mj
theorem m_of1 {j : Nat} (hj : j < 60) (mj : Nat → Int32) : f_X11_of (nI j) 1 mj = some (mj (14 * j + 1)) := m_of (c := 1) hj (by decide) mj
theorem m_of2 {j : Nat} (hj : j < 60) (mj : Nat → Int32) : f_X11_of (nI j) 2 mj = some (mj (14 * j + 2)) := m_of (c := 2) hj (by decide) mj
theorem m_of3 {j : Nat} (hj : j < 60) (mj : Nat → Int32) : f_X11_of (nI j) 3 mj = some (mj (14 * j + 3)) := m_of (c := 3) hj (by decide) mj
theorem m_of4 {j : Nat} (hj : j < 60) (mj : Nat → Int32) : f_X11_of (nI j) 4 mj = some (mj (14 * j + 4)) := m_of (c := 4) hj (by decide) mj
theorem m_of5 {j : Nat} (hj : j < 60) (mj : Nat → Int32) : f_X11_of (nI j) 5 mj = some (mj (14 * j + 5)) := m_of (c := 5) hj (by decide) mj
theorem m_of6 {j : Nat} (hj : j < 60) (mj : Nat → Int32) : f_X11_of (nI j) 6 mj = some (mj (14 * j + 6)) := m_of (c := 6) hj (by decide) mj
theorem m_of7 {j : Nat} (hj : j < 60) (mj : Nat → Int32) : f_X11_of (nI j) 7 mj = some (mj (14 * j + 7)) := m_of (c := 7) hj (by decide) mj
theorem m_of8 {j : Nat} (hj : j < 60) (mj : Nat → Int32) : f_X11_of (nI j) 8 mj = some (mj (14 * j + 8)) := m_of (c := 8) hj (by decide) mj
theorem m_of9 {j : Nat} (hj : j < 60) (mj : Nat → Int32) : f_X11_of (nI j) 9 mj = some (mj (14 * j + 9)) := m_of (c := 9) hj (by decide) mj
theorem m_of10 {j : Nat} (hj : j < 60) (mj : Nat → Int32) : f_X11_of (nI j) 10 mj = some (mj (14 * j + 10)) := m_of (c := 10) hj (by decide) mj
theorem m_of11 {j : Nat} (hj : j < 60) (mj : Nat → Int32) : f_X11_of (nI j) 11 mj = some (mj (14 * j + 11)) := m_of (c := 11) hj (by decide) mj
theorem m_of12 {j : Nat} (hj : j < 60) (mj : Nat → Int32) : f_X11_of (nI j) 12 mj = some (mj (14 * j + 12)) := m_of (c := 12) hj (by decide) mj
theorem m_of13 {j : Nat} (hj : j < 60) (mj : Nat → Int32) : f_X11_of (nI j) 13 mj = some (mj (14 * j + 13)) := m_of (c := 13) hj (by decide) mj
theorem m_of10w {j w : Nat} (hj : j < 60) (hw : w < 3) (mj : Nat → Int32) : f_X11_of (nI j) ((10 : Int32) + nI w) mj = some (mj (14 * j + 10 + w)) := by
  rw [show (10 : Int32) + nI w = nI (10 + w) from nI_add 10 w, m_of hj (by omega), Nat.add_assoc]
theorem r75 (j g : Nat) : (75 : Int32) * nI j + (3 : Int32) * nI g = nI (75 * j + 3 * g) := by
  rw [show (75 : Int32) = nI 75 from rfl, show (3 : Int32) = nI 3 from rfl, nI_mul, nI_mul, nI_add]
theorem r14 (j c : Nat) : (14 : Int32) * nI j + nI c = nI (14 * j + c) := ri14 j c
theorem r14_1 (j : Nat) : (14 : Int32) * nI j + 1 = nI (14 * j + 1) := ri14 j 1
theorem r14_4 (j : Nat) : (14 : Int32) * nI j + 4 = nI (14 * j + 4) := ri14 j 4
theorem r14_5 (j : Nat) : (14 : Int32) * nI j + 5 = nI (14 * j + 5) := ri14 j 5
theorem r14_6 (j : Nat) : (14 : Int32) * nI j + 6 = nI (14 * j + 6) := ri14 j 6
theorem r14_7 (j : Nat) : (14 : Int32) * nI j + 7 = nI (14 * j + 7) := ri14 j 7
theorem r14_8 (j : Nat) : (14 : Int32) * nI j + 8 = nI (14 * j + 8) := ri14 j 8
theorem r14_9 (j : Nat) : (14 : Int32) * nI j + 9 = nI (14 * j + 9) := ri14 j 9
theorem r2_0 (j : Nat) : (2 : Int32) * nI j = nI (2 * j) := nI_mul 2 j
theorem r2_1 (j : Nat) : (2 : Int32) * nI j + 1 = nI (2 * j + 1) := ri2 j 1
theorem i3_0 (j : Nat) : nI j * (3 : Int32) = nI (j * 3) := nI_mul j 3
/-- what an operand may be linked to -/
def TIE (j : Nat) (v : Int32) : Prop := v = -1 ∨ ∃ o i, o < j ∧ i < 2 ∧ v = nI (2 * o + i)
/-- the stages that a job has gone through, as the reference keeps them -/
def JT (W G N : Nat) (nr : Bool) (j k g : Nat) (a b c : Int64) (mj : Nat → Int32) (mt : Nat → Int64) : Prop :=
  gd W k a b c = true ∧ mj (14 * j + 8) = (bw W G N nr k a b c).2.2.2 ∧ mj (14 * j + 9) = jb W G N nr k a b c g ∧
  (∀ t, t ≤ g → mt (75 * j + 3 * t) = (jx W G N nr k a b c t).1 ∧ mt (75 * j + 3 * t + 1) = (jx W G N nr k a b c t).2.1 ∧ mt (75 * j + 3 * t + 2) = (jx W G N nr k a b c t).2.2)
/-- a job, both sides -/
def JB (W G N : Nat) (nr : Bool) (j : Nat) (kd op ti st gn tl br dn mj mr : Nat → Int32) (mt : Nat → Int64) : Prop :=
  ∃ k s g : Nat, (k < 9 ∧ s < 4 ∧ g ≤ N) ∧ (kd j = nI k ∧ st j = nI s ∧ gn j = nI g) ∧
  (mj (14 * j) = nI k ∧ mj (14 * j + 4) = nI s ∧ mj (14 * j + 5) = nI g ∧ mj (14 * j + 6) = br j ∧ mj (14 * j + 7) = dn j ∧ mj (14 * j + 13) = tl j) ∧
  (∀ w, w < 3 → mj (14 * j + 1 + w) = op (j * 3 + w) ∧ mj (14 * j + 10 + w) = ti (j * 3 + w) ∧ TIE j (ti (j * 3 + w))) ∧
  (s = 0 → g = 0 ∧ mj (14 * j + 9) = 0) ∧ (s = 2 → g = N) ∧
  (s = 1 ∨ s = 2 → JT W G N nr j k g (op (j * 3)).toInt64 (op (j * 3 + 1)).toInt64 (op (j * 3 + 2)).toInt64 mj mt) ∧
  (s = 2 → mr (2 * j) = (aw W G N nr k (op (j * 3)).toInt64 (op (j * 3 + 1)).toInt64 (op (j * 3 + 2)).toInt64).1.toInt32 ∧ mr (2 * j + 1) = (aw W G N nr k (op (j * 3)).toInt64 (op (j * 3 + 1)).toInt64 (op (j * 3 + 2)).toInt64).2.toInt32)
theorem JB.congr {W G N : Nat} {nr : Bool} {j : Nat} {kd op ti st gn tl br dn mj mr : Nat → Int32} {mt : Nat → Int64} {kd' op' ti' st' gn' tl' br' dn' mj' mr' : Nat → Int32} {mt' : Nat → Int64} (h : JB W G N nr j kd op ti st gn tl br dn mj mr mt) (hN : N ≤ 24) (hkd : kd' j = kd j) (hop : ∀ w, w < 3 → op' (j * 3 + w) = op (j * 3 + w)) (hti : ∀ w, w < 3 → ti' (j * 3 + w) = ti (j * 3 + w)) (hst : st' j = st j) (hgn : gn' j = gn j) (htl : tl' j = tl j) (hbr : br' j = br j) (hdn : dn' j = dn j) (hmj : ∀ c, c < 14 → mj' (14 * j + c) = mj (14 * j + c)) (hmr : ∀ i, i < 2 → mr' (2 * j + i) = mr (2 * j + i)) (hmt : ∀ c, c < 75 → mt' (75 * j + c) = mt (75 * j + c)) : JB W G N nr j kd' op' ti' st' gn' tl' br' dn' mj' mr' mt' := by
  obtain ⟨k, s, g, hb, ⟨a1, a2, a3⟩, ⟨b1, b2, b3, b4, b5, b6⟩, hw, h0, h2, hT, hr⟩ := h
  have o0 : op' (j * 3) = op (j * 3) := hop 0 (by decide)
  have o1 : op' (j * 3 + 1) = op (j * 3 + 1) := hop 1 (by decide)
  have o2 : op' (j * 3 + 2) = op (j * 3 + 2) := hop 2 (by decide)
  refine ⟨k, s, g, hb, ⟨hkd.trans a1, hst.trans a2, hgn.trans a3⟩, ⟨(hmj 0 (by decide)).trans b1, (hmj 4 (by decide)).trans b2, (hmj 5 (by decide)).trans b3, ((hmj 6 (by decide)).trans b4).trans hbr.symm, ((hmj 7 (by decide)).trans b5).trans hdn.symm, ((hmj 13 (by decide)).trans b6).trans htl.symm⟩, ?_, ?_, h2, ?_, ?_⟩
  · intro w hw3
    have e := hw w hw3
    refine ⟨?_, ?_, ?_⟩
    · rw [Nat.add_assoc, hmj _ (by omega), ← Nat.add_assoc, e.1, hop w hw3]
    · rw [Nat.add_assoc, hmj _ (by omega), ← Nat.add_assoc, e.2.1, hti w hw3]
    · rw [hti w hw3]
      exact e.2.2
  · intro hs
    rw [hmj 9 (by decide)]
    exact h0 hs
  · intro hs
    obtain ⟨t1, t2, t3, t4⟩ := hT hs
    rw [o0, o1, o2]
    refine ⟨t1, (hmj 8 (by decide)).trans t2, (hmj 9 (by decide)).trans t3, ?_⟩
    intro t ht
    have e := t4 t ht
    have hg := hb.2.2
    refine ⟨?_, ?_, ?_⟩
    · rw [hmt _ (by omega)]
      exact e.1
    · rw [Nat.add_assoc, hmt _ (by omega), ← Nat.add_assoc]
      exact e.2.1
    · rw [Nat.add_assoc, hmt _ (by omega), ← Nat.add_assoc]
      exact e.2.2
  · intro hs
    rw [o0, o1, o2]
    exact ⟨(hmr 0 (by decide)).trans (hr hs).1, (hmr 1 (by decide)).trans (hr hs).2⟩
/-- the books of both sides: J jobs, the first ov of them over -/
def BR (W G N : Nat) (nr : Bool) (J ov : Nat) (kd op ti st gn tl br dn mj mr : Nat → Int32) (mt : Nat → Int64) : Prop :=
  J ≤ 60 ∧ ov ≤ J ∧ (∀ j, j < J → JB W G N nr j kd op ti st gn tl br dn mj mr mt) ∧ (∀ j, j < ov → st j = 2 ∨ st j = 3) ∧ (∀ j, j < J → st j = 1 → ∀ i, i < j → ¬ st i = 0)
theorem BR.st4 {W G N : Nat} {nr : Bool} {J ov : Nat} {kd op ti st gn tl br dn mj mr : Nat → Int32} {mt : Nat → Int64} (h : BR W G N nr J ov kd op ti st gn tl br dn mj mr mt) {j : Nat} (hj : j < J) : mj (14 * j + 4) = st j := by
  obtain ⟨k, s, g, hb, ⟨a1, a2, a3⟩, ⟨b1, b2, b3, b4, b5, b6⟩, hw, h0, h2, hT, hr⟩ := h.2.2.1 j hj
  rw [b2, a2]
theorem BR.gn5 {W G N : Nat} {nr : Bool} {J ov : Nat} {kd op ti st gn tl br dn mj mr : Nat → Int32} {mt : Nat → Int64} (h : BR W G N nr J ov kd op ti st gn tl br dn mj mr mt) {j : Nat} (hj : j < J) : mj (14 * j + 5) = gn j ∧ ∃ g, g ≤ N ∧ gn j = nI g := by
  obtain ⟨k, s, g, hb, ⟨a1, a2, a3⟩, ⟨b1, b2, b3, b4, b5, b6⟩, hw, h0, h2, hT, hr⟩ := h.2.2.1 j hj
  exact ⟨b3.trans a3.symm, g, hb.2.2, a3⟩
theorem BR.stc {W G N : Nat} {nr : Bool} {J ov : Nat} {kd op ti st gn tl br dn mj mr : Nat → Int32} {mt : Nat → Int64} (h : BR W G N nr J ov kd op ti st gn tl br dn mj mr mt) {j : Nat} (hj : j < J) : st j = 0 ∨ st j = 1 ∨ st j = 2 ∨ st j = 3 := by
  obtain ⟨k, s, g, hb, ⟨a1, a2, a3⟩, hrest⟩ := h.2.2.1 j hj
  rw [a2]
  rcases (show s = 0 ∨ s = 1 ∨ s = 2 ∨ s = 3 by omega) with rfl | rfl | rfl | rfl
  · exact Or.inl rfl
  · exact Or.inr (Or.inl rfl)
  · exact Or.inr (Or.inr (Or.inl rfl))
  · exact Or.inr (Or.inr (Or.inr rfl))
/-! how many jobs are in a state -/
theorem hm_same {J : Nat} (hJ : J ≤ 60) {st mj : Nat → Int32} (hm : ∀ j, j < J → mj (14 * j + 4) = st j) (x : Int32) : ∀ (r j f : Nat) (acc : Int32), r + j = J → r < f → ∃ c, c ≤ r ∧ f_X1_howMany_l4 (nI J) st f x acc (nI j) = some (acc + nI c) ∧ f_X11_howMany_l4 (nI J) mj f x acc (nI j) = some (acc + nI c) ∧ (c = 0 ↔ ∀ i, j ≤ i → i < J → ¬ st i = x)
  | 0, j, f, acc => by
    intro h1 h2
    obtain ⟨f, rfl⟩ : ∃ f', f = f' + 1 := ⟨f - 1, by omega⟩
    refine ⟨0, Nat.le_refl 0, ?_, ?_, ?_⟩
    · rw [f_X1_howMany_l4, if_pos (nI_le (by omega) (by omega))]
      exact congrArg some (Int32.add_zero acc).symm
    · rw [f_X11_howMany_l4, if_pos (nI_le (by omega) (by omega))]
      exact congrArg some (Int32.add_zero acc).symm
    · exact ⟨fun _ i h3 h4 => by omega, fun _ => rfl⟩
  | r + 1, j, f, acc => by
    intro h1 h2
    obtain ⟨f, rfl⟩ : ∃ f', f = f' + 1 := ⟨f - 1, by omega⟩
    by_cases hx : st j = x
    · obtain ⟨c, c1, c2, c3, c4⟩ := hm_same hJ hm x r (j + 1) f (acc + 1) (by omega) (by omega)
      have e : acc + 1 + nI c = acc + nI (c + 1) := by
        rw [Int32.add_assoc, show (1 : Int32) + nI c = nI (1 + c) from nI_add 1 c, Nat.add_comm 1 c]
      refine ⟨c + 1, by omega, ?_, ?_, ?_⟩
      · rw [f_X1_howMany_l4, if_neg (nI_ge (by omega) (by omega)), gv_N (by omega) (by decide), nI_clamp (by omega), if_pos hx, lt_eq, lt_eq, lt_eq, nI_p1, ← e]
        exact c2
      · rw [f_X11_howMany_l4, if_neg (nI_ge (by omega) (by omega)), m_of4 (by omega), bd_some, hm j (by omega), if_pos hx, lt_eq, lt_eq, lt_eq, nI_p1, ← e]
        exact c3
      · exact ⟨fun h => by omega, fun h => absurd hx (h j (Nat.le_refl j) (by omega))⟩
    · obtain ⟨c, c1, c2, c3, c4⟩ := hm_same hJ hm x r (j + 1) f (acc + 0) (by omega) (by omega)
      rw [Int32.add_zero] at c2 c3
      refine ⟨c, by omega, ?_, ?_, ?_⟩
      · rw [f_X1_howMany_l4, if_neg (nI_ge (by omega) (by omega)), gv_N (by omega) (by decide), nI_clamp (by omega), if_neg hx, lt_eq, lt_eq, lt_eq, nI_p1, show acc + bI false = acc from Int32.add_zero acc]
        exact c2
      · rw [f_X11_howMany_l4, if_neg (nI_ge (by omega) (by omega)), m_of4 (by omega), bd_some, hm j (by omega), if_neg hx, lt_eq, lt_eq, lt_eq, nI_p1, show acc + bI false = acc from Int32.add_zero acc]
        exact c3
      · refine ⟨fun h i h3 h4 => ?_, fun h => c4.2 (fun i h3 h4 => h i (by omega) h4)⟩
        rcases Nat.eq_or_lt_of_le h3 with rfl | h5
        · exact hx
        · exact c4.1 h i (by omega) h4
theorem hm_both {J : Nat} (hJ : J ≤ 60) {st mj : Nat → Int32} (hm : ∀ j, j < J → mj (14 * j + 4) = st j) (x : Int32) : ∃ c, c ≤ J ∧ f_X1_howMany x (nI J) st = some (nI c) ∧ f_X11_howMany x (nI J) mj = some (nI c) ∧ (c = 0 ↔ ∀ i, i < J → ¬ st i = x) := by
  obtain ⟨c, c1, c2, c3, c4⟩ := hm_same hJ hm x J 0 FU 0 (by omega) (by show J < 5000; omega)
  rw [Int32.zero_add] at c2 c3
  exact ⟨c, c1, c2, c3, ⟨fun h i hi => c4.1 h i (Nat.zero_le i) hi, fun h => c4.2 (fun i _ hi => h i hi)⟩⟩
/-! the first with a property -/
def fst1 (p : Nat → Bool) : Nat → Nat → Int32
  | 0, _ => -1
  | n + 1, j => if p j = true then nI j else fst1 p n (j + 1)
theorem fst_none {p : Nat → Bool} : ∀ (n j : Nat), (∀ i, j ≤ i → i < j + n → p i = false) → fst1 p n j = -1
  | 0, _, _ => rfl
  | n + 1, j, h => by
    rw [fst1, if_neg (by rw [h j (Nat.le_refl j) (by omega)]; decide)]
    exact fst_none n (j + 1) (fun i h1 h2 => h i (by omega) (by omega))
theorem fst_skip {p : Nat → Bool} : ∀ (a n j : Nat), (∀ i, j ≤ i → i < j + a → p i = false) → fst1 p (a + n) j = fst1 p n (j + a)
  | 0, n, j, _ => by rw [Nat.zero_add]; rfl
  | a + 1, n, j, h => by
    rw [show a + 1 + n = (a + n) + 1 from by omega, fst1, if_neg (by rw [h j (Nat.le_refl j) (by omega)]; decide), fst_skip a n (j + 1) (fun i h1 h2 => h i (by omega) (by omega)), show j + 1 + a = j + (a + 1) from by omega]
theorem fst_cases (p : Nat → Bool) : ∀ (n j : Nat), (fst1 p n j = -1 ∧ ∀ i, j ≤ i → i < j + n → p i = false) ∨ ∃ i, j ≤ i ∧ i < j + n ∧ p i = true ∧ (∀ t, j ≤ t → t < i → p t = false) ∧ fst1 p n j = nI i
  | 0, j => Or.inl ⟨rfl, fun i h1 h2 => by omega⟩
  | n + 1, j => by
    by_cases hp : p j = true
    · exact Or.inr ⟨j, Nat.le_refl j, by omega, hp, fun t h1 h2 => by omega, by rw [fst1, if_pos hp]⟩
    · rcases fst_cases p n (j + 1) with ⟨h1, h2⟩ | ⟨i, h1, h2, h3, h4, h5⟩
      · refine Or.inl ⟨by rw [fst1, if_neg hp]; exact h1, fun i h3 h4 => ?_⟩
        rcases Nat.eq_or_lt_of_le h3 with rfl | h5
        · exact Bool.eq_false_iff.2 hp
        · exact h2 i (by omega) (by omega)
      · refine Or.inr ⟨i, by omega, by omega, h3, fun t h6 h7 => ?_, by rw [fst1, if_neg hp]; exact h5⟩
        rcases Nat.eq_or_lt_of_le h6 with rfl | h8
        · exact Bool.eq_false_iff.2 hp
        · exact h4 t (by omega) h7
theorem nI_nm1 {i : Nat} (h : i < 2 ^ 31) : ¬ nI i = -1 := by
  intro h1
  have h2 := congrArg Int32.toInt h1
  rw [nI_toInt h, show (-1 : Int32).toInt = -1 from by decide] at h2
  omega
