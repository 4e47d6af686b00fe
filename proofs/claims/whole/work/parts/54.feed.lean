/-! ===== pure part: the tape ===== -/
def byt (c : Nat) : Int32 := (nI c).toInt8.toInt32
/-- the tape of both sides: L bytes, none of them 0 -/
def TP (L : Nat) (tb mt : Nat → Int32) : Prop := L ≤ 400 ∧ ∀ i, i < L → ∃ c, 1 ≤ c ∧ c < 256 ∧ tb i = nI c ∧ mt i = byt c
def wb (x s : Int32) : Int32 := (x >>> (s &&& 31)) &&& 255
def eb (x s : Int32) : Bool := if wb x s = 0 then false else true
def nb (x : Int32) : Nat := (((eb x 24).toNat + (eb x 16).toNat) + (eb x 8).toNat) + (eb x 0).toNat
theorem bI_N (b : Bool) : bI b = nI b.toNat := by cases b <;> rfl
set_option maxRecDepth 20000 in
theorem bt_x (x : Int32) : f_X6_bytesTold x = some (((((0 : Int32) + bI (eb x 24)) + bI (eb x 16)) + bI (eb x 8)) + bI (eb x 0)) := rfl
set_option maxRecDepth 20000 in
theorem bo_m (x : Int32) : f_X11_bytesOf x = some (((((0 : Int32) + bI (eb x 0)) + bI (eb x 8)) + bI (eb x 16)) + bI (eb x 24)) := rfl
theorem bt_n (x : Int32) : f_X6_bytesTold x = some (nI (nb x)) := by
  rw [bt_x, bI_N, bI_N, bI_N, bI_N, Int32.zero_add, nI_add, nI_add, nI_add]
  rfl
theorem bo_n (x : Int32) : f_X11_bytesOf x = some (nI (nb x)) := by
  rw [bo_m, bI_N, bI_N, bI_N, bI_N, Int32.zero_add, nI_add, nI_add, nI_add]
  unfold nb
  rw [show (eb x 0).toNat + (eb x 8).toNat + (eb x 16).toNat + (eb x 24).toNat = (eb x 24).toNat + (eb x 16).toNat + (eb x 8).toNat + (eb x 0).toNat from by omega]
theorem ap_step {x s s' : Int32} (hs : ¬ s < 0) (hs' : s + (-8) = s') {L : Nat} {tb mt : Nat → Int32} (h : TP L tb mt) (hl : L + (eb x s).toNat ≤ 400) : ∃ tb' mt', (∀ f, f_X6_append_l3 (f + 1) x s (nI L) tb = f_X6_append_l3 f x s' (nI (L + (eb x s).toNat)) tb') ∧ (∀ f, f_X11_brings_l3 (f + 1) x s (nI L) mt = f_X11_brings_l3 f x s' (nI (L + (eb x s).toNat)) mt') ∧ TP (L + (eb x s).toNat) tb' mt' := by
  by_cases h0 : wb x s = 0
  · have he : eb x s = false := if_pos h0
    refine ⟨tb, mt, ?_, ?_, ?_⟩
    · intro f
      rw [f_X6_append_l3, if_neg hs, lt_eq, show (x >>> (s &&& 31)) &&& 255 = wb x s from rfl, if_pos h0]
      unfold f_X6_append_b49
      rw [lt_eq, hs', he]
      rfl
    · intro f
      rw [f_X11_brings_l3, if_neg hs, lt_eq, show (x >>> (s &&& 31)) &&& 255 = wb x s from rfl, if_pos h0]
      unfold f_X11_brings_b43
      rw [lt_eq, hs', he]
      rfl
    · rw [he]
      exact h
  · have he : eb x s = true := if_neg h0
    rw [he] at hl ⊢
    have hl2 : L < 400 := hl
    obtain ⟨c, hc, hw⟩ : ∃ c, c < 2 ^ 8 ∧ wb x s = nI c := pk_andE (x >>> (s &&& 31)) (m := 255) 8 (by decide)
    have hc1 : 1 ≤ c := by
      rcases Nat.eq_zero_or_pos c with rfl | hp
      · exact absurd hw h0
      · exact hp
    refine ⟨upd tb L (nI c), upd mt L (byt c), ?_, ?_, ?_⟩
    · intro f
      rw [f_X6_append_l3, if_neg hs, lt_eq, show (x >>> (s &&& 31)) &&& 255 = wb x s from rfl, if_neg h0, if_neg (ng400 hl2), gv_N hl2 (by decide), lt_eq, nI_p1, nI_clamp (by omega), hw]
      unfold f_X6_append_b49
      rw [lt_eq, hs']
      rfl
    · intro f
      rw [f_X11_brings_l3, if_neg hs, lt_eq, show (x >>> (s &&& 31)) &&& 255 = wb x s from rfl, if_neg h0, gv_N hl2 (by decide), lt_eq, nI_p1, nI_clamp (by omega), hw, pk_vb]
      unfold f_X11_brings_b43
      rw [lt_eq, hs']
      rfl
    · refine ⟨hl, ?_⟩
      intro i hi
      by_cases hiL : i = L
      · rw [hiL, pk_us, pk_us]
        exact ⟨c, hc1, hc, rfl, rfl⟩
      · rw [pk_un hiL, pk_un hiL]
        exact h.2 i (by have : i < L + 1 := hi; omega)
theorem ap_word {x : Int32} {L : Nat} {tb mt : Nat → Int32} (h : TP L tb mt) (hl : L + nb x ≤ 400) : ∃ tb' mt', f_X6_append x (nI L) tb = some (nI (L + nb x), tb') ∧ f_X11_brings x (nI L) mt = some (nI (L + nb x), mt') ∧ TP (L + nb x) tb' mt' := by
  have hn : nb x = (((eb x 24).toNat + (eb x 16).toNat) + (eb x 8).toNat) + (eb x 0).toNat := rfl
  obtain ⟨t1, m1, a1, b1, h1⟩ := ap_step (x := x) (s := 24) (s' := 16) (by decide) (by decide) h (by omega)
  obtain ⟨t2, m2, a2, b2, h2⟩ := ap_step (x := x) (s := 16) (s' := 8) (by decide) (by decide) h1 (by omega)
  obtain ⟨t3, m3, a3, b3, h3⟩ := ap_step (x := x) (s := 8) (s' := 0) (by decide) (by decide) h2 (by omega)
  obtain ⟨t4, m4, a4, b4, h4⟩ := ap_step (x := x) (s := 0) (s' := -8) (by decide) (by decide) h3 (by omega)
  have e : L + (eb x 24).toNat + (eb x 16).toNat + (eb x 8).toNat + (eb x 0).toNat = L + nb x := by omega
  rw [e] at a4 b4 h4
  refine ⟨t4, m4, ?_, ?_, h4⟩
  · refine (a1 4999).trans ((a2 4998).trans ((a3 4997).trans ((a4 4996).trans ?_)))
    rw [f_X6_append_l3, if_pos (by decide)]
  · refine (b1 4999).trans ((b2 4998).trans ((b3 4997).trans ((b4 4996).trans ?_)))
    rw [f_X11_brings_l3, if_pos (by decide)]
theorem q_feed {L : Nat} {tb mt : Nat → Int32} (h : TP L tb mt) (a b c d e th : Int32) : ∃ (r : Int32) (L' : Nat) (tb' mt' : Nat → Int32), f_X10_feed a b c d e (nI L) tb = some (r, nI L', tb') ∧ f_X11_feed a b c d e th (nI L) mt = some (r, 0, nI L', mt') ∧ TP L' tb' mt' := by
  have hL := h.1
  have hb : ∀ x, nb x ≤ 4 := fun x => by
    unfold nb
    have : ∀ y : Bool, y.toNat ≤ 1 := fun y => by cases y <;> decide
    have h1 := this (eb x 24)
    have h2 := this (eb x 16)
    have h3 := this (eb x 8)
    have h4 := this (eb x 0)
    omega
  have ha := hb a
  have hb' := hb b
  have hc := hb c
  have hd := hb d
  have he := hb e
  unfold f_X10_feed f_X11_feed
  simp only [bt_n, bo_n, bd_some, lt_eq, nI_add]
  rw [show L + (nb a + nb b + nb c + nb d + nb e) = L + nb a + nb b + nb c + nb d + nb e from by omega]
  by_cases hs : L + nb a + nb b + nb c + nb d + nb e ≤ 400
  · have hle : nI (L + nb a + nb b + nb c + nb d + nb e) ≤ 400 := nI_le (a := _) (b := 400) hs (by decide)
    obtain ⟨t1, m1, x1, y1, h1⟩ := ap_word (x := a) h (by omega)
    obtain ⟨t2, m2, x2, y2, h2⟩ := ap_word (x := b) h1 (by omega)
    obtain ⟨t3, m3, x3, y3, h3⟩ := ap_word (x := c) h2 (by omega)
    obtain ⟨t4, m4, x4, y4, h4⟩ := ap_word (x := d) h3 (by omega)
    obtain ⟨t5, m5, x5, y5, h5⟩ := ap_word (x := e) h4 (by omega)
    rw [if_pos hle, if_pos hle, x1, y1]
    simp only [bd_some, x2, y2, x3, y3, x4, y4, x5, y5]
    exact ⟨_, _, _, _, rfl, rfl, h5⟩
  · have hle : ¬ nI (L + nb a + nb b + nb c + nb d + nb e) ≤ 400 := nI_ge (a := 400) (b := L + nb a + nb b + nb c + nb d + nb e) (by omega) (by omega)
    rw [if_neg hle, if_neg hle]
    exact ⟨_, L, _, _, rfl, rfl, h⟩
theorem tp_end {L : Nat} {tb mt : Nat → Int32} (h : TP L tb mt) (p th : Int32) : ∃ (r : Bool) (L' : Nat), f_X10_end p (nI L) = some (r, nI L') ∧ f_X11_end p th (nI L) = some (r, 0, nI L') ∧ TP L' tb mt := by
  obtain ⟨r, l, e1, e2, e3⟩ := q_end (L := nI L) p th
  have hL := h.1
  rcases e3 with rfl | ⟨h0, h1, rfl⟩
  · exact ⟨r, L, e1, e2, h⟩
  · obtain ⟨n, hn, rfl⟩ := nI_of2 (x := l) (M := nI L) (n := L) (nI_toInt (by omega)) h0 h1
    exact ⟨r, n, e1, e2, by omega, fun i hi => h.2 i (by omega)⟩
