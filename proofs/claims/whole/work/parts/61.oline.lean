/-! ===== pure part: a line of orders, and all of them ===== -/
def kNm : Nat → Nat
  | 0 => 1
  | 1 => 2
  | 2 => 2
  | 3 => 2
  | 8 => 3
  | _ => 1
theorem kNm_is : ∀ k, k < 9 → kNames k = nI (kNm k) ∧ f_X11_namesOf (nI k) = some (nI (kNm k)) ∧ 1 ≤ kNm k ∧ kNm k ≤ 3 := by decide
section OlSec
variable {L : Nat} {tb mt : Nat → Int32}
theorem of_trans {l : Nat} {a b c a' b' c' a2 b2 c2 : Nat → Int32} (h1 : OF l a b c a' b' c') (h2 : OF l a' b' c' a2 b2 c2) : OF l a b c a2 b2 c2 := ⟨fun i hi => ⟨((h2.1 i hi).1).trans (h1.1 i hi).1, ((h2.1 i hi).2).trans (h1.1 i hi).2⟩, fun i hi => (h2.2 i hi).trans (h1.2 i hi)⟩
theorem os_loop (h : TP L tb mt) {l k : Nat} (hl : l < 60) (hk : k < 9) : ∀ (r w i : Nat) (oo ot mo : Nat → Int32) (mv : Int32), r + w = kNm k → i ≤ L → OW l w oo ot mo →
    (∃ (F : Nat) (c2 : Int32) (c3 c4 : Nat → Int32) (m1 m3 : Int32) (m4 : Nat → Int32), F ≤ L ∧ (∀ fu, r < fu → f_X3_readOperands_l2 (nI l) (nI L) tb fu (nI (l * 3)) (nI (kNm k)) (nI w) (nI i) oo ot = some (nI F, c2, c3, c4)) ∧ (∀ fu, r + 1 < fu → f_X11_orderLine_l105 (nI L) mt fu (nI k) (nI (7 * l)) (nI w) (nI i) (-1) (nI l) mv mo = some (m1, nI F, nI (l + 1), m3, m4))) ∨
    (∃ (e : Nat) (oo' ot' mo' : Nat → Int32) (mv' : Int32), i ≤ e ∧ e ≤ L ∧ (∀ fu, r < fu → f_X3_readOperands_l2 (nI l) (nI L) tb fu (nI (l * 3)) (nI (kNm k)) (nI w) (nI i) oo ot = some (-1, nI e, oo', ot')) ∧ (∀ fu, r + 1 < fu → f_X11_orderLine_l105 (nI L) mt fu (nI k) (nI (7 * l)) (nI w) (nI i) (-1) (nI l) mv mo = some (nI e, -1, nI (l + 1), mv', mo')) ∧ OW l (kNm k) oo' ot' mo' ∧ OF l oo ot mo oo' ot' mo')
  | 0, w, i, oo, ot, mo, mv => by
    intro h1 hi O
    have hn := kNm_is k hk
    obtain rfl : w = kNm k := by omega
    refine Or.inr ⟨i, oo, ot, mo, mv, Nat.le_refl i, hi, ?_, ?_, O, ⟨fun _ _ => ⟨rfl, rfl⟩, fun _ _ => rfl⟩⟩
    · intro fu hf
      obtain ⟨fu, rfl⟩ : ∃ f', fu = f' + 1 := ⟨fu - 1, by omega⟩
      rw [f_X3_readOperands_l2, if_pos (nI_le (Nat.le_refl _) (by omega))]
      rfl
    · intro fu hf
      obtain ⟨fu, rfl⟩ : ∃ f', fu = f' + 1 := ⟨fu - 1, by omega⟩
      rw [f_X11_orderLine_l105, hn.2.1, bd_some, if_pos (nI_le (Nat.le_refl _) (by omega))]
      unfold f_X11_orderLine_b136
      rw [lt_eq, nI_p1]
  | r + 1, w, i, oo, ot, mo, mv => by
    intro h1 hi O
    have hL := h.1
    have hn := kNm_is k hk
    have hM : ∀ fu, f_X11_orderLine_l105 (nI L) mt (fu + 1) (nI k) (nI (7 * l)) (nI w) (nI i) (-1) (nI l) mv mo = bd (f_X11_operand (nI (7 * l)) (nI w) (nI L) (nI i) (-1) (nI l) mv mt mo) (fun o8 => f_X11_orderLine_l105 (nI L) mt fu (nI k) (nI (7 * l)) (nI (w + 1)) o8.1 o8.2.1 (nI l) o8.2.2.1 o8.2.2.2) := by
      intro fu
      rw [f_X11_orderLine_l105, hn.2.1, bd_some, if_neg (nI_ge (by omega) (by omega)), if_pos rfl]
      simp only [lt_eq, nI_p1]
    rcases op_same h (nm := kNm k) hl (by omega) (by omega) hn.2.2.2 hi O mv with ⟨F, c2, c3, c4, m1, m3, m4, hF, eX, eM⟩ | ⟨e, oo1, ot1, mo1, mv1, hie, heL, eX, eM, O1, F1⟩
    · refine Or.inl ⟨F, c2, c3, c4, m1, m3, m4, hF, ?_, ?_⟩
      · intro fu hf
        obtain ⟨fu, rfl⟩ : ∃ f', fu = f' + 1 := ⟨fu - 1, by omega⟩
        exact eX fu
      · intro fu hf
        obtain ⟨fu, rfl⟩ : ∃ f', fu = f' + 1 + 1 := ⟨fu - 2, by omega⟩
        rw [hM, eM, bd_some]
        dsimp only
        rw [f_X11_orderLine_l105, hn.2.1, bd_some]
        unfold f_X11_orderLine_b136
        by_cases hc : nI (kNm k) ≤ nI (w + 1)
        · rw [if_pos hc, lt_eq, nI_p1]
        · rw [if_neg hc, if_neg (nm1_ne (by omega)), lt_eq, nI_p1]
    · rcases os_loop h hl hk r (w + 1) e oo1 ot1 mo1 mv1 (by omega) heL O1 with ⟨F, c2, c3, c4, m1, m3, m4, hF, gX, gM⟩ | ⟨e2, oo2, ot2, mo2, mv2, hee, he2, gX, gM, O2, F2⟩
      · refine Or.inl ⟨F, c2, c3, c4, m1, m3, m4, hF, ?_, ?_⟩
        · intro fu hf
          obtain ⟨fu, rfl⟩ : ∃ f', fu = f' + 1 := ⟨fu - 1, by omega⟩
          rw [eX fu]
          exact gX fu (by omega)
        · intro fu hf
          obtain ⟨fu, rfl⟩ : ∃ f', fu = f' + 1 := ⟨fu - 1, by omega⟩
          rw [hM, eM, bd_some]
          exact gM fu (by omega)
      · refine Or.inr ⟨e2, oo2, ot2, mo2, mv2, by omega, he2, ?_, ?_, O2, of_trans F1 F2⟩
        · intro fu hf
          obtain ⟨fu, rfl⟩ : ∃ f', fu = f' + 1 := ⟨fu - 1, by omega⟩
          rw [eX fu]
          exact gX fu (by omega)
        · intro fu hf
          obtain ⟨fu, rfl⟩ : ∃ f', fu = f' + 1 := ⟨fu - 1, by omega⟩
          rw [hM, eM, bd_some]
          exact gM fu (by omega)
/-! which kind stands there; 9: none -/
def kh (c : Nat → Nat) (p e : Nat) : Nat := (if wq c p e (wd 0) = true then 0 else (if wq c p e (wd 1) = true then 1 else (if wq c p e (wd 2) = true then 2 else (if wq c p e (wd 3) = true then 3 else (if wq c p e (wd 4) = true then 4 else (if wq c p e (wd 5) = true then 5 else (if wq c p e (wd 6) = true then 6 else (if wq c p e (wd 7) = true then 7 else (if wq c p e (wd 8) = true then 8 else 9)))))))))
def khN (c : Nat → Nat) (p e : Nat) : Nat → Nat → Nat
  | 0, _ => 9
  | n + 1, k => if wq c p e (wd k) = true then k else khN c p e n (k + 1)
theorem kh_eq (c : Nat → Nat) (p e : Nat) : khN c p e 9 0 = kh c p e := rfl
theorem khN_le (c : Nat → Nat) (p e : Nat) : ∀ n k, n + k = 9 → khN c p e n k ≤ 9
  | 0, k => fun _ => Nat.le_refl 9
  | n + 1, k => fun h => by
    rw [khN]
    split
    · omega
    · exact khN_le c p e n (k + 1) (by omega)
theorem kh_m (h : TP L tb mt) {p e : Nat} (hpe : p ≤ e) (he : e ≤ L) : f_X11_kindHere (nI e) (nI p) mt = some (if kh (cf tb) p e = 9 then -1 else nI (kh (cf tb) p e)) := by
  unfold f_X11_kindHere kh
  rw [iw_w h (by decide) hpe he, iw_w h (by decide) hpe he, iw_w h (by decide) hpe he, iw_w h (by decide) hpe he, iw_w h (by decide) hpe he, iw_w h (by decide) hpe he, iw_w h (by decide) hpe he, iw_w h (by decide) hpe he, iw_w h (by decide) hpe he]
  simp only [bd_some, lt_eq]
  rw [show wd (15 + 6) = wd 0 from rfl, show wd (15 + 7) = wd 1 from rfl, show wd (15 + 8) = wd 2 from rfl, show wd (15 + 9) = wd 3 from rfl, show wd (15 + 10) = wd 4 from rfl, show wd (15 + 11) = wd 5 from rfl, show wd (15 + 12) = wd 6 from rfl, show wd (15 + 13) = wd 7 from rfl, show wd (15 + 14) = wd 8 from rfl]
  cases wq (cf tb) p e (wd 0) with
  | true => rfl
  | false =>
    cases wq (cf tb) p e (wd 1) with
    | true => rfl
    | false =>
      cases wq (cf tb) p e (wd 2) with
      | true => rfl
      | false =>
        cases wq (cf tb) p e (wd 3) with
        | true => rfl
        | false =>
          cases wq (cf tb) p e (wd 4) with
          | true => rfl
          | false =>
            cases wq (cf tb) p e (wd 5) with
            | true => rfl
            | false =>
              cases wq (cf tb) p e (wd 6) with
              | true => rfl
              | false =>
                cases wq (cf tb) p e (wd 7) with
                | true => rfl
                | false =>
                  cases wq (cf tb) p e (wd 8) with
                  | true => rfl
                  | false =>
                    rfl
theorem kh_x (h : TP L tb mt) {p e l : Nat} (hpe : p ≤ e) (he : e ≤ L) (hl : l < 60) (ok oo ot : Nat → Int32) (f0 : Nat) : ∀ (n k : Nat), n + k = 9 → f_X3_readLine_l60 (nI l) (nI L) tb (n + (f0 + 1)) (nI l) (nI (l * 3)) (nI p) (nI k) (nI e) ok oo ot = if khN (cf tb) p e n k = 9 then some (nI p, nI e, ok, oo, ot) else bd (f_X3_readOperands (nI (l * 3)) (kNames (khN (cf tb) p e n k)) (nI l) (nI e) (nI L) tb oo ot) (fun o6 => some (o6.1, o6.2.1, upd ok l (nI (khN (cf tb) p e n k)), o6.2.2.1, o6.2.2.2))
  | 0, k => by
    intro h1
    obtain rfl : k = 9 := by omega
    rw [Nat.zero_add, f_X3_readLine_l60, if_pos (by decide : (9 : Int32) ≤ nI 9), khN, if_pos rfl]
  | n + 1, k => by
    intro h1
    rw [show n + 1 + (f0 + 1) = (n + (f0 + 1)) + 1 from by omega, f_X3_readLine_l60, if_neg (ng9 (by omega)), gv_N (by omega) (by decide), nI_clamp (by omega), rd_x h (by omega) hpe he, bd_some, khN]
    by_cases hB : wq (cf tb) p e (wd k) = true
    · rw [if_pos hB, if_pos hB, gv_N hl (by decide), gv_N (by omega) (by decide), nI_clamp (by omega), if_neg (by omega)]
    · rw [if_neg hB, if_neg hB, lt_eq, nI_p1]
      exact kh_x h hpe he hl ok oo ot f0 n (k + 1) (by omega)
theorem li_x {l : Nat} (hl : l < 60) (i : Int32) (ok : Nat → Int32) (f0 : Nat) : ∀ (r w : Nat) (oo ot : Nat → Int32), r + w = 3 → ∃ oo' ot', f_X3_readLine_l6 (nI l) (nI L) tb (r + (f0 + 1)) (nI l) (nI (l * 3)) (nI w) i ok oo ot = f_X3_readLine_l6 (nI l) (nI L) tb (f0 + 1) (nI l) (nI (l * 3)) (nI 3) i ok oo' ot' ∧ (∀ t, w ≤ t → t < 3 → oo' (l * 3 + t) = 0 ∧ ot' (l * 3 + t) = -1) ∧ (∀ j, j < l * 3 + w ∨ l * 3 + 3 ≤ j → oo' j = oo j ∧ ot' j = ot j)
  | 0, w, oo, ot => by
    intro h1
    obtain rfl : w = 3 := by omega
    exact ⟨oo, ot, by rw [Nat.zero_add], fun t h2 h3 => by omega, fun j _ => ⟨rfl, rfl⟩⟩
  | r + 1, w, oo, ot => by
    intro h1
    obtain ⟨oo', ot', e1, e2, e3⟩ := li_x hl i ok f0 r (w + 1) (upd oo (l * 3 + w) 0) (upd ot (l * 3 + w) (-1)) (by omega)
    refine ⟨oo', ot', ?_, ?_, ?_⟩
    · rw [show r + 1 + (f0 + 1) = (r + (f0 + 1)) + 1 from by omega, f_X3_readLine_l6, if_neg (ng3 (by omega)), nI_add, gv_N (by omega) (by decide), gv_N (by omega) (by decide), nI_clamp (by omega), lt_eq, nI_p1]
      exact e1
    · intro t h2 h3
      rcases Nat.eq_or_lt_of_le h2 with rfl | h4
      · have := e3 (l * 3 + w) (Or.inl (by omega))
        rw [this.1, this.2, pk_us, pk_us]
        exact ⟨rfl, rfl⟩
      · exact e2 t (by omega) h3
    · intro j hj
      have := e3 j (by omega)
      rw [this.1, this.2, pk_un (by omega), pk_un (by omega)]
      exact ⟨rfl, rfl⟩
theorem li_m {l : Nat} (hl : l < 60) (k a v : Int32) (f0 : Nat) : ∀ (r w : Nat) (mo : Nat → Int32), r + w = 3 → ∃ mo', f_X11_orderLine_l64 (nI L) mt (r + (f0 + 1)) k (nI (7 * l)) (nI w) a (-1) (nI l) v mo = f_X11_orderLine_l64 (nI L) mt (f0 + 1) k (nI (7 * l)) (nI 3) a (-1) (nI l) v mo' ∧ (∀ t, w ≤ t → t < 3 → mo' (7 * l + 1 + t) = 0 ∧ mo' (7 * l + 4 + t) = -1) ∧ (∀ t, t < w → mo' (7 * l + 1 + t) = mo (7 * l + 1 + t) ∧ mo' (7 * l + 4 + t) = mo (7 * l + 4 + t)) ∧ (∀ j, j < 7 * l + 1 ∨ 7 * l + 7 ≤ j → mo' j = mo j)
  | 0, w, mo => by
    intro h1
    obtain rfl : w = 3 := by omega
    exact ⟨mo, by rw [Nat.zero_add], fun t h2 h3 => by omega, fun t _ => ⟨rfl, rfl⟩, fun j _ => rfl⟩
  | r + 1, w, mo => by
    intro h1
    obtain ⟨mo', e1, e2, e3, e4⟩ := li_m hl k a v f0 r (w + 1) (upd (upd mo (7 * l + 1 + w) 0) (7 * l + 4 + w) (-1)) (by omega)
    refine ⟨mo', ?_, ?_, ?_, ?_⟩
    · rw [show r + 1 + (f0 + 1) = (r + (f0 + 1)) + 1 from by omega, f_X11_orderLine_l64, if_neg (ng3 (by omega)), r7_1, r7_4, gv_N (by omega) (by decide), gv_N (by omega) (by decide), nI_clamp (by omega), nI_clamp (by omega), lt_eq, nI_p1]
      exact e1
    · intro t h2 h3
      rcases Nat.eq_or_lt_of_le h2 with rfl | h4
      · have := e3 w (by omega)
        rw [this.1, this.2, pk_un (by omega), pk_us, pk_us]
        exact ⟨rfl, rfl⟩
      · exact e2 t (by omega) h3
    · intro t ht
      have := e3 t (by omega)
      rw [this.1, this.2, pk_un (by omega), pk_un (by omega), pk_un (by omega), pk_un (by omega)]
      exact ⟨rfl, rfl⟩
    · intro j hj
      rw [e4 j hj, pk_un (by omega), pk_un (by omega)]
/-- lines ahead of line l, both sides -/
def LR (l : Nat) (ok oo ot mo : Nat → Int32) : Prop := ∀ j, j < l → (∃ k, k < 9 ∧ ok j = nI k ∧ mo (7 * j) = nI k) ∧ (∀ w, w < 3 → mo (7 * j + 1 + w) = oo (j * 3 + w) ∧ mo (7 * j + 4 + w) = ot (j * 3 + w) ∧ TIE j (ot (j * 3 + w)) ∧ (¬ ot (j * 3 + w) = -1 → oo (j * 3 + w) = 0))
/-- what comes of a line, both sides -/
theorem ln_same (h : TP L tb mt) {l i : Nat} (hl : l < 60) (hi : i ≤ L) (ok oo ot mo : Nat → Int32) (mv : Int32) (R : LR l ok oo ot mo) :
    (∃ (F : Nat) (c2 : Int32) (c3 c4 c5 : Nat → Int32) (m1 m2 m3 : Int32) (m4 : Nat → Int32), F ≤ L ∧ f_X3_readLine (nI l) (nI l) (nI i) (nI L) tb ok oo ot = some (nI F, c2, c3, c4, c5) ∧ f_X11_orderLine (nI L) (nI i) (-1) (nI l) mv mt mo = some (m1, nI F, m2, m3, m4)) ∨
    (∃ (e : Nat) (ok' oo' ot' mo' : Nat → Int32) (mv' : Int32), i ≤ e ∧ e ≤ L ∧ f_X3_readLine (nI l) (nI l) (nI i) (nI L) tb ok oo ot = some (-1, nI e, ok', oo', ot') ∧ f_X11_orderLine (nI L) (nI i) (-1) (nI l) mv mt mo = some (nI e, -1, nI (l + 1), mv', mo') ∧ LR (l + 1) ok' oo' ot' mo') := by
  have hL := h.1
  have hp := sk_le (tb := tb) hi
  have he := pl_le (tb := tb) hp.2
  obtain ⟨oo0, ot0, x1, x2, x3⟩ := li_x (L := L) (tb := tb) hl (nI i) ok 4996 3 0 oo ot rfl
  have eX : f_X3_readLine (nI l) (nI l) (nI i) (nI L) tb ok oo ot = if kh (cf tb) (sk L tb i) (pl' L tb (sk L tb i)) = 9 then some (nI (sk L tb i), nI (pl' L tb (sk L tb i)), ok, oo0, ot0) else bd (f_X3_readOperands (nI (l * 3)) (kNames (kh (cf tb) (sk L tb i) (pl' L tb (sk L tb i)))) (nI l) (nI (pl' L tb (sk L tb i))) (nI L) tb oo0 ot0) (fun o6 => some (o6.1, o6.2.1, upd ok l (nI (kh (cf tb) (sk L tb i) (pl' L tb (sk L tb i)))), o6.2.2.1, o6.2.2.2)) := by
    unfold f_X3_readLine
    rw [lt_eq, i3_0]
    refine Eq.trans x1 ?_
    rw [f_X3_readLine_l6, if_pos (by decide : (3 : Int32) ≤ nI 3), sk_x h hi, bd_some, pl_x h hp.2, bd_some, ← kh_eq]
    exact kh_x h he.1 he.2 hl ok oo0 ot0 4990 9 0 rfl
  have hkle : kh (cf tb) (sk L tb i) (pl' L tb (sk L tb i)) ≤ 9 := khN_le _ _ _ 9 0 rfl
  by_cases hk9 : kh (cf tb) (sk L tb i) (pl' L tb (sk L tb i)) = 9
  · refine Or.inl ⟨sk L tb i, nI (pl' L tb (sk L tb i)), ok, oo0, ot0, nI (sk L tb i), nI l, mv, mo, hp.2, by rw [eX, if_pos hk9], ?_⟩
    unfold f_X11_orderLine f_X11_orderLine_b30
    rw [lk_m h hi, bd_some]
    dsimp only
    rw [we_m h hp.2, bd_some, kh_m h he.1 he.2, bd_some, if_pos hk9, if_pos rfl, fa_1, bd_some]
  · have hk : kh (cf tb) (sk L tb i) (pl' L tb (sk L tb i)) < 9 := by omega
    rw [if_neg hk9] at eX
    generalize hkk : kh (cf tb) (sk L tb i) (pl' L tb (sk L tb i)) = k at eX hk hk9
    have hn := kNm_is k hk
    obtain ⟨mo0, y1, y2, y3, y4⟩ := li_m (L := L) (mt := mt) hl (nI k) (nI (pl' L tb (sk L tb i))) mv 4996 3 0 (upd mo (7 * l) (nI k)) rfl
    have O0 : OW l 0 oo0 ot0 mo0 := by
      refine ⟨fun w hw => ?_, fun w _ hw => ⟨(x2 w (Nat.zero_le w) hw).2, (x2 w (Nat.zero_le w) hw).1⟩⟩
      have a := x2 w (Nat.zero_le w) hw
      have b := y2 w (Nat.zero_le w) hw
      exact ⟨b.1.trans a.1.symm, b.2.trans a.2.symm, Or.inl a.2, fun hn => absurd a.2 hn⟩
    have eM : f_X11_orderLine (nI L) (nI i) (-1) (nI l) mv mt mo = f_X11_orderLine_l105 (nI L) mt FU (nI k) (nI (7 * l)) (nI 0) (nI (pl' L tb (sk L tb i))) (-1) (nI l) mv mo0 := by
      unfold f_X11_orderLine
      rw [lk_m h hi, bd_some]
      dsimp only
      rw [we_m h hp.2, bd_some, kh_m h he.1 he.2, bd_some, hkk, if_neg hk9, if_neg (nI_nm1 (by omega)), if_neg (ne60 hl), lt_eq, show (7 : Int32) * nI l = nI (7 * l) from nI_mul 7 l, gv_N (by omega) (by decide), nI_clamp (by omega)]
      refine Eq.trans y1 ?_
      rw [f_X11_orderLine_l64, if_pos (by decide : (3 : Int32) ≤ nI 3)]
      rfl
    rw [hn.1] at eX
    rcases os_loop h hl hk (kNm k) 0 (pl' L tb (sk L tb i)) oo0 ot0 mo0 mv (by omega) he.2 O0 with ⟨F, c2, c3, c4, m1, m3, m4, hF, gX, gM⟩ | ⟨e, oo', ot', mo', mv', hie, heL, gX, gM, O', F'⟩
    · refine Or.inl ⟨F, c2, upd ok l (nI k), c3, c4, m1, nI (l + 1), m3, m4, hF, ?_, ?_⟩
      · rw [eX, show f_X3_readOperands (nI (l * 3)) (nI (kNm k)) (nI l) (nI (pl' L tb (sk L tb i))) (nI L) tb oo0 ot0 = _ from gX FU (by show kNm k < 5000; omega), bd_some]
      · rw [eM]
        exact gM FU (by show kNm k + 1 < 5000; omega)
    · refine Or.inr ⟨e, upd ok l (nI k), oo', ot', mo', mv', by omega, heL, ?_, ?_, ?_⟩
      · rw [eX, show f_X3_readOperands (nI (l * 3)) (nI (kNm k)) (nI l) (nI (pl' L tb (sk L tb i))) (nI L) tb oo0 ot0 = _ from gX FU (by show kNm k < 5000; omega), bd_some]
      · rw [eM]
        exact gM FU (by show kNm k + 1 < 5000; omega)
      · intro j hj
        by_cases hjl : j = l
        · subst hjl
          refine ⟨⟨k, hk, pk_us, ?_⟩, O'.1⟩
          rw [F'.2 _ (Or.inl (by omega)), y4 _ (Or.inl (by omega)), pk_us]
        · obtain ⟨⟨k', hk', q1, q2⟩, q3⟩ := R j (by omega)
          refine ⟨⟨k', hk', by rw [pk_un hjl]; exact q1, ?_⟩, ?_⟩
          · rw [F'.2 _ (by omega), y4 _ (by omega), pk_un (by omega)]
            exact q2
          · intro w hw
            rw [F'.2 _ (by omega), F'.2 _ (by omega), y4 _ (by omega), y4 _ (by omega), pk_un (by omega), pk_un (by omega), (F'.1 _ (by omega)).1, (F'.1 _ (by omega)).2, (x3 _ (by omega)).1, (x3 _ (by omega)).2]
            exact q3 w hw
end OlSec
