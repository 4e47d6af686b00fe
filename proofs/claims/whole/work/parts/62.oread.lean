/-! ===== pure part: all orders; what a fault is ===== -/
/-- what comes of a whole text of orders, both sides -/
def OTR (L : Nat) (xr : Option (Int32 × Int32 × Int32 × (Nat → Int32) × (Nat → Int32) × (Nat → Int32))) (mr : Option (Int32 × Int32 × Int32 × Int32 × Int32 × (Nat → Int32))) : Prop :=
  (∃ (F : Nat) (c2 c3 : Int32) (c4 c5 c6 : Nat → Int32) (m1 m2 m3 m4 : Int32) (m5 : Nat → Int32), F ≤ L ∧ xr = some (nI F, c2, c3, c4, c5, c6) ∧ mr = some (nI F, m1, m2, m3, m4, m5)) ∨
  (∃ (l : Nat) (c3 m1 m2 m4 : Int32) (ok oo ot mo : Nat → Int32), l ≤ 60 ∧ xr = some (-1, nI l, c3, ok, oo, ot) ∧ mr = some (-1, m1, m2, nI l, m4, mo) ∧ LR l ok oo ot mo)
section OrdSec
variable {L : Nat} {tb mt : Nat → Int32}
theorem ot_loop (h : TP L tb mt) : ∀ (r i l : Nat) (ok oo ot mo : Nat → Int32) (mv : Int32), L ≤ r + i → i ≤ L → l ≤ 60 → LR l ok oo ot mo → ∃ xr mr, OTR L xr mr ∧ (∀ fu, r < fu → f_X3_read_l15 (nI L) tb fu (nI l) (nI l) (nI i) ok oo ot = xr) ∧ (∀ fu, r < fu → bd (f_X11_orderLine (nI L) (nI i) (-1) (nI l) mv mt mo) (fun o => f_X11_readsOrders_l19 (nI L) mt fu o.1 o.2.1 o.2.2.1 o.2.2.2.1 o.2.2.2.2) = mr) := by
  intro r
  induction r using Nat.strongRecOn with
  | _ r ih =>
    intro i l ok oo ot mo mv hr hi hl R
    have hL := h.1
    by_cases h60 : l < 60
    · rcases ln_same h h60 hi ok oo ot mo mv R with ⟨F, c2, c3, c4, c5, m1, m2, m3, m4, hF, eX, eM⟩ | ⟨e, ok', oo', ot', mo', mv', hie, heL, eX, eM, R'⟩
      · refine ⟨some (nI F, nI l, c2, c3, c4, c5), some (nI F, m1, nI F, m2, m3, m4), Or.inl ⟨F, _, _, _, _, _, _, _, _, _, _, hF, rfl, rfl⟩, ?_, ?_⟩
        · intro fu hfu
          obtain ⟨fu, rfl⟩ : ∃ f', fu = f' + 1 := ⟨fu - 1, by omega⟩
          rw [f_X3_read_l15, if_neg (ng60 h60), eX, bd_some]
          dsimp only
          rw [if_neg (nm1_ne (by omega))]
        · intro fu hfu
          obtain ⟨fu, rfl⟩ : ∃ f', fu = f' + 1 := ⟨fu - 1, by omega⟩
          rw [eM, bd_some]
          dsimp only
          rw [f_X11_readsOrders_l19, if_neg (nm1_ne (by omega))]
          unfold f_X11_readsOrders_b53 f_X11_readsOrders_b77
          rw [if_neg (nm1_ne (by omega))]
      · have hp := sk_le (tb := tb) heL
        have hx0 : f_X5_skipBlanks (nI e) (nI L) tb = some (nI (sk L tb e)) := sk_x h heL
        have hm0 : f_X11_look (nI L) (nI e) mt = some (hv' L tb (sk L tb e), nI (sk L tb e)) := lk_m h heL
        have hm1 : f_X11_look (nI L) (nI (sk L tb e)) mt = some (hv' L tb (sk L tb e), nI (sk L tb e)) := by
          rw [lk_m h hp.2, sk_sk heL]
        by_cases hlt : sk L tb e < L
        · have hae : f_X5_isAtEnd (nI (sk L tb e)) (nI L) = some false := by
            unfold f_X5_isAtEnd
            rw [lt_eq, if_pos (nI_lt hlt (by omega))]
          have hvv : hv' L tb (sk L tb e) = nI (cf tb (sk L tb e)) := if_pos hlt
          have ht := tp_c h hlt
          by_cases hsc : cf tb (sk L tb e) = 59
          · obtain ⟨xr, mr, hU, gX, gM⟩ := ih (r - 1) (by omega) (sk L tb e + 1) (l + 1) ok' oo' ot' mo' mv' (by omega) (by omega) (by omega) R'
            refine ⟨xr, mr, hU, ?_, ?_⟩
            · intro fu hfu
              obtain ⟨fu, rfl⟩ : ∃ f', fu = f' + 1 := ⟨fu - 1, by omega⟩
              rw [f_X3_read_l15, if_neg (ng60 h60), eX, bd_some]
              dsimp only
              rw [if_pos rfl, lt_eq, hx0, bd_some, hae, bd_some, if_neg (by decide), hx h hlt, bd_some, if_pos ((e59 ht.2.1).2 hsc), lt_eq, lt_eq, nI_p1, nI_p1]
              exact gX fu (by omega)
            · intro fu hfu
              obtain ⟨fu, rfl⟩ : ∃ f', fu = f' + 1 := ⟨fu - 1, by omega⟩
              rw [eM, bd_some]
              dsimp only
              rw [f_X11_readsOrders_l19, if_pos rfl, hm0, bd_some]
              dsimp only
              rw [hvv, if_pos ((e59 ht.2.1).2 hsc), lt_eq, nI_p1]
              exact gM fu (by omega)
          · have hne : ¬ nI (cf tb (sk L tb e)) = 59 := fun x => hsc ((e59 ht.2.1).1 x)
            refine ⟨some (nI (sk L tb e), nI (l + 1), nI (sk L tb e), ok', oo', ot'), some (nI (sk L tb e), nI (sk L tb e), nI (sk L tb e), nI (l + 1), mv', mo'), Or.inl ⟨sk L tb e, _, _, _, _, _, _, _, _, _, _, hp.2, rfl, rfl⟩, ?_, ?_⟩
            · intro fu hfu
              obtain ⟨fu, rfl⟩ : ∃ f', fu = f' + 1 := ⟨fu - 1, by omega⟩
              rw [f_X3_read_l15, if_neg (ng60 h60), eX, bd_some]
              dsimp only
              rw [if_pos rfl, lt_eq, hx0, bd_some, hae, bd_some, if_neg (by decide), hx h hlt, bd_some, if_neg hne, nI_p1]
            · intro fu hfu
              obtain ⟨fu, rfl⟩ : ∃ f', fu = f' + 1 := ⟨fu - 1, by omega⟩
              rw [eM, bd_some]
              dsimp only
              rw [f_X11_readsOrders_l19, if_pos rfl, hm0, bd_some]
              dsimp only
              rw [hvv, if_neg hne]
              unfold f_X11_readsOrders_b53 f_X11_readsOrders_b77
              rw [if_pos rfl, hm1, bd_some]
              dsimp only
              rw [hvv, if_neg (nI_nm1 (by omega)), fa_1, bd_some]
        · have hpL : sk L tb e = L := by omega
          rw [hpL] at hx0 hm0 hm1
          have hvv : hv' L tb L = -1 := if_neg (by omega)
          rw [hvv] at hm0 hm1
          have hae : f_X5_isAtEnd (nI L) (nI L) = some true := by
            unfold f_X5_isAtEnd
            rw [lt_eq, if_neg (nI_nlt (Nat.le_refl L) (by omega))]
          refine ⟨some (-1, nI (l + 1), nI L, ok', oo', ot'), some (-1, nI L, -1, nI (l + 1), mv', mo'), Or.inr ⟨l + 1, nI L, nI L, -1, mv', ok', oo', ot', mo', h60, rfl, rfl, R'⟩, ?_, ?_⟩
          · intro fu hfu
            obtain ⟨fu, rfl⟩ : ∃ f', fu = f' + 1 := ⟨fu - 1, by omega⟩
            rw [f_X3_read_l15, if_neg (ng60 h60), eX, bd_some]
            dsimp only
            rw [if_pos rfl, lt_eq, hx0, bd_some, hae, bd_some, if_pos rfl, nI_p1]
          · intro fu hfu
            obtain ⟨fu, rfl⟩ : ∃ f', fu = f' + 1 := ⟨fu - 1, by omega⟩
            rw [eM, bd_some]
            dsimp only
            rw [f_X11_readsOrders_l19, if_pos rfl, hm0, bd_some]
            dsimp only
            rw [if_neg (by decide)]
            unfold f_X11_readsOrders_b53 f_X11_readsOrders_b77
            rw [if_pos rfl, hm1, bd_some]
            dsimp only
            rw [if_pos rfl]
    · obtain rfl : l = 60 := by omega
      have hp := sk_le (tb := tb) hi
      have he := pl_le (tb := tb) hp.2
      refine ⟨some (nI (sk L tb i), nI 60, nI (sk L tb i), ok, oo, ot), some (nI (sk L tb i), nI (sk L tb i), nI (sk L tb i), nI 60, mv, mo), Or.inl ⟨sk L tb i, _, _, _, _, _, _, _, _, _, _, hp.2, rfl, rfl⟩, ?_, ?_⟩
      · intro fu hfu
        obtain ⟨fu, rfl⟩ : ∃ f', fu = f' + 1 := ⟨fu - 1, by omega⟩
        rw [f_X3_read_l15, if_pos (by decide : (60 : Int32) ≤ nI 60), sk_x h hi, bd_some]
      · intro fu hfu
        obtain ⟨fu, rfl⟩ : ∃ f', fu = f' + 1 := ⟨fu - 1, by omega⟩
        have e : f_X11_orderLine (nI L) (nI i) (-1) (nI 60) mv mt mo = some (nI (sk L tb i), nI (sk L tb i), nI 60, mv, mo) := by
          unfold f_X11_orderLine f_X11_orderLine_b30
          rw [lk_m h hi, bd_some]
          dsimp only
          rw [we_m h hp.2, bd_some, kh_m h he.1 he.2, bd_some, fa_1, bd_some, if_pos (by decide : nI 60 = 60)]
          by_cases hk : (if kh (cf tb) (sk L tb i) (pl' L tb (sk L tb i)) = 9 then (-1 : Int32) else nI (kh (cf tb) (sk L tb i) (pl' L tb (sk L tb i)))) = -1
          · rw [if_pos hk]
          · rw [if_neg hk]
        rw [e, bd_some]
        dsimp only
        rw [f_X11_readsOrders_l19, if_neg (nm1_ne (by omega))]
        unfold f_X11_readsOrders_b53 f_X11_readsOrders_b77
        rw [if_neg (nm1_ne (by omega))]
theorem ot_same (h : TP L tb mt) (x1 x2 : Int32) (ok oo ot : Nat → Int32) (m1 m2 m3 mv : Int32) (mo : Nat → Int32) : OTR L (f_X3_read x1 x2 (nI L) tb ok oo ot) (f_X11_readsOrders (nI L) m1 m2 m3 mv mt mo) := by
  have hL := h.1
  obtain ⟨xr, mr, hU, gX, gM⟩ := ot_loop h L 0 0 ok oo ot mo mv (by omega) (Nat.zero_le L) (by decide) (fun j hj => absurd hj (Nat.not_lt_zero j))
  have e1 : f_X3_read x1 x2 (nI L) tb ok oo ot = xr := gX FU (by show L < 5000; omega)
  have e2 : f_X11_readsOrders (nI L) m1 m2 m3 mv mt mo = mr := gM FU (by show L < 5000; omega)
  rw [e1, e2]
  exact hU
theorem q_fault (h : TP L tb mt) (p th : Int32) (x1 x2 x3 x4 : Int32) (x5 x6 : Bool) (x7 o1 o2 : Int32) (ok oo ot : Nat → Int32) (ma mf mw mo mv : Int32) (rd od : Nat → Int32) : ∃ (r c1 c2 c3 c4 : Int32) (c5 c6 : Bool) (c7 c8 c9 : Int32) (c10 c11 c12 : Nat → Int32) (m1 m2 m3 m4 m5 : Int32) (m6 m7 : Nat → Int32), f_X10_fault p (nI L) tb x1 x2 x3 x4 x5 x6 x7 o1 o2 ok oo ot = some (r, c1, c2, c3, c4, c5, c6, c7, c8, c9, c10, c11, c12) ∧ f_X11_fault p th (nI L) ma mf mw mo mv mt rd od = some (r, 0, m1, m2, m3, m4, m5, m6, m7) := by
  unfold f_X10_fault f_X11_fault
  by_cases h0 : p = 0
  · rw [if_pos h0, if_pos h0]
    rcases ut_same h x1 x2 x3 x4 x5 x6 x7 ma mf mw rd with ⟨F, c1, c2, c3, c4, c5, c6, c7, m1, m2, m3, m4, hF, eX, eM⟩ | ⟨b1, b3, b4, b5, w, g, s, f, pp, nn, c7, m1, m2, tw, rd', eX, eM, U⟩
    · rw [eX, eM]
      exact ⟨_, _, _, _, _, _, _, _, _, _, _, _, _, _, _, _, _, _, _, _, rfl, rfl⟩
    · rw [eX, eM]
      exact ⟨_, _, _, _, _, _, _, _, _, _, _, _, _, _, _, _, _, _, _, _, rfl, rfl⟩
  · rw [if_neg h0, if_neg h0]
    by_cases h1 : p = 1
    · rw [if_pos h1, if_pos h1]
      rcases ot_same h o1 o2 ok oo ot ma mf mo mv od with ⟨F, c2, c3, c4, c5, c6, m1, m2, m3, m4, m5, hF, eX, eM⟩ | ⟨l, c3, m1, m2, m4, ok', oo', ot', mo', hl, eX, eM, R⟩
      · rw [eX, eM]
        exact ⟨_, _, _, _, _, _, _, _, _, _, _, _, _, _, _, _, _, _, _, _, rfl, rfl⟩
      · rw [eX, eM]
        exact ⟨_, _, _, _, _, _, _, _, _, _, _, _, _, _, _, _, _, _, _, _, rfl, rfl⟩
    · rw [if_neg h1, if_neg h1]
      exact ⟨_, _, _, _, _, _, _, _, _, _, _, _, _, _, _, _, _, _, _, _, rfl, rfl⟩
end OrdSec
