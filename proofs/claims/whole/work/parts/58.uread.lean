/-! ===== pure part: a whole text of a unit; a unit is made ===== -/
/-- what comes of a whole text of a unit, both sides: xr and mr tell their results -/
def UTR (L : Nat) (xr : Option (Int32 × Int32 × Int32 × Int32 × Int32 × Bool × Bool × Int32)) (mr : Option (Int32 × Int32 × Int32 × Int32 × (Nat → Int32))) : Prop :=
  (∃ (F : Nat) (c1 c2 c3 c4 : Int32) (c5 c6 : Bool) (c7 m1 m2 m3 : Int32) (m4 : Nat → Int32), F ≤ L ∧ xr = some (nI F, c1, c2, c3, c4, c5, c6, c7) ∧ mr = some (nI F, m1, m2, m3, m4)) ∨
  (∃ (b1 b3 b4 b5 : Bool) (w g s f : Int32) (pp nn : Bool) (c7 m1 m2 tw : Int32) (rd : Nat → Int32), xr = some (-1, w, g, s, f, pp, nn, c7) ∧ mr = some (-1, m1, m2, tw, rd) ∧ PU true b1 true b3 b4 b5 w g s f pp nn tw rd)
section UrdSec
variable {L : Nat} {tb mt : Nat → Int32}
theorem sk_sk {i : Nat} (hi : i ≤ L) : sk L tb (sk L tb i) = sk L tb i := by
  have h1 := sk_le (tb := tb) hi
  have h2 := sk_le (tb := tb) h1.2
  by_cases he : sk L tb i < L
  · have hb : isB (cf tb (sk L tb i)) = false := by
      have := rn_end isB (cf tb) (L - i) i
      exact this (by show sk L tb i < i + (L - i); omega)
    obtain ⟨n, hn⟩ : ∃ n, L - sk L tb i = n + 1 := ⟨L - sk L tb i - 1, by omega⟩
    show rn isB (cf tb) (L - sk L tb i) (sk L tb i) = sk L tb i
    rw [hn, rn, hb, if_neg (by decide)]
  · omega
theorem nm1_ne {F : Nat} (h : F ≤ 400) : ¬ nI F = -1 := nI_nm1 (by omega)
theorem ut_loop (h : TP L tb mt) : ∀ (r i k : Nat) (b0 b1 b2 b3 b4 b5 : Bool) (w g s f : Int32) (pp nn : Bool) (tw : Int32) (rd : Nat → Int32), L ≤ r + i → i ≤ L → k ≤ i → PU b0 b1 b2 b3 b4 b5 w g s f pp nn tw rd → ∃ xr mr, UTR L xr mr ∧ (∀ fu, r < fu → f_X9_read_l6 (nI L) tb fu (nI k) w g s f pp nn (nI i) = xr) ∧ (∀ fu, r < fu → bd (f_X11_piece (nI L) (nI i) (-1) tw mt rd) (fun o => f_X11_readsUnit_l47 (nI L) mt fu o.1 o.2.1 o.2.2.1 o.2.2.2) = mr) := by
  intro r
  induction r using Nat.strongRecOn with
  | _ r ih =>
    intro i k b0 b1 b2 b3 b4 b5 w g s f pp nn tw rd hr hi hk U
    have hL := h.1
    have h400 : ¬ (400 : Int32) < nI k := nI_nlt (a := 400) (b := k) (by omega) (by decide)
    rcases pc_same h hi U with ⟨F, c1, c2, c3, c4, c5, c6, c7, m1, m3, m4, hF, eX, eM⟩ | ⟨d0, d1, d2, d3, d4, d5, w', g', s', f', pp', nn', e, tw', rd', hie, heL, eX, eM, U'⟩
    · refine ⟨some (nI F, c1, c2, c3, c4, c5, c6, c7), some (nI F, m1, nI F, m3, m4), Or.inl ⟨F, c1, c2, c3, c4, c5, c6, c7, m1, nI F, m3, m4, hF, rfl, rfl⟩, ?_, ?_⟩
      · intro fu hfu
        obtain ⟨fu, rfl⟩ : ∃ f', fu = f' + 1 := ⟨fu - 1, by omega⟩
        rw [f_X9_read_l6, if_neg h400, eX, bd_some]
        dsimp only
        rw [if_neg (nm1_ne (by omega))]
      · intro fu hfu
        obtain ⟨fu, rfl⟩ : ∃ f', fu = f' + 1 := ⟨fu - 1, by omega⟩
        rw [eM, bd_some]
        dsimp only
        rw [f_X11_readsUnit_l47, if_neg (nm1_ne (by omega))]
        unfold f_X11_readsUnit_b81 f_X11_readsUnit_b115
        rw [if_neg (nm1_ne (by omega))]
    · have hp := sk_le (tb := tb) heL
      have hx0 : f_X5_skipBlanks (nI e) (nI L) tb = some (nI (sk L tb e)) := sk_x h heL
      have hm0 : f_X11_look (nI L) (nI e) mt = some (hv' L tb (sk L tb e), nI (sk L tb e)) := lk_m h heL
      have hm1 : f_X11_look (nI L) (nI (sk L tb e)) mt = some (hv' L tb (sk L tb e), nI (sk L tb e)) := by
        rw [lk_m h hp.2, sk_sk heL]
      by_cases hlt : sk L tb e < L
      · have hae : f_X5_isAtEnd (nI (sk L tb e)) (nI L) = some false := by
          unfold f_X5_isAtEnd
          rw [lt_eq, if_pos (nI_lt hlt (by omega))]
        have hvv : hv' L tb (sk L tb e) = nI (cf tb (sk L tb e)) := if_pos hlt
        have ht := tp_c h hlt
        by_cases hsc : cf tb (sk L tb e) = 59
        · obtain ⟨xr, mr, hU, gX, gM⟩ := ih (r - 1) (by omega) (sk L tb e + 1) (k + 1) d0 d1 d2 d3 d4 d5 w' g' s' f' pp' nn' tw' rd' (by omega) (by omega) (by omega) U'
          refine ⟨xr, mr, hU, ?_, ?_⟩
          · intro fu hfu
            obtain ⟨fu, rfl⟩ : ∃ f', fu = f' + 1 := ⟨fu - 1, by omega⟩
            rw [f_X9_read_l6, if_neg h400, eX, bd_some]
            dsimp only
            rw [if_pos rfl, hx0, bd_some, hae, bd_some, if_neg (by decide)]
            unfold f_X9_read_b60
            rw [hx h hlt, bd_some, if_pos ((e59 ht.2.1).2 hsc), lt_eq, lt_eq, nI_p1, nI_p1]
            exact gX fu (by omega)
          · intro fu hfu
            obtain ⟨fu, rfl⟩ : ∃ f', fu = f' + 1 := ⟨fu - 1, by omega⟩
            rw [eM, bd_some]
            dsimp only
            rw [f_X11_readsUnit_l47, if_pos rfl, hm0, bd_some]
            dsimp only
            rw [hvv, if_pos ((e59 ht.2.1).2 hsc), lt_eq, nI_p1]
            exact gM fu (by omega)
        · have hne : ¬ nI (cf tb (sk L tb e)) = 59 := fun x => hsc ((e59 ht.2.1).1 x)
          refine ⟨some (nI (sk L tb e), w', g', s', f', pp', nn', nI (sk L tb e)), some (nI (sk L tb e), nI (sk L tb e), nI (sk L tb e), tw', rd'), Or.inl ⟨sk L tb e, _, _, _, _, _, _, _, _, _, _, _, hp.2, rfl, rfl⟩, ?_, ?_⟩
          · intro fu hfu
            obtain ⟨fu, rfl⟩ : ∃ f', fu = f' + 1 := ⟨fu - 1, by omega⟩
            rw [f_X9_read_l6, if_neg h400, eX, bd_some]
            dsimp only
            rw [if_pos rfl, hx0, bd_some, hae, bd_some, if_neg (by decide)]
            unfold f_X9_read_b60
            rw [hx h hlt, bd_some, if_neg hne]
          · intro fu hfu
            obtain ⟨fu, rfl⟩ : ∃ f', fu = f' + 1 := ⟨fu - 1, by omega⟩
            rw [eM, bd_some]
            dsimp only
            rw [f_X11_readsUnit_l47, if_pos rfl, hm0, bd_some]
            dsimp only
            rw [hvv, if_neg hne]
            unfold f_X11_readsUnit_b81 f_X11_readsUnit_b107 f_X11_readsUnit_b115
            rw [if_pos rfl, hm1, bd_some]
            dsimp only
            rw [hvv, if_neg (nI_nm1 (by omega)), fa_1, bd_some]
      · have hpL : sk L tb e = L := by omega
        rw [hpL] at hx0 hm0 hm1
        have hvv : hv' L tb L = -1 := if_neg (by omega)
        rw [hvv] at hm0 hm1
        have hae : f_X5_isAtEnd (nI L) (nI L) = some true := by
          unfold f_X5_isAtEnd
          rw [lt_eq, if_neg (nI_nlt (Nat.le_refl L) (by omega))]
        obtain ⟨u0, u1, u2, u3, u4, u5, u6⟩ := U'
        have hM : ∀ fu, r < fu → bd (f_X11_piece (nI L) (nI i) (-1) tw mt rd) (fun o => f_X11_readsUnit_l47 (nI L) mt fu o.1 o.2.1 o.2.2.1 o.2.2.2) = (if (tw' &&& (5 : Int32)) = 5 then some (-1, nI L, -1, tw', rd') else some (nI L, nI L, nI L, tw', rd')) := by
          intro fu hfu
          obtain ⟨fu, rfl⟩ : ∃ f', fu = f' + 1 := ⟨fu - 1, by omega⟩
          rw [eM, bd_some]
          dsimp only
          rw [f_X11_readsUnit_l47, if_pos rfl, hm0, bd_some]
          dsimp only
          rw [if_neg (by decide)]
          unfold f_X11_readsUnit_b81 f_X11_readsUnit_b107 f_X11_readsUnit_b115
          rw [if_pos rfl, hm1, bd_some]
          dsimp only
          rw [if_pos rfl, fa_1, bd_some]
        have hX : ∀ fu, r < fu → f_X9_read_l6 (nI L) tb fu (nI k) w g s f pp nn (nI i) = (if w' = -1 then some (nI L, w', g', s', f', pp', nn', nI L) else (if s' = -1 then some (nI L, w', g', s', f', pp', nn', nI L) else some (-1, w', g', s', f', pp', nn', nI L))) := by
          intro fu hfu
          obtain ⟨fu, rfl⟩ : ∃ f', fu = f' + 1 := ⟨fu - 1, by omega⟩
          rw [f_X9_read_l6, if_neg h400, eX, bd_some]
          dsimp only
          rw [if_pos rfl, hx0, bd_some, hae, bd_some, if_pos rfl]
          unfold f_X9_read_b60
          rw [hx_e hL, bd_some, if_neg (by decide : ¬ (0 : Int32) = 59)]
        by_cases hboth : d0 = true ∧ d2 = true
        · obtain ⟨hd0, hd2⟩ := hboth
          subst hd0
          subst hd2
          refine ⟨_, _, Or.inr ⟨d1, d3, d4, d5, w', g', s', f', pp', nn', nI L, nI L, -1, tw', rd', rfl, rfl, ⟨u0, u1, u2, u3, u4, u5, u6⟩⟩, ?_, ?_⟩
          · intro fu hfu
            rw [hX fu hfu]
            rcases u1 with ⟨_, v, v1, v2, hx, _⟩ | ⟨hx, _⟩
            · rcases u3 with ⟨_, v', v1', v2', hx', _⟩ | ⟨hx', _⟩
              · rw [if_neg (by rw [hx]; exact nI_nm1 (by omega)), if_neg (by rw [hx']; exact nI_nm1 (by omega))]
              · exact absurd hx' (by decide)
            · exact absurd hx (by decide)
          · intro fu hfu
            rw [hM fu hfu, if_pos (by rw [u0]; exact (all5 _ _ _ _ _ _).2 ⟨rfl, rfl⟩)]
        · refine ⟨_, _, Or.inl ⟨L, w', g', s', f', pp', nn', nI L, nI L, nI L, tw', rd', Nat.le_refl L, rfl, rfl⟩, ?_, ?_⟩
          · intro fu hfu
            rw [hX fu hfu]
            rcases u1 with ⟨hd0, v, v1, v2, hx, _⟩ | ⟨_, hx⟩
            · rcases u3 with ⟨hd2, v', v1', v2', hx', _⟩ | ⟨_, hx'⟩
              · exact absurd ⟨hd0, hd2⟩ hboth
              · rw [if_neg (by rw [hx]; exact nI_nm1 (by omega)), if_pos hx']
            · rw [if_pos hx]
          · intro fu hfu
            rw [hM fu hfu, if_neg (by rw [u0]; exact fun x => hboth ((all5 _ _ _ _ _ _).1 x))]
set_option maxRecDepth 20000 in
theorem mu_init (a b c d : Int32) (rd : Nat → Int32) : f_X11_readsUnit (nI L) a b c mt rd = bd (f_X11_piece (nI L) 0 (-1) 0 mt (upd (upd (upd (upd (upd (upd (upd rd 0 0) 1 0) 2 0) 3 0) 4 0) 5 0) 1 2)) (fun o => f_X11_readsUnit_l47 (nI L) mt FU o.1 o.2.1 o.2.2.1 o.2.2.2) := rfl
theorem ut_same (h : TP L tb mt) (x1 x2 x3 x4 : Int32) (x5 x6 : Bool) (x7 m1 m2 m3 : Int32) (rd : Nat → Int32) : UTR L (f_X9_read x1 x2 x3 x4 x5 x6 x7 (nI L) tb) (f_X11_readsUnit (nI L) m1 m2 m3 mt rd) := by
  have hL := h.1
  obtain ⟨xr, mr, hU, gX, gM⟩ := ut_loop h L 0 0 false false false false false false (-1) (-1) (-1) (-1) false false 0 (upd (upd (upd (upd (upd (upd (upd rd 0 0) 1 0) 2 0) 3 0) 4 0) 5 0) 1 2) (by omega) (Nat.zero_le L) (Nat.le_refl 0) ⟨rfl, Or.inr ⟨rfl, rfl⟩, Or.inr ⟨rfl, rfl, pk_us⟩, Or.inr ⟨rfl, rfl⟩, Or.inr ⟨rfl, rfl, by rw [pk_un (by decide), pk_un (by decide), pk_un (by decide), pk_us]⟩, ⟨rfl, by rw [pk_un (by decide), pk_un (by decide), pk_us]; rfl⟩, rfl⟩
  have e1 : f_X9_read x1 x2 x3 x4 x5 x6 x7 (nI L) tb = xr := gX FU (by show L < 5000; omega)
  have e2 : f_X11_readsUnit (nI L) m1 m2 m3 mt rd = mr := by
    rw [mu_init m1 m2 m3 0 rd]
    exact gM FU (by show L < 5000; omega)
  rw [e1, e2]
  exact hU
end UrdSec
