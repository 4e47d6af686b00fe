/-! ===== the law: which turn ===== -/
section LawTurn
variable {p : Program} {l : Launch} {e : Env} {s : State} {m : MethodId} {args : Array Value} {below : List Frame} {meth : Method} {c : Code} {H : Heap} {locs : List Loc} {Q : State → Prop} {g : gT} {A Ax Am : Nat → Prop} {nL : Nat} {ls : Array Slot} {cells slots sc L i qo : Nat} {xs : Nat → Int32} {qx qm : Nat → Nat}
theorem sc_in0 {i L : Nat} (h : i < L) (hL : L < 2 ^ 31) : vp_in (nI i) L := by
  have e : (nI i).toInt = (i : Nat) := nI_toInt (by omega)
  exact vp_in_iff.2 ⟨by rw [e]; omega, by rw [e]; omega⟩
theorem lc_turn (X : CX g A p s m args c cL_law nL RL) (hcs : cells ≤ rmL.cells ∧ slots ≤ rmL.slots) (hXs : va_X sc L xs s s.heap) (hbl : sc < s.heap.size) (hbA : ¬ A sc) (hL : L < 2 ^ 31) (hi : i + 6 ≤ L) (hAx : ∀ q, Ax q → A q) (hAm : ∀ q, Am q → A q) (hxm : ∀ q, Ax q → ¬ Am q) (hl : lv_has ls nL [(0, .ref sc), (1, .ref (qx 0)), (2, .ref (qm 0)), (3, .ref qo), (4, .int (nI i))]) (hS : va_S A s.heap H locs) (h : LW g Ax Am qx qm H) (kk : ∀ (H1 : Heap) (locs1 : List Loc), LW g Ax Am qx qm H1 → (∀ q : Nat, q < H.size → ¬ Ax q → ¬ Am q → H1[q]? = H[q]?) → H.size ≤ H1.size → va_S A s.heap H1 locs1 → W p l e rmL s m args below meth c H1 locs1 cells slots Q (F0 m 1535 ls [])) (hT : W p l e rmL s m args below meth c H locs cells slots Q (F0 m 907 ls [])) : W p l e rmL s m args below meth c H locs cells slots Q (F0 m 33 ls []) := by
  have hx := X.1
  have hb := X.2.1
  refine lv_aload_n hx hb dL_law_33 rfl (lv_at hl 0 rfl) ?_
  refine lv_iload hx hb dL_law_34 (lv_at hl 4 rfl) ?_
  refine va_sld hx hb hXs hbl hbA hS (sc_in0 (by omega) hL) dL_law_36 ?_
  refine lv_bipush (v := 63) hx hb dL_law_37 rfl ?_
  refine lv_iand hx hb dL_law_39 ?_
  generalize xs (nI i).toNatClampNeg &&& 63 = v
  by_cases c0 : v = 0
  · refine lv_tableIn (off := 160) (tgt := 200) hx hb dL_law_40 (by rw [c0]; decide) (by rw [c0]; decide) (by rw [c0]; rfl) rfl ?_
    exact lc_feed X hcs hXs hbl hbA hL hi hAx hAm hxm hl hS h kk
  by_cases c1 : v = 1
  · refine lv_tableIn (off := 233) (tgt := 273) hx hb dL_law_40 (by rw [c1]; decide) (by rw [c1]; decide) (by rw [c1]; rfl) rfl ?_
    exact lc_end X hcs hXs hbl hbA hL hi hAx hAm hxm hl hS h kk
  by_cases c2 : v = 2
  · refine lv_tableIn (off := 258) (tgt := 298) hx hb dL_law_40 (by rw [c2]; decide) (by rw [c2]; decide) (by rw [c2]; rfl) rfl ?_
    exact lc_fault X hcs hXs hbl hbA hL hi hAx hAm hxm hl hS h kk
  by_cases c3 : v = 3
  · refine lv_tableIn (off := 283) (tgt := 323) hx hb dL_law_40 (by rw [c3]; decide) (by rw [c3]; decide) (by rw [c3]; rfl) rfl ?_
    exact lc_unit X hcs hXs hbl hbA hL hi hAx hAm hxm hl hS h kk
  by_cases c4 : v = 4
  · refine lv_tableIn (off := 296) (tgt := 336) hx hb dL_law_40 (by rw [c4]; decide) (by rw [c4]; decide) (by rw [c4]; rfl) rfl ?_
    exact lc_rule X hcs hXs hbl hbA hL hi hAx hAm hxm hl hS h kk
  by_cases c5 : v = 5
  · refine lv_tableIn (off := 321) (tgt := 361) hx hb dL_law_40 (by rw [c5]; decide) (by rw [c5]; decide) (by rw [c5]; rfl) rfl ?_
    exact lc_constant X hcs hXs hbl hbA hL hi hAx hAm hxm hl hS h kk
  by_cases c6 : v = 6
  · refine lv_tableIn (off := 346) (tgt := 386) hx hb dL_law_40 (by rw [c6]; decide) (by rw [c6]; decide) (by rw [c6]; rfl) rfl ?_
    exact lc_stage X hcs hXs hbl hbA hL hi hAx hAm hxm hl hS h kk
  by_cases c7 : v = 7
  · refine lv_tableIn (off := 395) (tgt := 435) hx hb dL_law_40 (by rw [c7]; decide) (by rw [c7]; decide) (by rw [c7]; rfl) rfl ?_
    exact lc_mode X hcs hXs hbl hbA hL hi hAx hAm hxm hl hS h kk
  by_cases c8 : v = 8
  · refine lv_tableIn (off := 432) (tgt := 472) hx hb dL_law_40 (by rw [c8]; decide) (by rw [c8]; decide) (by rw [c8]; rfl) rfl ?_
    exact lc_digit X hcs hXs hbl hbA hL hi hAx hAm hxm hl hS h kk
  by_cases c9 : v = 9
  · refine lv_tableIn (off := 469) (tgt := 509) hx hb dL_law_40 (by rw [c9]; decide) (by rw [c9]; decide) (by rw [c9]; rfl) rfl ?_
    exact lc_takenOut X hcs hXs hbl hbA hL hi hAx hAm hxm hl hS h kk
  by_cases c10 : v = 10
  · refine lv_tableIn (off := 506) (tgt := 546) hx hb dL_law_40 (by rw [c10]; decide) (by rw [c10]; decide) (by rw [c10]; rfl) rfl ?_
    exact lc_value X hcs hXs hbl hbA hL hi hAx hAm hxm hl hS h kk
  by_cases c11 : v = 11
  · refine lv_tableIn (off := 579) (tgt := 619) hx hb dL_law_40 (by rw [c11]; decide) (by rw [c11]; decide) (by rw [c11]; rfl) rfl ?_
    exact lc_off X hcs hXs hbl hbA hL hi hAx hAm hxm hl hS h kk
  by_cases c12 : v = 12
  · refine lv_tableIn (off := 604) (tgt := 644) hx hb dL_law_40 (by rw [c12]; decide) (by rw [c12]; decide) (by rw [c12]; rfl) rfl ?_
    exact lc_job X hcs hXs hbl hbA hL hi hAx hAm hxm hl hS h kk
  by_cases c13 : v = 13
  · refine lv_tableIn (off := 665) (tgt := 705) hx hb dL_law_40 (by rw [c13]; decide) (by rw [c13]; decide) (by rw [c13]; rfl) rfl ?_
    exact lc_orders X hcs hXs hbl hbA hL hi hAx hAm hxm hl hS h kk
  by_cases c14 : v = 14
  · refine lv_tableIn (off := 678) (tgt := 718) hx hb dL_law_40 (by rw [c14]; decide) (by rw [c14]; decide) (by rw [c14]; rfl) rfl ?_
    exact lc_drop X hcs hXs hbl hbA hL hi hAx hAm hxm hl hS h kk
  by_cases c15 : v = 15
  · refine lv_tableIn (off := 703) (tgt := 743) hx hb dL_law_40 (by rw [c15]; decide) (by rw [c15]; decide) (by rw [c15]; rfl) rfl ?_
    exact lc_link X hcs hXs hbl hbA hL hi hAx hAm hxm hl hS h kk
  by_cases c16 : v = 16
  · refine lv_tableIn (off := 764) (tgt := 804) hx hb dL_law_40 (by rw [c16]; decide) (by rw [c16]; decide) (by rw [c16]; rfl) rfl ?_
    exact lc_linked X hcs hXs hbl hbA hL hi hAx hAm hxm hl hS h kk
  by_cases c17 : v = 17
  · refine lv_tableIn (off := 801) (tgt := 841) hx hb dL_law_40 (by rw [c17]; decide) (by rw [c17]; decide) (by rw [c17]; rfl) rfl ?_
    exact lc_clock X hcs hXs hbl hbA hL hi hAx hAm hxm hl hS h kk
  by_cases c18 : v = 18
  · refine lv_tableIn (off := 826) (tgt := 866) hx hb dL_law_40 (by rw [c18]; decide) (by rw [c18]; decide) (by rw [c18]; rfl) rfl ?_
    exact lc_hold X hcs hXs hbl hbA hL hi hAx hAm hxm hl hS h kk
  by_cases c19 : v = 19
  · refine lv_tableIn (off := 867) (tgt := 907) hx hb dL_law_40 (by rw [c19]; decide) (by rw [c19]; decide) (by rw [c19]; rfl) rfl ?_
    exact hT
  by_cases c20 : v = 20
  · refine lv_tableIn (off := 935) (tgt := 975) hx hb dL_law_40 (by rw [c20]; decide) (by rw [c20]; decide) (by rw [c20]; rfl) rfl ?_
    exact lc_result X hcs hXs hbl hbA hL hi hAx hAm hxm hl hS h kk
  by_cases c21 : v = 21
  · refine lv_tableIn (off := 972) (tgt := 1012) hx hb dL_law_40 (by rw [c21]; decide) (by rw [c21]; decide) (by rw [c21]; rfl) rfl ?_
    exact lc_trace X hcs hXs hbl hbA hL hi hAx hAm hxm hl hS h kk
  by_cases c22 : v = 22
  · refine lv_tableIn (off := 1022) (tgt := 1062) hx hb dL_law_40 (by rw [c22]; decide) (by rw [c22]; decide) (by rw [c22]; rfl) rfl ?_
    exact lc_signs X hcs hXs hbl hbA hL hi hAx hAm hxm hl hS h kk
  by_cases c23 : v = 23
  · refine lv_tableIn (off := 1047) (tgt := 1087) hx hb dL_law_40 (by rw [c23]; decide) (by rw [c23]; decide) (by rw [c23]; rfl) rfl ?_
    exact lc_register X hcs hXs hbl hbA hL hi hAx hAm hxm hl hS h kk
  by_cases c24 : v = 24
  · refine lv_tableIn (off := 1072) (tgt := 1112) hx hb dL_law_40 (by rw [c24]; decide) (by rw [c24]; decide) (by rw [c24]; rfl) rfl ?_
    exact lc_place X hcs hXs hbl hbA hL hi hAx hAm hxm hl hS h kk
  by_cases c25 : v = 25
  · refine lv_tableIn (off := 1097) (tgt := 1137) hx hb dL_law_40 (by rw [c25]; decide) (by rw [c25]; decide) (by rw [c25]; rfl) rfl ?_
    exact lc_allOver X hcs hXs hbl hbA hL hi hAx hAm hxm hl hS h kk
  by_cases c26 : v = 26
  · refine lv_tableIn (off := 1110) (tgt := 1150) hx hb dL_law_40 (by rw [c26]; decide) (by rw [c26]; decide) (by rw [c26]; rfl) rfl ?_
    exact lc_finest X hcs hXs hbl hbA hL hi hAx hAm hxm hl hS h kk
  by_cases c27 : v = 27
  · refine lv_tableIn (off := 1183) (tgt := 1223) hx hb dL_law_40 (by rw [c27]; decide) (by rw [c27]; decide) (by rw [c27]; rfl) rfl ?_
    exact lc_apart X hcs hXs hbl hbA hL hi hAx hAm hxm hl hS h kk
  by_cases c28 : v = 28
  · refine lv_tableIn (off := 1257) (tgt := 1297) hx hb dL_law_40 (by rw [c28]; decide) (by rw [c28]; decide) (by rw [c28]; rfl) rfl ?_
    exact lc_fewest X hcs hXs hbl hbA hL hi hAx hAm hxm hl hS h kk
  by_cases c29 : v = 29
  · refine lv_tableIn (off := 1294) (tgt := 1334) hx hb dL_law_40 (by rw [c29]; decide) (by rw [c29]; decide) (by rw [c29]; rfl) rfl ?_
    exact lc_sweep X hcs hXs hbl hbA hL hi hAx hAm hxm hl hS h kk
  by_cases c30 : v = 30
  · refine lv_tableIn (off := 1368) (tgt := 1408) hx hb dL_law_40 (by rw [c30]; decide) (by rw [c30]; decide) (by rw [c30]; rfl) rfl ?_
    exact lc_image X hcs hXs hbl hbA hL hi hAx hAm hxm hl hS h kk
  by_cases c31 : v = 31
  · refine lv_tableIn (off := 1381) (tgt := 1421) hx hb dL_law_40 (by rw [c31]; decide) (by rw [c31]; decide) (by rw [c31]; rfl) rfl ?_
    exact lc_back X hcs hXs hbl hbA hL hi hAx hAm hxm hl hS h kk
  by_cases c32 : v = 32
  · refine lv_tableIn (off := 1394) (tgt := 1434) hx hb dL_law_40 (by rw [c32]; decide) (by rw [c32]; decide) (by rw [c32]; rfl) rfl ?_
    exact lc_waits X hcs hXs hbl hbA hL hi hAx hAm hxm hl hS h kk
  by_cases c33 : v = 33
  · refine lv_tableIn (off := 1419) (tgt := 1459) hx hb dL_law_40 (by rw [c33]; decide) (by rw [c33]; decide) (by rw [c33]; rfl) rfl ?_
    exact lc_status X hcs hXs hbl hbA hL hi hAx hAm hxm hl hS h kk
  by_cases c34 : v = 34
  · refine lv_tableIn (off := 1444) (tgt := 1484) hx hb dL_law_40 (by rw [c34]; decide) (by rw [c34]; decide) (by rw [c34]; rfl) rfl ?_
    exact lc_most X hcs hXs hbl hbA hL hi hAx hAm hxm hl hS h kk
  by_cases c35 : v = 35
  · refine lv_tableIn (off := 1470) (tgt := 1510) hx hb dL_law_40 (by rw [c35]; decide) (by rw [c35]; decide) (by rw [c35]; rfl) rfl ?_
    exact lc_count X hcs hXs hbl hbA hL hi hAx hAm hxm hl hS h kk
  refine lv_tableOut (tgt := 1535) hx hb dL_law_40 (by have := lv_neT (a := 0) c0 rfl; have := lv_neT (a := 1) c1 rfl; have := lv_neT (a := 2) c2 rfl; have := lv_neT (a := 3) c3 rfl; have := lv_neT (a := 4) c4 rfl; have := lv_neT (a := 5) c5 rfl; have := lv_neT (a := 6) c6 rfl; have := lv_neT (a := 7) c7 rfl; have := lv_neT (a := 8) c8 rfl; have := lv_neT (a := 9) c9 rfl; have := lv_neT (a := 10) c10 rfl; have := lv_neT (a := 11) c11 rfl; have := lv_neT (a := 12) c12 rfl; have := lv_neT (a := 13) c13 rfl; have := lv_neT (a := 14) c14 rfl; have := lv_neT (a := 15) c15 rfl; have := lv_neT (a := 16) c16 rfl; have := lv_neT (a := 17) c17 rfl; have := lv_neT (a := 18) c18 rfl; have := lv_neT (a := 19) c19 rfl; have := lv_neT (a := 20) c20 rfl; have := lv_neT (a := 21) c21 rfl; have := lv_neT (a := 22) c22 rfl; have := lv_neT (a := 23) c23 rfl; have := lv_neT (a := 24) c24 rfl; have := lv_neT (a := 25) c25 rfl; have := lv_neT (a := 26) c26 rfl; have := lv_neT (a := 27) c27 rfl; have := lv_neT (a := 28) c28 rfl; have := lv_neT (a := 29) c29 rfl; have := lv_neT (a := 30) c30 rfl; have := lv_neT (a := 31) c31 rfl; have := lv_neT (a := 32) c32 rfl; have := lv_neT (a := 33) c33 rfl; have := lv_neT (a := 34) c34 rfl; have := lv_neT (a := 35) c35 rfl; omega) rfl ?_
  exact kk H locs h (fun q _ _ _ => rfl) (Nat.le_refl _) hS
end LawTurn
