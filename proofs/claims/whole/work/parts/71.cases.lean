/-! ===== the law: one turn ===== -/
section LawCases
variable {p : Program} {l : Launch} {e : Env} {s : State} {m : MethodId} {args : Array Value} {below : List Frame} {meth : Method} {c : Code} {H : Heap} {locs : List Loc} {Q : State → Prop} {g : gT} {A Ax Am : Nat → Prop} {nL : Nat} {ls : Array Slot} {cells slots sc L i qo : Nat} {xs : Nat → Int32} {qx qm : Nat → Nat}
theorem lc_feed (X : CX g A p s m args c cL_law nL RL) (hcs : cells ≤ rmL.cells ∧ slots ≤ rmL.slots) (hXs : va_X sc L xs s s.heap) (hbl : sc < s.heap.size) (hbA : ¬ A sc) (hL : L < 2 ^ 31) (hi : i + 6 ≤ L) (hAx : ∀ q, Ax q → A q) (hAm : ∀ q, Am q → A q) (hxm : ∀ q, Ax q → ¬ Am q) (hl : lv_has ls nL [(0, .ref sc), (1, .ref (qx 0)), (2, .ref (qm 0)), (3, .ref qo), (4, .int (nI i))]) (hS : va_S A s.heap H locs) (h : LW g Ax Am qx qm H) (kk : ∀ (H1 : Heap) (locs1 : List Loc), LW g Ax Am qx qm H1 → (∀ q : Nat, q < H.size → ¬ Ax q → ¬ Am q → H1[q]? = H[q]?) → H.size ≤ H1.size → va_S A s.heap H1 locs1 → W p l e rmL s m args below meth c H1 locs1 cells slots Q (F0 m 1535 ls [])) : W p l e rmL s m args below meth c H locs cells slots Q (F0 m 200 ls []) := by
  obtain ⟨iI, iL, iB, fI, fL, fB, hPX, hPM, R0⟩ := h
  have hx := X.1
  have hb := X.2.1
  obtain ⟨o, o2, e1, e2, e3, R1⟩ := s_feed R0 (xs (nI i + nI 1).toNatClampNeg) (xs (nI i + nI 2).toNatClampNeg) (xs (nI i + nI 3).toNatClampNeg) (xs (nI i + nI 4).toNatClampNeg) (xs (nI i + nI 5).toNatClampNeg) (iI 31)
  refine lv_aload_n hx hb dL_law_200 rfl (lv_at hl 1 rfl) ?_
  refine sc_arg (k := 1) (kk := 1) (q := 0) hx hb hXs hbl hbA hS (lv_at hl 0 rfl) (lv_at hl 4 rfl) hL (by omega) (by decide) rfl dL_law_201 dL_law_202 dL_law_204 dL_law_205 dL_law_206 ?_
  refine sc_arg (k := 2) (kk := 2) (q := 0) hx hb hXs hbl hbA hS (lv_at hl 0 rfl) (lv_at hl 4 rfl) hL (by omega) (by decide) rfl dL_law_207 dL_law_208 dL_law_210 dL_law_211 dL_law_212 ?_
  refine sc_arg (k := 3) (kk := 3) (q := 0) hx hb hXs hbl hbA hS (lv_at hl 0 rfl) (lv_at hl 4 rfl) hL (by omega) (by decide) rfl dL_law_213 dL_law_214 dL_law_216 dL_law_217 dL_law_218 ?_
  refine sc_arg (k := 4) (kk := 4) (q := 0) hx hb hXs hbl hbA hS (lv_at hl 0 rfl) (lv_at hl 4 rfl) hL (by omega) (by decide) rfl dL_law_219 dL_law_220 dL_law_222 dL_law_223 dL_law_224 ?_
  refine sc_arg (k := 5) (kk := 5) (q := 0) hx hb hXs hbl hbA hS (lv_at hl 0 rfl) (lv_at hl 4 rfl) hL (by omega) (by decide) rfl dL_law_225 dL_law_226 dL_law_228 dL_law_229 dL_law_230 ?_
  refine kVG (rest := []) (k0 := 0) X hcs dL_law_231 wd_2_131 mw_X10_feed wd_2_132 wd_2_133 hPX rfl rfl rfl hS hAx (c_X10_feed e1) rfl hl.1 rfl (Nat.le_of_ble_eq_true rfl) rfl rfl ⟨Nat.le_of_ble_eq_true rfl, Nat.le_of_ble_eq_true rfl⟩ (fun H1 locs1 hPX1 z1 k1 hS1 => ?_)
  have hPM1 := hPM.stay k1 (fun q h1 h2 => hxm q h2 h1)
  refine W.eq (g2 := F0 m 234 ls [.int o.1]) rfl ?_
  refine lv_aload_n hx hb dL_law_234 rfl (lv_at hl 2 rfl) ?_
  refine sc_arg (k := 1) (kk := 1) (q := 0) hx hb hXs hbl hbA hS1 (lv_at hl 0 rfl) (lv_at hl 4 rfl) hL (by omega) (by decide) rfl dL_law_235 dL_law_236 dL_law_238 dL_law_239 dL_law_240 ?_
  refine sc_arg (k := 2) (kk := 2) (q := 0) hx hb hXs hbl hbA hS1 (lv_at hl 0 rfl) (lv_at hl 4 rfl) hL (by omega) (by decide) rfl dL_law_241 dL_law_242 dL_law_244 dL_law_245 dL_law_246 ?_
  refine sc_arg (k := 3) (kk := 3) (q := 0) hx hb hXs hbl hbA hS1 (lv_at hl 0 rfl) (lv_at hl 4 rfl) hL (by omega) (by decide) rfl dL_law_247 dL_law_248 dL_law_250 dL_law_251 dL_law_252 ?_
  refine sc_arg (k := 4) (kk := 4) (q := 0) hx hb hXs hbl hbA hS1 (lv_at hl 0 rfl) (lv_at hl 4 rfl) hL (by omega) (by decide) rfl dL_law_253 dL_law_254 dL_law_256 dL_law_257 dL_law_258 ?_
  refine sc_arg (k := 5) (kk := 5) (q := 0) hx hb hXs hbl hbA hS1 (lv_at hl 0 rfl) (lv_at hl 4 rfl) hL (by omega) (by decide) rfl dL_law_259 dL_law_260 dL_law_262 dL_law_263 dL_law_264 ?_
  refine kVG (rest := [.int o.1]) (k0 := 0) X hcs dL_law_265 wd_5_86 mw_X11_feed wd_5_87 wd_5_88 hPM1 rfl rfl rfl hS1 hAm (c_X11_feed e2) rfl hl.1 rfl (Nat.le_of_ble_eq_true rfl) rfl rfl ⟨Nat.le_of_ble_eq_true rfl, Nat.le_of_ble_eq_true rfl⟩ (fun H2 locs2 hPM2 z2 k2 hS2 => ?_)
  have hPX2 := hPX1.stay k2 hxm
  refine W.eq (g2 := F0 m 268 ls [.int o2.1, .int o.1]) rfl ?_
  refine lv_icmp_eq (tgt := 1535) hx hb dL_law_268 rfl (fun _ => ?_) (fun h => absurd (by rw [e3]) h)
  exact kk H2 locs2 (LW.mk hPX2 hPM2 R1) (fun q h1 h2 h3 => (k2 q (Nat.lt_of_lt_of_le h1 z1) h3).trans (k1 q h1 h2)) (Nat.le_trans z1 z2) hS2
theorem lc_end (X : CX g A p s m args c cL_law nL RL) (hcs : cells ≤ rmL.cells ∧ slots ≤ rmL.slots) (hXs : va_X sc L xs s s.heap) (hbl : sc < s.heap.size) (hbA : ¬ A sc) (hL : L < 2 ^ 31) (hi : i + 6 ≤ L) (hAx : ∀ q, Ax q → A q) (hAm : ∀ q, Am q → A q) (hxm : ∀ q, Ax q → ¬ Am q) (hl : lv_has ls nL [(0, .ref sc), (1, .ref (qx 0)), (2, .ref (qm 0)), (3, .ref qo), (4, .int (nI i))]) (hS : va_S A s.heap H locs) (h : LW g Ax Am qx qm H) (kk : ∀ (H1 : Heap) (locs1 : List Loc), LW g Ax Am qx qm H1 → (∀ q : Nat, q < H.size → ¬ Ax q → ¬ Am q → H1[q]? = H[q]?) → H.size ≤ H1.size → va_S A s.heap H1 locs1 → W p l e rmL s m args below meth c H1 locs1 cells slots Q (F0 m 1535 ls [])) : W p l e rmL s m args below meth c H locs cells slots Q (F0 m 273 ls []) := by
  obtain ⟨iI, iL, iB, fI, fL, fB, hPX, hPM, R0⟩ := h
  have hx := X.1
  have hb := X.2.1
  obtain ⟨o, o2, e1, e2, e3, R1⟩ := s_end R0 (xs (nI i + nI 1).toNatClampNeg) (iI 31)
  refine lv_aload_n hx hb dL_law_273 rfl (lv_at hl 1 rfl) ?_
  refine sc_arg (k := 1) (kk := 1) (q := 0) hx hb hXs hbl hbA hS (lv_at hl 0 rfl) (lv_at hl 4 rfl) hL (by omega) (by decide) rfl dL_law_274 dL_law_275 dL_law_277 dL_law_278 dL_law_279 ?_
  refine kVG (rest := []) (k0 := 0) X hcs dL_law_280 wd_2_142 mw_X10_end wd_2_143 wd_2_144 hPX rfl rfl rfl hS hAx (c_X10_end e1) rfl hl.1 rfl (Nat.le_of_ble_eq_true rfl) rfl rfl ⟨Nat.le_of_ble_eq_true rfl, Nat.le_of_ble_eq_true rfl⟩ (fun H1 locs1 hPX1 z1 k1 hS1 => ?_)
  have hPM1 := hPM.stay k1 (fun q h1 h2 => hxm q h2 h1)
  refine W.eq (g2 := F0 m 283 ls [.int (bI o.1)]) rfl ?_
  refine lv_aload_n hx hb dL_law_283 rfl (lv_at hl 2 rfl) ?_
  refine sc_arg (k := 1) (kk := 1) (q := 0) hx hb hXs hbl hbA hS1 (lv_at hl 0 rfl) (lv_at hl 4 rfl) hL (by omega) (by decide) rfl dL_law_284 dL_law_285 dL_law_287 dL_law_288 dL_law_289 ?_
  refine kVG (rest := [.int (bI o.1)]) (k0 := 0) X hcs dL_law_290 wd_5_98 mw_X11_end wd_5_99 wd_5_100 hPM1 rfl rfl rfl hS1 hAm (c_X11_end e2) rfl hl.1 rfl (Nat.le_of_ble_eq_true rfl) rfl rfl ⟨Nat.le_of_ble_eq_true rfl, Nat.le_of_ble_eq_true rfl⟩ (fun H2 locs2 hPM2 z2 k2 hS2 => ?_)
  have hPX2 := hPX1.stay k2 hxm
  refine W.eq (g2 := F0 m 293 ls [.int (bI o2.1), .int (bI o.1)]) rfl ?_
  refine lv_icmp_eq (tgt := 1535) hx hb dL_law_293 rfl (fun _ => ?_) (fun h => absurd (by rw [e3]) h)
  exact kk H2 locs2 (LW.mk hPX2 hPM2 R1) (fun q h1 h2 h3 => (k2 q (Nat.lt_of_lt_of_le h1 z1) h3).trans (k1 q h1 h2)) (Nat.le_trans z1 z2) hS2
theorem lc_fault (X : CX g A p s m args c cL_law nL RL) (hcs : cells ≤ rmL.cells ∧ slots ≤ rmL.slots) (hXs : va_X sc L xs s s.heap) (hbl : sc < s.heap.size) (hbA : ¬ A sc) (hL : L < 2 ^ 31) (hi : i + 6 ≤ L) (hAx : ∀ q, Ax q → A q) (hAm : ∀ q, Am q → A q) (hxm : ∀ q, Ax q → ¬ Am q) (hl : lv_has ls nL [(0, .ref sc), (1, .ref (qx 0)), (2, .ref (qm 0)), (3, .ref qo), (4, .int (nI i))]) (hS : va_S A s.heap H locs) (h : LW g Ax Am qx qm H) (kk : ∀ (H1 : Heap) (locs1 : List Loc), LW g Ax Am qx qm H1 → (∀ q : Nat, q < H.size → ¬ Ax q → ¬ Am q → H1[q]? = H[q]?) → H.size ≤ H1.size → va_S A s.heap H1 locs1 → W p l e rmL s m args below meth c H1 locs1 cells slots Q (F0 m 1535 ls [])) : W p l e rmL s m args below meth c H locs cells slots Q (F0 m 298 ls []) := by
  obtain ⟨iI, iL, iB, fI, fL, fB, hPX, hPM, R0⟩ := h
  have hx := X.1
  have hb := X.2.1
  obtain ⟨o, o2, e1, e2, e3⟩ := s_fault R0 (xs (nI i + nI 1).toNatClampNeg) (iI 1) (iI 2) (iI 3) (iI 4) (iB 2) (iB 3) (iI 5) (iI 6) (iI 7) (fI 1) (fI 2) (fI 3) (iI 31) (iI 33) (iI 34) (iI 35) (iI 36) (iI 37) (fI 34) (fI 35)
  refine lv_aload_n hx hb dL_law_298 rfl (lv_at hl 1 rfl) ?_
  refine sc_arg (k := 1) (kk := 1) (q := 0) hx hb hXs hbl hbA hS (lv_at hl 0 rfl) (lv_at hl 4 rfl) hL (by omega) (by decide) rfl dL_law_299 dL_law_300 dL_law_302 dL_law_303 dL_law_304 ?_
  refine kVG (rest := []) (k0 := 0) X hcs dL_law_305 wd_2_146 mw_X10_fault wd_2_147 wd_2_148 hPX rfl rfl rfl hS hAx (c_X10_fault e1) rfl hl.1 rfl (Nat.le_of_ble_eq_true rfl) rfl rfl ⟨Nat.le_of_ble_eq_true rfl, Nat.le_of_ble_eq_true rfl⟩ (fun H1 locs1 hPX1 z1 k1 hS1 => ?_)
  have hPM1 := hPM.stay k1 (fun q h1 h2 => hxm q h2 h1)
  refine W.eq (g2 := F0 m 308 ls [.int o.1]) rfl ?_
  refine lv_aload_n hx hb dL_law_308 rfl (lv_at hl 2 rfl) ?_
  refine sc_arg (k := 1) (kk := 1) (q := 0) hx hb hXs hbl hbA hS1 (lv_at hl 0 rfl) (lv_at hl 4 rfl) hL (by omega) (by decide) rfl dL_law_309 dL_law_310 dL_law_312 dL_law_313 dL_law_314 ?_
  refine kVG (rest := [.int o.1]) (k0 := 0) X hcs dL_law_315 wd_5_102 mw_X11_fault wd_5_103 wd_5_104 hPM1 rfl rfl rfl hS1 hAm (c_X11_fault e2) rfl hl.1 rfl (Nat.le_of_ble_eq_true rfl) rfl rfl ⟨Nat.le_of_ble_eq_true rfl, Nat.le_of_ble_eq_true rfl⟩ (fun H2 locs2 hPM2 z2 k2 hS2 => ?_)
  have hPX2 := hPX1.stay k2 hxm
  refine W.eq (g2 := F0 m 318 ls [.int o2.1, .int o.1]) rfl ?_
  refine lv_icmp_eq (tgt := 1535) hx hb dL_law_318 rfl (fun _ => ?_) (fun h => absurd (by rw [e3]) h)
  exact kk H2 locs2 (LW.mk hPX2 hPM2 R0) (fun q h1 h2 h3 => (k2 q (Nat.lt_of_lt_of_le h1 z1) h3).trans (k1 q h1 h2)) (Nat.le_trans z1 z2) hS2
theorem lc_unit (X : CX g A p s m args c cL_law nL RL) (hcs : cells ≤ rmL.cells ∧ slots ≤ rmL.slots) (hXs : va_X sc L xs s s.heap) (hbl : sc < s.heap.size) (hbA : ¬ A sc) (hL : L < 2 ^ 31) (hi : i + 6 ≤ L) (hAx : ∀ q, Ax q → A q) (hAm : ∀ q, Am q → A q) (hxm : ∀ q, Ax q → ¬ Am q) (hl : lv_has ls nL [(0, .ref sc), (1, .ref (qx 0)), (2, .ref (qm 0)), (3, .ref qo), (4, .int (nI i))]) (hS : va_S A s.heap H locs) (h : LW g Ax Am qx qm H) (kk : ∀ (H1 : Heap) (locs1 : List Loc), LW g Ax Am qx qm H1 → (∀ q : Nat, q < H.size → ¬ Ax q → ¬ Am q → H1[q]? = H[q]?) → H.size ≤ H1.size → va_S A s.heap H1 locs1 → W p l e rmL s m args below meth c H1 locs1 cells slots Q (F0 m 1535 ls [])) : W p l e rmL s m args below meth c H locs cells slots Q (F0 m 323 ls []) := by
  obtain ⟨iI, iL, iB, fI, fL, fB, hPX, hPM, R0⟩ := h
  have hx := X.1
  have hb := X.2.1
  obtain ⟨o, o2, e1, e2, e3, R1⟩ := s_unit R0  (iI 1) (iI 2) (iI 3) (iI 4) (iB 2) (iB 3) (iI 5) (iI 31) (iI 33) (iI 34) (iI 35) (fI 34)
  refine lv_aload_n hx hb dL_law_323 rfl (lv_at hl 1 rfl) ?_
  refine kVG (rest := []) (k0 := 0) X hcs dL_law_324 wd_3_58 mw_X10_unit wd_3_59 wd_3_60 hPX rfl rfl rfl hS hAx (c_X10_unit e1) rfl hl.1 rfl (Nat.le_of_ble_eq_true rfl) rfl rfl ⟨Nat.le_of_ble_eq_true rfl, Nat.le_of_ble_eq_true rfl⟩ (fun H1 locs1 hPX1 z1 k1 hS1 => ?_)
  have hPM1 := hPM.stay k1 (fun q h1 h2 => hxm q h2 h1)
  refine W.eq (g2 := F0 m 327 ls [.int o.1]) rfl ?_
  refine lv_aload_n hx hb dL_law_327 rfl (lv_at hl 2 rfl) ?_
  refine kVG (rest := [.int o.1]) (k0 := 0) X hcs dL_law_328 wd_6_135 mw_X11_unit wd_6_136 wd_6_137 hPM1 rfl rfl rfl hS1 hAm (c_X11_unit e2) rfl hl.1 rfl (Nat.le_of_ble_eq_true rfl) rfl rfl ⟨Nat.le_of_ble_eq_true rfl, Nat.le_of_ble_eq_true rfl⟩ (fun H2 locs2 hPM2 z2 k2 hS2 => ?_)
  have hPX2 := hPX1.stay k2 hxm
  refine W.eq (g2 := F0 m 331 ls [.int o2.1, .int o.1]) rfl ?_
  refine lv_icmp_eq (tgt := 1535) hx hb dL_law_331 rfl (fun _ => ?_) (fun h => absurd (by rw [e3]) h)
  exact kk H2 locs2 (LW.mk hPX2 hPM2 R1) (fun q h1 h2 h3 => (k2 q (Nat.lt_of_lt_of_le h1 z1) h3).trans (k1 q h1 h2)) (Nat.le_trans z1 z2) hS2
theorem lc_rule (X : CX g A p s m args c cL_law nL RL) (hcs : cells ≤ rmL.cells ∧ slots ≤ rmL.slots) (hXs : va_X sc L xs s s.heap) (hbl : sc < s.heap.size) (hbA : ¬ A sc) (hL : L < 2 ^ 31) (hi : i + 6 ≤ L) (hAx : ∀ q, Ax q → A q) (hAm : ∀ q, Am q → A q) (hxm : ∀ q, Ax q → ¬ Am q) (hl : lv_has ls nL [(0, .ref sc), (1, .ref (qx 0)), (2, .ref (qm 0)), (3, .ref qo), (4, .int (nI i))]) (hS : va_S A s.heap H locs) (h : LW g Ax Am qx qm H) (kk : ∀ (H1 : Heap) (locs1 : List Loc), LW g Ax Am qx qm H1 → (∀ q : Nat, q < H.size → ¬ Ax q → ¬ Am q → H1[q]? = H[q]?) → H.size ≤ H1.size → va_S A s.heap H1 locs1 → W p l e rmL s m args below meth c H1 locs1 cells slots Q (F0 m 1535 ls [])) : W p l e rmL s m args below meth c H locs cells slots Q (F0 m 336 ls []) := by
  obtain ⟨iI, iL, iB, fI, fL, fB, hPX, hPM, R0⟩ := h
  have hx := X.1
  have hb := X.2.1
  obtain ⟨o, o2, e1, e2, e3⟩ := s_rule R0 (xs (nI i + nI 1).toNatClampNeg) (iI 31)
  refine lv_aload_n hx hb dL_law_336 rfl (lv_at hl 1 rfl) ?_
  refine sc_arg (k := 1) (kk := 1) (q := 0) hx hb hXs hbl hbA hS (lv_at hl 0 rfl) (lv_at hl 4 rfl) hL (by omega) (by decide) rfl dL_law_337 dL_law_338 dL_law_340 dL_law_341 dL_law_342 ?_
  refine kVG (rest := []) (k0 := 0) X hcs dL_law_343 wd_3_74 mw_X10_rule wd_3_75 wd_3_76 hPX rfl rfl rfl hS hAx (c_X10_rule e1) rfl hl.1 rfl (Nat.le_of_ble_eq_true rfl) rfl rfl ⟨Nat.le_of_ble_eq_true rfl, Nat.le_of_ble_eq_true rfl⟩ (fun H1 locs1 hPX1 z1 k1 hS1 => ?_)
  have hPM1 := hPM.stay k1 (fun q h1 h2 => hxm q h2 h1)
  refine W.eq (g2 := F0 m 346 ls [.int o]) rfl ?_
  refine lv_aload_n hx hb dL_law_346 rfl (lv_at hl 2 rfl) ?_
  refine sc_arg (k := 1) (kk := 1) (q := 0) hx hb hXs hbl hbA hS1 (lv_at hl 0 rfl) (lv_at hl 4 rfl) hL (by omega) (by decide) rfl dL_law_347 dL_law_348 dL_law_350 dL_law_351 dL_law_352 ?_
  refine kVG (rest := [.int o]) (k0 := 0) X hcs dL_law_353 wd_7_135 mw_X11_rule wd_7_136 wd_7_137 hPM1 rfl rfl rfl hS1 hAm (c_X11_rule e2) rfl hl.1 rfl (Nat.le_of_ble_eq_true rfl) rfl rfl ⟨Nat.le_of_ble_eq_true rfl, Nat.le_of_ble_eq_true rfl⟩ (fun H2 locs2 hPM2 z2 k2 hS2 => ?_)
  have hPX2 := hPX1.stay k2 hxm
  refine W.eq (g2 := F0 m 356 ls [.int o2.1, .int o]) rfl ?_
  refine lv_icmp_eq (tgt := 1535) hx hb dL_law_356 rfl (fun _ => ?_) (fun h => absurd (by rw [e3]) h)
  exact kk H2 locs2 (LW.mk hPX2 hPM2 R0) (fun q h1 h2 h3 => (k2 q (Nat.lt_of_lt_of_le h1 z1) h3).trans (k1 q h1 h2)) (Nat.le_trans z1 z2) hS2
theorem lc_constant (X : CX g A p s m args c cL_law nL RL) (hcs : cells ≤ rmL.cells ∧ slots ≤ rmL.slots) (hXs : va_X sc L xs s s.heap) (hbl : sc < s.heap.size) (hbA : ¬ A sc) (hL : L < 2 ^ 31) (hi : i + 6 ≤ L) (hAx : ∀ q, Ax q → A q) (hAm : ∀ q, Am q → A q) (hxm : ∀ q, Ax q → ¬ Am q) (hl : lv_has ls nL [(0, .ref sc), (1, .ref (qx 0)), (2, .ref (qm 0)), (3, .ref qo), (4, .int (nI i))]) (hS : va_S A s.heap H locs) (h : LW g Ax Am qx qm H) (kk : ∀ (H1 : Heap) (locs1 : List Loc), LW g Ax Am qx qm H1 → (∀ q : Nat, q < H.size → ¬ Ax q → ¬ Am q → H1[q]? = H[q]?) → H.size ≤ H1.size → va_S A s.heap H1 locs1 → W p l e rmL s m args below meth c H1 locs1 cells slots Q (F0 m 1535 ls [])) : W p l e rmL s m args below meth c H locs cells slots Q (F0 m 361 ls []) := by
  obtain ⟨iI, iL, iB, fI, fL, fB, hPX, hPM, R0⟩ := h
  have hx := X.1
  have hb := X.2.1
  obtain ⟨o, o2, e1, e2, e3⟩ := s_constant R0 (xs (nI i + nI 1).toNatClampNeg) (iI 31)
  refine lv_aload_n hx hb dL_law_361 rfl (lv_at hl 1 rfl) ?_
  refine sc_arg (k := 1) (kk := 1) (q := 0) hx hb hXs hbl hbA hS (lv_at hl 0 rfl) (lv_at hl 4 rfl) hL (by omega) (by decide) rfl dL_law_362 dL_law_363 dL_law_365 dL_law_366 dL_law_367 ?_
  refine kVG (rest := []) (k0 := 0) X hcs dL_law_368 wd_3_82 mw_X10_constant wd_3_83 wd_3_84 hPX rfl rfl rfl hS hAx (c_X10_constant e1) rfl hl.1 rfl (Nat.le_of_ble_eq_true rfl) rfl rfl ⟨Nat.le_of_ble_eq_true rfl, Nat.le_of_ble_eq_true rfl⟩ (fun H1 locs1 hPX1 z1 k1 hS1 => ?_)
  have hPM1 := hPM.stay k1 (fun q h1 h2 => hxm q h2 h1)
  refine W.eq (g2 := F0 m 371 ls [.int o]) rfl ?_
  refine lv_aload_n hx hb dL_law_371 rfl (lv_at hl 2 rfl) ?_
  refine sc_arg (k := 1) (kk := 1) (q := 0) hx hb hXs hbl hbA hS1 (lv_at hl 0 rfl) (lv_at hl 4 rfl) hL (by omega) (by decide) rfl dL_law_372 dL_law_373 dL_law_375 dL_law_376 dL_law_377 ?_
  refine kVG (rest := [.int o]) (k0 := 0) X hcs dL_law_378 wd_6_139 mw_X11_constant wd_6_140 wd_6_141 hPM1 rfl rfl rfl hS1 hAm (c_X11_constant e2) rfl hl.1 rfl (Nat.le_of_ble_eq_true rfl) rfl rfl ⟨Nat.le_of_ble_eq_true rfl, Nat.le_of_ble_eq_true rfl⟩ (fun H2 locs2 hPM2 z2 k2 hS2 => ?_)
  have hPX2 := hPX1.stay k2 hxm
  refine W.eq (g2 := F0 m 381 ls [.int o2.1, .int o]) rfl ?_
  refine lv_icmp_eq (tgt := 1535) hx hb dL_law_381 rfl (fun _ => ?_) (fun h => absurd (by rw [e3]) h)
  exact kk H2 locs2 (LW.mk hPX2 hPM2 R0) (fun q h1 h2 h3 => (k2 q (Nat.lt_of_lt_of_le h1 z1) h3).trans (k1 q h1 h2)) (Nat.le_trans z1 z2) hS2
theorem lc_stage (X : CX g A p s m args c cL_law nL RL) (hcs : cells ≤ rmL.cells ∧ slots ≤ rmL.slots) (hXs : va_X sc L xs s s.heap) (hbl : sc < s.heap.size) (hbA : ¬ A sc) (hL : L < 2 ^ 31) (hi : i + 6 ≤ L) (hAx : ∀ q, Ax q → A q) (hAm : ∀ q, Am q → A q) (hxm : ∀ q, Ax q → ¬ Am q) (hl : lv_has ls nL [(0, .ref sc), (1, .ref (qx 0)), (2, .ref (qm 0)), (3, .ref qo), (4, .int (nI i))]) (hS : va_S A s.heap H locs) (h : LW g Ax Am qx qm H) (kk : ∀ (H1 : Heap) (locs1 : List Loc), LW g Ax Am qx qm H1 → (∀ q : Nat, q < H.size → ¬ Ax q → ¬ Am q → H1[q]? = H[q]?) → H.size ≤ H1.size → va_S A s.heap H1 locs1 → W p l e rmL s m args below meth c H1 locs1 cells slots Q (F0 m 1535 ls [])) : W p l e rmL s m args below meth c H locs cells slots Q (F0 m 386 ls []) := by
  obtain ⟨iI, iL, iB, fI, fL, fB, hPX, hPM, R0⟩ := h
  have hx := X.1
  have hb := X.2.1
  obtain ⟨o, o2, e1, e2, e3⟩ := s_stage R0 (xs (nI i + nI 1).toNatClampNeg) (xs (nI i + nI 2).toNatClampNeg) (xs (nI i + nI 3).toNatClampNeg) (iI 31)
  refine lv_aload_n hx hb dL_law_386 rfl (lv_at hl 1 rfl) ?_
  refine sc_arg (k := 1) (kk := 1) (q := 0) hx hb hXs hbl hbA hS (lv_at hl 0 rfl) (lv_at hl 4 rfl) hL (by omega) (by decide) rfl dL_law_387 dL_law_388 dL_law_390 dL_law_391 dL_law_392 ?_
  refine sc_arg (k := 2) (kk := 2) (q := 0) hx hb hXs hbl hbA hS (lv_at hl 0 rfl) (lv_at hl 4 rfl) hL (by omega) (by decide) rfl dL_law_393 dL_law_394 dL_law_396 dL_law_397 dL_law_398 ?_
  refine sc_arg (k := 3) (kk := 3) (q := 0) hx hb hXs hbl hbA hS (lv_at hl 0 rfl) (lv_at hl 4 rfl) hL (by omega) (by decide) rfl dL_law_399 dL_law_400 dL_law_402 dL_law_403 dL_law_404 ?_
  refine kVG (rest := []) (k0 := 0) X hcs dL_law_405 wd_3_86 mw_X10_stage wd_3_87 wd_3_88 hPX rfl rfl rfl hS hAx (c_X10_stage e1) rfl hl.1 rfl (Nat.le_of_ble_eq_true rfl) rfl rfl ⟨Nat.le_of_ble_eq_true rfl, Nat.le_of_ble_eq_true rfl⟩ (fun H1 locs1 hPX1 z1 k1 hS1 => ?_)
  have hPM1 := hPM.stay k1 (fun q h1 h2 => hxm q h2 h1)
  refine W.eq (g2 := F0 m 408 ls [.int o]) rfl ?_
  refine lv_aload_n hx hb dL_law_408 rfl (lv_at hl 2 rfl) ?_
  refine sc_arg (k := 1) (kk := 1) (q := 0) hx hb hXs hbl hbA hS1 (lv_at hl 0 rfl) (lv_at hl 4 rfl) hL (by omega) (by decide) rfl dL_law_409 dL_law_410 dL_law_412 dL_law_413 dL_law_414 ?_
  refine sc_arg (k := 2) (kk := 2) (q := 0) hx hb hXs hbl hbA hS1 (lv_at hl 0 rfl) (lv_at hl 4 rfl) hL (by omega) (by decide) rfl dL_law_415 dL_law_416 dL_law_418 dL_law_419 dL_law_420 ?_
  refine sc_arg (k := 3) (kk := 3) (q := 0) hx hb hXs hbl hbA hS1 (lv_at hl 0 rfl) (lv_at hl 4 rfl) hL (by omega) (by decide) rfl dL_law_421 dL_law_422 dL_law_424 dL_law_425 dL_law_426 ?_
  refine kVG (rest := [.int o]) (k0 := 0) X hcs dL_law_427 wd_6_143 mw_X11_stage wd_6_144 wd_6_145 hPM1 rfl rfl rfl hS1 hAm (c_X11_stage e2) rfl hl.1 rfl (Nat.le_of_ble_eq_true rfl) rfl rfl ⟨Nat.le_of_ble_eq_true rfl, Nat.le_of_ble_eq_true rfl⟩ (fun H2 locs2 hPM2 z2 k2 hS2 => ?_)
  have hPX2 := hPX1.stay k2 hxm
  refine W.eq (g2 := F0 m 430 ls [.int o2.1, .int o]) rfl ?_
  refine lv_icmp_eq (tgt := 1535) hx hb dL_law_430 rfl (fun _ => ?_) (fun h => absurd (by rw [e3]) h)
  exact kk H2 locs2 (LW.mk hPX2 hPM2 R0) (fun q h1 h2 h3 => (k2 q (Nat.lt_of_lt_of_le h1 z1) h3).trans (k1 q h1 h2)) (Nat.le_trans z1 z2) hS2
theorem lc_mode (X : CX g A p s m args c cL_law nL RL) (hcs : cells ≤ rmL.cells ∧ slots ≤ rmL.slots) (hXs : va_X sc L xs s s.heap) (hbl : sc < s.heap.size) (hbA : ¬ A sc) (hL : L < 2 ^ 31) (hi : i + 6 ≤ L) (hAx : ∀ q, Ax q → A q) (hAm : ∀ q, Am q → A q) (hxm : ∀ q, Ax q → ¬ Am q) (hl : lv_has ls nL [(0, .ref sc), (1, .ref (qx 0)), (2, .ref (qm 0)), (3, .ref qo), (4, .int (nI i))]) (hS : va_S A s.heap H locs) (h : LW g Ax Am qx qm H) (kk : ∀ (H1 : Heap) (locs1 : List Loc), LW g Ax Am qx qm H1 → (∀ q : Nat, q < H.size → ¬ Ax q → ¬ Am q → H1[q]? = H[q]?) → H.size ≤ H1.size → va_S A s.heap H1 locs1 → W p l e rmL s m args below meth c H1 locs1 cells slots Q (F0 m 1535 ls [])) : W p l e rmL s m args below meth c H locs cells slots Q (F0 m 435 ls []) := by
  obtain ⟨iI, iL, iB, fI, fL, fB, hPX, hPM, R0⟩ := h
  have hx := X.1
  have hb := X.2.1
  obtain ⟨o, o2, e1, e2, e3⟩ := s_mode R0 (xs (nI i + nI 1).toNatClampNeg) (xs (nI i + nI 2).toNatClampNeg) (iI 31)
  refine lv_aload_n hx hb dL_law_435 rfl (lv_at hl 1 rfl) ?_
  refine sc_arg (k := 1) (kk := 1) (q := 0) hx hb hXs hbl hbA hS (lv_at hl 0 rfl) (lv_at hl 4 rfl) hL (by omega) (by decide) rfl dL_law_436 dL_law_437 dL_law_439 dL_law_440 dL_law_441 ?_
  refine sc_arg (k := 2) (kk := 2) (q := 0) hx hb hXs hbl hbA hS (lv_at hl 0 rfl) (lv_at hl 4 rfl) hL (by omega) (by decide) rfl dL_law_442 dL_law_443 dL_law_445 dL_law_446 dL_law_447 ?_
  refine kVG (rest := []) (k0 := 0) X hcs dL_law_448 wd_3_98 mw_X10_mode wd_3_99 wd_3_100 hPX rfl rfl rfl hS hAx (c_X10_mode e1) rfl hl.1 rfl (Nat.le_of_ble_eq_true rfl) rfl rfl ⟨Nat.le_of_ble_eq_true rfl, Nat.le_of_ble_eq_true rfl⟩ (fun H1 locs1 hPX1 z1 k1 hS1 => ?_)
  have hPM1 := hPM.stay k1 (fun q h1 h2 => hxm q h2 h1)
  refine W.eq (g2 := F0 m 451 ls [.int o]) rfl ?_
  refine lv_aload_n hx hb dL_law_451 rfl (lv_at hl 2 rfl) ?_
  refine sc_arg (k := 1) (kk := 1) (q := 0) hx hb hXs hbl hbA hS1 (lv_at hl 0 rfl) (lv_at hl 4 rfl) hL (by omega) (by decide) rfl dL_law_452 dL_law_453 dL_law_455 dL_law_456 dL_law_457 ?_
  refine sc_arg (k := 2) (kk := 2) (q := 0) hx hb hXs hbl hbA hS1 (lv_at hl 0 rfl) (lv_at hl 4 rfl) hL (by omega) (by decide) rfl dL_law_458 dL_law_459 dL_law_461 dL_law_462 dL_law_463 ?_
  refine kVG (rest := [.int o]) (k0 := 0) X hcs dL_law_464 wd_6_155 mw_X11_mode wd_6_156 wd_6_157 hPM1 rfl rfl rfl hS1 hAm (c_X11_mode e2) rfl hl.1 rfl (Nat.le_of_ble_eq_true rfl) rfl rfl ⟨Nat.le_of_ble_eq_true rfl, Nat.le_of_ble_eq_true rfl⟩ (fun H2 locs2 hPM2 z2 k2 hS2 => ?_)
  have hPX2 := hPX1.stay k2 hxm
  refine W.eq (g2 := F0 m 467 ls [.int o2.1, .int o]) rfl ?_
  refine lv_icmp_eq (tgt := 1535) hx hb dL_law_467 rfl (fun _ => ?_) (fun h => absurd (by rw [e3]) h)
  exact kk H2 locs2 (LW.mk hPX2 hPM2 R0) (fun q h1 h2 h3 => (k2 q (Nat.lt_of_lt_of_le h1 z1) h3).trans (k1 q h1 h2)) (Nat.le_trans z1 z2) hS2
theorem lc_digit (X : CX g A p s m args c cL_law nL RL) (hcs : cells ≤ rmL.cells ∧ slots ≤ rmL.slots) (hXs : va_X sc L xs s s.heap) (hbl : sc < s.heap.size) (hbA : ¬ A sc) (hL : L < 2 ^ 31) (hi : i + 6 ≤ L) (hAx : ∀ q, Ax q → A q) (hAm : ∀ q, Am q → A q) (hxm : ∀ q, Ax q → ¬ Am q) (hl : lv_has ls nL [(0, .ref sc), (1, .ref (qx 0)), (2, .ref (qm 0)), (3, .ref qo), (4, .int (nI i))]) (hS : va_S A s.heap H locs) (h : LW g Ax Am qx qm H) (kk : ∀ (H1 : Heap) (locs1 : List Loc), LW g Ax Am qx qm H1 → (∀ q : Nat, q < H.size → ¬ Ax q → ¬ Am q → H1[q]? = H[q]?) → H.size ≤ H1.size → va_S A s.heap H1 locs1 → W p l e rmL s m args below meth c H1 locs1 cells slots Q (F0 m 1535 ls [])) : W p l e rmL s m args below meth c H locs cells slots Q (F0 m 472 ls []) := by
  obtain ⟨iI, iL, iB, fI, fL, fB, hPX, hPM, R0⟩ := h
  have hx := X.1
  have hb := X.2.1
  obtain ⟨o, o2, e1, e2, e3⟩ := s_digit R0 (xs (nI i + nI 1).toNatClampNeg) (xs (nI i + nI 2).toNatClampNeg) (iI 31)
  refine lv_aload_n hx hb dL_law_472 rfl (lv_at hl 1 rfl) ?_
  refine sc_arg (k := 1) (kk := 1) (q := 0) hx hb hXs hbl hbA hS (lv_at hl 0 rfl) (lv_at hl 4 rfl) hL (by omega) (by decide) rfl dL_law_473 dL_law_474 dL_law_476 dL_law_477 dL_law_478 ?_
  refine sc_arg (k := 2) (kk := 2) (q := 0) hx hb hXs hbl hbA hS (lv_at hl 0 rfl) (lv_at hl 4 rfl) hL (by omega) (by decide) rfl dL_law_479 dL_law_480 dL_law_482 dL_law_483 dL_law_484 ?_
  refine kVG (rest := []) (k0 := 0) X hcs dL_law_485 wd_3_119 mw_X10_digit wd_3_120 wd_3_121 hPX rfl rfl rfl hS hAx (c_X10_digit e1) rfl hl.1 rfl (Nat.le_of_ble_eq_true rfl) rfl rfl ⟨Nat.le_of_ble_eq_true rfl, Nat.le_of_ble_eq_true rfl⟩ (fun H1 locs1 hPX1 z1 k1 hS1 => ?_)
  have hPM1 := hPM.stay k1 (fun q h1 h2 => hxm q h2 h1)
  refine W.eq (g2 := F0 m 488 ls [.int o]) rfl ?_
  refine lv_aload_n hx hb dL_law_488 rfl (lv_at hl 2 rfl) ?_
  refine sc_arg (k := 1) (kk := 1) (q := 0) hx hb hXs hbl hbA hS1 (lv_at hl 0 rfl) (lv_at hl 4 rfl) hL (by omega) (by decide) rfl dL_law_489 dL_law_490 dL_law_492 dL_law_493 dL_law_494 ?_
  refine sc_arg (k := 2) (kk := 2) (q := 0) hx hb hXs hbl hbA hS1 (lv_at hl 0 rfl) (lv_at hl 4 rfl) hL (by omega) (by decide) rfl dL_law_495 dL_law_496 dL_law_498 dL_law_499 dL_law_500 ?_
  refine kVG (rest := [.int o]) (k0 := 0) X hcs dL_law_501 wd_6_171 mw_X11_digit wd_6_172 wd_6_173 hPM1 rfl rfl rfl hS1 hAm (c_X11_digit e2) rfl hl.1 rfl (Nat.le_of_ble_eq_true rfl) rfl rfl ⟨Nat.le_of_ble_eq_true rfl, Nat.le_of_ble_eq_true rfl⟩ (fun H2 locs2 hPM2 z2 k2 hS2 => ?_)
  have hPX2 := hPX1.stay k2 hxm
  refine W.eq (g2 := F0 m 504 ls [.int o2.1, .int o]) rfl ?_
  refine lv_icmp_eq (tgt := 1535) hx hb dL_law_504 rfl (fun _ => ?_) (fun h => absurd (by rw [e3]) h)
  exact kk H2 locs2 (LW.mk hPX2 hPM2 R0) (fun q h1 h2 h3 => (k2 q (Nat.lt_of_lt_of_le h1 z1) h3).trans (k1 q h1 h2)) (Nat.le_trans z1 z2) hS2
theorem lc_takenOut (X : CX g A p s m args c cL_law nL RL) (hcs : cells ≤ rmL.cells ∧ slots ≤ rmL.slots) (hXs : va_X sc L xs s s.heap) (hbl : sc < s.heap.size) (hbA : ¬ A sc) (hL : L < 2 ^ 31) (hi : i + 6 ≤ L) (hAx : ∀ q, Ax q → A q) (hAm : ∀ q, Am q → A q) (hxm : ∀ q, Ax q → ¬ Am q) (hl : lv_has ls nL [(0, .ref sc), (1, .ref (qx 0)), (2, .ref (qm 0)), (3, .ref qo), (4, .int (nI i))]) (hS : va_S A s.heap H locs) (h : LW g Ax Am qx qm H) (kk : ∀ (H1 : Heap) (locs1 : List Loc), LW g Ax Am qx qm H1 → (∀ q : Nat, q < H.size → ¬ Ax q → ¬ Am q → H1[q]? = H[q]?) → H.size ≤ H1.size → va_S A s.heap H1 locs1 → W p l e rmL s m args below meth c H1 locs1 cells slots Q (F0 m 1535 ls [])) : W p l e rmL s m args below meth c H locs cells slots Q (F0 m 509 ls []) := by
  obtain ⟨iI, iL, iB, fI, fL, fB, hPX, hPM, R0⟩ := h
  have hx := X.1
  have hb := X.2.1
  obtain ⟨o, o2, e1, e2, e3⟩ := s_takenOut R0 (xs (nI i + nI 1).toNatClampNeg) (xs (nI i + nI 2).toNatClampNeg) (iI 31)
  refine lv_aload_n hx hb dL_law_509 rfl (lv_at hl 1 rfl) ?_
  refine sc_arg (k := 1) (kk := 1) (q := 0) hx hb hXs hbl hbA hS (lv_at hl 0 rfl) (lv_at hl 4 rfl) hL (by omega) (by decide) rfl dL_law_510 dL_law_511 dL_law_513 dL_law_514 dL_law_515 ?_
  refine sc_arg (k := 2) (kk := 2) (q := 0) hx hb hXs hbl hbA hS (lv_at hl 0 rfl) (lv_at hl 4 rfl) hL (by omega) (by decide) rfl dL_law_516 dL_law_517 dL_law_519 dL_law_520 dL_law_521 ?_
  refine kVG (rest := []) (k0 := 0) X hcs dL_law_522 wd_3_124 mw_X10_takenOut wd_3_125 wd_3_126 hPX rfl rfl rfl hS hAx (c_X10_takenOut e1) rfl hl.1 rfl (Nat.le_of_ble_eq_true rfl) rfl rfl ⟨Nat.le_of_ble_eq_true rfl, Nat.le_of_ble_eq_true rfl⟩ (fun H1 locs1 hPX1 z1 k1 hS1 => ?_)
  have hPM1 := hPM.stay k1 (fun q h1 h2 => hxm q h2 h1)
  refine W.eq (g2 := F0 m 525 ls [.int o]) rfl ?_
  refine lv_aload_n hx hb dL_law_525 rfl (lv_at hl 2 rfl) ?_
  refine sc_arg (k := 1) (kk := 1) (q := 0) hx hb hXs hbl hbA hS1 (lv_at hl 0 rfl) (lv_at hl 4 rfl) hL (by omega) (by decide) rfl dL_law_526 dL_law_527 dL_law_529 dL_law_530 dL_law_531 ?_
  refine sc_arg (k := 2) (kk := 2) (q := 0) hx hb hXs hbl hbA hS1 (lv_at hl 0 rfl) (lv_at hl 4 rfl) hL (by omega) (by decide) rfl dL_law_532 dL_law_533 dL_law_535 dL_law_536 dL_law_537 ?_
  refine kVG (rest := [.int o]) (k0 := 0) X hcs dL_law_538 wd_6_177 mw_X11_takenOut_ wd_6_178 wd_6_179 hPM1 rfl rfl rfl hS1 hAm (c_X11_takenOut_ e2) rfl hl.1 rfl (Nat.le_of_ble_eq_true rfl) rfl rfl ⟨Nat.le_of_ble_eq_true rfl, Nat.le_of_ble_eq_true rfl⟩ (fun H2 locs2 hPM2 z2 k2 hS2 => ?_)
  have hPX2 := hPX1.stay k2 hxm
  refine W.eq (g2 := F0 m 541 ls [.int o2.1, .int o]) rfl ?_
  refine lv_icmp_eq (tgt := 1535) hx hb dL_law_541 rfl (fun _ => ?_) (fun h => absurd (by rw [e3]) h)
  exact kk H2 locs2 (LW.mk hPX2 hPM2 R0) (fun q h1 h2 h3 => (k2 q (Nat.lt_of_lt_of_le h1 z1) h3).trans (k1 q h1 h2)) (Nat.le_trans z1 z2) hS2
theorem lc_value (X : CX g A p s m args c cL_law nL RL) (hcs : cells ≤ rmL.cells ∧ slots ≤ rmL.slots) (hXs : va_X sc L xs s s.heap) (hbl : sc < s.heap.size) (hbA : ¬ A sc) (hL : L < 2 ^ 31) (hi : i + 6 ≤ L) (hAx : ∀ q, Ax q → A q) (hAm : ∀ q, Am q → A q) (hxm : ∀ q, Ax q → ¬ Am q) (hl : lv_has ls nL [(0, .ref sc), (1, .ref (qx 0)), (2, .ref (qm 0)), (3, .ref qo), (4, .int (nI i))]) (hS : va_S A s.heap H locs) (h : LW g Ax Am qx qm H) (kk : ∀ (H1 : Heap) (locs1 : List Loc), LW g Ax Am qx qm H1 → (∀ q : Nat, q < H.size → ¬ Ax q → ¬ Am q → H1[q]? = H[q]?) → H.size ≤ H1.size → va_S A s.heap H1 locs1 → W p l e rmL s m args below meth c H1 locs1 cells slots Q (F0 m 1535 ls [])) : W p l e rmL s m args below meth c H locs cells slots Q (F0 m 546 ls []) := by
  obtain ⟨iI, iL, iB, fI, fL, fB, hPX, hPM, R0⟩ := h
  have hx := X.1
  have hb := X.2.1
  obtain ⟨o, o2, e1, e2, e3⟩ := s_value R0 (xs (nI i + nI 1).toNatClampNeg) (xs (nI i + nI 2).toNatClampNeg) (xs (nI i + nI 3).toNatClampNeg) (xs (nI i + nI 4).toNatClampNeg) (xs (nI i + nI 5).toNatClampNeg) (iL 3) (iL 4) (iL 5) (iI 13) (iI 14) (iL 6) (iL 7) (iI 31) (iL 16) (iL 17) (iL 18) (iL 19) (iL 20) (iI 40)
  refine lv_aload_n hx hb dL_law_546 rfl (lv_at hl 1 rfl) ?_
  refine sc_arg (k := 1) (kk := 1) (q := 0) hx hb hXs hbl hbA hS (lv_at hl 0 rfl) (lv_at hl 4 rfl) hL (by omega) (by decide) rfl dL_law_547 dL_law_548 dL_law_550 dL_law_551 dL_law_552 ?_
  refine sc_arg (k := 2) (kk := 2) (q := 0) hx hb hXs hbl hbA hS (lv_at hl 0 rfl) (lv_at hl 4 rfl) hL (by omega) (by decide) rfl dL_law_553 dL_law_554 dL_law_556 dL_law_557 dL_law_558 ?_
  refine sc_arg (k := 3) (kk := 3) (q := 0) hx hb hXs hbl hbA hS (lv_at hl 0 rfl) (lv_at hl 4 rfl) hL (by omega) (by decide) rfl dL_law_559 dL_law_560 dL_law_562 dL_law_563 dL_law_564 ?_
  refine sc_arg (k := 4) (kk := 4) (q := 0) hx hb hXs hbl hbA hS (lv_at hl 0 rfl) (lv_at hl 4 rfl) hL (by omega) (by decide) rfl dL_law_565 dL_law_566 dL_law_568 dL_law_569 dL_law_570 ?_
  refine sc_arg (k := 5) (kk := 5) (q := 0) hx hb hXs hbl hbA hS (lv_at hl 0 rfl) (lv_at hl 4 rfl) hL (by omega) (by decide) rfl dL_law_571 dL_law_572 dL_law_574 dL_law_575 dL_law_576 ?_
  refine kVG (rest := []) (k0 := 0) X hcs dL_law_577 wd_3_137 mw_X10_value wd_3_138 wd_3_139 hPX rfl rfl rfl hS hAx (c_X10_value e1) rfl hl.1 rfl (Nat.le_of_ble_eq_true rfl) rfl rfl ⟨Nat.le_of_ble_eq_true rfl, Nat.le_of_ble_eq_true rfl⟩ (fun H1 locs1 hPX1 z1 k1 hS1 => ?_)
  have hPM1 := hPM.stay k1 (fun q h1 h2 => hxm q h2 h1)
  refine W.eq (g2 := F0 m 580 ls [.int o.1]) rfl ?_
  refine lv_aload_n hx hb dL_law_580 rfl (lv_at hl 2 rfl) ?_
  refine sc_arg (k := 1) (kk := 1) (q := 0) hx hb hXs hbl hbA hS1 (lv_at hl 0 rfl) (lv_at hl 4 rfl) hL (by omega) (by decide) rfl dL_law_581 dL_law_582 dL_law_584 dL_law_585 dL_law_586 ?_
  refine sc_arg (k := 2) (kk := 2) (q := 0) hx hb hXs hbl hbA hS1 (lv_at hl 0 rfl) (lv_at hl 4 rfl) hL (by omega) (by decide) rfl dL_law_587 dL_law_588 dL_law_590 dL_law_591 dL_law_592 ?_
  refine sc_arg (k := 3) (kk := 3) (q := 0) hx hb hXs hbl hbA hS1 (lv_at hl 0 rfl) (lv_at hl 4 rfl) hL (by omega) (by decide) rfl dL_law_593 dL_law_594 dL_law_596 dL_law_597 dL_law_598 ?_
  refine sc_arg (k := 4) (kk := 4) (q := 0) hx hb hXs hbl hbA hS1 (lv_at hl 0 rfl) (lv_at hl 4 rfl) hL (by omega) (by decide) rfl dL_law_599 dL_law_600 dL_law_602 dL_law_603 dL_law_604 ?_
  refine sc_arg (k := 5) (kk := 5) (q := 0) hx hb hXs hbl hbA hS1 (lv_at hl 0 rfl) (lv_at hl 4 rfl) hL (by omega) (by decide) rfl dL_law_605 dL_law_606 dL_law_608 dL_law_609 dL_law_610 ?_
  refine kVG (rest := [.int o.1]) (k0 := 0) X hcs dL_law_611 wd_6_191 mw_X11_value wd_6_192 wd_6_193 hPM1 rfl rfl rfl hS1 hAm (c_X11_value e2) rfl hl.1 rfl (Nat.le_of_ble_eq_true rfl) rfl rfl ⟨Nat.le_of_ble_eq_true rfl, Nat.le_of_ble_eq_true rfl⟩ (fun H2 locs2 hPM2 z2 k2 hS2 => ?_)
  have hPX2 := hPX1.stay k2 hxm
  refine W.eq (g2 := F0 m 614 ls [.int o2.1, .int o.1]) rfl ?_
  refine lv_icmp_eq (tgt := 1535) hx hb dL_law_614 rfl (fun _ => ?_) (fun h => absurd (by rw [e3]) h)
  exact kk H2 locs2 (LW.mk hPX2 hPM2 R0) (fun q h1 h2 h3 => (k2 q (Nat.lt_of_lt_of_le h1 z1) h3).trans (k1 q h1 h2)) (Nat.le_trans z1 z2) hS2
theorem lc_off (X : CX g A p s m args c cL_law nL RL) (hcs : cells ≤ rmL.cells ∧ slots ≤ rmL.slots) (hXs : va_X sc L xs s s.heap) (hbl : sc < s.heap.size) (hbA : ¬ A sc) (hL : L < 2 ^ 31) (hi : i + 6 ≤ L) (hAx : ∀ q, Ax q → A q) (hAm : ∀ q, Am q → A q) (hxm : ∀ q, Ax q → ¬ Am q) (hl : lv_has ls nL [(0, .ref sc), (1, .ref (qx 0)), (2, .ref (qm 0)), (3, .ref qo), (4, .int (nI i))]) (hS : va_S A s.heap H locs) (h : LW g Ax Am qx qm H) (kk : ∀ (H1 : Heap) (locs1 : List Loc), LW g Ax Am qx qm H1 → (∀ q : Nat, q < H.size → ¬ Ax q → ¬ Am q → H1[q]? = H[q]?) → H.size ≤ H1.size → va_S A s.heap H1 locs1 → W p l e rmL s m args below meth c H1 locs1 cells slots Q (F0 m 1535 ls [])) : W p l e rmL s m args below meth c H locs cells slots Q (F0 m 619 ls []) := by
  obtain ⟨iI, iL, iB, fI, fL, fB, hPX, hPM, R0⟩ := h
  have hx := X.1
  have hb := X.2.1
  obtain ⟨o, o2, e1, e2, e3⟩ := s_off R0 (xs (nI i + nI 1).toNatClampNeg) (iI 31)
  refine lv_aload_n hx hb dL_law_619 rfl (lv_at hl 1 rfl) ?_
  refine sc_arg (k := 1) (kk := 1) (q := 0) hx hb hXs hbl hbA hS (lv_at hl 0 rfl) (lv_at hl 4 rfl) hL (by omega) (by decide) rfl dL_law_620 dL_law_621 dL_law_623 dL_law_624 dL_law_625 ?_
  refine kVG (rest := []) (k0 := 0) X hcs dL_law_626 wd_4_13 mw_X10_off wd_4_14 wd_4_15 hPX rfl rfl rfl hS hAx (c_X10_off e1) rfl hl.1 rfl (Nat.le_of_ble_eq_true rfl) rfl rfl ⟨Nat.le_of_ble_eq_true rfl, Nat.le_of_ble_eq_true rfl⟩ (fun H1 locs1 hPX1 z1 k1 hS1 => ?_)
  have hPM1 := hPM.stay k1 (fun q h1 h2 => hxm q h2 h1)
  refine W.eq (g2 := F0 m 629 ls [.int o]) rfl ?_
  refine lv_aload_n hx hb dL_law_629 rfl (lv_at hl 2 rfl) ?_
  refine sc_arg (k := 1) (kk := 1) (q := 0) hx hb hXs hbl hbA hS1 (lv_at hl 0 rfl) (lv_at hl 4 rfl) hL (by omega) (by decide) rfl dL_law_630 dL_law_631 dL_law_633 dL_law_634 dL_law_635 ?_
  refine kVG (rest := [.int o]) (k0 := 0) X hcs dL_law_636 wd_7_29 mw_X11_off wd_7_30 wd_7_31 hPM1 rfl rfl rfl hS1 hAm (c_X11_off e2) rfl hl.1 rfl (Nat.le_of_ble_eq_true rfl) rfl rfl ⟨Nat.le_of_ble_eq_true rfl, Nat.le_of_ble_eq_true rfl⟩ (fun H2 locs2 hPM2 z2 k2 hS2 => ?_)
  have hPX2 := hPX1.stay k2 hxm
  refine W.eq (g2 := F0 m 639 ls [.int o2.1, .int o]) rfl ?_
  refine lv_icmp_eq (tgt := 1535) hx hb dL_law_639 rfl (fun _ => ?_) (fun h => absurd (by rw [e3]) h)
  exact kk H2 locs2 (LW.mk hPX2 hPM2 R0) (fun q h1 h2 h3 => (k2 q (Nat.lt_of_lt_of_le h1 z1) h3).trans (k1 q h1 h2)) (Nat.le_trans z1 z2) hS2
theorem lc_job (X : CX g A p s m args c cL_law nL RL) (hcs : cells ≤ rmL.cells ∧ slots ≤ rmL.slots) (hXs : va_X sc L xs s s.heap) (hbl : sc < s.heap.size) (hbA : ¬ A sc) (hL : L < 2 ^ 31) (hi : i + 6 ≤ L) (hAx : ∀ q, Ax q → A q) (hAm : ∀ q, Am q → A q) (hxm : ∀ q, Ax q → ¬ Am q) (hl : lv_has ls nL [(0, .ref sc), (1, .ref (qx 0)), (2, .ref (qm 0)), (3, .ref qo), (4, .int (nI i))]) (hS : va_S A s.heap H locs) (h : LW g Ax Am qx qm H) (kk : ∀ (H1 : Heap) (locs1 : List Loc), LW g Ax Am qx qm H1 → (∀ q : Nat, q < H.size → ¬ Ax q → ¬ Am q → H1[q]? = H[q]?) → H.size ≤ H1.size → va_S A s.heap H1 locs1 → W p l e rmL s m args below meth c H1 locs1 cells slots Q (F0 m 1535 ls [])) : W p l e rmL s m args below meth c H locs cells slots Q (F0 m 644 ls []) := by
  obtain ⟨iI, iL, iB, fI, fL, fB, hPX, hPM, R0⟩ := h
  have hx := X.1
  have hb := X.2.1
  obtain ⟨o, o2, e1, e2, e3, R1⟩ := s_job R0 (xs (nI i + nI 1).toNatClampNeg) (xs (nI i + nI 2).toNatClampNeg) (xs (nI i + nI 3).toNatClampNeg) (xs (nI i + nI 4).toNatClampNeg) (iI 31)
  refine lv_aload_n hx hb dL_law_644 rfl (lv_at hl 1 rfl) ?_
  refine sc_arg (k := 1) (kk := 1) (q := 0) hx hb hXs hbl hbA hS (lv_at hl 0 rfl) (lv_at hl 4 rfl) hL (by omega) (by decide) rfl dL_law_645 dL_law_646 dL_law_648 dL_law_649 dL_law_650 ?_
  refine sc_arg (k := 2) (kk := 2) (q := 0) hx hb hXs hbl hbA hS (lv_at hl 0 rfl) (lv_at hl 4 rfl) hL (by omega) (by decide) rfl dL_law_651 dL_law_652 dL_law_654 dL_law_655 dL_law_656 ?_
  refine sc_arg (k := 3) (kk := 3) (q := 0) hx hb hXs hbl hbA hS (lv_at hl 0 rfl) (lv_at hl 4 rfl) hL (by omega) (by decide) rfl dL_law_657 dL_law_658 dL_law_660 dL_law_661 dL_law_662 ?_
  refine sc_arg (k := 4) (kk := 4) (q := 0) hx hb hXs hbl hbA hS (lv_at hl 0 rfl) (lv_at hl 4 rfl) hL (by omega) (by decide) rfl dL_law_663 dL_law_664 dL_law_666 dL_law_667 dL_law_668 ?_
  refine kVG (rest := []) (k0 := 0) X hcs dL_law_669 wd_4_27 mw_X10_job wd_4_28 wd_4_29 hPX rfl rfl rfl hS hAx (c_X10_job e1) rfl hl.1 rfl (Nat.le_of_ble_eq_true rfl) rfl rfl ⟨Nat.le_of_ble_eq_true rfl, Nat.le_of_ble_eq_true rfl⟩ (fun H1 locs1 hPX1 z1 k1 hS1 => ?_)
  have hPM1 := hPM.stay k1 (fun q h1 h2 => hxm q h2 h1)
  refine W.eq (g2 := F0 m 672 ls [.int o.1]) rfl ?_
  refine lv_aload_n hx hb dL_law_672 rfl (lv_at hl 2 rfl) ?_
  refine sc_arg (k := 1) (kk := 1) (q := 0) hx hb hXs hbl hbA hS1 (lv_at hl 0 rfl) (lv_at hl 4 rfl) hL (by omega) (by decide) rfl dL_law_673 dL_law_674 dL_law_676 dL_law_677 dL_law_678 ?_
  refine sc_arg (k := 2) (kk := 2) (q := 0) hx hb hXs hbl hbA hS1 (lv_at hl 0 rfl) (lv_at hl 4 rfl) hL (by omega) (by decide) rfl dL_law_679 dL_law_680 dL_law_682 dL_law_683 dL_law_684 ?_
  refine sc_arg (k := 3) (kk := 3) (q := 0) hx hb hXs hbl hbA hS1 (lv_at hl 0 rfl) (lv_at hl 4 rfl) hL (by omega) (by decide) rfl dL_law_685 dL_law_686 dL_law_688 dL_law_689 dL_law_690 ?_
  refine sc_arg (k := 4) (kk := 4) (q := 0) hx hb hXs hbl hbA hS1 (lv_at hl 0 rfl) (lv_at hl 4 rfl) hL (by omega) (by decide) rfl dL_law_691 dL_law_692 dL_law_694 dL_law_695 dL_law_696 ?_
  refine kVG (rest := [.int o.1]) (k0 := 0) X hcs dL_law_697 wd_7_46 mw_X11_job wd_7_47 wd_7_48 hPM1 rfl rfl rfl hS1 hAm (c_X11_job e2) rfl hl.1 rfl (Nat.le_of_ble_eq_true rfl) rfl rfl ⟨Nat.le_of_ble_eq_true rfl, Nat.le_of_ble_eq_true rfl⟩ (fun H2 locs2 hPM2 z2 k2 hS2 => ?_)
  have hPX2 := hPX1.stay k2 hxm
  refine W.eq (g2 := F0 m 700 ls [.int o2.1, .int o.1]) rfl ?_
  refine lv_icmp_eq (tgt := 1535) hx hb dL_law_700 rfl (fun _ => ?_) (fun h => absurd (by rw [e3]) h)
  exact kk H2 locs2 (LW.mk hPX2 hPM2 R1) (fun q h1 h2 h3 => (k2 q (Nat.lt_of_lt_of_le h1 z1) h3).trans (k1 q h1 h2)) (Nat.le_trans z1 z2) hS2
theorem lc_orders (X : CX g A p s m args c cL_law nL RL) (hcs : cells ≤ rmL.cells ∧ slots ≤ rmL.slots) (hXs : va_X sc L xs s s.heap) (hbl : sc < s.heap.size) (hbA : ¬ A sc) (hL : L < 2 ^ 31) (hi : i + 6 ≤ L) (hAx : ∀ q, Ax q → A q) (hAm : ∀ q, Am q → A q) (hxm : ∀ q, Ax q → ¬ Am q) (hl : lv_has ls nL [(0, .ref sc), (1, .ref (qx 0)), (2, .ref (qm 0)), (3, .ref qo), (4, .int (nI i))]) (hS : va_S A s.heap H locs) (h : LW g Ax Am qx qm H) (kk : ∀ (H1 : Heap) (locs1 : List Loc), LW g Ax Am qx qm H1 → (∀ q : Nat, q < H.size → ¬ Ax q → ¬ Am q → H1[q]? = H[q]?) → H.size ≤ H1.size → va_S A s.heap H1 locs1 → W p l e rmL s m args below meth c H1 locs1 cells slots Q (F0 m 1535 ls [])) : W p l e rmL s m args below meth c H locs cells slots Q (F0 m 705 ls []) := by
  obtain ⟨iI, iL, iB, fI, fL, fB, hPX, hPM, R0⟩ := h
  have hx := X.1
  have hb := X.2.1
  obtain ⟨o, o2, e1, e2, e3, R1⟩ := s_orders R0  (iI 6) (iI 7) (fI 1) (fI 2) (fI 3) (iI 31) (iI 33) (iI 34) (iI 36) (iI 37) (fI 35)
  refine lv_aload_n hx hb dL_law_705 rfl (lv_at hl 1 rfl) ?_
  refine kVG (rest := []) (k0 := 0) X hcs dL_law_706 wd_4_40 mw_X10_orders wd_4_41 wd_4_42 hPX rfl rfl rfl hS hAx (c_X10_orders e1) rfl hl.1 rfl (Nat.le_of_ble_eq_true rfl) rfl rfl ⟨Nat.le_of_ble_eq_true rfl, Nat.le_of_ble_eq_true rfl⟩ (fun H1 locs1 hPX1 z1 k1 hS1 => ?_)
  have hPM1 := hPM.stay k1 (fun q h1 h2 => hxm q h2 h1)
  refine W.eq (g2 := F0 m 709 ls [.int o.1]) rfl ?_
  refine lv_aload_n hx hb dL_law_709 rfl (lv_at hl 2 rfl) ?_
  refine kVG (rest := [.int o.1]) (k0 := 0) X hcs dL_law_710 wd_7_58 mw_X11_orders wd_7_59 wd_7_60 hPM1 rfl rfl rfl hS1 hAm (c_X11_orders e2) rfl hl.1 rfl (Nat.le_of_ble_eq_true rfl) rfl rfl ⟨Nat.le_of_ble_eq_true rfl, Nat.le_of_ble_eq_true rfl⟩ (fun H2 locs2 hPM2 z2 k2 hS2 => ?_)
  have hPX2 := hPX1.stay k2 hxm
  refine W.eq (g2 := F0 m 713 ls [.int o2.1, .int o.1]) rfl ?_
  refine lv_icmp_eq (tgt := 1535) hx hb dL_law_713 rfl (fun _ => ?_) (fun h => absurd (by rw [e3]) h)
  exact kk H2 locs2 (LW.mk hPX2 hPM2 R1) (fun q h1 h2 h3 => (k2 q (Nat.lt_of_lt_of_le h1 z1) h3).trans (k1 q h1 h2)) (Nat.le_trans z1 z2) hS2
theorem lc_drop (X : CX g A p s m args c cL_law nL RL) (hcs : cells ≤ rmL.cells ∧ slots ≤ rmL.slots) (hXs : va_X sc L xs s s.heap) (hbl : sc < s.heap.size) (hbA : ¬ A sc) (hL : L < 2 ^ 31) (hi : i + 6 ≤ L) (hAx : ∀ q, Ax q → A q) (hAm : ∀ q, Am q → A q) (hxm : ∀ q, Ax q → ¬ Am q) (hl : lv_has ls nL [(0, .ref sc), (1, .ref (qx 0)), (2, .ref (qm 0)), (3, .ref qo), (4, .int (nI i))]) (hS : va_S A s.heap H locs) (h : LW g Ax Am qx qm H) (kk : ∀ (H1 : Heap) (locs1 : List Loc), LW g Ax Am qx qm H1 → (∀ q : Nat, q < H.size → ¬ Ax q → ¬ Am q → H1[q]? = H[q]?) → H.size ≤ H1.size → va_S A s.heap H1 locs1 → W p l e rmL s m args below meth c H1 locs1 cells slots Q (F0 m 1535 ls [])) : W p l e rmL s m args below meth c H locs cells slots Q (F0 m 718 ls []) := by
  obtain ⟨iI, iL, iB, fI, fL, fB, hPX, hPM, R0⟩ := h
  have hx := X.1
  have hb := X.2.1
  obtain ⟨o, o2, e1, e2, e3, R1⟩ := s_drop R0 (xs (nI i + nI 1).toNatClampNeg) (iI 31)
  refine lv_aload_n hx hb dL_law_718 rfl (lv_at hl 1 rfl) ?_
  refine sc_arg (k := 1) (kk := 1) (q := 0) hx hb hXs hbl hbA hS (lv_at hl 0 rfl) (lv_at hl 4 rfl) hL (by omega) (by decide) rfl dL_law_719 dL_law_720 dL_law_722 dL_law_723 dL_law_724 ?_
  refine kVG (rest := []) (k0 := 0) X hcs dL_law_725 wd_4_60 mw_X10_drop wd_4_61 wd_4_62 hPX rfl rfl rfl hS hAx (c_X10_drop e1) rfl hl.1 rfl (Nat.le_of_ble_eq_true rfl) rfl rfl ⟨Nat.le_of_ble_eq_true rfl, Nat.le_of_ble_eq_true rfl⟩ (fun H1 locs1 hPX1 z1 k1 hS1 => ?_)
  have hPM1 := hPM.stay k1 (fun q h1 h2 => hxm q h2 h1)
  refine W.eq (g2 := F0 m 728 ls [.int (bI o.1)]) rfl ?_
  refine lv_aload_n hx hb dL_law_728 rfl (lv_at hl 2 rfl) ?_
  refine sc_arg (k := 1) (kk := 1) (q := 0) hx hb hXs hbl hbA hS1 (lv_at hl 0 rfl) (lv_at hl 4 rfl) hL (by omega) (by decide) rfl dL_law_729 dL_law_730 dL_law_732 dL_law_733 dL_law_734 ?_
  refine kVG (rest := [.int (bI o.1)]) (k0 := 0) X hcs dL_law_735 wd_7_70 mw_X11_drop wd_7_71 wd_7_72 hPM1 rfl rfl rfl hS1 hAm (c_X11_drop e2) rfl hl.1 rfl (Nat.le_of_ble_eq_true rfl) rfl rfl ⟨Nat.le_of_ble_eq_true rfl, Nat.le_of_ble_eq_true rfl⟩ (fun H2 locs2 hPM2 z2 k2 hS2 => ?_)
  have hPX2 := hPX1.stay k2 hxm
  refine W.eq (g2 := F0 m 738 ls [.int (bI o2.1), .int (bI o.1)]) rfl ?_
  refine lv_icmp_eq (tgt := 1535) hx hb dL_law_738 rfl (fun _ => ?_) (fun h => absurd (by rw [e3]) h)
  exact kk H2 locs2 (LW.mk hPX2 hPM2 R1) (fun q h1 h2 h3 => (k2 q (Nat.lt_of_lt_of_le h1 z1) h3).trans (k1 q h1 h2)) (Nat.le_trans z1 z2) hS2
theorem lc_link (X : CX g A p s m args c cL_law nL RL) (hcs : cells ≤ rmL.cells ∧ slots ≤ rmL.slots) (hXs : va_X sc L xs s s.heap) (hbl : sc < s.heap.size) (hbA : ¬ A sc) (hL : L < 2 ^ 31) (hi : i + 6 ≤ L) (hAx : ∀ q, Ax q → A q) (hAm : ∀ q, Am q → A q) (hxm : ∀ q, Ax q → ¬ Am q) (hl : lv_has ls nL [(0, .ref sc), (1, .ref (qx 0)), (2, .ref (qm 0)), (3, .ref qo), (4, .int (nI i))]) (hS : va_S A s.heap H locs) (h : LW g Ax Am qx qm H) (kk : ∀ (H1 : Heap) (locs1 : List Loc), LW g Ax Am qx qm H1 → (∀ q : Nat, q < H.size → ¬ Ax q → ¬ Am q → H1[q]? = H[q]?) → H.size ≤ H1.size → va_S A s.heap H1 locs1 → W p l e rmL s m args below meth c H1 locs1 cells slots Q (F0 m 1535 ls [])) : W p l e rmL s m args below meth c H locs cells slots Q (F0 m 743 ls []) := by
  obtain ⟨iI, iL, iB, fI, fL, fB, hPX, hPM, R0⟩ := h
  have hx := X.1
  have hb := X.2.1
  obtain ⟨o, o2, e1, e2, e3, R1⟩ := s_link R0 (xs (nI i + nI 1).toNatClampNeg) (xs (nI i + nI 2).toNatClampNeg) (xs (nI i + nI 3).toNatClampNeg) (xs (nI i + nI 4).toNatClampNeg) (iI 31)
  refine lv_aload_n hx hb dL_law_743 rfl (lv_at hl 1 rfl) ?_
  refine sc_arg (k := 1) (kk := 1) (q := 0) hx hb hXs hbl hbA hS (lv_at hl 0 rfl) (lv_at hl 4 rfl) hL (by omega) (by decide) rfl dL_law_744 dL_law_745 dL_law_747 dL_law_748 dL_law_749 ?_
  refine sc_arg (k := 2) (kk := 2) (q := 0) hx hb hXs hbl hbA hS (lv_at hl 0 rfl) (lv_at hl 4 rfl) hL (by omega) (by decide) rfl dL_law_750 dL_law_751 dL_law_753 dL_law_754 dL_law_755 ?_
  refine sc_arg (k := 3) (kk := 3) (q := 0) hx hb hXs hbl hbA hS (lv_at hl 0 rfl) (lv_at hl 4 rfl) hL (by omega) (by decide) rfl dL_law_756 dL_law_757 dL_law_759 dL_law_760 dL_law_761 ?_
  refine sc_arg (k := 4) (kk := 4) (q := 0) hx hb hXs hbl hbA hS (lv_at hl 0 rfl) (lv_at hl 4 rfl) hL (by omega) (by decide) rfl dL_law_762 dL_law_763 dL_law_765 dL_law_766 dL_law_767 ?_
  refine kVG (rest := []) (k0 := 0) X hcs dL_law_768 wd_4_76 mw_X10_link wd_4_77 wd_4_78 hPX rfl rfl rfl hS hAx (c_X10_link e1) rfl hl.1 rfl (Nat.le_of_ble_eq_true rfl) rfl rfl ⟨Nat.le_of_ble_eq_true rfl, Nat.le_of_ble_eq_true rfl⟩ (fun H1 locs1 hPX1 z1 k1 hS1 => ?_)
  have hPM1 := hPM.stay k1 (fun q h1 h2 => hxm q h2 h1)
  refine W.eq (g2 := F0 m 771 ls [.int (bI o.1)]) rfl ?_
  refine lv_aload_n hx hb dL_law_771 rfl (lv_at hl 2 rfl) ?_
  refine sc_arg (k := 1) (kk := 1) (q := 0) hx hb hXs hbl hbA hS1 (lv_at hl 0 rfl) (lv_at hl 4 rfl) hL (by omega) (by decide) rfl dL_law_772 dL_law_773 dL_law_775 dL_law_776 dL_law_777 ?_
  refine sc_arg (k := 2) (kk := 2) (q := 0) hx hb hXs hbl hbA hS1 (lv_at hl 0 rfl) (lv_at hl 4 rfl) hL (by omega) (by decide) rfl dL_law_778 dL_law_779 dL_law_781 dL_law_782 dL_law_783 ?_
  refine sc_arg (k := 3) (kk := 3) (q := 0) hx hb hXs hbl hbA hS1 (lv_at hl 0 rfl) (lv_at hl 4 rfl) hL (by omega) (by decide) rfl dL_law_784 dL_law_785 dL_law_787 dL_law_788 dL_law_789 ?_
  refine sc_arg (k := 4) (kk := 4) (q := 0) hx hb hXs hbl hbA hS1 (lv_at hl 0 rfl) (lv_at hl 4 rfl) hL (by omega) (by decide) rfl dL_law_790 dL_law_791 dL_law_793 dL_law_794 dL_law_795 ?_
  refine kVG (rest := [.int (bI o.1)]) (k0 := 0) X hcs dL_law_796 wd_7_86 mw_X11_link wd_7_87 wd_7_88 hPM1 rfl rfl rfl hS1 hAm (c_X11_link e2) rfl hl.1 rfl (Nat.le_of_ble_eq_true rfl) rfl rfl ⟨Nat.le_of_ble_eq_true rfl, Nat.le_of_ble_eq_true rfl⟩ (fun H2 locs2 hPM2 z2 k2 hS2 => ?_)
  have hPX2 := hPX1.stay k2 hxm
  refine W.eq (g2 := F0 m 799 ls [.int (bI o2.1), .int (bI o.1)]) rfl ?_
  refine lv_icmp_eq (tgt := 1535) hx hb dL_law_799 rfl (fun _ => ?_) (fun h => absurd (by rw [e3]) h)
  exact kk H2 locs2 (LW.mk hPX2 hPM2 R1) (fun q h1 h2 h3 => (k2 q (Nat.lt_of_lt_of_le h1 z1) h3).trans (k1 q h1 h2)) (Nat.le_trans z1 z2) hS2
theorem lc_linked (X : CX g A p s m args c cL_law nL RL) (hcs : cells ≤ rmL.cells ∧ slots ≤ rmL.slots) (hXs : va_X sc L xs s s.heap) (hbl : sc < s.heap.size) (hbA : ¬ A sc) (hL : L < 2 ^ 31) (hi : i + 6 ≤ L) (hAx : ∀ q, Ax q → A q) (hAm : ∀ q, Am q → A q) (hxm : ∀ q, Ax q → ¬ Am q) (hl : lv_has ls nL [(0, .ref sc), (1, .ref (qx 0)), (2, .ref (qm 0)), (3, .ref qo), (4, .int (nI i))]) (hS : va_S A s.heap H locs) (h : LW g Ax Am qx qm H) (kk : ∀ (H1 : Heap) (locs1 : List Loc), LW g Ax Am qx qm H1 → (∀ q : Nat, q < H.size → ¬ Ax q → ¬ Am q → H1[q]? = H[q]?) → H.size ≤ H1.size → va_S A s.heap H1 locs1 → W p l e rmL s m args below meth c H1 locs1 cells slots Q (F0 m 1535 ls [])) : W p l e rmL s m args below meth c H locs cells slots Q (F0 m 804 ls []) := by
  obtain ⟨iI, iL, iB, fI, fL, fB, hPX, hPM, R0⟩ := h
  have hx := X.1
  have hb := X.2.1
  obtain ⟨o, o2, e1, e2, e3⟩ := s_linked R0 (xs (nI i + nI 1).toNatClampNeg) (xs (nI i + nI 2).toNatClampNeg) (iI 31)
  refine lv_aload_n hx hb dL_law_804 rfl (lv_at hl 1 rfl) ?_
  refine sc_arg (k := 1) (kk := 1) (q := 0) hx hb hXs hbl hbA hS (lv_at hl 0 rfl) (lv_at hl 4 rfl) hL (by omega) (by decide) rfl dL_law_805 dL_law_806 dL_law_808 dL_law_809 dL_law_810 ?_
  refine sc_arg (k := 2) (kk := 2) (q := 0) hx hb hXs hbl hbA hS (lv_at hl 0 rfl) (lv_at hl 4 rfl) hL (by omega) (by decide) rfl dL_law_811 dL_law_812 dL_law_814 dL_law_815 dL_law_816 ?_
  refine kVG (rest := []) (k0 := 0) X hcs dL_law_817 wd_4_83 mw_X10_linked wd_4_84 wd_4_85 hPX rfl rfl rfl hS hAx (c_X10_linked e1) rfl hl.1 rfl (Nat.le_of_ble_eq_true rfl) rfl rfl ⟨Nat.le_of_ble_eq_true rfl, Nat.le_of_ble_eq_true rfl⟩ (fun H1 locs1 hPX1 z1 k1 hS1 => ?_)
  have hPM1 := hPM.stay k1 (fun q h1 h2 => hxm q h2 h1)
  refine W.eq (g2 := F0 m 820 ls [.int o]) rfl ?_
  refine lv_aload_n hx hb dL_law_820 rfl (lv_at hl 2 rfl) ?_
  refine sc_arg (k := 1) (kk := 1) (q := 0) hx hb hXs hbl hbA hS1 (lv_at hl 0 rfl) (lv_at hl 4 rfl) hL (by omega) (by decide) rfl dL_law_821 dL_law_822 dL_law_824 dL_law_825 dL_law_826 ?_
  refine sc_arg (k := 2) (kk := 2) (q := 0) hx hb hXs hbl hbA hS1 (lv_at hl 0 rfl) (lv_at hl 4 rfl) hL (by omega) (by decide) rfl dL_law_827 dL_law_828 dL_law_830 dL_law_831 dL_law_832 ?_
  refine kVG (rest := [.int o]) (k0 := 0) X hcs dL_law_833 wd_7_90 mw_X11_linked wd_7_91 wd_7_92 hPM1 rfl rfl rfl hS1 hAm (c_X11_linked e2) rfl hl.1 rfl (Nat.le_of_ble_eq_true rfl) rfl rfl ⟨Nat.le_of_ble_eq_true rfl, Nat.le_of_ble_eq_true rfl⟩ (fun H2 locs2 hPM2 z2 k2 hS2 => ?_)
  have hPX2 := hPX1.stay k2 hxm
  refine W.eq (g2 := F0 m 836 ls [.int o2.1, .int o]) rfl ?_
  refine lv_icmp_eq (tgt := 1535) hx hb dL_law_836 rfl (fun _ => ?_) (fun h => absurd (by rw [e3]) h)
  exact kk H2 locs2 (LW.mk hPX2 hPM2 R0) (fun q h1 h2 h3 => (k2 q (Nat.lt_of_lt_of_le h1 z1) h3).trans (k1 q h1 h2)) (Nat.le_trans z1 z2) hS2
theorem lc_clock (X : CX g A p s m args c cL_law nL RL) (hcs : cells ≤ rmL.cells ∧ slots ≤ rmL.slots) (hXs : va_X sc L xs s s.heap) (hbl : sc < s.heap.size) (hbA : ¬ A sc) (hL : L < 2 ^ 31) (hi : i + 6 ≤ L) (hAx : ∀ q, Ax q → A q) (hAm : ∀ q, Am q → A q) (hxm : ∀ q, Ax q → ¬ Am q) (hl : lv_has ls nL [(0, .ref sc), (1, .ref (qx 0)), (2, .ref (qm 0)), (3, .ref qo), (4, .int (nI i))]) (hS : va_S A s.heap H locs) (h : LW g Ax Am qx qm H) (kk : ∀ (H1 : Heap) (locs1 : List Loc), LW g Ax Am qx qm H1 → (∀ q : Nat, q < H.size → ¬ Ax q → ¬ Am q → H1[q]? = H[q]?) → H.size ≤ H1.size → va_S A s.heap H1 locs1 → W p l e rmL s m args below meth c H1 locs1 cells slots Q (F0 m 1535 ls [])) : W p l e rmL s m args below meth c H locs cells slots Q (F0 m 841 ls []) := by
  obtain ⟨iI, iL, iB, fI, fL, fB, hPX, hPM, R0⟩ := h
  have hx := X.1
  have hb := X.2.1
  obtain ⟨o, o2, e1, e2, e3, R1⟩ := s_clock R0 (xs (nI i + nI 1).toNatClampNeg) (iL 3) (iL 4) (iL 5) (iI 13) (iI 14) (iL 6) (iL 7) (iI 31) (iL 16) (iL 17) (iL 18) (iL 19) (iL 20) (iI 40)
  refine lv_aload_n hx hb dL_law_841 rfl (lv_at hl 1 rfl) ?_
  refine sc_arg (k := 1) (kk := 1) (q := 0) hx hb hXs hbl hbA hS (lv_at hl 0 rfl) (lv_at hl 4 rfl) hL (by omega) (by decide) rfl dL_law_842 dL_law_843 dL_law_845 dL_law_846 dL_law_847 ?_
  refine kVG (rest := []) (k0 := 0) X hcs dL_law_848 wd_4_87 mw_X10_clock wd_4_88 wd_4_89 hPX rfl rfl rfl hS hAx (c_X10_clock e1) rfl hl.1 rfl (Nat.le_of_ble_eq_true rfl) rfl rfl ⟨Nat.le_of_ble_eq_true rfl, Nat.le_of_ble_eq_true rfl⟩ (fun H1 locs1 hPX1 z1 k1 hS1 => ?_)
  have hPM1 := hPM.stay k1 (fun q h1 h2 => hxm q h2 h1)
  refine W.eq (g2 := F0 m 851 ls [.int o.1]) rfl ?_
  refine lv_aload_n hx hb dL_law_851 rfl (lv_at hl 2 rfl) ?_
  refine sc_arg (k := 1) (kk := 1) (q := 0) hx hb hXs hbl hbA hS1 (lv_at hl 0 rfl) (lv_at hl 4 rfl) hL (by omega) (by decide) rfl dL_law_852 dL_law_853 dL_law_855 dL_law_856 dL_law_857 ?_
  refine kVG (rest := [.int o.1]) (k0 := 0) X hcs dL_law_858 wd_7_94 mw_X11_clock wd_7_95 wd_7_96 hPM1 rfl rfl rfl hS1 hAm (c_X11_clock e2) rfl hl.1 rfl (Nat.le_of_ble_eq_true rfl) rfl rfl ⟨Nat.le_of_ble_eq_true rfl, Nat.le_of_ble_eq_true rfl⟩ (fun H2 locs2 hPM2 z2 k2 hS2 => ?_)
  have hPX2 := hPX1.stay k2 hxm
  refine W.eq (g2 := F0 m 861 ls [.int o2.1, .int o.1]) rfl ?_
  refine lv_icmp_eq (tgt := 1535) hx hb dL_law_861 rfl (fun _ => ?_) (fun h => absurd (by rw [e3]) h)
  exact kk H2 locs2 (LW.mk hPX2 hPM2 R1) (fun q h1 h2 h3 => (k2 q (Nat.lt_of_lt_of_le h1 z1) h3).trans (k1 q h1 h2)) (Nat.le_trans z1 z2) hS2
theorem lc_result (X : CX g A p s m args c cL_law nL RL) (hcs : cells ≤ rmL.cells ∧ slots ≤ rmL.slots) (hXs : va_X sc L xs s s.heap) (hbl : sc < s.heap.size) (hbA : ¬ A sc) (hL : L < 2 ^ 31) (hi : i + 6 ≤ L) (hAx : ∀ q, Ax q → A q) (hAm : ∀ q, Am q → A q) (hxm : ∀ q, Ax q → ¬ Am q) (hl : lv_has ls nL [(0, .ref sc), (1, .ref (qx 0)), (2, .ref (qm 0)), (3, .ref qo), (4, .int (nI i))]) (hS : va_S A s.heap H locs) (h : LW g Ax Am qx qm H) (kk : ∀ (H1 : Heap) (locs1 : List Loc), LW g Ax Am qx qm H1 → (∀ q : Nat, q < H.size → ¬ Ax q → ¬ Am q → H1[q]? = H[q]?) → H.size ≤ H1.size → va_S A s.heap H1 locs1 → W p l e rmL s m args below meth c H1 locs1 cells slots Q (F0 m 1535 ls [])) : W p l e rmL s m args below meth c H locs cells slots Q (F0 m 975 ls []) := by
  obtain ⟨iI, iL, iB, fI, fL, fB, hPX, hPM, R0⟩ := h
  have hx := X.1
  have hb := X.2.1
  obtain ⟨o, o2, e1, e2, e3⟩ := s_result R0 (xs (nI i + nI 1).toNatClampNeg) (xs (nI i + nI 2).toNatClampNeg) (iL 3) (iL 4) (iL 5) (iI 13) (iI 14) (iL 6) (iL 7) (iI 31)
  refine lv_aload_n hx hb dL_law_975 rfl (lv_at hl 1 rfl) ?_
  refine sc_arg (k := 1) (kk := 1) (q := 0) hx hb hXs hbl hbA hS (lv_at hl 0 rfl) (lv_at hl 4 rfl) hL (by omega) (by decide) rfl dL_law_976 dL_law_977 dL_law_979 dL_law_980 dL_law_981 ?_
  refine sc_arg (k := 2) (kk := 2) (q := 0) hx hb hXs hbl hbA hS (lv_at hl 0 rfl) (lv_at hl 4 rfl) hL (by omega) (by decide) rfl dL_law_982 dL_law_983 dL_law_985 dL_law_986 dL_law_987 ?_
  refine kVG (rest := []) (k0 := 0) X hcs dL_law_988 wd_4_126 mw_X10_result wd_4_127 wd_4_128 hPX rfl rfl rfl hS hAx (c_X10_result e1) rfl hl.1 rfl (Nat.le_of_ble_eq_true rfl) rfl rfl ⟨Nat.le_of_ble_eq_true rfl, Nat.le_of_ble_eq_true rfl⟩ (fun H1 locs1 hPX1 z1 k1 hS1 => ?_)
  have hPM1 := hPM.stay k1 (fun q h1 h2 => hxm q h2 h1)
  refine W.eq (g2 := F0 m 991 ls [.int o.1]) rfl ?_
  refine lv_aload_n hx hb dL_law_991 rfl (lv_at hl 2 rfl) ?_
  refine sc_arg (k := 1) (kk := 1) (q := 0) hx hb hXs hbl hbA hS1 (lv_at hl 0 rfl) (lv_at hl 4 rfl) hL (by omega) (by decide) rfl dL_law_992 dL_law_993 dL_law_995 dL_law_996 dL_law_997 ?_
  refine sc_arg (k := 2) (kk := 2) (q := 0) hx hb hXs hbl hbA hS1 (lv_at hl 0 rfl) (lv_at hl 4 rfl) hL (by omega) (by decide) rfl dL_law_998 dL_law_999 dL_law_1001 dL_law_1002 dL_law_1003 ?_
  refine kVG (rest := [.int o.1]) (k0 := 0) X hcs dL_law_1004 wd_7_148 mw_X11_result wd_7_149 wd_7_150 hPM1 rfl rfl rfl hS1 hAm (c_X11_result e2) rfl hl.1 rfl (Nat.le_of_ble_eq_true rfl) rfl rfl ⟨Nat.le_of_ble_eq_true rfl, Nat.le_of_ble_eq_true rfl⟩ (fun H2 locs2 hPM2 z2 k2 hS2 => ?_)
  have hPX2 := hPX1.stay k2 hxm
  refine W.eq (g2 := F0 m 1007 ls [.int o2.1, .int o.1]) rfl ?_
  refine lv_icmp_eq (tgt := 1535) hx hb dL_law_1007 rfl (fun _ => ?_) (fun h => absurd (by rw [e3]) h)
  exact kk H2 locs2 (LW.mk hPX2 hPM2 R0) (fun q h1 h2 h3 => (k2 q (Nat.lt_of_lt_of_le h1 z1) h3).trans (k1 q h1 h2)) (Nat.le_trans z1 z2) hS2
theorem lc_trace (X : CX g A p s m args c cL_law nL RL) (hcs : cells ≤ rmL.cells ∧ slots ≤ rmL.slots) (hXs : va_X sc L xs s s.heap) (hbl : sc < s.heap.size) (hbA : ¬ A sc) (hL : L < 2 ^ 31) (hi : i + 6 ≤ L) (hAx : ∀ q, Ax q → A q) (hAm : ∀ q, Am q → A q) (hxm : ∀ q, Ax q → ¬ Am q) (hl : lv_has ls nL [(0, .ref sc), (1, .ref (qx 0)), (2, .ref (qm 0)), (3, .ref qo), (4, .int (nI i))]) (hS : va_S A s.heap H locs) (h : LW g Ax Am qx qm H) (kk : ∀ (H1 : Heap) (locs1 : List Loc), LW g Ax Am qx qm H1 → (∀ q : Nat, q < H.size → ¬ Ax q → ¬ Am q → H1[q]? = H[q]?) → H.size ≤ H1.size → va_S A s.heap H1 locs1 → W p l e rmL s m args below meth c H1 locs1 cells slots Q (F0 m 1535 ls [])) : W p l e rmL s m args below meth c H locs cells slots Q (F0 m 1012 ls []) := by
  obtain ⟨iI, iL, iB, fI, fL, fB, hPX, hPM, R0⟩ := h
  have hx := X.1
  have hb := X.2.1
  obtain ⟨o, o2, e1, e2, e3⟩ := s_trace R0 (xs (nI i + nI 1).toNatClampNeg) (xs (nI i + nI 2).toNatClampNeg) (xs (nI i + nI 3).toNatClampNeg) (iL 3) (iL 4) (iL 5) (iI 13) (iI 14) (iL 6) (iL 7) (iI 31)
  refine lv_aload_n hx hb dL_law_1012 rfl (lv_at hl 1 rfl) ?_
  refine sc_arg (k := 1) (kk := 1) (q := 0) hx hb hXs hbl hbA hS (lv_at hl 0 rfl) (lv_at hl 4 rfl) hL (by omega) (by decide) rfl dL_law_1013 dL_law_1014 dL_law_1016 dL_law_1017 dL_law_1018 ?_
  refine sc_arg (k := 2) (kk := 2) (q := 0) hx hb hXs hbl hbA hS (lv_at hl 0 rfl) (lv_at hl 4 rfl) hL (by omega) (by decide) rfl dL_law_1019 dL_law_1020 dL_law_1022 dL_law_1023 dL_law_1024 ?_
  refine sc_arg (k := 3) (kk := 3) (q := 0) hx hb hXs hbl hbA hS (lv_at hl 0 rfl) (lv_at hl 4 rfl) hL (by omega) (by decide) rfl dL_law_1025 dL_law_1026 dL_law_1028 dL_law_1029 dL_law_1030 ?_
  refine kVG (rest := []) (k0 := 0) X hcs dL_law_1031 wd_4_130 mw_X10_trace wd_4_131 wd_4_132 hPX rfl rfl rfl hS hAx (c_X10_trace e1) rfl hl.1 rfl (Nat.le_of_ble_eq_true rfl) rfl rfl ⟨Nat.le_of_ble_eq_true rfl, Nat.le_of_ble_eq_true rfl⟩ (fun H1 locs1 hPX1 z1 k1 hS1 => ?_)
  have hPM1 := hPM.stay k1 (fun q h1 h2 => hxm q h2 h1)
  refine W.eq (g2 := F0 m 1034 ls [.long o.1]) rfl ?_
  refine lv_aload_n hx hb dL_law_1034 rfl (lv_at hl 2 rfl) ?_
  refine sc_arg (k := 1) (kk := 1) (q := 0) hx hb hXs hbl hbA hS1 (lv_at hl 0 rfl) (lv_at hl 4 rfl) hL (by omega) (by decide) rfl dL_law_1035 dL_law_1036 dL_law_1038 dL_law_1039 dL_law_1040 ?_
  refine sc_arg (k := 2) (kk := 2) (q := 0) hx hb hXs hbl hbA hS1 (lv_at hl 0 rfl) (lv_at hl 4 rfl) hL (by omega) (by decide) rfl dL_law_1041 dL_law_1042 dL_law_1044 dL_law_1045 dL_law_1046 ?_
  refine sc_arg (k := 3) (kk := 3) (q := 0) hx hb hXs hbl hbA hS1 (lv_at hl 0 rfl) (lv_at hl 4 rfl) hL (by omega) (by decide) rfl dL_law_1047 dL_law_1048 dL_law_1050 dL_law_1051 dL_law_1052 ?_
  refine kVG (rest := [.long o.1]) (k0 := 0) X hcs dL_law_1053 wd_7_152 mw_X11_trace wd_7_153 wd_7_154 hPM1 rfl rfl rfl hS1 hAm (c_X11_trace e2) rfl hl.1 rfl (Nat.le_of_ble_eq_true rfl) rfl rfl ⟨Nat.le_of_ble_eq_true rfl, Nat.le_of_ble_eq_true rfl⟩ (fun H2 locs2 hPM2 z2 k2 hS2 => ?_)
  have hPX2 := hPX1.stay k2 hxm
  refine W.eq (g2 := F0 m 1056 ls [.long o2.1, .long o.1]) rfl ?_
  refine W.lcmp hx hb dL_law_1056 ?_
  refine lv_if_eq (tgt := 1535) hx hb dL_law_1057 rfl (fun _ => ?_) (fun h => absurd ((lg_cmp_eq _ _).mpr e3) h)
  exact kk H2 locs2 (LW.mk hPX2 hPM2 R0) (fun q h1 h2 h3 => (k2 q (Nat.lt_of_lt_of_le h1 z1) h3).trans (k1 q h1 h2)) (Nat.le_trans z1 z2) hS2
theorem lc_signs (X : CX g A p s m args c cL_law nL RL) (hcs : cells ≤ rmL.cells ∧ slots ≤ rmL.slots) (hXs : va_X sc L xs s s.heap) (hbl : sc < s.heap.size) (hbA : ¬ A sc) (hL : L < 2 ^ 31) (hi : i + 6 ≤ L) (hAx : ∀ q, Ax q → A q) (hAm : ∀ q, Am q → A q) (hxm : ∀ q, Ax q → ¬ Am q) (hl : lv_has ls nL [(0, .ref sc), (1, .ref (qx 0)), (2, .ref (qm 0)), (3, .ref qo), (4, .int (nI i))]) (hS : va_S A s.heap H locs) (h : LW g Ax Am qx qm H) (kk : ∀ (H1 : Heap) (locs1 : List Loc), LW g Ax Am qx qm H1 → (∀ q : Nat, q < H.size → ¬ Ax q → ¬ Am q → H1[q]? = H[q]?) → H.size ≤ H1.size → va_S A s.heap H1 locs1 → W p l e rmL s m args below meth c H1 locs1 cells slots Q (F0 m 1535 ls [])) : W p l e rmL s m args below meth c H locs cells slots Q (F0 m 1062 ls []) := by
  obtain ⟨iI, iL, iB, fI, fL, fB, hPX, hPM, R0⟩ := h
  have hx := X.1
  have hb := X.2.1
  obtain ⟨o, o2, e1, e2, e3⟩ := s_signs R0 (xs (nI i + nI 1).toNatClampNeg) (iL 3) (iL 4) (iL 5) (iI 13) (iI 14) (iL 6) (iL 7) (iI 31)
  refine lv_aload_n hx hb dL_law_1062 rfl (lv_at hl 1 rfl) ?_
  refine sc_arg (k := 1) (kk := 1) (q := 0) hx hb hXs hbl hbA hS (lv_at hl 0 rfl) (lv_at hl 4 rfl) hL (by omega) (by decide) rfl dL_law_1063 dL_law_1064 dL_law_1066 dL_law_1067 dL_law_1068 ?_
  refine kVG (rest := []) (k0 := 0) X hcs dL_law_1069 wd_4_145 mw_X10_signs wd_4_146 wd_4_147 hPX rfl rfl rfl hS hAx (c_X10_signs e1) rfl hl.1 rfl (Nat.le_of_ble_eq_true rfl) rfl rfl ⟨Nat.le_of_ble_eq_true rfl, Nat.le_of_ble_eq_true rfl⟩ (fun H1 locs1 hPX1 z1 k1 hS1 => ?_)
  have hPM1 := hPM.stay k1 (fun q h1 h2 => hxm q h2 h1)
  refine W.eq (g2 := F0 m 1072 ls [.int o.1]) rfl ?_
  refine lv_aload_n hx hb dL_law_1072 rfl (lv_at hl 2 rfl) ?_
  refine sc_arg (k := 1) (kk := 1) (q := 0) hx hb hXs hbl hbA hS1 (lv_at hl 0 rfl) (lv_at hl 4 rfl) hL (by omega) (by decide) rfl dL_law_1073 dL_law_1074 dL_law_1076 dL_law_1077 dL_law_1078 ?_
  refine kVG (rest := [.int o.1]) (k0 := 0) X hcs dL_law_1079 wd_7_160 mw_X11_signs wd_7_161 wd_7_162 hPM1 rfl rfl rfl hS1 hAm (c_X11_signs e2) rfl hl.1 rfl (Nat.le_of_ble_eq_true rfl) rfl rfl ⟨Nat.le_of_ble_eq_true rfl, Nat.le_of_ble_eq_true rfl⟩ (fun H2 locs2 hPM2 z2 k2 hS2 => ?_)
  have hPX2 := hPX1.stay k2 hxm
  refine W.eq (g2 := F0 m 1082 ls [.int o2.1, .int o.1]) rfl ?_
  refine lv_icmp_eq (tgt := 1535) hx hb dL_law_1082 rfl (fun _ => ?_) (fun h => absurd (by rw [e3]) h)
  exact kk H2 locs2 (LW.mk hPX2 hPM2 R0) (fun q h1 h2 h3 => (k2 q (Nat.lt_of_lt_of_le h1 z1) h3).trans (k1 q h1 h2)) (Nat.le_trans z1 z2) hS2
theorem lc_register (X : CX g A p s m args c cL_law nL RL) (hcs : cells ≤ rmL.cells ∧ slots ≤ rmL.slots) (hXs : va_X sc L xs s s.heap) (hbl : sc < s.heap.size) (hbA : ¬ A sc) (hL : L < 2 ^ 31) (hi : i + 6 ≤ L) (hAx : ∀ q, Ax q → A q) (hAm : ∀ q, Am q → A q) (hxm : ∀ q, Ax q → ¬ Am q) (hl : lv_has ls nL [(0, .ref sc), (1, .ref (qx 0)), (2, .ref (qm 0)), (3, .ref qo), (4, .int (nI i))]) (hS : va_S A s.heap H locs) (h : LW g Ax Am qx qm H) (kk : ∀ (H1 : Heap) (locs1 : List Loc), LW g Ax Am qx qm H1 → (∀ q : Nat, q < H.size → ¬ Ax q → ¬ Am q → H1[q]? = H[q]?) → H.size ≤ H1.size → va_S A s.heap H1 locs1 → W p l e rmL s m args below meth c H1 locs1 cells slots Q (F0 m 1535 ls [])) : W p l e rmL s m args below meth c H locs cells slots Q (F0 m 1087 ls []) := by
  obtain ⟨iI, iL, iB, fI, fL, fB, hPX, hPM, R0⟩ := h
  have hx := X.1
  have hb := X.2.1
  obtain ⟨o, o2, e1, e2, e3⟩ := s_register R0 (xs (nI i + nI 1).toNatClampNeg) (iI 31)
  refine lv_aload_n hx hb dL_law_1087 rfl (lv_at hl 1 rfl) ?_
  refine sc_arg (k := 1) (kk := 1) (q := 0) hx hb hXs hbl hbA hS (lv_at hl 0 rfl) (lv_at hl 4 rfl) hL (by omega) (by decide) rfl dL_law_1088 dL_law_1089 dL_law_1091 dL_law_1092 dL_law_1093 ?_
  refine kVG (rest := []) (k0 := 0) X hcs dL_law_1094 wd_4_149 mw_X10_register wd_4_150 wd_4_151 hPX rfl rfl rfl hS hAx (c_X10_register e1) rfl hl.1 rfl (Nat.le_of_ble_eq_true rfl) rfl rfl ⟨Nat.le_of_ble_eq_true rfl, Nat.le_of_ble_eq_true rfl⟩ (fun H1 locs1 hPX1 z1 k1 hS1 => ?_)
  have hPM1 := hPM.stay k1 (fun q h1 h2 => hxm q h2 h1)
  refine W.eq (g2 := F0 m 1097 ls [.int o]) rfl ?_
  refine lv_aload_n hx hb dL_law_1097 rfl (lv_at hl 2 rfl) ?_
  refine sc_arg (k := 1) (kk := 1) (q := 0) hx hb hXs hbl hbA hS1 (lv_at hl 0 rfl) (lv_at hl 4 rfl) hL (by omega) (by decide) rfl dL_law_1098 dL_law_1099 dL_law_1101 dL_law_1102 dL_law_1103 ?_
  refine kVG (rest := [.int o]) (k0 := 0) X hcs dL_law_1104 wd_7_164 mw_X11_register wd_7_165 wd_7_166 hPM1 rfl rfl rfl hS1 hAm (c_X11_register e2) rfl hl.1 rfl (Nat.le_of_ble_eq_true rfl) rfl rfl ⟨Nat.le_of_ble_eq_true rfl, Nat.le_of_ble_eq_true rfl⟩ (fun H2 locs2 hPM2 z2 k2 hS2 => ?_)
  have hPX2 := hPX1.stay k2 hxm
  refine W.eq (g2 := F0 m 1107 ls [.int o2.1, .int o]) rfl ?_
  refine lv_icmp_eq (tgt := 1535) hx hb dL_law_1107 rfl (fun _ => ?_) (fun h => absurd (by rw [e3]) h)
  exact kk H2 locs2 (LW.mk hPX2 hPM2 R0) (fun q h1 h2 h3 => (k2 q (Nat.lt_of_lt_of_le h1 z1) h3).trans (k1 q h1 h2)) (Nat.le_trans z1 z2) hS2
theorem lc_place (X : CX g A p s m args c cL_law nL RL) (hcs : cells ≤ rmL.cells ∧ slots ≤ rmL.slots) (hXs : va_X sc L xs s s.heap) (hbl : sc < s.heap.size) (hbA : ¬ A sc) (hL : L < 2 ^ 31) (hi : i + 6 ≤ L) (hAx : ∀ q, Ax q → A q) (hAm : ∀ q, Am q → A q) (hxm : ∀ q, Ax q → ¬ Am q) (hl : lv_has ls nL [(0, .ref sc), (1, .ref (qx 0)), (2, .ref (qm 0)), (3, .ref qo), (4, .int (nI i))]) (hS : va_S A s.heap H locs) (h : LW g Ax Am qx qm H) (kk : ∀ (H1 : Heap) (locs1 : List Loc), LW g Ax Am qx qm H1 → (∀ q : Nat, q < H.size → ¬ Ax q → ¬ Am q → H1[q]? = H[q]?) → H.size ≤ H1.size → va_S A s.heap H1 locs1 → W p l e rmL s m args below meth c H1 locs1 cells slots Q (F0 m 1535 ls [])) : W p l e rmL s m args below meth c H locs cells slots Q (F0 m 1112 ls []) := by
  obtain ⟨iI, iL, iB, fI, fL, fB, hPX, hPM, R0⟩ := h
  have hx := X.1
  have hb := X.2.1
  obtain ⟨o, o2, e1, e2, e3⟩ := s_place R0 (xs (nI i + nI 1).toNatClampNeg) (iI 31)
  refine lv_aload_n hx hb dL_law_1112 rfl (lv_at hl 1 rfl) ?_
  refine sc_arg (k := 1) (kk := 1) (q := 0) hx hb hXs hbl hbA hS (lv_at hl 0 rfl) (lv_at hl 4 rfl) hL (by omega) (by decide) rfl dL_law_1113 dL_law_1114 dL_law_1116 dL_law_1117 dL_law_1118 ?_
  refine kVG (rest := []) (k0 := 0) X hcs dL_law_1119 wd_4_157 mw_X10_place wd_4_158 wd_4_159 hPX rfl rfl rfl hS hAx (c_X10_place e1) rfl hl.1 rfl (Nat.le_of_ble_eq_true rfl) rfl rfl ⟨Nat.le_of_ble_eq_true rfl, Nat.le_of_ble_eq_true rfl⟩ (fun H1 locs1 hPX1 z1 k1 hS1 => ?_)
  have hPM1 := hPM.stay k1 (fun q h1 h2 => hxm q h2 h1)
  refine W.eq (g2 := F0 m 1122 ls [.int o]) rfl ?_
  refine lv_aload_n hx hb dL_law_1122 rfl (lv_at hl 2 rfl) ?_
  refine sc_arg (k := 1) (kk := 1) (q := 0) hx hb hXs hbl hbA hS1 (lv_at hl 0 rfl) (lv_at hl 4 rfl) hL (by omega) (by decide) rfl dL_law_1123 dL_law_1124 dL_law_1126 dL_law_1127 dL_law_1128 ?_
  refine kVG (rest := [.int o]) (k0 := 0) X hcs dL_law_1129 wd_7_168 mw_X11_place wd_7_169 wd_7_170 hPM1 rfl rfl rfl hS1 hAm (c_X11_place e2) rfl hl.1 rfl (Nat.le_of_ble_eq_true rfl) rfl rfl ⟨Nat.le_of_ble_eq_true rfl, Nat.le_of_ble_eq_true rfl⟩ (fun H2 locs2 hPM2 z2 k2 hS2 => ?_)
  have hPX2 := hPX1.stay k2 hxm
  refine W.eq (g2 := F0 m 1132 ls [.int o2.1, .int o]) rfl ?_
  refine lv_icmp_eq (tgt := 1535) hx hb dL_law_1132 rfl (fun _ => ?_) (fun h => absurd (by rw [e3]) h)
  exact kk H2 locs2 (LW.mk hPX2 hPM2 R0) (fun q h1 h2 h3 => (k2 q (Nat.lt_of_lt_of_le h1 z1) h3).trans (k1 q h1 h2)) (Nat.le_trans z1 z2) hS2
theorem lc_allOver (X : CX g A p s m args c cL_law nL RL) (hcs : cells ≤ rmL.cells ∧ slots ≤ rmL.slots) (hXs : va_X sc L xs s s.heap) (hbl : sc < s.heap.size) (hbA : ¬ A sc) (hL : L < 2 ^ 31) (hi : i + 6 ≤ L) (hAx : ∀ q, Ax q → A q) (hAm : ∀ q, Am q → A q) (hxm : ∀ q, Ax q → ¬ Am q) (hl : lv_has ls nL [(0, .ref sc), (1, .ref (qx 0)), (2, .ref (qm 0)), (3, .ref qo), (4, .int (nI i))]) (hS : va_S A s.heap H locs) (h : LW g Ax Am qx qm H) (kk : ∀ (H1 : Heap) (locs1 : List Loc), LW g Ax Am qx qm H1 → (∀ q : Nat, q < H.size → ¬ Ax q → ¬ Am q → H1[q]? = H[q]?) → H.size ≤ H1.size → va_S A s.heap H1 locs1 → W p l e rmL s m args below meth c H1 locs1 cells slots Q (F0 m 1535 ls [])) : W p l e rmL s m args below meth c H locs cells slots Q (F0 m 1137 ls []) := by
  obtain ⟨iI, iL, iB, fI, fL, fB, hPX, hPM, R0⟩ := h
  have hx := X.1
  have hb := X.2.1
  obtain ⟨o, o2, e1, e2, e3, R1⟩ := s_allOver R0  (iL 3) (iL 4) (iL 5) (iI 13) (iI 14) (iL 6) (iL 7) (iI 28) (iI 29) (iI 30) (iB 8) (fI 24) (fI 25) (fI 26) (fI 27) (fI 28) (fI 29) (fI 30) (fI 31) (iI 31) (iL 16) (iL 17) (iL 18) (iL 19) (iL 20) (iI 40) (fI 46) (fI 48) (fL 10)
  refine lv_aload_n hx hb dL_law_1137 rfl (lv_at hl 1 rfl) ?_
  refine kVG (rest := []) (k0 := 0) X hcs dL_law_1138 wd_4_162 mw_X10_allOver wd_4_163 wd_4_164 hPX rfl rfl rfl hS hAx (c_X10_allOver e1) rfl hl.1 rfl (Nat.le_of_ble_eq_true rfl) rfl rfl ⟨Nat.le_of_ble_eq_true rfl, Nat.le_of_ble_eq_true rfl⟩ (fun H1 locs1 hPX1 z1 k1 hS1 => ?_)
  have hPM1 := hPM.stay k1 (fun q h1 h2 => hxm q h2 h1)
  refine W.eq (g2 := F0 m 1141 ls [.int o.1]) rfl ?_
  refine lv_aload_n hx hb dL_law_1141 rfl (lv_at hl 2 rfl) ?_
  refine kVG (rest := [.int o.1]) (k0 := 0) X hcs dL_law_1142 wd_7_172 mw_X11_allOver wd_7_173 wd_7_174 hPM1 rfl rfl rfl hS1 hAm (c_X11_allOver e2) rfl hl.1 rfl (Nat.le_of_ble_eq_true rfl) rfl rfl ⟨Nat.le_of_ble_eq_true rfl, Nat.le_of_ble_eq_true rfl⟩ (fun H2 locs2 hPM2 z2 k2 hS2 => ?_)
  have hPX2 := hPX1.stay k2 hxm
  refine W.eq (g2 := F0 m 1145 ls [.int o2.1, .int o.1]) rfl ?_
  refine lv_icmp_eq (tgt := 1535) hx hb dL_law_1145 rfl (fun _ => ?_) (fun h => absurd (by rw [e3]) h)
  exact kk H2 locs2 (LW.mk hPX2 hPM2 R1) (fun q h1 h2 h3 => (k2 q (Nat.lt_of_lt_of_le h1 z1) h3).trans (k1 q h1 h2)) (Nat.le_trans z1 z2) hS2
theorem lc_finest (X : CX g A p s m args c cL_law nL RL) (hcs : cells ≤ rmL.cells ∧ slots ≤ rmL.slots) (hXs : va_X sc L xs s s.heap) (hbl : sc < s.heap.size) (hbA : ¬ A sc) (hL : L < 2 ^ 31) (hi : i + 6 ≤ L) (hAx : ∀ q, Ax q → A q) (hAm : ∀ q, Am q → A q) (hxm : ∀ q, Ax q → ¬ Am q) (hl : lv_has ls nL [(0, .ref sc), (1, .ref (qx 0)), (2, .ref (qm 0)), (3, .ref qo), (4, .int (nI i))]) (hS : va_S A s.heap H locs) (h : LW g Ax Am qx qm H) (kk : ∀ (H1 : Heap) (locs1 : List Loc), LW g Ax Am qx qm H1 → (∀ q : Nat, q < H.size → ¬ Ax q → ¬ Am q → H1[q]? = H[q]?) → H.size ≤ H1.size → va_S A s.heap H1 locs1 → W p l e rmL s m args below meth c H1 locs1 cells slots Q (F0 m 1535 ls [])) : W p l e rmL s m args below meth c H locs cells slots Q (F0 m 1150 ls []) := by
  obtain ⟨iI, iL, iB, fI, fL, fB, hPX, hPM, R0⟩ := h
  have hx := X.1
  have hb := X.2.1
  obtain ⟨o, o2, e1, e2, e3⟩ := s_finest R0 (xs (nI i + nI 1).toNatClampNeg) (xs (nI i + nI 2).toNatClampNeg) (xs (nI i + nI 3).toNatClampNeg) (xs (nI i + nI 4).toNatClampNeg) (xs (nI i + nI 5).toNatClampNeg) (iL 3) (iL 4) (iL 5) (iI 13) (iI 14) (iL 6) (iL 7) (iL 11) (iL 12) (iL 13) (iI 20) (iI 21) (iL 14) (iL 15) (iI 31) (iL 16) (iL 17) (iL 18) (iL 19) (iL 20) (iI 40)
  refine lv_aload_n hx hb dL_law_1150 rfl (lv_at hl 1 rfl) ?_
  refine sc_arg (k := 1) (kk := 1) (q := 0) hx hb hXs hbl hbA hS (lv_at hl 0 rfl) (lv_at hl 4 rfl) hL (by omega) (by decide) rfl dL_law_1151 dL_law_1152 dL_law_1154 dL_law_1155 dL_law_1156 ?_
  refine sc_arg (k := 2) (kk := 2) (q := 0) hx hb hXs hbl hbA hS (lv_at hl 0 rfl) (lv_at hl 4 rfl) hL (by omega) (by decide) rfl dL_law_1157 dL_law_1158 dL_law_1160 dL_law_1161 dL_law_1162 ?_
  refine sc_arg (k := 3) (kk := 3) (q := 0) hx hb hXs hbl hbA hS (lv_at hl 0 rfl) (lv_at hl 4 rfl) hL (by omega) (by decide) rfl dL_law_1163 dL_law_1164 dL_law_1166 dL_law_1167 dL_law_1168 ?_
  refine sc_arg (k := 4) (kk := 4) (q := 0) hx hb hXs hbl hbA hS (lv_at hl 0 rfl) (lv_at hl 4 rfl) hL (by omega) (by decide) rfl dL_law_1169 dL_law_1170 dL_law_1172 dL_law_1173 dL_law_1174 ?_
  refine sc_arg (k := 5) (kk := 5) (q := 0) hx hb hXs hbl hbA hS (lv_at hl 0 rfl) (lv_at hl 4 rfl) hL (by omega) (by decide) rfl dL_law_1175 dL_law_1176 dL_law_1178 dL_law_1179 dL_law_1180 ?_
  refine kVG (rest := []) (k0 := 0) X hcs dL_law_1181 wd_4_174 mw_X10_finest wd_4_175 wd_4_176 hPX rfl rfl rfl hS hAx (c_X10_finest e1) rfl hl.1 rfl (Nat.le_of_ble_eq_true rfl) rfl rfl ⟨Nat.le_of_ble_eq_true rfl, Nat.le_of_ble_eq_true rfl⟩ (fun H1 locs1 hPX1 z1 k1 hS1 => ?_)
  have hPM1 := hPM.stay k1 (fun q h1 h2 => hxm q h2 h1)
  refine W.eq (g2 := F0 m 1184 ls [.int o.1]) rfl ?_
  refine lv_aload_n hx hb dL_law_1184 rfl (lv_at hl 2 rfl) ?_
  refine sc_arg (k := 1) (kk := 1) (q := 0) hx hb hXs hbl hbA hS1 (lv_at hl 0 rfl) (lv_at hl 4 rfl) hL (by omega) (by decide) rfl dL_law_1185 dL_law_1186 dL_law_1188 dL_law_1189 dL_law_1190 ?_
  refine sc_arg (k := 2) (kk := 2) (q := 0) hx hb hXs hbl hbA hS1 (lv_at hl 0 rfl) (lv_at hl 4 rfl) hL (by omega) (by decide) rfl dL_law_1191 dL_law_1192 dL_law_1194 dL_law_1195 dL_law_1196 ?_
  refine sc_arg (k := 3) (kk := 3) (q := 0) hx hb hXs hbl hbA hS1 (lv_at hl 0 rfl) (lv_at hl 4 rfl) hL (by omega) (by decide) rfl dL_law_1197 dL_law_1198 dL_law_1200 dL_law_1201 dL_law_1202 ?_
  refine sc_arg (k := 4) (kk := 4) (q := 0) hx hb hXs hbl hbA hS1 (lv_at hl 0 rfl) (lv_at hl 4 rfl) hL (by omega) (by decide) rfl dL_law_1203 dL_law_1204 dL_law_1206 dL_law_1207 dL_law_1208 ?_
  refine sc_arg (k := 5) (kk := 5) (q := 0) hx hb hXs hbl hbA hS1 (lv_at hl 0 rfl) (lv_at hl 4 rfl) hL (by omega) (by decide) rfl dL_law_1209 dL_law_1210 dL_law_1212 dL_law_1213 dL_law_1214 ?_
  refine kVG (rest := [.int o.1]) (k0 := 0) X hcs dL_law_1215 wd_7_14 mw_X11_finest wd_7_15 wd_7_16 hPM1 rfl rfl rfl hS1 hAm (c_X11_finest e2) rfl hl.1 rfl (Nat.le_of_ble_eq_true rfl) rfl rfl ⟨Nat.le_of_ble_eq_true rfl, Nat.le_of_ble_eq_true rfl⟩ (fun H2 locs2 hPM2 z2 k2 hS2 => ?_)
  have hPX2 := hPX1.stay k2 hxm
  refine W.eq (g2 := F0 m 1218 ls [.int o2.1, .int o.1]) rfl ?_
  refine lv_icmp_eq (tgt := 1535) hx hb dL_law_1218 rfl (fun _ => ?_) (fun h => absurd (by rw [e3]) h)
  exact kk H2 locs2 (LW.mk hPX2 hPM2 R0) (fun q h1 h2 h3 => (k2 q (Nat.lt_of_lt_of_le h1 z1) h3).trans (k1 q h1 h2)) (Nat.le_trans z1 z2) hS2
theorem lc_apart (X : CX g A p s m args c cL_law nL RL) (hcs : cells ≤ rmL.cells ∧ slots ≤ rmL.slots) (hXs : va_X sc L xs s s.heap) (hbl : sc < s.heap.size) (hbA : ¬ A sc) (hL : L < 2 ^ 31) (hi : i + 6 ≤ L) (hAx : ∀ q, Ax q → A q) (hAm : ∀ q, Am q → A q) (hxm : ∀ q, Ax q → ¬ Am q) (hl : lv_has ls nL [(0, .ref sc), (1, .ref (qx 0)), (2, .ref (qm 0)), (3, .ref qo), (4, .int (nI i))]) (hS : va_S A s.heap H locs) (h : LW g Ax Am qx qm H) (kk : ∀ (H1 : Heap) (locs1 : List Loc), LW g Ax Am qx qm H1 → (∀ q : Nat, q < H.size → ¬ Ax q → ¬ Am q → H1[q]? = H[q]?) → H.size ≤ H1.size → va_S A s.heap H1 locs1 → W p l e rmL s m args below meth c H1 locs1 cells slots Q (F0 m 1535 ls [])) : W p l e rmL s m args below meth c H locs cells slots Q (F0 m 1223 ls []) := by
  obtain ⟨iI, iL, iB, fI, fL, fB, hPX, hPM, R0⟩ := h
  have hx := X.1
  have hb := X.2.1
  obtain ⟨o, o2, e1, e2, e3⟩ := s_apart R0 (xs (nI i + nI 1).toNatClampNeg) (xs (nI i + nI 2).toNatClampNeg) (xs (nI i + nI 3).toNatClampNeg) (xs (nI i + nI 4).toNatClampNeg) (xs (nI i + nI 5).toNatClampNeg) (iL 3) (iL 4) (iL 5) (iI 13) (iI 14) (iL 6) (iL 7) (iL 11) (iL 12) (iL 13) (iI 20) (iI 21) (iL 14) (iL 15) (iI 31) (iL 16) (iL 17) (iL 18) (iL 19) (iL 20) (iI 40)
  refine lv_aload_n hx hb dL_law_1223 rfl (lv_at hl 1 rfl) ?_
  refine sc_arg (k := 1) (kk := 1) (q := 0) hx hb hXs hbl hbA hS (lv_at hl 0 rfl) (lv_at hl 4 rfl) hL (by omega) (by decide) rfl dL_law_1224 dL_law_1225 dL_law_1227 dL_law_1228 dL_law_1229 ?_
  refine sc_arg (k := 2) (kk := 2) (q := 0) hx hb hXs hbl hbA hS (lv_at hl 0 rfl) (lv_at hl 4 rfl) hL (by omega) (by decide) rfl dL_law_1230 dL_law_1231 dL_law_1233 dL_law_1234 dL_law_1235 ?_
  refine sc_arg (k := 3) (kk := 3) (q := 0) hx hb hXs hbl hbA hS (lv_at hl 0 rfl) (lv_at hl 4 rfl) hL (by omega) (by decide) rfl dL_law_1236 dL_law_1237 dL_law_1239 dL_law_1240 dL_law_1241 ?_
  refine sc_arg (k := 4) (kk := 4) (q := 0) hx hb hXs hbl hbA hS (lv_at hl 0 rfl) (lv_at hl 4 rfl) hL (by omega) (by decide) rfl dL_law_1242 dL_law_1243 dL_law_1245 dL_law_1246 dL_law_1247 ?_
  refine sc_arg (k := 5) (kk := 5) (q := 0) hx hb hXs hbl hbA hS (lv_at hl 0 rfl) (lv_at hl 4 rfl) hL (by omega) (by decide) rfl dL_law_1248 dL_law_1249 dL_law_1251 dL_law_1252 dL_law_1253 ?_
  refine kVG (rest := []) (k0 := 0) X hcs dL_law_1254 wd_4_182 mw_X10_apart wd_4_183 wd_4_184 hPX rfl rfl rfl hS hAx (c_X10_apart e1) rfl hl.1 rfl (Nat.le_of_ble_eq_true rfl) rfl rfl ⟨Nat.le_of_ble_eq_true rfl, Nat.le_of_ble_eq_true rfl⟩ (fun H1 locs1 hPX1 z1 k1 hS1 => ?_)
  have hPM1 := hPM.stay k1 (fun q h1 h2 => hxm q h2 h1)
  refine W.eq (g2 := F0 m 1257 ls [.long o.1]) rfl ?_
  refine lv_aload_n hx hb dL_law_1257 rfl (lv_at hl 2 rfl) ?_
  refine sc_arg (k := 1) (kk := 1) (q := 0) hx hb hXs hbl hbA hS1 (lv_at hl 0 rfl) (lv_at hl 4 rfl) hL (by omega) (by decide) rfl dL_law_1258 dL_law_1259 dL_law_1261 dL_law_1262 dL_law_1263 ?_
  refine sc_arg (k := 2) (kk := 2) (q := 0) hx hb hXs hbl hbA hS1 (lv_at hl 0 rfl) (lv_at hl 4 rfl) hL (by omega) (by decide) rfl dL_law_1264 dL_law_1265 dL_law_1267 dL_law_1268 dL_law_1269 ?_
  refine sc_arg (k := 3) (kk := 3) (q := 0) hx hb hXs hbl hbA hS1 (lv_at hl 0 rfl) (lv_at hl 4 rfl) hL (by omega) (by decide) rfl dL_law_1270 dL_law_1271 dL_law_1273 dL_law_1274 dL_law_1275 ?_
  refine sc_arg (k := 4) (kk := 4) (q := 0) hx hb hXs hbl hbA hS1 (lv_at hl 0 rfl) (lv_at hl 4 rfl) hL (by omega) (by decide) rfl dL_law_1276 dL_law_1277 dL_law_1279 dL_law_1280 dL_law_1281 ?_
  refine sc_arg (k := 5) (kk := 5) (q := 0) hx hb hXs hbl hbA hS1 (lv_at hl 0 rfl) (lv_at hl 4 rfl) hL (by omega) (by decide) rfl dL_law_1282 dL_law_1283 dL_law_1285 dL_law_1286 dL_law_1287 ?_
  refine kVG (rest := [.long o.1]) (k0 := 0) X hcs dL_law_1288 wd_7_18 mw_X11_apart wd_7_19 wd_7_20 hPM1 rfl rfl rfl hS1 hAm (c_X11_apart e2) rfl hl.1 rfl (Nat.le_of_ble_eq_true rfl) rfl rfl ⟨Nat.le_of_ble_eq_true rfl, Nat.le_of_ble_eq_true rfl⟩ (fun H2 locs2 hPM2 z2 k2 hS2 => ?_)
  have hPX2 := hPX1.stay k2 hxm
  refine W.eq (g2 := F0 m 1291 ls [.long o2.1, .long o.1]) rfl ?_
  refine W.lcmp hx hb dL_law_1291 ?_
  refine lv_if_eq (tgt := 1535) hx hb dL_law_1292 rfl (fun _ => ?_) (fun h => absurd ((lg_cmp_eq _ _).mpr e3) h)
  exact kk H2 locs2 (LW.mk hPX2 hPM2 R0) (fun q h1 h2 h3 => (k2 q (Nat.lt_of_lt_of_le h1 z1) h3).trans (k1 q h1 h2)) (Nat.le_trans z1 z2) hS2
theorem lc_fewest (X : CX g A p s m args c cL_law nL RL) (hcs : cells ≤ rmL.cells ∧ slots ≤ rmL.slots) (hXs : va_X sc L xs s s.heap) (hbl : sc < s.heap.size) (hbA : ¬ A sc) (hL : L < 2 ^ 31) (hi : i + 6 ≤ L) (hAx : ∀ q, Ax q → A q) (hAm : ∀ q, Am q → A q) (hxm : ∀ q, Ax q → ¬ Am q) (hl : lv_has ls nL [(0, .ref sc), (1, .ref (qx 0)), (2, .ref (qm 0)), (3, .ref qo), (4, .int (nI i))]) (hS : va_S A s.heap H locs) (h : LW g Ax Am qx qm H) (kk : ∀ (H1 : Heap) (locs1 : List Loc), LW g Ax Am qx qm H1 → (∀ q : Nat, q < H.size → ¬ Ax q → ¬ Am q → H1[q]? = H[q]?) → H.size ≤ H1.size → va_S A s.heap H1 locs1 → W p l e rmL s m args below meth c H1 locs1 cells slots Q (F0 m 1535 ls [])) : W p l e rmL s m args below meth c H locs cells slots Q (F0 m 1297 ls []) := by
  obtain ⟨iI, iL, iB, fI, fL, fB, hPX, hPM, R0⟩ := h
  have hx := X.1
  have hb := X.2.1
  obtain ⟨o, o2, e1, e2, e3⟩ := s_fewest R0 (xs (nI i + nI 1).toNatClampNeg) (xs (nI i + nI 2).toNatClampNeg) (iI 31)
  refine lv_aload_n hx hb dL_law_1297 rfl (lv_at hl 1 rfl) ?_
  refine sc_arg (k := 1) (kk := 1) (q := 0) hx hb hXs hbl hbA hS (lv_at hl 0 rfl) (lv_at hl 4 rfl) hL (by omega) (by decide) rfl dL_law_1298 dL_law_1299 dL_law_1301 dL_law_1302 dL_law_1303 ?_
  refine sc_arg (k := 2) (kk := 2) (q := 0) hx hb hXs hbl hbA hS (lv_at hl 0 rfl) (lv_at hl 4 rfl) hL (by omega) (by decide) rfl dL_law_1304 dL_law_1305 dL_law_1307 dL_law_1308 dL_law_1309 ?_
  refine kVG (rest := []) (k0 := 0) X hcs dL_law_1310 wd_4_192 mw_X10_fewest wd_4_193 wd_4_194 hPX rfl rfl rfl hS hAx (c_X10_fewest e1) rfl hl.1 rfl (Nat.le_of_ble_eq_true rfl) rfl rfl ⟨Nat.le_of_ble_eq_true rfl, Nat.le_of_ble_eq_true rfl⟩ (fun H1 locs1 hPX1 z1 k1 hS1 => ?_)
  have hPM1 := hPM.stay k1 (fun q h1 h2 => hxm q h2 h1)
  refine W.eq (g2 := F0 m 1313 ls [.int o]) rfl ?_
  refine lv_aload_n hx hb dL_law_1313 rfl (lv_at hl 2 rfl) ?_
  refine sc_arg (k := 1) (kk := 1) (q := 0) hx hb hXs hbl hbA hS1 (lv_at hl 0 rfl) (lv_at hl 4 rfl) hL (by omega) (by decide) rfl dL_law_1314 dL_law_1315 dL_law_1317 dL_law_1318 dL_law_1319 ?_
  refine sc_arg (k := 2) (kk := 2) (q := 0) hx hb hXs hbl hbA hS1 (lv_at hl 0 rfl) (lv_at hl 4 rfl) hL (by omega) (by decide) rfl dL_law_1320 dL_law_1321 dL_law_1323 dL_law_1324 dL_law_1325 ?_
  refine kVG (rest := [.int o]) (k0 := 0) X hcs dL_law_1326 wd_7_42 mw_X11_fewest wd_7_43 wd_7_44 hPM1 rfl rfl rfl hS1 hAm (c_X11_fewest e2) rfl hl.1 rfl (Nat.le_of_ble_eq_true rfl) rfl rfl ⟨Nat.le_of_ble_eq_true rfl, Nat.le_of_ble_eq_true rfl⟩ (fun H2 locs2 hPM2 z2 k2 hS2 => ?_)
  have hPX2 := hPX1.stay k2 hxm
  refine W.eq (g2 := F0 m 1329 ls [.int o2.1, .int o]) rfl ?_
  refine lv_icmp_eq (tgt := 1535) hx hb dL_law_1329 rfl (fun _ => ?_) (fun h => absurd (by rw [e3]) h)
  exact kk H2 locs2 (LW.mk hPX2 hPM2 R0) (fun q h1 h2 h3 => (k2 q (Nat.lt_of_lt_of_le h1 z1) h3).trans (k1 q h1 h2)) (Nat.le_trans z1 z2) hS2
theorem lc_sweep (X : CX g A p s m args c cL_law nL RL) (hcs : cells ≤ rmL.cells ∧ slots ≤ rmL.slots) (hXs : va_X sc L xs s s.heap) (hbl : sc < s.heap.size) (hbA : ¬ A sc) (hL : L < 2 ^ 31) (hi : i + 6 ≤ L) (hAx : ∀ q, Ax q → A q) (hAm : ∀ q, Am q → A q) (hxm : ∀ q, Ax q → ¬ Am q) (hl : lv_has ls nL [(0, .ref sc), (1, .ref (qx 0)), (2, .ref (qm 0)), (3, .ref qo), (4, .int (nI i))]) (hS : va_S A s.heap H locs) (h : LW g Ax Am qx qm H) (kk : ∀ (H1 : Heap) (locs1 : List Loc), LW g Ax Am qx qm H1 → (∀ q : Nat, q < H.size → ¬ Ax q → ¬ Am q → H1[q]? = H[q]?) → H.size ≤ H1.size → va_S A s.heap H1 locs1 → W p l e rmL s m args below meth c H1 locs1 cells slots Q (F0 m 1535 ls [])) : W p l e rmL s m args below meth c H locs cells slots Q (F0 m 1334 ls []) := by
  obtain ⟨iI, iL, iB, fI, fL, fB, hPX, hPM, R0⟩ := h
  have hx := X.1
  have hb := X.2.1
  obtain ⟨o, o2, e1, e2, e3⟩ := s_sweep R0 (xs (nI i + nI 1).toNatClampNeg) (xs (nI i + nI 2).toNatClampNeg) (xs (nI i + nI 3).toNatClampNeg) (xs (nI i + nI 4).toNatClampNeg) (xs (nI i + nI 5).toNatClampNeg) (iL 3) (iL 4) (iL 5) (iI 13) (iI 14) (iL 6) (iL 7) (iL 11) (iL 12) (iL 13) (iI 20) (iI 21) (iL 14) (iL 15) (iI 31) (iL 16) (iL 17) (iL 18) (iL 19) (iL 20) (iI 40)
  refine lv_aload_n hx hb dL_law_1334 rfl (lv_at hl 1 rfl) ?_
  refine sc_arg (k := 1) (kk := 1) (q := 0) hx hb hXs hbl hbA hS (lv_at hl 0 rfl) (lv_at hl 4 rfl) hL (by omega) (by decide) rfl dL_law_1335 dL_law_1336 dL_law_1338 dL_law_1339 dL_law_1340 ?_
  refine sc_arg (k := 2) (kk := 2) (q := 0) hx hb hXs hbl hbA hS (lv_at hl 0 rfl) (lv_at hl 4 rfl) hL (by omega) (by decide) rfl dL_law_1341 dL_law_1342 dL_law_1344 dL_law_1345 dL_law_1346 ?_
  refine sc_arg (k := 3) (kk := 3) (q := 0) hx hb hXs hbl hbA hS (lv_at hl 0 rfl) (lv_at hl 4 rfl) hL (by omega) (by decide) rfl dL_law_1347 dL_law_1348 dL_law_1350 dL_law_1351 dL_law_1352 ?_
  refine sc_arg (k := 4) (kk := 4) (q := 0) hx hb hXs hbl hbA hS (lv_at hl 0 rfl) (lv_at hl 4 rfl) hL (by omega) (by decide) rfl dL_law_1353 dL_law_1354 dL_law_1356 dL_law_1357 dL_law_1358 ?_
  refine sc_arg (k := 5) (kk := 5) (q := 0) hx hb hXs hbl hbA hS (lv_at hl 0 rfl) (lv_at hl 4 rfl) hL (by omega) (by decide) rfl dL_law_1359 dL_law_1360 dL_law_1362 dL_law_1363 dL_law_1364 ?_
  refine kVG (rest := []) (k0 := 0) X hcs dL_law_1365 wd_4_196 mw_X10_sweep wd_4_197 wd_4_198 hPX rfl rfl rfl hS hAx (c_X10_sweep e1) rfl hl.1 rfl (Nat.le_of_ble_eq_true rfl) rfl rfl ⟨Nat.le_of_ble_eq_true rfl, Nat.le_of_ble_eq_true rfl⟩ (fun H1 locs1 hPX1 z1 k1 hS1 => ?_)
  have hPM1 := hPM.stay k1 (fun q h1 h2 => hxm q h2 h1)
  refine W.eq (g2 := F0 m 1368 ls [.long o.1]) rfl ?_
  refine lv_aload_n hx hb dL_law_1368 rfl (lv_at hl 2 rfl) ?_
  refine sc_arg (k := 1) (kk := 1) (q := 0) hx hb hXs hbl hbA hS1 (lv_at hl 0 rfl) (lv_at hl 4 rfl) hL (by omega) (by decide) rfl dL_law_1369 dL_law_1370 dL_law_1372 dL_law_1373 dL_law_1374 ?_
  refine sc_arg (k := 2) (kk := 2) (q := 0) hx hb hXs hbl hbA hS1 (lv_at hl 0 rfl) (lv_at hl 4 rfl) hL (by omega) (by decide) rfl dL_law_1375 dL_law_1376 dL_law_1378 dL_law_1379 dL_law_1380 ?_
  refine sc_arg (k := 3) (kk := 3) (q := 0) hx hb hXs hbl hbA hS1 (lv_at hl 0 rfl) (lv_at hl 4 rfl) hL (by omega) (by decide) rfl dL_law_1381 dL_law_1382 dL_law_1384 dL_law_1385 dL_law_1386 ?_
  refine sc_arg (k := 4) (kk := 4) (q := 0) hx hb hXs hbl hbA hS1 (lv_at hl 0 rfl) (lv_at hl 4 rfl) hL (by omega) (by decide) rfl dL_law_1387 dL_law_1388 dL_law_1390 dL_law_1391 dL_law_1392 ?_
  refine sc_arg (k := 5) (kk := 5) (q := 0) hx hb hXs hbl hbA hS1 (lv_at hl 0 rfl) (lv_at hl 4 rfl) hL (by omega) (by decide) rfl dL_law_1393 dL_law_1394 dL_law_1396 dL_law_1397 dL_law_1398 ?_
  refine kVG (rest := [.long o.1]) (k0 := 0) X hcs dL_law_1399 wd_7_23 mw_X11_sweep wd_7_24 wd_7_25 hPM1 rfl rfl rfl hS1 hAm (c_X11_sweep e2) rfl hl.1 rfl (Nat.le_of_ble_eq_true rfl) rfl rfl ⟨Nat.le_of_ble_eq_true rfl, Nat.le_of_ble_eq_true rfl⟩ (fun H2 locs2 hPM2 z2 k2 hS2 => ?_)
  have hPX2 := hPX1.stay k2 hxm
  refine W.eq (g2 := F0 m 1402 ls [.long o2.1, .long o.1]) rfl ?_
  refine W.lcmp hx hb dL_law_1402 ?_
  refine lv_if_eq (tgt := 1535) hx hb dL_law_1403 rfl (fun _ => ?_) (fun h => absurd ((lg_cmp_eq _ _).mpr e3) h)
  exact kk H2 locs2 (LW.mk hPX2 hPM2 R0) (fun q h1 h2 h3 => (k2 q (Nat.lt_of_lt_of_le h1 z1) h3).trans (k1 q h1 h2)) (Nat.le_trans z1 z2) hS2
theorem lc_image (X : CX g A p s m args c cL_law nL RL) (hcs : cells ≤ rmL.cells ∧ slots ≤ rmL.slots) (hXs : va_X sc L xs s s.heap) (hbl : sc < s.heap.size) (hbA : ¬ A sc) (hL : L < 2 ^ 31) (hi : i + 6 ≤ L) (hAx : ∀ q, Ax q → A q) (hAm : ∀ q, Am q → A q) (hxm : ∀ q, Ax q → ¬ Am q) (hl : lv_has ls nL [(0, .ref sc), (1, .ref (qx 0)), (2, .ref (qm 0)), (3, .ref qo), (4, .int (nI i))]) (hS : va_S A s.heap H locs) (h : LW g Ax Am qx qm H) (kk : ∀ (H1 : Heap) (locs1 : List Loc), LW g Ax Am qx qm H1 → (∀ q : Nat, q < H.size → ¬ Ax q → ¬ Am q → H1[q]? = H[q]?) → H.size ≤ H1.size → va_S A s.heap H1 locs1 → W p l e rmL s m args below meth c H1 locs1 cells slots Q (F0 m 1535 ls [])) : W p l e rmL s m args below meth c H locs cells slots Q (F0 m 1408 ls []) := by
  obtain ⟨iI, iL, iB, fI, fL, fB, hPX, hPM, R0⟩ := h
  have hx := X.1
  have hb := X.2.1
  obtain ⟨o, o2, e1, e2, e3, R1⟩ := s_image R0  (iI 31)
  refine lv_aload_n hx hb dL_law_1408 rfl (lv_at hl 1 rfl) ?_
  refine kVG (rest := []) (k0 := 0) X hcs dL_law_1409 wd_4_201 mw_X10_image wd_4_202 wd_4_203 hPX rfl rfl rfl hS hAx (c_X10_image e1) rfl hl.1 rfl (Nat.le_of_ble_eq_true rfl) rfl rfl ⟨Nat.le_of_ble_eq_true rfl, Nat.le_of_ble_eq_true rfl⟩ (fun H1 locs1 hPX1 z1 k1 hS1 => ?_)
  have hPM1 := hPM.stay k1 (fun q h1 h2 => hxm q h2 h1)
  refine W.eq (g2 := F0 m 1412 ls [.int o.1]) rfl ?_
  refine lv_aload_n hx hb dL_law_1412 rfl (lv_at hl 2 rfl) ?_
  refine kVG (rest := [.int o.1]) (k0 := 0) X hcs dL_law_1413 wd_7_182 mw_X11_image wd_7_183 wd_7_184 hPM1 rfl rfl rfl hS1 hAm (c_X11_image e2) rfl hl.1 rfl (Nat.le_of_ble_eq_true rfl) rfl rfl ⟨Nat.le_of_ble_eq_true rfl, Nat.le_of_ble_eq_true rfl⟩ (fun H2 locs2 hPM2 z2 k2 hS2 => ?_)
  have hPX2 := hPX1.stay k2 hxm
  refine W.eq (g2 := F0 m 1416 ls [.int o2.1, .int o.1]) rfl ?_
  refine lv_icmp_eq (tgt := 1535) hx hb dL_law_1416 rfl (fun _ => ?_) (fun h => absurd (by rw [e3]) h)
  exact kk H2 locs2 (LW.mk hPX2 hPM2 R1) (fun q h1 h2 h3 => (k2 q (Nat.lt_of_lt_of_le h1 z1) h3).trans (k1 q h1 h2)) (Nat.le_trans z1 z2) hS2
theorem lc_back (X : CX g A p s m args c cL_law nL RL) (hcs : cells ≤ rmL.cells ∧ slots ≤ rmL.slots) (hXs : va_X sc L xs s s.heap) (hbl : sc < s.heap.size) (hbA : ¬ A sc) (hL : L < 2 ^ 31) (hi : i + 6 ≤ L) (hAx : ∀ q, Ax q → A q) (hAm : ∀ q, Am q → A q) (hxm : ∀ q, Ax q → ¬ Am q) (hl : lv_has ls nL [(0, .ref sc), (1, .ref (qx 0)), (2, .ref (qm 0)), (3, .ref qo), (4, .int (nI i))]) (hS : va_S A s.heap H locs) (h : LW g Ax Am qx qm H) (kk : ∀ (H1 : Heap) (locs1 : List Loc), LW g Ax Am qx qm H1 → (∀ q : Nat, q < H.size → ¬ Ax q → ¬ Am q → H1[q]? = H[q]?) → H.size ≤ H1.size → va_S A s.heap H1 locs1 → W p l e rmL s m args below meth c H1 locs1 cells slots Q (F0 m 1535 ls [])) : W p l e rmL s m args below meth c H locs cells slots Q (F0 m 1421 ls []) := by
  obtain ⟨iI, iL, iB, fI, fL, fB, hPX, hPM, R0⟩ := h
  have hx := X.1
  have hb := X.2.1
  obtain ⟨o, o2, e1, e2, e3, R1⟩ := s_back R0  (iI 31)
  refine lv_aload_n hx hb dL_law_1421 rfl (lv_at hl 1 rfl) ?_
  refine kVG (rest := []) (k0 := 0) X hcs dL_law_1422 wd_4_205 mw_X10_back wd_4_206 wd_4_207 hPX rfl rfl rfl hS hAx (c_X10_back e1) rfl hl.1 rfl (Nat.le_of_ble_eq_true rfl) rfl rfl ⟨Nat.le_of_ble_eq_true rfl, Nat.le_of_ble_eq_true rfl⟩ (fun H1 locs1 hPX1 z1 k1 hS1 => ?_)
  have hPM1 := hPM.stay k1 (fun q h1 h2 => hxm q h2 h1)
  refine W.eq (g2 := F0 m 1425 ls [.int o.1]) rfl ?_
  refine lv_aload_n hx hb dL_law_1425 rfl (lv_at hl 2 rfl) ?_
  refine kVG (rest := [.int o.1]) (k0 := 0) X hcs dL_law_1426 wd_7_186 mw_X11_back wd_7_187 wd_7_188 hPM1 rfl rfl rfl hS1 hAm (c_X11_back e2) rfl hl.1 rfl (Nat.le_of_ble_eq_true rfl) rfl rfl ⟨Nat.le_of_ble_eq_true rfl, Nat.le_of_ble_eq_true rfl⟩ (fun H2 locs2 hPM2 z2 k2 hS2 => ?_)
  have hPX2 := hPX1.stay k2 hxm
  refine W.eq (g2 := F0 m 1429 ls [.int o2.1, .int o.1]) rfl ?_
  refine lv_icmp_eq (tgt := 1535) hx hb dL_law_1429 rfl (fun _ => ?_) (fun h => absurd (by rw [e3]) h)
  exact kk H2 locs2 (LW.mk hPX2 hPM2 R1) (fun q h1 h2 h3 => (k2 q (Nat.lt_of_lt_of_le h1 z1) h3).trans (k1 q h1 h2)) (Nat.le_trans z1 z2) hS2
theorem lc_waits (X : CX g A p s m args c cL_law nL RL) (hcs : cells ≤ rmL.cells ∧ slots ≤ rmL.slots) (hXs : va_X sc L xs s s.heap) (hbl : sc < s.heap.size) (hbA : ¬ A sc) (hL : L < 2 ^ 31) (hi : i + 6 ≤ L) (hAx : ∀ q, Ax q → A q) (hAm : ∀ q, Am q → A q) (hxm : ∀ q, Ax q → ¬ Am q) (hl : lv_has ls nL [(0, .ref sc), (1, .ref (qx 0)), (2, .ref (qm 0)), (3, .ref qo), (4, .int (nI i))]) (hS : va_S A s.heap H locs) (h : LW g Ax Am qx qm H) (kk : ∀ (H1 : Heap) (locs1 : List Loc), LW g Ax Am qx qm H1 → (∀ q : Nat, q < H.size → ¬ Ax q → ¬ Am q → H1[q]? = H[q]?) → H.size ≤ H1.size → va_S A s.heap H1 locs1 → W p l e rmL s m args below meth c H1 locs1 cells slots Q (F0 m 1535 ls [])) : W p l e rmL s m args below meth c H locs cells slots Q (F0 m 1434 ls []) := by
  obtain ⟨iI, iL, iB, fI, fL, fB, hPX, hPM, R0⟩ := h
  have hx := X.1
  have hb := X.2.1
  obtain ⟨o, o2, e1, e2, e3⟩ := s_waits R0 (xs (nI i + nI 1).toNatClampNeg) (iI 31)
  refine lv_aload_n hx hb dL_law_1434 rfl (lv_at hl 1 rfl) ?_
  refine sc_arg (k := 1) (kk := 1) (q := 0) hx hb hXs hbl hbA hS (lv_at hl 0 rfl) (lv_at hl 4 rfl) hL (by omega) (by decide) rfl dL_law_1435 dL_law_1436 dL_law_1438 dL_law_1439 dL_law_1440 ?_
  refine kVG (rest := []) (k0 := 0) X hcs dL_law_1441 wd_4_209 mw_X10_waits wd_4_210 wd_4_211 hPX rfl rfl rfl hS hAx (c_X10_waits e1) rfl hl.1 rfl (Nat.le_of_ble_eq_true rfl) rfl rfl ⟨Nat.le_of_ble_eq_true rfl, Nat.le_of_ble_eq_true rfl⟩ (fun H1 locs1 hPX1 z1 k1 hS1 => ?_)
  have hPM1 := hPM.stay k1 (fun q h1 h2 => hxm q h2 h1)
  refine W.eq (g2 := F0 m 1444 ls [.int o]) rfl ?_
  refine lv_aload_n hx hb dL_law_1444 rfl (lv_at hl 2 rfl) ?_
  refine sc_arg (k := 1) (kk := 1) (q := 0) hx hb hXs hbl hbA hS1 (lv_at hl 0 rfl) (lv_at hl 4 rfl) hL (by omega) (by decide) rfl dL_law_1445 dL_law_1446 dL_law_1448 dL_law_1449 dL_law_1450 ?_
  refine kVG (rest := [.int o]) (k0 := 0) X hcs dL_law_1451 wd_7_190 mw_X11_waits wd_7_191 wd_7_192 hPM1 rfl rfl rfl hS1 hAm (c_X11_waits e2) rfl hl.1 rfl (Nat.le_of_ble_eq_true rfl) rfl rfl ⟨Nat.le_of_ble_eq_true rfl, Nat.le_of_ble_eq_true rfl⟩ (fun H2 locs2 hPM2 z2 k2 hS2 => ?_)
  have hPX2 := hPX1.stay k2 hxm
  refine W.eq (g2 := F0 m 1454 ls [.int o2.1, .int o]) rfl ?_
  refine lv_icmp_eq (tgt := 1535) hx hb dL_law_1454 rfl (fun _ => ?_) (fun h => absurd (by rw [e3]) h)
  exact kk H2 locs2 (LW.mk hPX2 hPM2 R0) (fun q h1 h2 h3 => (k2 q (Nat.lt_of_lt_of_le h1 z1) h3).trans (k1 q h1 h2)) (Nat.le_trans z1 z2) hS2
theorem lc_status (X : CX g A p s m args c cL_law nL RL) (hcs : cells ≤ rmL.cells ∧ slots ≤ rmL.slots) (hXs : va_X sc L xs s s.heap) (hbl : sc < s.heap.size) (hbA : ¬ A sc) (hL : L < 2 ^ 31) (hi : i + 6 ≤ L) (hAx : ∀ q, Ax q → A q) (hAm : ∀ q, Am q → A q) (hxm : ∀ q, Ax q → ¬ Am q) (hl : lv_has ls nL [(0, .ref sc), (1, .ref (qx 0)), (2, .ref (qm 0)), (3, .ref qo), (4, .int (nI i))]) (hS : va_S A s.heap H locs) (h : LW g Ax Am qx qm H) (kk : ∀ (H1 : Heap) (locs1 : List Loc), LW g Ax Am qx qm H1 → (∀ q : Nat, q < H.size → ¬ Ax q → ¬ Am q → H1[q]? = H[q]?) → H.size ≤ H1.size → va_S A s.heap H1 locs1 → W p l e rmL s m args below meth c H1 locs1 cells slots Q (F0 m 1535 ls [])) : W p l e rmL s m args below meth c H locs cells slots Q (F0 m 1459 ls []) := by
  obtain ⟨iI, iL, iB, fI, fL, fB, hPX, hPM, R0⟩ := h
  have hx := X.1
  have hb := X.2.1
  obtain ⟨o, o2, e1, e2, e3⟩ := s_status R0 (xs (nI i + nI 1).toNatClampNeg) (iI 31)
  refine lv_aload_n hx hb dL_law_1459 rfl (lv_at hl 1 rfl) ?_
  refine sc_arg (k := 1) (kk := 1) (q := 0) hx hb hXs hbl hbA hS (lv_at hl 0 rfl) (lv_at hl 4 rfl) hL (by omega) (by decide) rfl dL_law_1460 dL_law_1461 dL_law_1463 dL_law_1464 dL_law_1465 ?_
  refine kVG (rest := []) (k0 := 0) X hcs dL_law_1466 wd_4_214 mw_X10_status wd_4_215 wd_4_216 hPX rfl rfl rfl hS hAx (c_X10_status e1) rfl hl.1 rfl (Nat.le_of_ble_eq_true rfl) rfl rfl ⟨Nat.le_of_ble_eq_true rfl, Nat.le_of_ble_eq_true rfl⟩ (fun H1 locs1 hPX1 z1 k1 hS1 => ?_)
  have hPM1 := hPM.stay k1 (fun q h1 h2 => hxm q h2 h1)
  refine W.eq (g2 := F0 m 1469 ls [.int o]) rfl ?_
  refine lv_aload_n hx hb dL_law_1469 rfl (lv_at hl 2 rfl) ?_
  refine sc_arg (k := 1) (kk := 1) (q := 0) hx hb hXs hbl hbA hS1 (lv_at hl 0 rfl) (lv_at hl 4 rfl) hL (by omega) (by decide) rfl dL_law_1470 dL_law_1471 dL_law_1473 dL_law_1474 dL_law_1475 ?_
  refine kVG (rest := [.int o]) (k0 := 0) X hcs dL_law_1476 wd_7_194 mw_X11_status wd_7_195 wd_7_196 hPM1 rfl rfl rfl hS1 hAm (c_X11_status e2) rfl hl.1 rfl (Nat.le_of_ble_eq_true rfl) rfl rfl ⟨Nat.le_of_ble_eq_true rfl, Nat.le_of_ble_eq_true rfl⟩ (fun H2 locs2 hPM2 z2 k2 hS2 => ?_)
  have hPX2 := hPX1.stay k2 hxm
  refine W.eq (g2 := F0 m 1479 ls [.int o2.1, .int o]) rfl ?_
  refine lv_icmp_eq (tgt := 1535) hx hb dL_law_1479 rfl (fun _ => ?_) (fun h => absurd (by rw [e3]) h)
  exact kk H2 locs2 (LW.mk hPX2 hPM2 R0) (fun q h1 h2 h3 => (k2 q (Nat.lt_of_lt_of_le h1 z1) h3).trans (k1 q h1 h2)) (Nat.le_trans z1 z2) hS2
theorem lc_most (X : CX g A p s m args c cL_law nL RL) (hcs : cells ≤ rmL.cells ∧ slots ≤ rmL.slots) (hXs : va_X sc L xs s s.heap) (hbl : sc < s.heap.size) (hbA : ¬ A sc) (hL : L < 2 ^ 31) (hi : i + 6 ≤ L) (hAx : ∀ q, Ax q → A q) (hAm : ∀ q, Am q → A q) (hxm : ∀ q, Ax q → ¬ Am q) (hl : lv_has ls nL [(0, .ref sc), (1, .ref (qx 0)), (2, .ref (qm 0)), (3, .ref qo), (4, .int (nI i))]) (hS : va_S A s.heap H locs) (h : LW g Ax Am qx qm H) (kk : ∀ (H1 : Heap) (locs1 : List Loc), LW g Ax Am qx qm H1 → (∀ q : Nat, q < H.size → ¬ Ax q → ¬ Am q → H1[q]? = H[q]?) → H.size ≤ H1.size → va_S A s.heap H1 locs1 → W p l e rmL s m args below meth c H1 locs1 cells slots Q (F0 m 1535 ls [])) : W p l e rmL s m args below meth c H locs cells slots Q (F0 m 1484 ls []) := by
  obtain ⟨iI, iL, iB, fI, fL, fB, hPX, hPM, R0⟩ := h
  have hx := X.1
  have hb := X.2.1
  obtain ⟨o, o2, e1, e2, e3⟩ := s_most R0 (xs (nI i + nI 1).toNatClampNeg) (iL 3) (iL 4) (iL 5) (iI 13) (iI 14) (iL 6) (iL 7) (iI 31)
  refine lv_aload_n hx hb dL_law_1484 rfl (lv_at hl 1 rfl) ?_
  refine sc_arg (k := 1) (kk := 1) (q := 0) hx hb hXs hbl hbA hS (lv_at hl 0 rfl) (lv_at hl 4 rfl) hL (by omega) (by decide) rfl dL_law_1485 dL_law_1486 dL_law_1488 dL_law_1489 dL_law_1490 ?_
  refine kVG (rest := []) (k0 := 0) X hcs dL_law_1491 wd_4_218 mw_X10_most wd_4_219 wd_4_220 hPX rfl rfl rfl hS hAx (c_X10_most e1) rfl hl.1 rfl (Nat.le_of_ble_eq_true rfl) rfl rfl ⟨Nat.le_of_ble_eq_true rfl, Nat.le_of_ble_eq_true rfl⟩ (fun H1 locs1 hPX1 z1 k1 hS1 => ?_)
  have hPM1 := hPM.stay k1 (fun q h1 h2 => hxm q h2 h1)
  refine W.eq (g2 := F0 m 1494 ls [.long o.1]) rfl ?_
  refine lv_aload_n hx hb dL_law_1494 rfl (lv_at hl 2 rfl) ?_
  refine sc_arg (k := 1) (kk := 1) (q := 0) hx hb hXs hbl hbA hS1 (lv_at hl 0 rfl) (lv_at hl 4 rfl) hL (by omega) (by decide) rfl dL_law_1495 dL_law_1496 dL_law_1498 dL_law_1499 dL_law_1500 ?_
  refine kVG (rest := [.long o.1]) (k0 := 0) X hcs dL_law_1501 wd_7_198 mw_X11_most wd_7_199 wd_7_200 hPM1 rfl rfl rfl hS1 hAm (c_X11_most e2) rfl hl.1 rfl (Nat.le_of_ble_eq_true rfl) rfl rfl ⟨Nat.le_of_ble_eq_true rfl, Nat.le_of_ble_eq_true rfl⟩ (fun H2 locs2 hPM2 z2 k2 hS2 => ?_)
  have hPX2 := hPX1.stay k2 hxm
  refine W.eq (g2 := F0 m 1504 ls [.long o2.1, .long o.1]) rfl ?_
  refine W.lcmp hx hb dL_law_1504 ?_
  refine lv_if_eq (tgt := 1535) hx hb dL_law_1505 rfl (fun _ => ?_) (fun h => absurd ((lg_cmp_eq _ _).mpr e3) h)
  exact kk H2 locs2 (LW.mk hPX2 hPM2 R0) (fun q h1 h2 h3 => (k2 q (Nat.lt_of_lt_of_le h1 z1) h3).trans (k1 q h1 h2)) (Nat.le_trans z1 z2) hS2
theorem lc_count (X : CX g A p s m args c cL_law nL RL) (hcs : cells ≤ rmL.cells ∧ slots ≤ rmL.slots) (hXs : va_X sc L xs s s.heap) (hbl : sc < s.heap.size) (hbA : ¬ A sc) (hL : L < 2 ^ 31) (hi : i + 6 ≤ L) (hAx : ∀ q, Ax q → A q) (hAm : ∀ q, Am q → A q) (hxm : ∀ q, Ax q → ¬ Am q) (hl : lv_has ls nL [(0, .ref sc), (1, .ref (qx 0)), (2, .ref (qm 0)), (3, .ref qo), (4, .int (nI i))]) (hS : va_S A s.heap H locs) (h : LW g Ax Am qx qm H) (kk : ∀ (H1 : Heap) (locs1 : List Loc), LW g Ax Am qx qm H1 → (∀ q : Nat, q < H.size → ¬ Ax q → ¬ Am q → H1[q]? = H[q]?) → H.size ≤ H1.size → va_S A s.heap H1 locs1 → W p l e rmL s m args below meth c H1 locs1 cells slots Q (F0 m 1535 ls [])) : W p l e rmL s m args below meth c H locs cells slots Q (F0 m 1510 ls []) := by
  obtain ⟨iI, iL, iB, fI, fL, fB, hPX, hPM, R0⟩ := h
  have hx := X.1
  have hb := X.2.1
  obtain ⟨o, o2, e1, e2, e3⟩ := s_count R0 (xs (nI i + nI 1).toNatClampNeg) (iI 31)
  refine lv_aload_n hx hb dL_law_1510 rfl (lv_at hl 1 rfl) ?_
  refine sc_arg (k := 1) (kk := 1) (q := 0) hx hb hXs hbl hbA hS (lv_at hl 0 rfl) (lv_at hl 4 rfl) hL (by omega) (by decide) rfl dL_law_1511 dL_law_1512 dL_law_1514 dL_law_1515 dL_law_1516 ?_
  refine kVG (rest := []) (k0 := 0) X hcs dL_law_1517 wd_5_0 mw_X10_count wd_5_1 wd_5_2 hPX rfl rfl rfl hS hAx (c_X10_count e1) rfl hl.1 rfl (Nat.le_of_ble_eq_true rfl) rfl rfl ⟨Nat.le_of_ble_eq_true rfl, Nat.le_of_ble_eq_true rfl⟩ (fun H1 locs1 hPX1 z1 k1 hS1 => ?_)
  have hPM1 := hPM.stay k1 (fun q h1 h2 => hxm q h2 h1)
  refine W.eq (g2 := F0 m 1520 ls [.int o]) rfl ?_
  refine lv_aload_n hx hb dL_law_1520 rfl (lv_at hl 2 rfl) ?_
  refine sc_arg (k := 1) (kk := 1) (q := 0) hx hb hXs hbl hbA hS1 (lv_at hl 0 rfl) (lv_at hl 4 rfl) hL (by omega) (by decide) rfl dL_law_1521 dL_law_1522 dL_law_1524 dL_law_1525 dL_law_1526 ?_
  refine kVG (rest := [.int o]) (k0 := 0) X hcs dL_law_1527 wd_7_203 mw_X11_count wd_7_204 wd_7_205 hPM1 rfl rfl rfl hS1 hAm (c_X11_count e2) rfl hl.1 rfl (Nat.le_of_ble_eq_true rfl) rfl rfl ⟨Nat.le_of_ble_eq_true rfl, Nat.le_of_ble_eq_true rfl⟩ (fun H2 locs2 hPM2 z2 k2 hS2 => ?_)
  have hPX2 := hPX1.stay k2 hxm
  refine W.eq (g2 := F0 m 1530 ls [.int o2.1, .int o]) rfl ?_
  refine lv_icmp_eq (tgt := 1535) hx hb dL_law_1530 rfl (fun _ => ?_) (fun h => absurd (by rw [e3]) h)
  exact kk H2 locs2 (LW.mk hPX2 hPM2 R0) (fun q h1 h2 h3 => (k2 q (Nat.lt_of_lt_of_le h1 z1) h3).trans (k1 q h1 h2)) (Nat.le_trans z1 z2) hS2
end LawCases
