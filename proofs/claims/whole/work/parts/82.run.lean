/-! ===== the law from its first instruction ===== -/
theorem split3 {g : gT} {A : Nat → Prop} {H : Heap} {w1 w2 w3 : va_W} (hP : WP g A ((w1 ++ w2) ++ w3) H) : ∃ A1 A2 A3 : Nat → Prop, WP g A1 w1 H ∧ WP g A2 w2 H ∧ WP g A3 w3 H ∧ (∀ q, A1 q → A q) ∧ (∀ q, A2 q → A q) ∧ (∀ q, A3 q → A q) ∧ (∀ q, A1 q → ¬ A2 q) ∧ (∀ q, A1 q → ¬ A3 q) ∧ (∀ q, A2 q → ¬ A3 q) := by
  have h1 := pre1 hP
  have h2 := suf hP
  have h3 := pre1 h1.1
  have h4 := suf h1.1
  exact ⟨_, _, _, h3.1, h4.1, h2.1, fun q h => h1.2.1 q (h3.2.1 q h), fun q h => h1.2.1 q (h4.2 q h), h2.2, h3.2.2, fun q h => h1.2.2 q (h3.2.1 q h), fun q h => h1.2.2 q (h4.2 q h)⟩
theorem nil_WP {g : gT} {A : Nat → Prop} {H : Heap} : WP g A [] H := ⟨fun k q h => by simp at h, fun i j p q h => by simp at h, fun k q h => by simp at h⟩
section LawRun
variable {p : Program} {l : Launch} {e : Env} {s : State} {m : MethodId} {args : Array Value} {below : List Frame} {meth : Method} {c : Code} {Q : State → Prop} {g : gT} {A : Nat → Prop} {sc L : Nat} {xs : Nat → Int32} {ls : Array Slot}
set_option maxRecDepth 100000 in
set_option maxHeartbeats 4000000 in
theorem law_run (X : CX g A p s m args c cL_law 7 RL) (hA : ∀ q, s.heap.size ≤ q → A q) (hl0 : l.stackTraces = false) (hST : ST g s s.heap) (hXs : va_X sc L xs s s.heap) (hbl : sc < s.heap.size) (hbA : ¬ A sc) (hL : L ≤ 3072) (hl : lv_has ls 7 [(0, .ref sc)])
    (hret : ∀ (ls : Array Slot) (H : Heap) (locs : List Loc), va_S A s.heap H locs → W p l e rmL s m args below meth c H locs 1104 29476 Q (F0 m 1541 ls [])) : W p l e rmL s m args below meth c s.heap [] 0 0 Q (F0 m 0 ls []) := by
  have hx := X.1
  have hb := X.2.1
  obtain ⟨ob, os, om, e1, e2, e3, R0⟩ := s_init (fun _ => 0) 0 0 0 0 0 false 0 0 0 (fun _ => 0) (fun _ => 0) (fun _ => 0) (fun _ => 0) (fun _ => 0) (fun _ => 0) (fun _ => 0) (fun _ => 0) (fun _ => 0) (fun _ => 0) (fun _ => 0) (fun _ => 0) (fun _ => 0) 0 0 0 false (fun _ => 0) (fun _ => 0) (fun _ => 0) (fun _ => 0) (fun _ => 0) (fun _ => 0) (fun _ => 0) (fun _ => 0) 0 0 0 false (fun _ => 0) (fun _ => 0) (fun _ => 0) (fun _ => 0) (fun _ => 0) (fun _ => 0) (fun _ => 0) 0 0 0 0 0 false 0 0 0 (fun _ => 0) (fun _ => 0) (fun _ => 0) (fun _ => 0) (fun _ => 0) (fun _ => 0) (fun _ => 0) (fun _ => 0) (fun _ => 0) (fun _ => 0) (fun _ => 0) (fun _ => 0) (fun _ => false) (fun _ => 0) (fun _ => 0) (fun _ => 0) (fun _ => 0) (fun _ => 0)
  refine newC (C := RX10) (T := TX10) (N := 12) (ci := 7) (ty := tyX10) (fs := [.null, .null, .null, .null, .null, .null, .null, .null, .null, .null, .int 0, .int 0]) X hA nil_WP va_S.rf lay_X10 tyX10_ok (tg_1 (List.mem_of_getElem? (i := 24) rfl) rfl) (tg_1 (List.mem_of_getElem? (i := 25) rfl) rfl) wd_1_1 rfl (by decide +kernel) (Nat.le_of_ble_eq_true rfl) (Nat.le_of_ble_eq_true rfl) dL_law_0 (fun q0 H hP hS => ?_)
  refine lv_dup hx hb dL_law_3 rfl ?_
  refine ctI (rest := [.ref q0]) X hA dL_law_4 wd_1_26 mw_X10_init wd_1_27 rfl hP hS (c_X10_init e1) rfl hl.1 rfl (Nat.le_of_ble_eq_true rfl) rfl rfl ⟨(Nat.le_of_ble_eq_true rfl), (Nat.le_of_ble_eq_true rfl)⟩ ⟨(Nat.le_of_ble_eq_true rfl), (Nat.le_of_ble_eq_true rfl)⟩ (fun r4 H locs hP hS => ?_)
  have hP : WP g A (wX g (hq q0 r4) false false 0 (fun _ => 0) 0 0 0 0 false false 0 0 0 (fun _ => 0) (fun _ => 0) (fun _ => 0) 0 0 0 0 0 false 0 0 0 (fun _ => 0) (fun _ => 0) (fun _ => 0) (fun _ => 0) (fun _ => 0) 0 0 0 0 0 0 0 (ob.1) (ob.2.1) (ob.2.2.1) (ob.2.2.2.1) (ob.2.2.2.2.1) (ob.2.2.2.2.2.1) (ob.2.2.2.2.2.2.1) (ob.2.2.2.2.2.2.2.1) (ob.2.2.2.2.2.2.2.2.1) (ob.2.2.2.2.2.2.2.2.2.1) (ob.2.2.2.2.2.2.2.2.2.2.1) (ob.2.2.2.2.2.2.2.2.2.2.2.1) (ob.2.2.2.2.2.2.2.2.2.2.2.2.1) (ob.2.2.2.2.2.2.2.2.2.2.2.2.2) 0 0 0 0 0 0 0 0 0 0 false (fun _ => 0) (fun _ => 0) (fun _ => 0) (fun _ => 0) (fun _ => 0) (fun _ => 0) (fun _ => 0) (fun _ => 0) 0 0 0 false (fun _ => 0) (fun _ => 0) (fun _ => 0) (fun _ => 0) (fun _ => 0) (fun _ => 0) (fun _ => 0) (fun _ => 0) 0 0 0 false (fun _ => 0) (fun _ => 0) (fun _ => 0) (fun _ => 0) (fun _ => 0) (fun _ => 0) (fun _ => 0) (fun _ => 0) (fun _ => 0)) H := hP
  refine W.eq (g2 := F0 m 7 ls [.ref q0]) rfl ?_
  refine W.widen (k := 52) (n := 3586) (Nat.le_of_ble_eq_true rfl) (Nat.le_of_ble_eq_true rfl) ?_
  refine lv_astore_n (lv' := [(1, .ref q0), (0, .ref sc)]) hx hb dL_law_7 rfl hl (by decide) rfl (fun ls hl => ?_)
  refine newC (C := RX11) (T := TX11) (N := 47) (ci := 8) (ty := tyX11) (fs := [.int 0, .null, .int 0, .int 0, .int 0, .null, .int 0, .null, .int 0, .int 0, .null, .null, .null, .null, .null, .null, .null, .null, .null, .null, .null, .null, .int 0, .int 0, .int 0, .int 0, .null, .long 0, .long 0, .long 0, .long 0, .long 0, .int 0, .null, .null, .null, .null, .null, .null, .int 0, .null, .null, .null, .int 0, .int 0, .int 0, .int 0]) X hA hP hS lay_X11 tyX11_ok (tg_5 (List.mem_of_getElem? (i := 188) rfl) rfl) (tg_5 (List.mem_of_getElem? (i := 96) rfl) rfl) wd_1_9 rfl (by decide +kernel) (Nat.le_of_ble_eq_true rfl) (Nat.le_of_ble_eq_true rfl) dL_law_8 (fun q8 H hP hS => ?_)
  refine lv_dup hx hb dL_law_11 rfl ?_
  refine ctI (rest := [.ref q8]) X hA dL_law_12 wd_5_189 mw_X11_init wd_5_190 rfl hP hS (c_X11_init e2 e3) rfl hl.1 rfl (Nat.le_of_ble_eq_true rfl) rfl rfl ⟨(Nat.le_of_ble_eq_true rfl), (Nat.le_of_ble_eq_true rfl)⟩ ⟨(Nat.le_of_ble_eq_true rfl), (Nat.le_of_ble_eq_true rfl)⟩ (fun r12 H locs hP hS => ?_)
  have hP : WP g A ((wX g (hq q0 r4) false false 0 (fun _ => 0) 0 0 0 0 false false 0 0 0 (fun _ => 0) (fun _ => 0) (fun _ => 0) 0 0 0 0 0 false 0 0 0 (fun _ => 0) (fun _ => 0) (fun _ => 0) (fun _ => 0) (fun _ => 0) 0 0 0 0 0 0 0 (ob.1) (ob.2.1) (ob.2.2.1) (ob.2.2.2.1) (ob.2.2.2.2.1) (ob.2.2.2.2.2.1) (ob.2.2.2.2.2.2.1) (ob.2.2.2.2.2.2.2.1) (ob.2.2.2.2.2.2.2.2.1) (ob.2.2.2.2.2.2.2.2.2.1) (ob.2.2.2.2.2.2.2.2.2.2.1) (ob.2.2.2.2.2.2.2.2.2.2.2.1) (ob.2.2.2.2.2.2.2.2.2.2.2.2.1) (ob.2.2.2.2.2.2.2.2.2.2.2.2.2) 0 0 0 0 0 0 0 0 0 0 false (fun _ => 0) (fun _ => 0) (fun _ => 0) (fun _ => 0) (fun _ => 0) (fun _ => 0) (fun _ => 0) (fun _ => 0) 0 0 0 false (fun _ => 0) (fun _ => 0) (fun _ => 0) (fun _ => 0) (fun _ => 0) (fun _ => 0) (fun _ => 0) (fun _ => 0) 0 0 0 false (fun _ => 0) (fun _ => 0) (fun _ => 0) (fun _ => 0) (fun _ => 0) (fun _ => 0) (fun _ => 0) (fun _ => 0) (fun _ => 0)) ++ (wM g (hq q8 r12) 0 0 0 0 0 0 0 false 0 0 false 0 0 0 0 0 0 0 0 0 false false (fun _ => 0) (fun _ => 0) (fun _ => 0) (om.1) (om.2.1) (om.2.2.1) (om.2.2.2.1) (om.2.2.2.2.1) (om.2.2.2.2.2.1) (om.2.2.2.2.2.2.1) (om.2.2.2.2.2.2.2.1) (om.2.2.2.2.2.2.2.2.1) (om.2.2.2.2.2.2.2.2.2.1) os (om.2.2.2.2.2.2.2.2.2.2) (fun _ => 0) (fun _ => 0) (fun _ => 0) (fun _ => 0) (fun _ => 0) (fun _ => 0) (fun _ => 0) (fun _ => 0) (fun _ => 0) (fun _ => 0))) H := hP
  refine W.eq (g2 := F0 m 15 ls [.ref q8]) rfl ?_
  refine W.widen (k := 78) (n := 21277) (Nat.le_of_ble_eq_true rfl) (Nat.le_of_ble_eq_true rfl) ?_
  refine lv_astore_n (lv' := [(2, .ref q8), (1, .ref q0), (0, .ref sc)]) hx hb dL_law_15 rfl hl (by decide) rfl (fun ls hl => ?_)
  refine lv_iconst (v := 1) hx hb dL_law_16 rfl ?_
  refine na_L (N := 1) X hA hP hS (by decide +kernel) (by decide +kernel) (Nat.le_of_ble_eq_true rfl) (Nat.le_of_ble_eq_true rfl) (Nat.le_of_ble_eq_true rfl) dL_law_17 (fun qo H hP hS => ?_)
  refine lv_astore_n (lv' := [(3, .ref qo), (2, .ref q8), (1, .ref q0), (0, .ref sc)]) hx hb dL_law_19 rfl hl (by decide) rfl (fun ls hl => ?_)
  refine lv_iconst (v := 0) hx hb dL_law_20 rfl ?_
  refine lv_istore (lv' := [(4, .int (nI 0)), (3, .ref qo), (2, .ref q8), (1, .ref q0), (0, .ref sc)]) hx hb dL_law_21 hl (by decide) rfl (fun ls hl => ?_)
  have hl : lv_has ls 7 [(0, .ref sc), (1, .ref (hq q0 r4 0)), (2, .ref (hq q8 r12 0)), (3, .ref qo), (4, .int (nI 0))] := lv_sub hl [4, 3, 2, 1, 0] rfl
  obtain ⟨Ax, Am, Ao, hX1, hM1, hO1, hAx, hAm, hAo, hxm, hxo, hmo⟩ := split3 hP
  have hLW : LW g Ax Am (hq q0 r4) (hq q8 r12) H := LW.mk hX1 hM1 R0
  refine W.widen (k := 79 + 0 / 6) (n := 21278 + 6 * (0 / 6)) (Nat.le_of_ble_eq_true rfl) (Nat.le_of_ble_eq_true rfl) ?_
  refine law_loop (cf := fun i => 79 + i / 6) (sf := fun i => 21278 + 6 * (i / 6)) X (by decide) (fun i => ⟨?_, ?_⟩) (fun i hi => ⟨?_, ?_⟩) hXs hbl hbA (by omega) hAx hAm hxm (fun H => ∃ f, WP g Ao (oW g qo f) H) ?_ ?_ ?_ (L + 1) 0 ls H locs (by omega) (by omega) hl hS hLW ⟨_, hO1⟩
  · show 79 + i / 6 ≤ 79 + (i + 6) / 6
    omega
  · show 21278 + 6 * (i / 6) ≤ 21278 + 6 * ((i + 6) / 6)
    omega
  · show 79 + i / 6 ≤ 1104
    omega
  · show 21278 + 6 * (i / 6) ≤ 29476
    omega
  · intro H H1 ⟨f, h⟩ hz hk
    exact ⟨f, h.stay (A1 := fun q => Ax q ∨ Am q) (fun q h1 h2 => hk q h1 (fun z => h2 (Or.inl z)) (fun z => h2 (Or.inr z))) (fun q h1 h2 => h2.elim (fun z => hxo q z h1) (fun z => hmo q z h1))⟩
  · intro i ls H locs hi hl hS h ho kk
    refine lc_told X (by decide) hl0 hST ⟨?_, ?_⟩ hXs hbl hbA (by omega) hi hAx hAm hAo hxm hxo hmo hl hS h ho (fun ls1 H1 locs1 hl1 g1 g2 g3 => ?_)
    · show 79 + i / 6 + 1 ≤ 1104
      omega
    · show 21278 + 6 * (i / 6) + 6 ≤ 29476
      omega
    · refine W.widen ?_ ?_ (kk ls1 H1 locs1 hl1 g1 g2 g3)
      · show 79 + i / 6 + 1 ≤ 79 + (i + 6) / 6
        omega
      · show 21278 + 6 * (i / 6) + 6 ≤ 21278 + 6 * ((i + 6) / 6)
        omega
  · intro i ls H locs hi hS
    refine W.widen ?_ ?_ (hret ls H locs hS)
    · show 79 + i / 6 ≤ 1104
      omega
    · show 21278 + 6 * (i / 6) ≤ 29476
      omega
end LawRun
